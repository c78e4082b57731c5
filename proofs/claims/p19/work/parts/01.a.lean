noncomputable def lw_okq (q : MethodName × Nat) : Prop := (q.1.cls ≠ "java/lang/invoke/MethodHandle" ∧ q.1.cls ≠ "java/lang/invoke/VarHandle") ∧ Cond.instantiable q.1.cls q.2 ∈ tables_1 ∧ Cond.privateMethod q.1 ∈ tables_1 ∧ Cond.instanceMethod q.1 ∈ tables_1
noncomputable def lw_privs_1 : List (MethodName × Nat) := [(⟨"NailGold$BookReader", "readsLine", "(LNailGold$Book;LNailGold$Court;)Z"⟩, 1), (⟨"NailGold$BookReader", "readsStep", "(LNailGold$Book;)Z"⟩, 1), (⟨"NailGold$BookReader", "numberBehind", "(Ljava/lang/String;II)I"⟩, 1), (⟨"NailGold$BookReader", "readsMan", "(LNailGold$Court;)Z"⟩, 1), (⟨"NailGold$BookReader", "tricksBehind", "(Ljava/lang/String;)I"⟩, 1), (⟨"NailGold$BookReader", "readsTest", "(LNailGold$Book;)Z"⟩, 1), (⟨"NailGold$BookReader", "readsRival", "(LNailGold$Court;)Z"⟩, 1), (⟨"NailGold$BookReader", "readsChest", "(LNailGold$Court;)Z"⟩, 1), (⟨"NailGold$BookReader", "readsRule", "(LNailGold$Book;)Z"⟩, 1), (⟨"java/lang/Throwable", "fillInStackTrace", "(I)Ljava/lang/Throwable;"⟩, 6), (⟨"NailGold$LawReader", "readsLine", "()Z"⟩, 3), (⟨"NailGold$LawReader", "readsChoice", "(I)Z"⟩, 3), (⟨"NailGold$LawReader", "readsAll", "(I)Z"⟩, 3), (⟨"NailGold$LawReader", "readsAtom", "(I)Z"⟩, 3), (⟨"NailGold$LawReader", "emit", "(I)Z"⟩, 3), (⟨"NailGold$LawReader", "readsSum", "()Z"⟩, 3)]
noncomputable def lw_privs_2 : List (MethodName × Nat) := [(⟨"NailGold$LawReader", "readsPart", "()Z"⟩, 3), (⟨"NailGold$LawReader", "namedFact", "()I"⟩, 3), (⟨"NailGold", "needStep", "(I)V"⟩, 17), (⟨"NailGold", "needMan", "(I)V"⟩, 17), (⟨"NailGold$Judge", "pop", "()I"⟩, 3), (⟨"NailGold$Judge", "combine", "(I)V"⟩, 3), (⟨"NailGold$Judge", "push", "(I)V"⟩, 3), (⟨"NailGold$Judge", "factAt", "(I)I"⟩, 3), (⟨"NailGold", "needTest", "(I)V"⟩, 17), (⟨"NailGold", "needRival", "(I)V"⟩, 17), (⟨"NailGold", "needKept", "(I)V"⟩, 17), (⟨"NailGold", "remember", "()V"⟩, 17), (⟨"NailGold", "needWithin", "(III)V"⟩, 17), (⟨"NailGold$Court", "passDayOf", "(ILNailGold$Book;LNailGold$Judge;)V"⟩, 10), (⟨"NailGold", "draftDays", "(III)V"⟩, 17), (⟨"NailGold$NailPlan", "keptFrom", "(III)I"⟩, 11)]
noncomputable def lw_privs_3 : List (MethodName × Nat) := [(⟨"NailGold$NailPlan", "keptIfPassed", "(III)I"⟩, 11), (⟨"NailGold$NailPlan", "trustBehind", "(III)I"⟩, 11), (⟨"NailGold$NailPlan", "proven", "(I)I"⟩, 11), (⟨"NailGold", "takeFittingSets", "()J"⟩, 17), (⟨"NailGold", "isTale", "(I)Z"⟩, 17), (⟨"NailGold", "fitsTale", "(II)Z"⟩, 17), (⟨"NailGold", "caughtAmong", "(JI)I"⟩, 17), (⟨"NailGold", "princePays", "(IIIZ)I"⟩, 17), (⟨"NailGold", "waysOf", "(II)J"⟩, 17), (⟨"NailGold$Market", "given", "(III)I"⟩, 2), (⟨"NailGoldModel", "putsAside", "()V"⟩, 25), (⟨"NailGoldModel", "begins", "()V"⟩, 25), (⟨"NailGoldModel", "read", "(Z)I"⟩, 25), (⟨"NailGoldModel", "skip", "()V"⟩, 25), (⟨"NailGoldModel", "letter", "(I)I"⟩, 25), (⟨"NailGoldModel", "wrong", "(I)V"⟩, 25)]
noncomputable def lw_privs_4 : List (MethodName × Nat) := [(⟨"NailGoldModel", "lawLine", "()V"⟩, 25), (⟨"NailGoldModel", "has", "(Ljava/lang/String;)Z"⟩, 25), (⟨"NailGoldModel", "figures", "(II)I"⟩, 25), (⟨"NailGoldModel", "place", "()I"⟩, 25), (⟨"NailGoldModel", "some", "()Z"⟩, 25), (⟨"NailGoldModel", "every", "()Z"⟩, 25), (⟨"NailGoldModel", "atom", "()Z"⟩, 25), (⟨"NailGoldModel", "isSign", "(I)Z"⟩, 25), (⟨"NailGoldModel", "plain", "()Z"⟩, 25), (⟨"NailGoldModel", "sum", "()I"⟩, 25), (⟨"NailGoldModel", "part", "()I"⟩, 25), (⟨"NailGoldModel", "bookLine", "()V"⟩, 25), (⟨"NailGoldModel", "stepLine", "(I)V"⟩, 25), (⟨"NailGoldModel", "after", "(Ljava/lang/String;II)I"⟩, 25), (⟨"NailGoldModel", "manLine", "(I)V"⟩, 25), (⟨"NailGoldModel", "lettersAfter", "(Ljava/lang/String;)I"⟩, 25)]
noncomputable def lw_privs_5 : List (MethodName × Nat) := [(⟨"NailGoldModel", "put", "(III)V"⟩, 25), (⟨"NailGoldModel", "testLine", "(I)V"⟩, 25), (⟨"NailGoldModel", "rivalLine", "(I)V"⟩, 25), (⟨"NailGoldModel", "tells", "(II)V"⟩, 25), (⟨"NailGoldModel", "comesBack", "()V"⟩, 25), (⟨"NailGoldModel", "isStep", "(I)Z"⟩, 25), (⟨"NailGoldModel", "ofStep", "(II)I"⟩, 25), (⟨"NailGoldModel", "ofRival", "(II)I"⟩, 25), (⟨"NailGoldModel", "isMan", "(I)Z"⟩, 25), (⟨"NailGoldModel", "of", "(II)I"⟩, 25), (⟨"NailGoldModel", "turnsNow", "(I)I"⟩, 25), (⟨"NailGoldModel", "turnsBy", "(IIIIIII)I"⟩, 25), (⟨"NailGoldModel", "outlay", "(I)I"⟩, 25), (⟨"NailGoldModel", "left", "(II)I"⟩, 25), (⟨"NailGoldModel", "isTest", "(I)Z"⟩, 25), (⟨"NailGoldModel", "stopsOf", "(I)I"⟩, 25)]
noncomputable def lw_privs_6 : List (MethodName × Nat) := [(⟨"NailGoldModel", "costOf", "(I)I"⟩, 25), (⟨"NailGoldModel", "isRival", "(I)Z"⟩, 25), (⟨"NailGoldModel", "isKept", "(I)Z"⟩, 25), (⟨"NailGoldModel", "remembers", "()V"⟩, 25), (⟨"NailGoldModel", "logs", "(II)V"⟩, 25), (⟨"NailGoldModel", "pays", "(I)V"⟩, 25), (⟨"NailGoldModel", "catches", "(II)Z"⟩, 25), (⟨"NailGoldModel", "goes", "(IZ)I"⟩, 25), (⟨"NailGoldModel", "works", "(I)V"⟩, 25), (⟨"NailGoldModel", "draw", "(I)I"⟩, 25), (⟨"NailGoldModel", "by", "(IZ)I"⟩, 25), (⟨"NailGoldModel", "looks", "(I)V"⟩, 25), (⟨"NailGoldModel", "from", "(IIII)I"⟩, 25), (⟨"NailGoldModel", "using", "(IIIII)I"⟩, 25), (⟨"NailGoldModel", "behind", "(IIII)I"⟩, 25), (⟨"NailGoldModel", "stopped", "(I)I"⟩, 25)]
noncomputable def lw_privs_7 : List (MethodName × Nat) := [(⟨"NailGoldModel", "bestSet", "(IZ)I"⟩, 25), (⟨"NailGoldModel", "costs", "(I)I"⟩, 25), (⟨"NailGoldModel", "told", "()I"⟩, 25), (⟨"NailGoldModel", "princePays", "(IIII)I"⟩, 25), (⟨"NailGoldModel", "manHas", "(IIII)I"⟩, 25), (⟨"NailGoldModel", "gives", "(III)I"⟩, 25), (⟨"NailGoldModel", "keptOnes", "(I)I"⟩, 25), (⟨"NailGoldModel", "logged", "(II)I"⟩, 25)]
noncomputable def lw_privs : List (MethodName × Nat) := lw_privs_1 ++ (lw_privs_2 ++ (lw_privs_3 ++ (lw_privs_4 ++ (lw_privs_5 ++ (lw_privs_6 ++ (lw_privs_7))))))
noncomputable def lw_tbl : List Cond := k2_sels lw_privs ++ tables_1
noncomputable def lw_js : List (Nat × Nat × Nat) := [(82, 541, 542), (82, 598, 599), (82, 604, 605), (82, 624, 625), (82, 631, 632), (82, 644, 645), (82, 654, 655), (82, 663, 664), (82, 667, 668), (722, 720, 721), (92, 810, 811), (92, 821, 822), (92, 825, 826), (92, 829, 830), (92, 835, 836), (92, 842, 843), (92, 846, 847), (92, 850, 851), (32, 872, 873), (32, 919, 920), (66, 940, 941), (66, 944, 945), (66, 948, 949), (66, 952, 953), (32, 975, 976), (32, 987, 988), (32, 1000, 1001), (32, 1021, 1022), (32, 1067, 1068), (180, 1098, 1099), (32, 1118, 1119), (304, 1172, 1173), (304, 1177, 1178), (304, 1181, 1182), (304, 1189, 1190), (32, 1248, 1249), (32, 1252, 1253), (32, 1257, 1258), (32, 1274, 1275), (32, 1285, 1286), (32, 1300, 1301), (347, 1319, 1320), (1376, 1478, 1479), (1376, 1482, 1483), (1376, 1486, 1487), (1376, 1490, 1491), (1376, 1494, 1495), (1376, 1498, 1499), (1376, 1502, 1503), (1376, 1507, 1508), (1376, 1514, 1515), (1376, 1518, 1519), (1376, 1523, 1524), (1376, 1527, 1528), (1376, 1531, 1532), (1376, 1536, 1537), (1376, 1540, 1541), (1376, 1546, 1547), (1376, 1550, 1551), (1376, 1563, 1564), (1376, 1568, 1569), (1376, 1573, 1574), (1376, 1579, 1580), (1376, 1584, 1585), (1376, 1591, 1592), (1376, 1596, 1597), (1376, 1602, 1603), (1376, 1607, 1608), (1376, 1614, 1615), (1376, 1630, 1631), (1376, 1634, 1635), (1376, 1638, 1639), (1376, 1646, 1647), (1376, 1650, 1651), (1376, 1654, 1655), (1376, 1658, 1659), (1376, 1662, 1663), (1376, 1666, 1667), (1376, 1674, 1675), (1376, 1678, 1679), (1376, 1682, 1683), (1376, 1690, 1691), (1376, 1698, 1699), (1376, 1702, 1703), (1376, 1709, 1710), (1376, 1717, 1718), (1376, 1721, 1722), (1376, 1745, 1746), (1376, 1749, 1750), (1376, 1756, 1757), (1376, 1777, 1778), (1376, 1789, 1790), (1376, 1793, 1794), (1376, 1797, 1798), (1376, 1801, 1802), (1376, 1813, 1814), (1376, 1821, 1822), (1376, 1828, 1829), (1376, 1844, 1845), (1376, 1857, 1858), (1376, 1861, 1862), (1376, 1879, 1880), (1376, 1883, 1884), (1376, 1919, 1920)]
noncomputable def lw_tch : Nat → List Cond → List (List Cond)
  | 0, _ => []
  | n + 1, l => l.take 32 :: lw_tch n (l.drop 32)
theorem lw_tch_in : ∀ (n : Nat) (l r : List Cond), r ∈ lw_tch n l → ∀ w ∈ r, w ∈ l
  | 0, _, _, h, _, _ => by cases h
  | n + 1, l, r, h, w, hw => by
    rcases List.mem_cons.mp h with rfl | h
    · exact List.mem_of_mem_take hw
    · exact List.mem_of_mem_drop (lw_tch_in n (l.drop 32) r h w hw)
noncomputable def lw_tcl : List (List Cond) := lw_tch 80 tables_1
noncomputable def lw_at (j : Nat) (w : Cond) : Bool := match lw_tcl[j / 32]? with
  | some r => decide (r[j % 32]? = some w)
  | none => false
theorem lw_at_in {j : Nat} {w : Cond} (h : lw_at j w = true) : w ∈ tables_1 := by
  unfold lw_at at h
  split at h
  · rename_i r hr
    exact lw_tch_in _ _ r (List.mem_of_getElem? hr) w (List.mem_of_getElem? (of_decide_eq_true h))
  · cases h
noncomputable def lw_ck (q : MethodName × Nat) (j : Nat × Nat × Nat) : Bool := (decide (q.1.cls ≠ "java/lang/invoke/MethodHandle") && decide (q.1.cls ≠ "java/lang/invoke/VarHandle")) && (lw_at j.1 (.instantiable q.1.cls q.2) && (lw_at j.2.1 (.privateMethod q.1) && lw_at j.2.2 (.instanceMethod q.1)))
noncomputable def lw_cks : List (MethodName × Nat) → List (Nat × Nat × Nat) → Bool
  | [], _ => true
  | q :: t, js => match js with
    | [] => false
    | j :: s => lw_ck q j && lw_cks t s
theorem lw_cks_ok : ∀ (l : List (MethodName × Nat)) (js : List (Nat × Nat × Nat)), lw_cks l js = true → ∀ q ∈ l, lw_okq q
  | [], _, _, q, hq => by cases hq
  | x :: t, js, h, q, hq => by
    cases js with
    | nil => cases h
    | cons j s =>
      have h1 : (lw_ck x j && lw_cks t s) = true := h
      rw [Bool.and_eq_true] at h1
      rcases List.mem_cons.mp hq with rfl | hq
      · have h2 := h1.1
        unfold lw_ck at h2
        simp only [Bool.and_eq_true] at h2
        exact ⟨⟨of_decide_eq_true h2.1.1, of_decide_eq_true h2.1.2⟩, lw_at_in h2.2.1, lw_at_in h2.2.2.1, lw_at_in h2.2.2.2⟩
      · exact lw_cks_ok t s h1.2 q hq
theorem lw_cka : lw_cks lw_privs lw_js = true := by decide +kernel
theorem lw_privs_ok : ∀ q ∈ lw_privs, lw_okq q := lw_cks_ok _ _ lw_cka
