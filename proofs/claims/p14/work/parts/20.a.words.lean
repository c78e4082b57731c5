def es_WS : List Cond := lw_tbl.filter goodWord
def es_wxk (w : Cond) : Bool := match w with
  | .methodLinkNest .. => true
  | .castable .. => true
  | .declares _ => true
  | _ => false
def es_wx : List Cond := lw_tbl.filter es_wxk
def es_TW : List (String × Nat × Nat) := [(RX11, 116, 0), (RX11, 126, 1), (RX11, 164, 2), (RX11, 231, 4), (RX11, 404, 3)]
def es_jwl : List (List Nat) := [[212, 596, 705, 726, 1060, 1214, 1232, 977, 981, 985, 187, 623, 638, 692, 711, 688], [708, 722, 729, 736, 739, 284, 572, 576, 719, 733, 1055, 1102, 1105, 560, 609, 921], [538, 171, 949, 953, 957, 961, 967, 973, 970, 964, 851, 197, 831, 881, 864, 871], [874, 877, 885, 888, 891, 290, 587, 1044, 1366, 1355, 302, 580, 1038, 1110, 447, 1307], [1313, 1319, 1323, 405, 1163, 1174, 1177, 1181, 1191, 1184, 1196, 146, 515, 627, 631, 635], [642, 747, 696, 743, 701, 715, 139, 511, 519, 618, 827, 523, 900, 942, 992, 1002], [1013, 1051, 1067, 1074, 1084, 1091, 1098, 1121, 1131, 1138, 1145, 1152, 1159, 1203, 1210, 1221], [1228, 1239, 1246, 1268, 1278, 1291, 527, 1303, 534, 548, 1330, 552, 556, 1337, 1344, 1351], [1362, 564, 568, 592, 601, 605, 903, 945, 995, 1005, 1077, 1016, 1033, 1124, 1249, 1252], [1255, 1271, 1281, 1284, 1295, 1371, 1464, 1630, 1672, 1539, 1736, 1572, 1585, 1542, 1610, 1607], [1575, 1569, 1582, 1604, 1617, 1624, 1457, 1461, 1483, 1480, 1512, 1492, 1486, 1500, 1497, 1530], [1536, 1527, 1533, 1545, 1548, 1551, 1524, 1474, 1477, 1471, 1554, 1468, 1521, 1518, 1515, 1509], [1506, 1503, 1489, 1558, 1562, 1591, 1588, 1675, 1640, 1669, 1666, 1566, 1597, 1594, 1579, 1601], [1614, 1627, 1633, 1621, 1643, 1637, 1647, 1651, 1655, 1659, 1663, 1680, 1684, 1688, 1695, 1692], [1699, 1706, 1709, 1712, 1715, 1703, 1719, 1726, 1739, 1723, 1733, 1730, 1743, 1747, 1754, 1751], [1758, 1766, 1769, 1763, 1773, 1779, 1786, 1783, 1793, 1797, 1801, 1805, 1789, 1809, 1813, 1817], [1824, 1821, 1828, 1832, 1836, 1840, 1844, 1848, 541, 1258, 646, 655, 650, 659, 665, 662], [1167, 1310, 838, 669, 612, 823, 894, 938, 988, 998, 1008, 1047, 1063, 1070, 1080, 1087], [1094, 1117, 1127, 1134, 1141, 1148, 1155, 1199, 1206, 1217, 1224, 1235, 1242, 1264, 1274, 1287], [1299, 1326, 1333, 1340, 1347, 1358, 1453]]
def es_jw (n : Nat) : Nat := ((es_jwl.getD (n / 16) []).getD (n % 16) 0)
def es_hjx (n : Nat) : Nat := bif Nat.beq n 42 then 1009 else bif Nat.beq n 26 then 896 else bif Nat.beq n 24 then 895 else bif Nat.beq n 15 then 614 else bif Nat.beq n 13 then 613 else 99999
theorem es_WSg : ∀ w ∈ es_WS, goodWord w = true := fun w hw => (List.mem_filter.mp hw).2
theorem es_WSt : ∀ w ∈ es_WS, w ∈ lw_tbl := fun w hw => (List.mem_filter.mp hw).1
theorem es_wxt : ∀ w ∈ es_wx, w ∈ lw_tbl ∧ w.onTables = true := fun w hw => ⟨(List.mem_filter.mp hw).1, by
  have h := (List.mem_filter.mp hw).2
  cases w <;> first | rfl | cases h⟩
theorem es_wxo : es_wxok es_wx := fun w hw s U hW hZ => by
  have h := (List.mem_filter.mp hw).2
  cases w <;> first | exact va_Nw.warmM hW hZ | exact va_Nw.warmC hW hZ | exact va_Nw.warmD hW hZ | cases h
def es_uin (WS : List Cond) : List Cond → List Nat → Bool
  | [], _ => true
  | w :: t, js => match js with
    | [] => false
    | j :: s => es_wj WS j w && es_uin WS t s
theorem es_uin_ok {WS : List Cond} : ∀ {l : List Cond} {js : List Nat}, es_uin WS l js = true → ∀ w ∈ l, w ∈ WS
  | [], _, _, w, hw => by cases hw
  | v :: t, js, h, w, hw => by
    cases js with
    | nil => cases h
    | cons j s =>
      unfold es_uin at h
      dsimp only at h
      rw [Bool.and_eq_true] at h
      rcases List.mem_cons.mp hw with rfl | hw
      · exact es_wj_in h.1
      · exact es_uin_ok h.2 w hw
theorem es_u0 : es_uin es_WS (u_ws RX0 TX0 12) [255, 257, 259, 261, 263, 265, 267, 269, 271, 273, 275, 277] = true := by decide +kernel
theorem es_u1 : es_uin es_WS (u_ws RX1 TX1 1) [190] = true := by decide +kernel
theorem es_u2 : es_uin es_WS (u_ws RX2 TX2 10) [380, 382, 384, 386, 388, 390, 392, 394, 396, 398] = true := by decide +kernel
theorem es_u3 : es_uin es_WS (u_ws RX3 TX3 3) [176, 178, 180] = true := by decide +kernel
theorem es_u4 : es_uin es_WS (u_ws RX4 TX4 2) [857, 859] = true := by decide +kernel
theorem es_u5 : es_uin es_WS (u_ws RX5 TX5 3) [202, 204, 206] = true := by decide +kernel
theorem es_u6 : es_uin es_WS (u_ws RX6 TX6 2) [295, 297] = true := by decide +kernel
theorem es_u7 : es_uin es_WS (u_ws RX7 TX7 6) [334, 336, 338, 340, 342, 344] = true := by decide +kernel
theorem es_u8 : es_uin es_WS (u_ws RX8 TX8 2) [451, 453] = true := by decide +kernel
theorem es_u9 : es_uin es_WS (u_ws RX9 TX9 11) [419, 421, 423, 425, 427, 429, 431, 433, 435, 437, 439] = true := by decide +kernel
theorem es_u10 : es_uin es_WS (u_ws RX10 TX10 5) [156, 158, 160, 162, 164] = true := by decide +kernel
theorem es_u11 : es_uin es_WS (u_ws RX11 TX11 17) [473, 475, 477, 479, 481, 483, 485, 487, 489, 491, 493, 495, 497, 499, 501, 503, 505] = true := by decide +kernel
theorem es_u12 : es_uin es_WS (u_ws RX12 TX12 25) [1398, 1400, 1402, 1404, 1406, 1408, 1410, 1412, 1414, 1416, 1418, 1420, 1422, 1424, 1426, 1428, 1430, 1432, 1434, 1436, 1438, 1440, 1442, 1444, 1446] = true := by decide +kernel
theorem es_uall : ∀ (ci : Nat) (r : vw_C), vwCl[ci]? = some r → ∀ w ∈ u_ws r.1 r.2.1 r.2.2, w ∈ es_WS := by
  intro ci r h
  match ci, h with
  | 0, h => cases h; exact es_uin_ok es_u0
  | 1, h => cases h; exact es_uin_ok es_u1
  | 2, h => cases h; exact es_uin_ok es_u2
  | 3, h => cases h; exact es_uin_ok es_u3
  | 4, h => cases h; exact es_uin_ok es_u4
  | 5, h => cases h; exact es_uin_ok es_u5
  | 6, h => cases h; exact es_uin_ok es_u6
  | 7, h => cases h; exact es_uin_ok es_u7
  | 8, h => cases h; exact es_uin_ok es_u8
  | 9, h => cases h; exact es_uin_ok es_u9
  | 10, h => cases h; exact es_uin_ok es_u10
  | 11, h => cases h; exact es_uin_ok es_u11
  | 12, h => cases h; exact es_uin_ok es_u12
  | t + 13, h => simp at h
def es_thj : List Cond → List Nat → Bool
  | [], _ => true
  | w :: t, js => match js with
    | [] => false
    | j :: s => (bif Nat.ble 10000 j then es_wj es_wx (j - 10000) w && w.onTables else es_wj es_WS j w) && es_thj t s
theorem es_thj_ok : ∀ {l : List Cond} {js : List Nat}, es_thj l js = true → ∀ w ∈ l, w ∈ es_WS ∨ (w ∈ es_wx ∧ w.onTables = true)
  | [], _, _, w, hw => by cases hw
  | v :: t, js, h, w, hw => by
    cases js with
    | nil => cases h
    | cons j s =>
      unfold es_thj at h
      dsimp only at h
      rw [Bool.and_eq_true] at h
      rcases List.mem_cons.mp hw with rfl | hw
      · have h1 := h.1
        cases hb : Nat.ble 10000 j
        · rw [hb] at h1
          exact Or.inl (es_wj_in h1)
        · rw [hb] at h1
          rw [cond_true, Bool.and_eq_true] at h1
          exact Or.inr ⟨es_wj_in h1.1, h1.2⟩
      · exact es_thj_ok h.2 w hw
theorem es_tw0 : es_thj (es_ats RX11 116 0) [122, 763, 770, 776, 778, 780, 764, 765, 141, 142, 766, 769, 777, 795, 753, 796, 755, 797, 757, 767, 768, 759, 791, 792, 794, 759, 782, 783, 784, 785, 10008, 785, 786, 787, 788, 10010, 788, 789, 790, 791, 10012, 781, 749, 10006, 750, 751, 752, 754, 756, 758, 762, 761, 760] = true := by decide +kernel
theorem es_tw1 : es_thj (es_ats RX11 126 1) [122, 763, 770, 776, 778, 780, 764, 765, 141, 142, 766, 769, 777, 795, 753, 796, 755, 797, 757, 767, 768, 759, 791, 792, 794, 759, 816, 817, 818, 785, 10008, 785, 786, 787, 788, 10010, 788, 789, 790, 791, 10012, 815, 808, 10013, 809, 774, 810, 811, 812, 813, 762, 761, 814] = true := by decide +kernel
theorem es_tw2 : es_thj (es_ats RX11 164 2) [122, 763, 770, 776, 778, 780, 764, 765, 141, 142, 766, 769, 777, 795, 753, 796, 755, 797, 757, 767, 768, 759, 791, 792, 794, 759, 931, 932, 933, 785, 10008, 785, 786, 787, 788, 10010, 788, 789, 790, 791, 10012, 930, 923, 10016, 924, 775, 925, 926, 927, 928, 762, 761, 929] = true := by decide +kernel
theorem es_tw3 : es_thj (es_ats RX11 231 4) [122, 763, 770, 776, 778, 780, 764, 765, 141, 142, 766, 769, 777, 795, 753, 796, 755, 797, 757, 767, 768, 759, 791, 792, 794, 759, 1026, 1027, 1028, 785, 10008, 785, 786, 787, 788, 10010, 788, 789, 790, 791, 10012, 1025, 1018, 10017, 1019, 772, 1020, 1021, 1022, 1023, 762, 761, 1024] = true := by decide +kernel
theorem es_tw4 : es_thj (es_ats RX11 404 3) [122, 763, 770, 776, 778, 780, 764, 765, 141, 142, 766, 769, 777, 795, 753, 796, 755, 797, 757, 767, 768, 759, 791, 792, 794, 759, 913, 914, 915, 785, 10008, 785, 786, 787, 788, 10010, 788, 789, 790, 791, 10012, 912, 905, 10015, 906, 773, 907, 908, 909, 910, 762, 761, 911] = true := by decide +kernel
theorem es_twall : ∀ t ∈ es_TW, es_thw es_WS es_wx t.1 t.2.1 t.2.2 := fun t ht => by
  unfold es_TW at ht
  simp only [List.mem_cons, List.not_mem_nil, or_false] at ht
  rcases ht with rfl | rfl | rfl | rfl | rfl
  · exact es_thj_ok es_tw0
  · exact es_thj_ok es_tw1
  · exact es_thj_ok es_tw2
  · exact es_thj_ok es_tw3
  · exact es_thj_ok es_tw4
def es_twb (T : es_M) (E : es_I) : Bool := match E.2.2.2 with
  | [100, x, _, ic, _, _, _, _] => es_TW.any (fun t => decide (t = (es_own T, ic, x)))
  | _ => true
theorem es_twb_ok {T : es_M} {E : es_I} (h : es_twb T E = true) : ∀ x is ic wide si j1 j2, E.2.2.2 = [100, x, is, ic, wide, si, j1, j2] → es_thw es_WS es_wx (es_own T) ic x := by
  intro x is ic wide si j1 j2 he
  unfold es_twb at h
  rw [he] at h
  obtain ⟨t, h1, h2⟩ := List.any_eq_true.mp h
  have e := of_decide_eq_true h2
  have h3 := es_twall t h1
  rw [e] at h3
  exact h3
noncomputable def es_M1 (M : Nat) : es_M := es_ME0 (M % 512)
def es_hchk (T : es_M) (q : Nat × Nat × Nat × Nat) : Bool := (!Nat.beq q.2.2.2 0 && Nat.blt (es_ct q.2.2.2) 5) && es_wj es_WS (es_hjx q.2.2.2) (.classLink (es_own T) q.2.2.2 (es_exc (es_ct q.2.2.2)))
/-- a row's own words -/
noncomputable def ez_e2 (M : Nat) (T : es_M) (E : es_I) : Bool := es_tok es_WS es_wx es_strs T E && (((es_k60 E || es_hok es_WS T E) && es_cok es_M1 es_WS es_wx M E) && (es_twb T E && es_sok es_strs es_WS T E))
