def es_WS : List Cond := lw_tbl.filter goodWord
def es_wxk (w : Cond) : Bool := match w with
  | .methodLinkNest .. => true
  | .castable .. => true
  | .declares _ => true
  | _ => false
def es_wx : List Cond := lw_tbl.filter es_wxk
def es_strs : List (String × Nat × String) := [(RX11, 405, "no such man"), (RX11, 411, "the number is none"), (RX11, 162, "no such what"), (RX11, 402, "no such step"), (RX11, 409, "no such rival"), (RX11, 407, "no such test")]
def es_TW : List (String × Nat × Nat) := [(RX11, 404, 3), (RX11, 116, 0), (RX11, 164, 2)]
def es_jws : List Nat := [945, 1121, 1117, 1258, 1255, 1252, 1249, 1268, 1264, 596, 635, 631, 627, 623, 580, 576, 618, 612, 1228, 1224, 560, 1102, 1124, 1077, 1138, 1134, 587, 572, 1033, 1098, 1094, 1152, 1148, 1221, 1217, 1067, 1063, 1330, 1326, 838, 851, 831, 827, 823, 1351, 1347, 1145, 1141, 1366, 1362, 1358, 1159, 1155, 942, 938, 1203, 1199, 1295, 1291, 1287, 1131, 1127, 903, 1084, 1080, 1091, 1087, 1013, 1008, 1278, 1274, 1005, 1002, 998, 1246, 1242, 1074, 1070, 1239, 1235, 1319, 1310, 1307, 1303, 1299, 1344, 1340, 900, 894, 1210, 1206, 995, 992, 988, 541, 1337, 1333, 1051, 1047, 601, 527, 609, 605, 552, 519, 523, 515, 511, 592, 212, 146, 187, 290, 302, 284, 171, 197, 447, 405, 139, 556, 548, 538, 534, 564, 568, 1464, 1582, 1680, 1754, 1758, 1844, 1779, 1474, 1471, 1480, 1477, 1468, 1743, 1554, 1675, 1630, 1666, 1688, 1848, 1627, 1663, 1805, 1699, 1461, 1562, 1457, 1730, 1647, 1840, 1371, 1789, 1809, 1801, 1558, 1821, 1692, 1828, 1703, 1579, 1797, 1719, 1736, 1539, 1773, 1684, 1569, 1655, 1659, 1621, 1763, 1617, 1614, 1793, 1832, 1751, 1651, 1747, 1783, 1672, 1817, 1566, 1723, 1604, 1601, 1453, 1813, 1637, 1836, 0, 945]
def es_hjx (n : Nat) : Nat := bif Nat.beq n 13 then 613 else bif Nat.beq n 15 then 614 else bif Nat.beq n 24 then 895 else bif Nat.beq n 26 then 896 else 1009
theorem es_WSg : ∀ w ∈ es_WS, goodWord w = true := fun w hw => (List.mem_filter.mp hw).2
theorem es_WSt : ∀ w ∈ es_WS, w ∈ lw_tbl := fun w hw => (List.mem_filter.mp hw).1
theorem es_wxt : ∀ w ∈ es_wx, w ∈ lw_tbl ∧ w.onTables = true := fun w hw => ⟨(List.mem_filter.mp hw).1, by
  have h := (List.mem_filter.mp hw).2
  cases w <;> first | rfl | cases h⟩
theorem es_wxo : es_wxok es_wx := fun w hw s U hW hZ => by
  have h := (List.mem_filter.mp hw).2
  cases w <;> first | exact va_Nw.warmM hW hZ | exact va_Nw.warmC hW hZ | exact va_Nw.warmD hW hZ | cases h
def es_uin (WS : List Cond) : List Cond → List Nat → Bool
  | [], _ => true
  | w :: t, js => match js with
    | [] => false
    | j :: s => es_wj WS j w && es_uin WS t s
theorem es_uin_ok {WS : List Cond} : ∀ {l : List Cond} {js : List Nat}, es_uin WS l js = true → ∀ w ∈ l, w ∈ WS
  | [], _, _, w, hw => by cases hw
  | v :: t, js, h, w, hw => by
    cases js with
    | nil => cases h
    | cons j s =>
      unfold es_uin at h
      dsimp only at h
      rw [Bool.and_eq_true] at h
      rcases List.mem_cons.mp hw with rfl | hw
      · exact es_wj_in h.1
      · exact es_uin_ok h.2 w hw
theorem es_u0 : es_uin es_WS (u_ws RX0 TX0 12) [255, 257, 259, 261, 263, 265, 267, 269, 271, 273, 275, 277] = true := by decide +kernel
theorem es_u1 : es_uin es_WS (u_ws RX1 TX1 1) [190] = true := by decide +kernel
theorem es_u2 : es_uin es_WS (u_ws RX2 TX2 10) [380, 382, 384, 386, 388, 390, 392, 394, 396, 398] = true := by decide +kernel
theorem es_u3 : es_uin es_WS (u_ws RX3 TX3 3) [176, 178, 180] = true := by decide +kernel
theorem es_u4 : es_uin es_WS (u_ws RX4 TX4 2) [857, 859] = true := by decide +kernel
theorem es_u5 : es_uin es_WS (u_ws RX5 TX5 3) [202, 204, 206] = true := by decide +kernel
theorem es_u6 : es_uin es_WS (u_ws RX6 TX6 2) [295, 297] = true := by decide +kernel
theorem es_u7 : es_uin es_WS (u_ws RX7 TX7 6) [334, 336, 338, 340, 342, 344] = true := by decide +kernel
theorem es_u8 : es_uin es_WS (u_ws RX8 TX8 2) [451, 453] = true := by decide +kernel
theorem es_u9 : es_uin es_WS (u_ws RX9 TX9 11) [419, 421, 423, 425, 427, 429, 431, 433, 435, 437, 439] = true := by decide +kernel
theorem es_u10 : es_uin es_WS (u_ws RX10 TX10 5) [156, 158, 160, 162, 164] = true := by decide +kernel
theorem es_u11 : es_uin es_WS (u_ws RX11 TX11 17) [473, 475, 477, 479, 481, 483, 485, 487, 489, 491, 493, 495, 497, 499, 501, 503, 505] = true := by decide +kernel
theorem es_u12 : es_uin es_WS (u_ws RX12 TX12 25) [1398, 1400, 1402, 1404, 1406, 1408, 1410, 1412, 1414, 1416, 1418, 1420, 1422, 1424, 1426, 1428, 1430, 1432, 1434, 1436, 1438, 1440, 1442, 1444, 1446] = true := by decide +kernel
theorem es_uall : ∀ (ci : Nat) (r : vw_C), vwCl[ci]? = some r → ∀ w ∈ u_ws r.1 r.2.1 r.2.2, w ∈ es_WS := by
  intro ci r h
  match ci, h with
  | 0, h => cases h; exact es_uin_ok es_u0
  | 1, h => cases h; exact es_uin_ok es_u1
  | 2, h => cases h; exact es_uin_ok es_u2
  | 3, h => cases h; exact es_uin_ok es_u3
  | 4, h => cases h; exact es_uin_ok es_u4
  | 5, h => cases h; exact es_uin_ok es_u5
  | 6, h => cases h; exact es_uin_ok es_u6
  | 7, h => cases h; exact es_uin_ok es_u7
  | 8, h => cases h; exact es_uin_ok es_u8
  | 9, h => cases h; exact es_uin_ok es_u9
  | 10, h => cases h; exact es_uin_ok es_u10
  | 11, h => cases h; exact es_uin_ok es_u11
  | 12, h => cases h; exact es_uin_ok es_u12
  | t + 13, h => simp at h
def es_thb (t : String × Nat × Nat) : Bool := (es_ats t.1 t.2.1 t.2.2).all (fun w => decide (w ∈ es_WS) || (decide (w ∈ es_wx) && w.onTables))
theorem es_thb_ok {t : String × Nat × Nat} (h : es_thb t = true) : es_thw es_WS es_wx t.1 t.2.1 t.2.2 := fun w hw => by
  have h2 := List.all_eq_true.mp h w hw
  rw [Bool.or_eq_true, Bool.and_eq_true, decide_eq_true_eq, decide_eq_true_eq] at h2
  exact h2
theorem es_tw0 : es_thb (RX11, 404, 3) = true := by decide +kernel
theorem es_tw1 : es_thb (RX11, 116, 0) = true := by decide +kernel
theorem es_tw2 : es_thb (RX11, 164, 2) = true := by decide +kernel
theorem es_twall : ∀ t ∈ es_TW, es_thw es_WS es_wx t.1 t.2.1 t.2.2 := fun t ht => by
  unfold es_TW at ht
  simp only [List.mem_cons, List.not_mem_nil, or_false] at ht
  rcases ht with rfl | rfl | rfl
  · exact es_thb_ok es_tw0
  · exact es_thb_ok es_tw1
  · exact es_thb_ok es_tw2
def es_twb (T : es_M) (E : es_I) : Bool := match E.2.2.2 with
  | [100, x, _, ic, _, _, _, _] => es_TW.any (fun t => decide (t = (es_own T, ic, x)))
  | _ => true
theorem es_twb_ok {T : es_M} {E : es_I} (h : es_twb T E = true) : ∀ x is ic wide si j1 j2, E.2.2.2 = [100, x, is, ic, wide, si, j1, j2] → es_thw es_WS es_wx (es_own T) ic x := by
  intro x is ic wide si j1 j2 he
  unfold es_twb at h
  rw [he] at h
  obtain ⟨t, h1, h2⟩ := List.any_eq_true.mp h
  have e := of_decide_eq_true h2
  have h3 := es_twall t h1
  rw [e] at h3
  exact h3
noncomputable def es_echk (T : es_M) (E : es_I) : Bool := (es_dok T E && es_tok es_WS es_wx es_strs T E) && ((es_hok es_WS T E && es_cok es_ME es_WS es_wx T E) && es_twb T E)
def es_hchk (T : es_M) (q : Nat × Nat × Nat × Nat) : Bool := (!Nat.beq q.2.2.2 0 && Nat.blt (es_ct q.2.2.2) 5) && es_wj es_WS (es_hjx q.2.2.2) (.classLink (es_own T) q.2.2.2 (es_exc (es_ct q.2.2.2)))
noncomputable def es_mchk (T : es_M) (C : List (Nat × List (Nat × es_C))) (j : Nat) : Bool :=
  ((decide (es_own T = (es_y T).cls) && plainName (es_y T).cls) && ((es_tab T).all (fun q => q.2.all (es_echk T)) && (es_hh T).all (es_hchk T))) && ((Nat.ble (es_lo T) 84000 && (Nat.ble 84000 (es_lo T) || es_wj es_WS j (es_cw T))) && C.all (fun q => q.2.all (fun x => es_qq (es_at (es_tab T) x.1) x)))
noncomputable def es_mck (n : Nat) : Bool := es_mchk (es_ME n) (es_CT n) (es_jws[n]?.getD 0)
