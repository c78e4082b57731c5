/-! the words that may be asked: by their kind alone (goodWord is dear to evaluate); looked up in blocks of 32 -/
noncomputable def ew_gd (w : Cond) : Bool := match w with
  | .arrayClass .. => true
  | .classLink .. => true
  | .code .. => true
  | .codeSync .. => true
  | .codeWith .. => true
  | .constant .. => true
  | .constantLong .. => true
  | .fieldLink .. => true
  | .initialized .. => true
  | .instanceMethod .. => true
  | .instantiable .. => true
  | .lays .. => true
  | .laysFinal .. => true
  | .methodLink .. => true
  | .native .. => true
  | .sameMethod .. => true
  | .selects .. => true
  | .soleField .. => true
  | .static .. => true
  | .superclass .. => true
  | _ => false
theorem ew_gd_ok {w : Cond} (h : ew_gd w = true) : goodWord w = true := by
  unfold ew_gd at h
  split at h <;> first | rfl | cases h
noncomputable def es_WS : List Cond := lw_tbl.filter ew_gd
noncomputable def ew_ch : Nat → List Cond → List (List Cond)
  | 0, _ => []
  | n + 1, l => l.take 32 :: ew_ch n (l.drop 32)
noncomputable def ew_cl : List (List Cond) := ew_ch 64 es_WS
noncomputable def ew_wj (j : Nat) (w : Cond) : Bool := match ew_cl[j / 32]? with
  | some r => decide (r[j % 32]? = some w)
  | none => false
theorem ew_chk : ∀ (n k : Nat) (l : List Cond), (ew_ch n l)[k]? = if k < n then some ((l.drop (32 * k)).take 32) else none
  | 0, k, l => by
    rw [if_neg (Nat.not_lt_zero k)]
    exact List.getElem?_nil
  | n + 1, 0, l => by
    rw [if_pos (Nat.succ_pos n)]
    rfl
  | n + 1, k + 1, l => by
    have h := ew_chk n k (l.drop 32)
    rw [List.drop_drop, show 32 + 32 * k = 32 * (k + 1) by omega] at h
    show (l.take 32 :: ew_ch n (l.drop 32))[k + 1]? = _
    rw [List.getElem?_cons_succ, h]
    by_cases hk : k < n
    · rw [if_pos hk, if_pos (Nat.succ_lt_succ hk)]
    · rw [if_neg hk, if_neg (fun h2 => hk (Nat.lt_of_succ_lt_succ h2))]
theorem ew_len : Nat.ble es_WS.length 2048 = true := by decide +kernel
theorem ew_wj_eq (j : Nat) (w : Cond) : ew_wj j w = es_wj es_WS j w := by
  unfold ew_wj es_wj ew_cl
  rw [ew_chk]
  by_cases h : j / 32 < 64
  · rw [if_pos h]
    show decide (((es_WS.drop (32 * (j / 32))).take 32)[j % 32]? = some w) = _
    rw [List.getElem?_take_of_lt (Nat.mod_lt _ (by decide)), List.getElem?_drop, Nat.div_add_mod]
  · rw [if_neg h]
    have h2 := Nat.le_of_ble_eq_true ew_len
    have h3 : es_WS[j]? = none := List.getElem?_eq_none (by omega)
    rw [h3]
    rfl
theorem ew_wjf : ew_wj = es_wj es_WS := funext fun j => funext fun w => ew_wj_eq j w
theorem ew_wj_in {j : Nat} {w : Cond} (h : ew_wj j w = true) : w ∈ es_WS := es_wj_in (by rw [← ew_wj_eq]; exact h)
noncomputable def es_wxk (w : Cond) : Bool := match w with
  | .methodLinkNest .. => true
  | .castable .. => true
  | .declares _ => true
  | _ => false
noncomputable def es_wx : List Cond := lw_tbl.filter es_wxk
noncomputable def es_TW : List (String × Nat × Nat) := [(RX11, 116, 0), (RX11, 126, 1), (RX11, 164, 2), (RX11, 231, 4), (RX11, 404, 3)]
noncomputable def es_hjx (n : Nat) : Nat := bif Nat.beq n 42 then 1009 else bif Nat.beq n 26 then 896 else bif Nat.beq n 24 then 895 else bif Nat.beq n 15 then 614 else bif Nat.beq n 13 then 613 else 99999
theorem es_WSg : ∀ w ∈ es_WS, goodWord w = true := fun w hw => ew_gd_ok (List.mem_filter.mp hw).2
theorem es_WSt : ∀ w ∈ es_WS, w ∈ lw_tbl := fun w hw => (List.mem_filter.mp hw).1
theorem es_wxt : ∀ w ∈ es_wx, w ∈ lw_tbl ∧ w.onTables = true := fun w hw => ⟨(List.mem_filter.mp hw).1, by
  have h := (List.mem_filter.mp hw).2
  unfold es_wxk at h
  split at h <;> first | rfl | cases h⟩
theorem es_wxo : es_wxok es_wx := fun w hw s U hW hZ => by
  have h := (List.mem_filter.mp hw).2
  unfold es_wxk at h
  split at h
  · exact va_Nw.warmM hW hZ
  · exact va_Nw.warmC hW hZ
  · exact va_Nw.warmD hW hZ
  · cases h
noncomputable def es_uin : List Cond → List Nat → Bool
  | [], _ => true
  | w :: t, js => match js with
    | [] => false
    | j :: s => ew_wj j w && es_uin t s
theorem es_uin_ok : ∀ {l : List Cond} {js : List Nat}, es_uin l js = true → ∀ w ∈ l, w ∈ es_WS
  | [], _, _, w, hw => by cases hw
  | v :: t, js, h, w, hw => by
    cases js with
    | nil => cases h
    | cons j s =>
      unfold es_uin at h
      dsimp only at h
      rw [Bool.and_eq_true] at h
      rcases List.mem_cons.mp hw with rfl | hw
      · exact ew_wj_in h.1
      · exact es_uin_ok h.2 w hw
noncomputable def es_ul : List (List Cond) := [u_ws RX0 TX0 12, u_ws RX1 TX1 1, u_ws RX2 TX2 10, u_ws RX3 TX3 3, u_ws RX4 TX4 2, u_ws RX5 TX5 3, u_ws RX6 TX6 2, u_ws RX7 TX7 6, u_ws RX8 TX8 2, u_ws RX9 TX9 11, u_ws RX10 TX10 5, u_ws RX11 TX11 17, u_ws RX12 TX12 25]
theorem es_us : es_uin es_ul.flatten [255, 257, 259, 261, 263, 265, 267, 269, 271, 273, 275, 277, 190, 380, 382, 384, 386, 388, 390, 392, 394, 396, 398, 176, 178, 180, 857, 859, 202, 204, 206, 295, 297, 334, 336, 338, 340, 342, 344, 451, 453, 419, 421, 423, 425, 427, 429, 431, 433, 435, 437, 439, 156, 158, 160, 162, 164, 473, 475, 477, 479, 481, 483, 485, 487, 489, 491, 493, 495, 497, 499, 501, 503, 505, 1398, 1400, 1402, 1404, 1406, 1408, 1410, 1412, 1414, 1416, 1418, 1420, 1422, 1424, 1426, 1428, 1430, 1432, 1434, 1436, 1438, 1440, 1442, 1444, 1446] = true := by decide +kernel
theorem es_uall : ∀ (ci : Nat) (r : vw_C), vwCl[ci]? = some r → ∀ w ∈ u_ws r.1 r.2.1 r.2.2, w ∈ es_WS := by
  intro ci r h
  match ci, h with
  | 0, h => cases h; exact fun w hw => es_uin_ok es_us w (List.mem_flatten.mpr ⟨_, List.mem_of_getElem? (i := 0) rfl, hw⟩)
  | 1, h => cases h; exact fun w hw => es_uin_ok es_us w (List.mem_flatten.mpr ⟨_, List.mem_of_getElem? (i := 1) rfl, hw⟩)
  | 2, h => cases h; exact fun w hw => es_uin_ok es_us w (List.mem_flatten.mpr ⟨_, List.mem_of_getElem? (i := 2) rfl, hw⟩)
  | 3, h => cases h; exact fun w hw => es_uin_ok es_us w (List.mem_flatten.mpr ⟨_, List.mem_of_getElem? (i := 3) rfl, hw⟩)
  | 4, h => cases h; exact fun w hw => es_uin_ok es_us w (List.mem_flatten.mpr ⟨_, List.mem_of_getElem? (i := 4) rfl, hw⟩)
  | 5, h => cases h; exact fun w hw => es_uin_ok es_us w (List.mem_flatten.mpr ⟨_, List.mem_of_getElem? (i := 5) rfl, hw⟩)
  | 6, h => cases h; exact fun w hw => es_uin_ok es_us w (List.mem_flatten.mpr ⟨_, List.mem_of_getElem? (i := 6) rfl, hw⟩)
  | 7, h => cases h; exact fun w hw => es_uin_ok es_us w (List.mem_flatten.mpr ⟨_, List.mem_of_getElem? (i := 7) rfl, hw⟩)
  | 8, h => cases h; exact fun w hw => es_uin_ok es_us w (List.mem_flatten.mpr ⟨_, List.mem_of_getElem? (i := 8) rfl, hw⟩)
  | 9, h => cases h; exact fun w hw => es_uin_ok es_us w (List.mem_flatten.mpr ⟨_, List.mem_of_getElem? (i := 9) rfl, hw⟩)
  | 10, h => cases h; exact fun w hw => es_uin_ok es_us w (List.mem_flatten.mpr ⟨_, List.mem_of_getElem? (i := 10) rfl, hw⟩)
  | 11, h => cases h; exact fun w hw => es_uin_ok es_us w (List.mem_flatten.mpr ⟨_, List.mem_of_getElem? (i := 11) rfl, hw⟩)
  | 12, h => cases h; exact fun w hw => es_uin_ok es_us w (List.mem_flatten.mpr ⟨_, List.mem_of_getElem? (i := 12) rfl, hw⟩)
  | t + 13, h => simp at h
noncomputable def es_thj : List Cond → List Nat → Bool
  | [], _ => true
  | w :: t, js => match js with
    | [] => false
    | j :: s => (bif Nat.ble 10000 j then es_wj es_wx (j - 10000) w && w.onTables else ew_wj j w) && es_thj t s
theorem es_thj_ok : ∀ {l : List Cond} {js : List Nat}, es_thj l js = true → ∀ w ∈ l, w ∈ es_WS ∨ (w ∈ es_wx ∧ w.onTables = true)
  | [], _, _, w, hw => by cases hw
  | v :: t, js, h, w, hw => by
    cases js with
    | nil => cases h
    | cons j s =>
      unfold es_thj at h
      dsimp only at h
      rw [Bool.and_eq_true] at h
      rcases List.mem_cons.mp hw with rfl | hw
      · have h1 := h.1
        cases hb : Nat.ble 10000 j
        · rw [hb] at h1
          exact Or.inl (ew_wj_in h1)
        · rw [hb] at h1
          rw [cond_true, Bool.and_eq_true] at h1
          exact Or.inr ⟨es_wj_in h1.1, h1.2⟩
      · exact es_thj_ok h.2 w hw
noncomputable def es_twl : List (List Cond) := [es_ats RX11 116 0, es_ats RX11 126 1, es_ats RX11 164 2, es_ats RX11 231 4, es_ats RX11 404 3]
theorem es_tws : es_thj es_twl.flatten [122, 763, 770, 776, 778, 780, 764, 765, 141, 142, 766, 769, 777, 795, 753, 796, 755, 797, 757, 767, 768, 759, 791, 792, 794, 759, 782, 783, 784, 785, 10008, 785, 786, 787, 788, 10010, 788, 789, 790, 791, 10012, 781, 749, 10006, 750, 751, 752, 754, 756, 758, 762, 761, 760, 122, 763, 770, 776, 778, 780, 764, 765, 141, 142, 766, 769, 777, 795, 753, 796, 755, 797, 757, 767, 768, 759, 791, 792, 794, 759, 816, 817, 818, 785, 10008, 785, 786, 787, 788, 10010, 788, 789, 790, 791, 10012, 815, 808, 10013, 809, 774, 810, 811, 812, 813, 762, 761, 814, 122, 763, 770, 776, 778, 780, 764, 765, 141, 142, 766, 769, 777, 795, 753, 796, 755, 797, 757, 767, 768, 759, 791, 792, 794, 759, 931, 932, 933, 785, 10008, 785, 786, 787, 788, 10010, 788, 789, 790, 791, 10012, 930, 923, 10016, 924, 775, 925, 926, 927, 928, 762, 761, 929, 122, 763, 770, 776, 778, 780, 764, 765, 141, 142, 766, 769, 777, 795, 753, 796, 755, 797, 757, 767, 768, 759, 791, 792, 794, 759, 1026, 1027, 1028, 785, 10008, 785, 786, 787, 788, 10010, 788, 789, 790, 791, 10012, 1025, 1018, 10017, 1019, 772, 1020, 1021, 1022, 1023, 762, 761, 1024, 122, 763, 770, 776, 778, 780, 764, 765, 141, 142, 766, 769, 777, 795, 753, 796, 755, 797, 757, 767, 768, 759, 791, 792, 794, 759, 913, 914, 915, 785, 10008, 785, 786, 787, 788, 10010, 788, 789, 790, 791, 10012, 912, 905, 10015, 906, 773, 907, 908, 909, 910, 762, 761, 911] = true := by decide +kernel
theorem es_twall : ∀ t ∈ es_TW, es_thw es_WS es_wx t.1 t.2.1 t.2.2 := fun t ht => by
  unfold es_TW at ht
  simp only [List.mem_cons, List.not_mem_nil, or_false] at ht
  rcases ht with rfl | rfl | rfl | rfl | rfl
  · exact fun w hw => es_thj_ok es_tws w (List.mem_flatten.mpr ⟨_, List.mem_of_getElem? (i := 0) rfl, hw⟩)
  · exact fun w hw => es_thj_ok es_tws w (List.mem_flatten.mpr ⟨_, List.mem_of_getElem? (i := 1) rfl, hw⟩)
  · exact fun w hw => es_thj_ok es_tws w (List.mem_flatten.mpr ⟨_, List.mem_of_getElem? (i := 2) rfl, hw⟩)
  · exact fun w hw => es_thj_ok es_tws w (List.mem_flatten.mpr ⟨_, List.mem_of_getElem? (i := 3) rfl, hw⟩)
  · exact fun w hw => es_thj_ok es_tws w (List.mem_flatten.mpr ⟨_, List.mem_of_getElem? (i := 4) rfl, hw⟩)
noncomputable def es_twb (T : es_M) (E : es_I) : Bool := match E.2.2.2 with
  | [100, x, _, ic, _, _, _, _] => es_TW.any (fun t => decide (t = (es_own T, ic, x)))
  | _ => true
theorem es_twb_ok {T : es_M} {E : es_I} (h : es_twb T E = true) : ∀ x is ic wide si j1 j2, E.2.2.2 = [100, x, is, ic, wide, si, j1, j2] → es_thw es_WS es_wx (es_own T) ic x := by
  intro x is ic wide si j1 j2 he
  unfold es_twb at h
  rw [he] at h
  obtain ⟨t, h1, h2⟩ := List.any_eq_true.mp h
  have e := of_decide_eq_true h2
  have h3 := es_twall t h1
  rw [e] at h3
  exact h3
noncomputable def es_M1 (M : Nat) : es_M := es_ME0 (M % 512)
noncomputable def es_hchk (T : es_M) (q : Nat × Nat × Nat × Nat) : Bool := (!Nat.beq q.2.2.2 0 && Nat.blt (es_ct q.2.2.2) 5) && es_wj es_WS (es_hjx q.2.2.2) (.classLink (es_own T) q.2.2.2 (es_exc (es_ct q.2.2.2)))
/-- a row's own words -/
noncomputable def ez_e2 (M : Nat) (T : es_M) (E : es_I) : Bool := es_tok es_WS es_wx es_strs T E && (((es_k60 E || es_hok es_WS T E) && es_cok es_M1 es_WS es_wx M E) && (es_twb T E && es_sok es_strs es_WS T E))
/-! how many arguments a method takes: each kind of descriptor is read once -/
noncomputable def ez_dl : List (String × Nat) := [("()B", 0), ("()I", 0), ("()J", 0), ("()LNailGold$Law;", 0), ("()V", 0), ("()Z", 0), ("(C)Z", 1), ("(I)C", 1), ("(I)I", 1), ("(I)V", 1), ("(I)Z", 1), ("(II)I", 2), ("(II)J", 2), ("(II)V", 2), ("(II)Z", 2), ("(III)I", 3), ("(III)V", 3), ("(III)Z", 3), ("(IIII)I", 4), ("(IIII)V", 4), ("(IIIII)I", 5), ("(IIIIIII)I", 7), ("(IIIZ)I", 4), ("(IILjava/util/function/BiFunction;)I", 3), ("(ILNailGold$Book;LNailGold$Court;)I", 3), ("(ILNailGold$Book;LNailGold$Judge;)V", 3), ("(ILNailGold$Court;I)V", 3), ("(ILNailGold$Man;I)V", 3), ("(IZ)I", 2), ("(I[I)V", 2), ("(J)I", 1), ("(JI)I", 2), ("(LNailGold$Book;)I", 1), ("(LNailGold$Book;)V", 1), ("(LNailGold$Book;)Z", 1), ("(LNailGold$Book;LNailGold$Court;)Z", 2), ("(LNailGold$Book;LNailGold$Judge;I)I", 3), ("(LNailGold$Court;)V", 1), ("(LNailGold$Court;)Z", 1), ("(LNailGold$Judge;LNailGold$Book;)V", 2), ("(LNailGold$Law;)I", 1), ("(LNailGold$Log;)V", 1), ("(LNailGold$Man;)I", 1), ("(LNailGold$Man;)V", 1), ("(LNailGold$Tape;)V", 1), ("(LNailGold;III[J)I", 5), ("(LNailGold;II[J)I", 4), ("(LNailGold;IZ[J)I", 4), ("(LNailGold;I[J)I", 3), ("(LNailGold;Z[J)I", 3), ("(LNailGold;[J)I", 2), ("(Ljava/lang/String;)I", 1), ("(Ljava/lang/String;)Z", 1), ("(Ljava/lang/String;II)I", 3), ("(Z)I", 1), ("([BI)C", 2), ("([II)V", 2), ("([II)[I", 2), ("([JJ)V", 2)]
noncomputable def ez_kl : List (List Nat) := [[4, 33, 16, 13, 14, 14, 8, 42, 42, 42, 44, 35, 35, 53, 51, 34], [38, 34, 38, 38, 34, 4, 37, 37, 16, 9, 9, 36, 25, 8, 1, 8], [8, 4, 24, 27, 13, 40, 9, 8, 9, 1, 29, 44, 3, 10, 5, 10], [10, 10, 5, 5, 1, 4, 41, 19, 11, 28, 4, 43, 9, 32, 37, 4], [15, 1, 8, 39, 26, 11, 15, 15, 8, 15, 15, 4, 9, 4, 4, 5], [52, 6, 52, 6, 11, 1, 4, 20, 10, 1, 1, 1, 11, 11, 28, 28], [8, 14, 8, 15, 11, 8, 8, 15, 8, 8, 8, 8, 11, 11, 14, 8], [28, 8, 54, 1, 11, 11, 54, 8, 1, 1, 8, 1, 54, 28, 28, 28], [11, 8, 5, 4, 5, 8, 9, 9, 9, 9, 16, 9, 4, 16, 2, 10], [14, 31, 22, 22, 12, 4, 17, 11, 11, 14, 8, 11, 11, 16, 8, 8], [11, 10, 10, 10, 10, 10, 20, 10, 8, 4, 10, 52, 9, 1, 11, 53], [51, 9, 9, 9, 9, 13, 4, 4, 54, 4, 4, 1, 1, 1, 5, 5], [5, 5, 4, 1, 1, 21, 8, 8, 9, 9, 28, 11, 11, 8, 11, 28], [28, 4, 13, 8, 14, 14, 8, 15, 11, 8, 8, 15, 8, 8, 28, 8], [8, 9, 18, 20, 18, 11, 11, 8, 8, 14, 28, 8, 28, 8, 1, 54], [1, 18, 18, 11, 11, 54, 15, 8, 1, 1, 8, 1, 8, 54, 28, 28], [11, 28, 11, 8, 5, 4, 5, 8, 8, 30, 1, 7, 0, 5, 13, 55], [58, 56, 57, 23, 50, 50, 46, 46, 47, 47, 48, 46, 48, 45, 46, 48], [48, 45, 48, 48, 48, 48, 46, 46, 46, 48, 47, 48, 49, 50, 46, 46], [48, 48, 47, 47, 47, 46, 1]]
noncomputable def ez_q (n : Nat) : String × Nat := ez_dl.getD ((ez_kl.getD (n / 16) []).getD (n % 16) 0) ("", 0)
theorem ez_pd : ez_dl.all (fun q => decide ((parseMethodDescriptor q.1).map (fun d => d.parameters.length) = some q.2)) = true := by decide +kernel
noncomputable def ez_nk (n : Nat) : Bool := (decide ((es_y (es_ME0 n)).desc = (ez_q n).1) && Nat.blt ((ez_kl.getD (n / 16) []).getD (n % 16) 0) ez_dl.length) && (decide ((es_y (es_ME0 n)).cls ≠ "java/lang/invoke/MethodHandle") && decide ((es_y (es_ME0 n)).cls ≠ "java/lang/invoke/VarHandle"))
theorem ez_nka : (List.range 311).all ez_nk = true := by decide +kernel
theorem ez_ymb {m : Nat} (hm : m < 311) (n : Nat) : es_ymok (es_y (es_ME0 m)) n = Nat.beq n (ez_q m).2 := by
  have h := List.all_eq_true.mp ez_nka m (List.mem_range.mpr hm)
  unfold ez_nk at h
  simp only [Bool.and_eq_true] at h
  obtain ⟨⟨h1, h2⟩, h3, h4⟩ := h
  have h1 := of_decide_eq_true h1
  have h2 := es_blt.mp h2
  have hq : ez_q m ∈ ez_dl := by
    unfold ez_q
    show (ez_dl[(ez_kl.getD (m / 16) []).getD (m % 16) 0]?).getD ("", 0) ∈ ez_dl
    rw [List.getElem?_eq_getElem h2]
    exact List.getElem_mem h2
  have hp : (parseMethodDescriptor (ez_q m).1).map (fun d => d.parameters.length) = some (ez_q m).2 := of_decide_eq_true (List.all_eq_true.mp ez_pd _ hq)
  unfold es_ymok
  rw [h3, h4, h1, hp, Bool.true_and, Bool.true_and]
  by_cases e : n = (ez_q m).2
  · rw [e, Nat.beq_refl]
    exact decide_eq_true rfl
  · rw [es_beqf.mpr e]
    exact decide_eq_false (fun z => e (Option.some.inj z).symm)
noncomputable def ez_ymq (M M' n : Nat) : Bool := bif Nat.blt (M' % 512) 311 then Nat.beq n (ez_q (M' % 512)).2 else es_ymok (es_y (es_M1 (es_cal M M'))) n
theorem ez_ymf (M : Nat) : (fun M' n => es_ymok (es_y (es_M1 (es_cal M M'))) n) = ez_ymq M := funext fun M' => funext fun n => by
  unfold ez_ymq
  cases hb : Nat.blt (M' % 512) 311 with
  | false => rfl
  | true =>
    rw [cond_true, ← ez_ymb (es_blt.mp hb) n]
    have e : es_M1 (es_cal M M') = es_ME0 (M' % 512) := by
      unfold es_M1 es_cal
      rw [show (M' % 512 + 512 * (M / 512 - 1)) % 512 = M' % 512 by omega]
    rw [e]
noncomputable def ew_hok (f : Nat → Cond → Bool) (M : es_M) (e : es_I) : Bool := match e.2.1 with
  | .getfield idx => match e.2.2.2 with
    | [ci, k, j] => match vwCl[ci]? with
      | some r => f j (.fieldLink (es_own M) idx (r.2.1 k).1 (r.2.1 k).2.1 (r.2.1 k).2.2.1)
      | none => false
    | _ => false
  | .putfield idx => match e.2.2.2 with
    | [ci, k, j] => match vwCl[ci]? with
      | some r => f j (.fieldLink (es_own M) idx (r.2.1 k).1 (r.2.1 k).2.1 (r.2.1 k).2.2.1) && (!(r.2.1 k).2.2.2 || (decide ((es_y M).name = "<init>") && decide ((r.2.1 k).1 = es_own M)))
      | none => false
    | _ => false
  | .new idx => match e.2.2.2 with
    | [1, ci, j1, j2, j3] => match vwCl[ci]? with
      | some r => f j1 (.classLink (es_own M) idx r.1) && (f j2 (.instantiable r.1 r.2.2) && f j3 (.initialized r.1))
      | none => false
    | 1 :: _ => false
    | _ => true
  | .newarray ty => match e.2.2.2 with
    | [t, j] => decide (ty = es_nat t) && f j (.arrayClass (newarray.typeOf (es_nat t)))
    | _ => false
  | .anewarray idx => match e.2.2.2 with
    | [t, j1] => match es_tyq (t + 3) with
      | .object C => f j1 (.classLink (es_own M) idx C)
      | _ => false
    | _ => false
  | .ldc idx => match e.2.2.2 with
    | [j, n] => f j (.constant (es_own M) idx (nI n))
    | _ => false
  | .ldc_w idx => match e.2.2.2 with
    | [j, n] => f j (.constant (es_own M) idx (nI n))
    | _ => false
  | .ldc2_w idx => match e.2.2.2 with
    | [j, n] => f j (.constantLong (es_own M) idx (lN n))
    | _ => false
  | _ => true
noncomputable def ew_cok (f g : Nat → Cond → Bool) (ym : Nat → Nat → Bool) (ME : Nat → es_M) (M : Nat) (E : es_I) : Bool := match E.2.1 with
  | .invokevirtual idx => match E.2.2.2 with
    | [1, M', n, ci, j1, j2, j3, j4] => (match vwCl[ci]? with
        | some r => decide (r.1 = (es_y (ME (es_cal M M'))).cls)
        | none => false) && ((f j1 (.methodLink (es_own (ME M)) idx (es_y (ME (es_cal M M')))) && f j2 (.instanceMethod (es_y (ME (es_cal M M'))))) && ((f j3 (.selects (es_y (ME (es_cal M M'))).cls (es_y (ME (es_cal M M'))) (es_y (ME (es_cal M M')))) && f j4 (.initialized (es_y (ME (es_cal M M'))).cls)) && (ym M' n && (es_hh (ME (es_cal M M'))).isEmpty)))
    | [3, M', n, j1, j2, j3, j4] => decide ((es_y (ME (es_cal M M'))).cls = "java/lang/String") && ((f j1 (.methodLink (es_own (ME M)) idx (es_y (ME (es_cal M M')))) && f j2 (.instanceMethod (es_y (ME (es_cal M M'))))) && ((f j3 (.selects (es_y (ME (es_cal M M'))).cls (es_y (ME (es_cal M M'))) (es_y (ME (es_cal M M')))) && f j4 (.initialized (es_y (ME (es_cal M M'))).cls)) && (ym M' n && (es_hh (ME (es_cal M M'))).isEmpty)))
    | _ => false
  | .invokestatic idx => match E.2.2.2 with
    | [2, M', n, j1, j2, j3] => (f j1 (.methodLink (es_own (ME M)) idx (es_y (ME (es_cal M M')))) && f j2 (.static (es_y (ME (es_cal M M'))))) && (f j3 (.initialized (es_y (ME (es_cal M M'))).cls) && ym M' n)
    | [4, j1, j2, j3, j4] => (f j1 (.methodLink (es_own (ME M)) idx arraycopyName) && f j2 (.native arraycopyName)) && (f j3 (.static arraycopyName) && f j4 (.initialized "java/lang/System"))
    | [5, j1, j2, j3, j4] => (f j1 (.methodLink (es_own (ME M)) idx Lib.Math.min.name) && f j2 (.static Lib.Math.min.name)) && (f j3 (.initialized "java/lang/Math") && f j4 (.code Lib.Math.min.name Lib.Math.min.code 2 (some .int)))
    | [6, j1, j2, j3, j4] => (f j1 (.methodLink (es_own (ME M)) idx Lib.Math.max.name) && f j2 (.static Lib.Math.max.name)) && (f j3 (.initialized "java/lang/Math") && f j4 (.code Lib.Math.max.name Lib.Math.max.code 2 (some .int)))
    | _ => false
  | .invokespecial idx => match E.2.2.2 with
    | [7, M', n, nest, j1, j2, j3] => (bif Nat.beq nest 0 then f j1 (.methodLink (es_own (ME M)) idx (es_y (ME (es_cal M M')))) else g j1 (.methodLinkNest (es_own (ME M)) idx (es_y (ME (es_cal M M'))) RX11)) && ((f j2 (.instanceMethod (es_y (ME (es_cal M M')))) && f j3 (.initialized (es_y (ME (es_cal M M'))).cls)) && ((ym M' n && (es_hh (ME (es_cal M M'))).isEmpty) && (decide ((es_y (ME (es_cal M M'))).name = "<init>") && decide (es_rt (ME (es_cal M M')) = none))))
    | [9, j1, j2, j3] => f j1 (.methodLink (es_own (ME M)) idx Lib.objectInit) && (f j2 (.instanceMethod Lib.objectInit) && f j3 (.code Lib.objectInit ⟨#[0xb1]⟩ 1 none))
    | _ => false
  | _ => true
theorem ew_hok_eq (M : es_M) (e : es_I) : es_hok es_WS M e = ew_hok ew_wj M e := by
  rw [ew_wjf]
  rfl
theorem ew_cok_eq (M : Nat) (e : es_I) : es_cok es_M1 es_WS es_wx M e = ew_cok ew_wj (es_wj es_wx) (ez_ymq M) es_M1 M e := by
  rw [ew_wjf, ← ez_ymf]
  rfl
noncomputable def ez_e3 (M : Nat) (T : es_M) (E : es_I) : Bool := es_tok es_WS es_wx es_strs T E && (((es_k60 E || ew_hok ew_wj T E) && ew_cok ew_wj (es_wj es_wx) (ez_ymq M) es_M1 M E) && (es_twb T E && es_sok es_strs es_WS T E))
theorem ez_e3_ok {M : Nat} {T : es_M} {E : es_I} (h : ez_e3 M T E = true) : ez_e2 M T E = true := by
  unfold ez_e3 at h
  rw [← ew_hok_eq, ← ew_cok_eq] at h
  exact h
theorem ez_e3_all {M : Nat} {T : es_M} (h : (es_tab T).all (fun q => q.2.all (ez_e3 M T)) = true) : ∀ q ∈ es_tab T, ∀ E ∈ q.2, ez_e2 M T E = true := fun q hq E hE => ez_e3_ok (List.all_eq_true.mp (List.all_eq_true.mp h q hq) E hE)
