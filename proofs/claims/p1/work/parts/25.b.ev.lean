theorem es_strs_ok {s : State} {b : Nat} (hts : ∀ w ∈ lw_tbl, w.before #[Value.ref b] s = true) (hgv : (Jvm.Cond.and given_1 narrow_1).before #[Value.ref b] s = true) : ∀ q ∈ es_strs, ∃ sa, vk_R q.1 q.2.1 q.2.2 sa s := by
  have hs := flat_of_before _ hgv
  intro q hq
  unfold es_strs at hq
  simp only [List.mem_cons, List.not_mem_nil, or_false] at hq
  rcases hq with rfl | rfl | rfl | rfl | rfl | rfl
  · obtain ⟨a, -, -, -, ha, -⟩ := Cond.exactly_spec (hs (Cond.exactly (.string "NailGold" 405) "java/lang/String") (by decide +kernel))
    exact ⟨a, vk_R.of (hts (.stringRef "NailGold" 405 "no such man") (List.mem_of_getElem? (i := 1026) (by decide +kernel))) ha⟩
  · obtain ⟨a, -, -, -, ha, -⟩ := Cond.exactly_spec (hs (Cond.exactly (.string "NailGold" 411) "java/lang/String") (by decide +kernel))
    exact ⟨a, vk_R.of (hts (.stringRef "NailGold" 411 "the number is none") (List.mem_of_getElem? (i := 1174) (by decide +kernel))) ha⟩
  · obtain ⟨a, -, -, -, ha, -⟩ := Cond.exactly_spec (hs (Cond.exactly (.string "NailGold" 162) "java/lang/String") (by decide +kernel))
    exact ⟨a, vk_R.of (hts (.stringRef "NailGold" 162 "no such what") (List.mem_of_getElem? (i := 1008) (by decide +kernel))) ha⟩
  · obtain ⟨a, -, -, -, ha, -⟩ := Cond.exactly_spec (hs (Cond.exactly (.string "NailGold" 402) "java/lang/String") (by decide +kernel))
    exact ⟨a, vk_R.of (hts (.stringRef "NailGold" 402 "no such step") (List.mem_of_getElem? (i := 988) (by decide +kernel))) ha⟩
  · obtain ⟨a, -, -, -, ha, -⟩ := Cond.exactly_spec (hs (Cond.exactly (.string "NailGold" 409) "java/lang/String") (by decide +kernel))
    exact ⟨a, vk_R.of (hts (.stringRef "NailGold" 409 "no such rival") (List.mem_of_getElem? (i := 1094) (by decide +kernel))) ha⟩
  · obtain ⟨a, -, -, -, ha, -⟩ := Cond.exactly_spec (hs (Cond.exactly (.string "NailGold" 407) "java/lang/String") (by decide +kernel))
    exact ⟨a, vk_R.of (hts (.stringRef "NailGold" 407 "no such test") (List.mem_of_getElem? (i := 1082) (by decide +kernel))) ha⟩
theorem es_ncs {s : State} {b : Nat} (hgv : (Jvm.Cond.and given_1 narrow_1).before #[Value.ref b] s = true) : ∀ x y : Nat, x < 5 → y < 5 → x ≠ y → va_Nc (es_exc x) (es_exc y) s := by
  have hs := flat_of_before _ hgv
  intro x y hx hy hne
  match x, y, hx, hy, hne with
  | 0, 0, _, _, h => exact absurd rfl h
  | 0, 1, _, _, _ => exact va_Nc.of (hs (Cond.not (.castable (es_exc 0) (es_exc 1))) (by decide +kernel))
  | 0, 2, _, _, _ => exact va_Nc.of (hs (Cond.not (.castable (es_exc 0) (es_exc 2))) (by decide +kernel))
  | 0, 3, _, _, _ => exact va_Nc.of (hs (Cond.not (.castable (es_exc 0) (es_exc 3))) (by decide +kernel))
  | 0, 4, _, _, _ => exact va_Nc.of (hs (Cond.not (.castable (es_exc 0) (es_exc 4))) (by decide +kernel))
  | 1, 0, _, _, _ => exact va_Nc.of (hs (Cond.not (.castable (es_exc 1) (es_exc 0))) (by decide +kernel))
  | 1, 1, _, _, h => exact absurd rfl h
  | 1, 2, _, _, _ => exact va_Nc.of (hs (Cond.not (.castable (es_exc 1) (es_exc 2))) (by decide +kernel))
  | 1, 3, _, _, _ => exact va_Nc.of (hs (Cond.not (.castable (es_exc 1) (es_exc 3))) (by decide +kernel))
  | 1, 4, _, _, _ => exact va_Nc.of (hs (Cond.not (.castable (es_exc 1) (es_exc 4))) (by decide +kernel))
  | 2, 0, _, _, _ => exact va_Nc.of (hs (Cond.not (.castable (es_exc 2) (es_exc 0))) (by decide +kernel))
  | 2, 1, _, _, _ => exact va_Nc.of (hs (Cond.not (.castable (es_exc 2) (es_exc 1))) (by decide +kernel))
  | 2, 2, _, _, h => exact absurd rfl h
  | 2, 3, _, _, _ => exact va_Nc.of (hs (Cond.not (.castable (es_exc 2) (es_exc 3))) (by decide +kernel))
  | 2, 4, _, _, _ => exact va_Nc.of (hs (Cond.not (.castable (es_exc 2) (es_exc 4))) (by decide +kernel))
  | 3, 0, _, _, _ => exact va_Nc.of (hs (Cond.not (.castable (es_exc 3) (es_exc 0))) (by decide +kernel))
  | 3, 1, _, _, _ => exact va_Nc.of (hs (Cond.not (.castable (es_exc 3) (es_exc 1))) (by decide +kernel))
  | 3, 2, _, _, _ => exact va_Nc.of (hs (Cond.not (.castable (es_exc 3) (es_exc 2))) (by decide +kernel))
  | 3, 3, _, _, h => exact absurd rfl h
  | 3, 4, _, _, _ => exact va_Nc.of (hs (Cond.not (.castable (es_exc 3) (es_exc 4))) (by decide +kernel))
  | 4, 0, _, _, _ => exact va_Nc.of (hs (Cond.not (.castable (es_exc 4) (es_exc 0))) (by decide +kernel))
  | 4, 1, _, _, _ => exact va_Nc.of (hs (Cond.not (.castable (es_exc 4) (es_exc 1))) (by decide +kernel))
  | 4, 2, _, _, _ => exact va_Nc.of (hs (Cond.not (.castable (es_exc 4) (es_exc 2))) (by decide +kernel))
  | 4, 3, _, _, _ => exact va_Nc.of (hs (Cond.not (.castable (es_exc 4) (es_exc 3))) (by decide +kernel))
  | 4, 4, _, _, h => exact absurd rfl h
  | x + 5, _, h, _, _ => exact absurd h (by omega)
  | _, y + 5, _, h, _ => exact absurd h (by omega)
theorem es_ev0 (l : Launch) (htr : l.stackTraces = false) {s : State} {b L : Nat} {xs : Nat → Int32} (hts : ∀ w ∈ lw_tbl, w.before #[Value.ref b] s = true) (hX : va_X b L xs s s.heap) (hbl : b < s.heap.size) (hgv : (Jvm.Cond.and given_1 narrow_1).before #[Value.ref b] s = true) :
    ∃ (D : va_G) (cI cJ cZ cC cM : ClassId), es_ev l es_strs es_wx L D cI cJ cZ cC cM s.heap.size b xs s := by
  have hs := flat_of_before _ hgv
  have htw : ∀ w ∈ es_WS, w.before #[Value.ref b] s = true := fun w hw => hts w (es_WSt w hw)
  obtain ⟨D, hD⟩ := es_D htw
  obtain ⟨cI, i1, i2⟩ := es_arrP (htw (.arrayClass .int) (es_wj_in (j := 167) (by decide +kernel)))
  obtain ⟨cJ, j1, j2⟩ := es_arrP (htw (.arrayClass .long) (es_wj_in (j := 442) (by decide +kernel)))
  obtain ⟨cZ, z1, z2⟩ := es_arrP (htw (.arrayClass .boolean) (es_wj_in (j := 1449) (by decide +kernel)))
  have ao1 : (Cond.arrayOver (.object RX2)).before #[Value.ref b] s = true := (hts (.arrayOver (.object RX2)) (List.mem_of_getElem? (i := 463) (by decide +kernel)))
  have ao2 : (Cond.arrayOver (.object RX7)).before #[Value.ref b] s = true := (hts (.arrayOver (.object RX7)) (List.mem_of_getElem? (i := 290) (by decide +kernel)))
  obtain ⟨cC, c1, c2⟩ := es_arrO ao1
  obtain ⟨cM, m1, m2⟩ := es_arrO ao2
  refine ⟨D, cI, cJ, cZ, cC, cM, ⟨hD, fun k q hk => ?_⟩, ⟨hbl, Nat.le_refl _, hX⟩, ⟨va_AO.of ao1, va_AO.of ao2⟩, htr, ?_, ?_, es_strs_ok hts hgv, fun w hw => ?_, es_ncs hgv⟩
  · match k, hk with
    | 0, hk => cases hk; exact ⟨i1, i2⟩
    | 1, hk => cases hk; exact ⟨j1, j2⟩
    | 2, hk => cases hk; exact ⟨z1, z2⟩
    | 3, hk => cases hk; exact ⟨c1, c2⟩
    | 4, hk => cases hk; exact ⟨m1, m2⟩
    | k + 5, hk => simp at hk
  · exact vx_Zqof (hts (.laysStatic Bundle.tN "UNASSIGNED_STACK" Bundle.steD) (List.mem_of_getElem? (i := 812) (by decide +kernel))) (hts (.initialized Bundle.tN) (List.mem_of_getElem? (i := 122) (by decide +kernel))) (hs (.isRef (.static Bundle.tN "UNASSIGNED_STACK" Bundle.steD)) (by decide +kernel)) (fun a ha => Nat.not_le.mpr ha)
  · exact vx_Zqof (hts (.laysStatic Bundle.tN "SUPPRESSED_SENTINEL" Bundle.listD) (List.mem_of_getElem? (i := 814) (by decide +kernel))) (hts (.initialized Bundle.tN) (List.mem_of_getElem? (i := 122) (by decide +kernel))) (hs (.isRef (.static Bundle.tN "SUPPRESSED_SENTINEL" Bundle.listD)) (by decide +kernel)) (fun a ha => Nat.not_le.mpr ha)
  · obtain ⟨h1, h2⟩ := es_wxt w hw
    exact va_Nw.of h2 (hts w h1)
