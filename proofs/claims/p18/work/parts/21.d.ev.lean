noncomputable def R_law : String := "NailGoldLaw"
noncomputable def lw_P (b : Addr) (xs : List Int32) (args : Array Value) (s : State) : Prop := args = #[.ref b] ∧ s.IntsAt b xs ∧ xs.length ≤ 3072 ∧ (Jvm.Cond.and given_1 narrow_1).before args s = true
noncomputable def lw_Q (_ : Array Value) (s : State) (o : Outcome) (t : State) : Prop := o = .returned (some (.int 1)) ∧ Framed s o t [] 601024 7293034
noncomputable def lw_Z (below : List Frame) (a : Array Value) (s : State) : State → Prop := fun t => ∃ o, t.status = .running ∧ Ended t below o ∧ lw_Q a s o t
theorem lw_ret {p : Program} {l : Launch} {e : Env} {s : State} {m : MethodId} {below : List Frame} {meth : Method} {c : Code} {b : Nat} (hx : p.tables.exec = Jvm.exec) (hb : c.code = code) (hr : meth.sig.returnType = ret) (hlocks : meth.locks = false) {pc : Nat} {H : Heap} {ls : Array Slot} (hdg : decode code pc = .ok (.ireturn, 1)) : W p l e room_1 s m #[Value.ref b] below meth c H [] 601024 7293034 (lw_Z below #[Value.ref b] s) (F0 m pc ls [.int 1]) := by
  intro T hT X
  obtain ⟨fs, hret, hrun, hended, hW, hframe⟩ := X.leave (v := some (.int 1)) (hlocks := hlocks) (fun h => by rw [hr] at h; cases h)
  have hmeth' : T.vm.method? m = some meth := X.method'
  refine ⟨T.setFrames fs, ?_, .returned (some (.int 1)), hrun, hended, rfl, ⟨_, rfl⟩, hW, hframe⟩
  jvm_step X.here [X.here.top, hx, hb, hdg, hmeth', hr, ret, narrow_b1]
  (try refine ⟨rfl, ?_⟩); (try refine ⟨rfl, ?_⟩)
  first | (intro acts; rw [hret _ acts rfl rfl rfl]) | rw [hret _ _ rfl rfl rfl]
  exact Steps.refl _
noncomputable def lw_At (p : Program) (s : State) (m : MethodId) (meth : Method) (c : Code) (b L : Nat) (xs : Nat → Int32) : Prop :=
  p.tables.exec = Jvm.exec ∧ c.code = code ∧ meth.sig.returnType = ret ∧ c.maxLocals = 7 ∧ s.vm.findClass R_law = some m.cls ∧ (∀ w ∈ lw_tbl, w.before #[Value.ref b] s = true) ∧ va_X b L xs s s.heap ∧ b < s.heap.size ∧ meth.locks = false ∧ (Jvm.Cond.and given_1 narrow_1).before #[Value.ref b] s = true ∧ ∀ x ∈ c.exceptionTable.toList, False
theorem es_arrP {s : State} {args : Array Value} {ty : FieldType} (h : (Cond.arrayClass ty).before args s = true) : ∃ cA : ClassId, ArrOfT s cA ty ∧ s.vm.findClass ("[" ++ ty.toString) = some cA := by
  obtain ⟨cA, kA, comp, h1, h2, h3⟩ := Cond.arrayClass_spec h
  exact ⟨cA, fun N z => ⟨(fun k h => by cases h), kA, h2, comp, h3⟩, h1⟩
theorem es_arrO {s : State} {args : Array Value} {C : String} (h : (Cond.arrayOver (.object C)).before args s = true) : ∃ cA : ClassId, ArrOfT s cA (.object C) ∧ va_RA s cA (.object C) := by
  obtain ⟨comp, cA, kA, h1, -, h3, h4, h5⟩ := Cond.arrayOver_spec h
  exact ⟨cA, fun N z => ⟨(fun k h => by cases h), kA, h3, comp, h4⟩, kA, comp, h3, h4, h1, h5⟩
theorem es_insts : ∀ (ci : Nat) (r : vw_C), vwCl[ci]? = some r → Cond.instantiable r.1 r.2.2 ∈ es_WS := by
  intro ci r h
  match ci, h with
  | 0, h => cases h; exact es_wj_in (j := 210) (by decide +kernel)
  | 1, h => cases h; exact es_wj_in (j := 184) (by decide +kernel)
  | 2, h => cases h; exact es_wj_in (j := 281) (by decide +kernel)
  | 3, h => cases h; exact es_wj_in (j := 169) (by decide +kernel)
  | 4, h => cases h; exact es_wj_in (j := 835) (by decide +kernel)
  | 5, h => cases h; exact es_wj_in (j := 194) (by decide +kernel)
  | 6, h => cases h; exact es_wj_in (j := 288) (by decide +kernel)
  | 7, h => cases h; exact es_wj_in (j := 300) (by decide +kernel)
  | 8, h => cases h; exact es_wj_in (j := 444) (by decide +kernel)
  | 9, h => cases h; exact es_wj_in (j := 402) (by decide +kernel)
  | 10, h => cases h; exact es_wj_in (j := 144) (by decide +kernel)
  | 11, h => cases h; exact es_wj_in (j := 136) (by decide +kernel)
  | 12, h => cases h; exact es_wj_in (j := 1368) (by decide +kernel)
  | t + 13, h => simp at h
theorem es_D {s : State} {args : Array Value} (hts : ∀ w ∈ es_WS, w.before args s = true) : ∃ D : va_G, ∀ (ci : Nat) (r : vw_C), vwCl[ci]? = some r → u_Kn s r.1 r.2.1 r.2.2 (D.1 ci) (D.2 ci) := by
  have h : ∀ ci : Nat, ∃ q : ClassId × (Nat → Nat), ∀ r : vw_C, vwCl[ci]? = some r → u_Kn s r.1 r.2.1 r.2.2 q.1 q.2 := fun ci => by
    cases hr : vwCl[ci]? with
    | none => exact ⟨(default, fun _ => 0), fun r h => by cases h⟩
    | some r =>
      obtain ⟨cC, iS, hk⟩ := u_known (C := r.1) (T := r.2.1) (N := r.2.2) (n := r.2.2) hts (es_uall ci r hr) (hts _ (es_insts ci r hr))
      exact ⟨(cC, iS), fun r' h => by cases h; exact hk⟩
  obtain ⟨f, hf⟩ := Classical.axiomOfChoice h
  exact ⟨(fun c => (f c).1, fun c => (f c).2), fun ci r hr => hf ci r hr⟩
noncomputable def es_sts (q : String × Nat × String) : List Cond := .exactly (.string q.1 q.2.1) "java/lang/String" :: .eq (.field (.string q.1 q.2.1) "java/lang/String" "coder" "B") (.int 0) :: .arrayOf (.field (.string q.1 q.2.1) "java/lang/String" "value" "[B") .byte :: .eq (.length (.field (.string q.1 q.2.1) "java/lang/String" "value" "[B")) (.int (Int32.ofNat (es_bs q.2.2).length)) :: (List.range (es_bs q.2.2).length).map (fun j => .eq (.elem (.field (.string q.1 q.2.1) "java/lang/String" "value" "[B") (.int (Int32.ofNat j))) (.int (nI ((es_bs q.2.2).getD j 0))))
noncomputable def es_sx : List (Nat × Nat) := [(261, 828), (282, 864), (438, 1008), (520, 1123), (538, 1162), (579, 1182), (422, 988), (454, 1026), (469, 1082), (485, 1094), (557, 1174), (502, 1116), (614, 1359), (134, 648), (167, 726), (202, 746), (219, 756), (228, 765), (142, 706), (150, 720), (158, 721), (174, 731), (183, 732), (192, 733), (210, 751), (237, 774), (244, 775), (252, 776), (304, 917), (312, 919), (321, 922), (416, 965), (409, 964), (327, 936), (334, 943), (341, 944), (349, 957), (357, 958), (367, 959), (377, 960), (383, 961), (393, 962), (402, 963), (780, 1675), (789, 1680), (798, 1681), (698, 1658), (709, 1659), (808, 1686), (828, 1703), (771, 1670), (689, 1657), (819, 1698), (838, 1704), (848, 1709), (858, 1714), (866, 1715), (875, 1716), (720, 1660), (727, 1661), (738, 1662), (748, 1663), (672, 1647), (680, 1648), (664, 1638), (756, 1664), (764, 1665), (638, 1609), (647, 1616), (657, 1625)]
noncomputable def es_stc (i : Nat) : Bool := match es_strs[i]?, es_sx[i]? with
  | some q, some (p, r) => (decide (((flatC (.and given_1 narrow_1)).drop p).take (es_sts q).length = es_sts q) && decide (lw_tbl[r]? = some (.stringRef q.1 q.2.1 q.2.2))) && Nat.blt (es_bs q.2.2).length 2147483648
  | _, _ => false
theorem es_stall : (List.range 70).all es_stc = true := by decide +kernel
theorem es_strs_len : es_strs.length = 70 := rfl
noncomputable def es_S2 (t : Nat × Nat) (n0 : Nat) (tx : String) (U : State) (H : Heap) : Prop :=
  va_O "java/lang/String" t.1 (es_A n0) U H ∧ va_OF "java/lang/String" "coder" "B" (.int 0) t.1 (es_A n0) U H ∧ va_OF "java/lang/String" "value" "[B" (.ref t.2) t.1 (es_A n0) U H ∧ va_T .byte t.2 (es_bs tx).length (fun j => .int (nI ((es_bs tx).getD j 0))) (es_A n0) U H ∧ (es_bs tx).length < 2147483648
theorem es_txt {s : State} {args : Array Value} {q : String × Nat × String} (hs : ∀ w ∈ es_sts q, w.before args s = true) (h2 : (Cond.stringRef q.1 q.2.1 q.2.2).before args s = true) (hN : (es_bs q.2.2).length < 2147483648) : ∃ t : Nat × Nat, vk_R q.1 q.2.1 q.2.2 t.1 s ∧ es_S2 t s.heap.size q.2.2 s s.heap := by
  have hA : ∀ a : Nat, a < s.heap.size → ¬ es_A s.heap.size a := fun a ha => Nat.not_le.mpr ha
  obtain ⟨a, c, cA, kA, q1, q2, q3, q4, q5, q6, -⟩ := Cond.exactly_spec (args := args) (first := s) (o := none) (s := s) (idx := []) (t := .string q.1 q.2.1) (cls := "java/lang/String") (hs _ (by simp [es_sts]))
  obtain ⟨t, ht, hT⟩ := va_Tof (args := args) (s := s) (tm := .field (.string q.1 q.2.1) "java/lang/String" "value" "[B") (ty := .byte) (N := (es_bs q.2.2).length) (f := fun j => .int (nI ((es_bs q.2.2).getD j 0))) (A := es_A s.heap.size) hN (hs _ (by simp [es_sts])) (va_eqt (hs _ (by simp [es_sts]))) (fun j hj => va_eqt (hs _ (by
    unfold es_sts
    exact List.mem_cons_of_mem _ (List.mem_cons_of_mem _ (List.mem_cons_of_mem _ (List.mem_cons_of_mem _ (List.mem_map.mpr ⟨j, List.mem_range.mpr hj, rfl⟩))))))) hA
  exact ⟨(a, t), vk_R.of h2 q1, ⟨cA, q3, q5, by rw [q6]; exact q2, hA a (Array.getElem?_eq_some_iff.mp q3).1⟩, vk_OFof q1 (va_eqt (hs _ (by simp [es_sts]))) hA, vk_OFof q1 ht hA, hT, hN⟩
theorem es_strs_ok {s : State} {b : Nat} (hts : ∀ w ∈ lw_tbl, w.before #[Value.ref b] s = true) (hgv : (Jvm.Cond.and given_1 narrow_1).before #[Value.ref b] s = true) : ∃ f : Nat → Nat × Nat, ∀ (si : Nat) (q : String × Nat × String), es_strs[si]? = some q → vk_R q.1 q.2.1 q.2.2 (f si).1 s ∧ es_S2 (f si) s.heap.size q.2.2 s s.heap := by
  have hs := flat_of_before _ hgv
  have h0 : ∀ si : Nat, ∃ t : Nat × Nat, ∀ q : String × Nat × String, es_strs[si]? = some q → vk_R q.1 q.2.1 q.2.2 t.1 s ∧ es_S2 t s.heap.size q.2.2 s s.heap := by
    intro si
    cases hq : es_strs[si]? with
    | none => exact ⟨(0, 0), fun q h => by cases h⟩
    | some q =>
      have hi : si < 70 := by
        have h1 := (List.getElem?_eq_some_iff.mp hq).1
        rw [es_strs_len] at h1
        exact h1
      have h1 := List.all_eq_true.mp es_stall si (List.mem_range.mpr hi)
      unfold es_stc at h1
      rw [hq] at h1
      split at h1
      · rename_i q' p r hq1 hx
        cases hq1
        simp only [Bool.and_eq_true, es_blt] at h1
        obtain ⟨⟨h2, h3⟩, h4⟩ := h1
        have h2' := of_decide_eq_true h2
        have h3' := of_decide_eq_true h3
        obtain ⟨t, ht⟩ := es_txt (s := s) (args := #[Value.ref b]) (q := q) (fun w hw => hs w (by
          rw [← h2'] at hw
          exact List.mem_of_mem_drop (List.mem_of_mem_take hw))) (hts _ (List.mem_of_getElem? h3')) h4
        exact ⟨t, fun q1 h => by cases h; exact ht⟩
      · cases h1
  exact Classical.axiomOfChoice h0
theorem es_ncl : ((List.range 5).all fun x => (List.range 5).all fun y => Nat.beq x y || decide (Cond.not (.castable (es_exc x) (es_exc y)) ∈ flatC (.and given_1 narrow_1))) = true := by decide +kernel
theorem es_ncs {s : State} {b : Nat} (hgv : (Jvm.Cond.and given_1 narrow_1).before #[Value.ref b] s = true) : ∀ x y : Nat, x < 5 → y < 5 → x ≠ y → va_Nc (es_exc x) (es_exc y) s := by
  have hs := flat_of_before _ hgv
  intro x y hx hy hne
  have h1 := List.all_eq_true.mp es_ncl x (List.mem_range.mpr hx)
  have h2 : (Nat.beq x y || decide (Cond.not (.castable (es_exc x) (es_exc y)) ∈ flatC (.and given_1 narrow_1))) = true := List.all_eq_true.mp h1 y (List.mem_range.mpr hy)
  rw [Bool.or_eq_true] at h2
  rcases h2 with h3 | h3
  · exact absurd (Nat.eq_of_beq_eq_true h3) hne
  · exact va_Nc.of (hs _ (of_decide_eq_true h3))
noncomputable def es_bf (b0 : Nat) (f : Nat → Nat × Nat) (k : Nat) : Nat := if k = 0 then b0 else if k % 2 = 1 then (f (k / 2)).1 else (f (k / 2 - 1)).2
theorem es_bf1 (b0 : Nat) (f : Nat → Nat × Nat) (i : Nat) : es_bf b0 f (2 * i + 1) = (f i).1 := by
  unfold es_bf
  rw [if_neg (by omega), if_pos (by omega), show (2 * i + 1) / 2 = i by omega]
theorem es_bf2 (b0 : Nat) (f : Nat → Nat × Nat) (i : Nat) : es_bf b0 f (2 * i + 2) = (f i).2 := by
  unfold es_bf
  rw [if_neg (by omega), if_neg (by omega), show (2 * i + 2) / 2 - 1 = i by omega]
theorem es_ev0 (l : Launch) (htr : l.stackTraces = false) {s : State} {b0 L : Nat} {xs : Nat → Int32} (hts : ∀ w ∈ lw_tbl, w.before #[Value.ref b0] s = true) (hX : va_X b0 L xs s s.heap) (hbl : b0 < s.heap.size) (hgv : (Jvm.Cond.and given_1 narrow_1).before #[Value.ref b0] s = true) :
    ∃ (D : va_G) (cI cJ cZ cC cM : ClassId) (b : Nat → Nat), b 0 = b0 ∧ es_ev l es_strs es_wx L D cI cJ cZ cC cM s.heap.size b xs s := by
  have hs := flat_of_before _ hgv
  have htw : ∀ w ∈ es_WS, w.before #[Value.ref b0] s = true := fun w hw => hts w (es_WSt w hw)
  obtain ⟨D, hD⟩ := es_D htw
  obtain ⟨cI, i1, i2⟩ := es_arrP (htw (.arrayClass .int) (es_wj_in (j := 167) (by decide +kernel)))
  obtain ⟨cJ, j1, j2⟩ := es_arrP (htw (.arrayClass .long) (es_wj_in (j := 442) (by decide +kernel)))
  obtain ⟨cZ, z1, z2⟩ := es_arrP (htw (.arrayClass .boolean) (es_wj_in (j := 1449) (by decide +kernel)))
  have ao1 : (Cond.arrayOver (.object RX2)).before #[Value.ref b0] s = true := (hts (.arrayOver (.object RX2)) (List.mem_of_getElem? (i := 463) (by decide +kernel)))
  have ao2 : (Cond.arrayOver (.object RX7)).before #[Value.ref b0] s = true := (hts (.arrayOver (.object RX7)) (List.mem_of_getElem? (i := 290) (by decide +kernel)))
  obtain ⟨cC, c1, c2⟩ := es_arrO ao1
  obtain ⟨cM, m1, m2⟩ := es_arrO ao2
  obtain ⟨f, hf⟩ := es_strs_ok hts hgv
  refine ⟨D, cI, cJ, cZ, cC, cM, es_bf b0 f, rfl, ⟨hD, fun k q hk => ?_⟩, ⟨hbl, Nat.le_refl _, hX⟩, ⟨va_AO.of ao1, va_AO.of ao2⟩, htr, ?_, ?_, fun si q hq => ?_, fun w hw => ?_, es_ncs hgv, ?_, ?_⟩
  · match k, hk with
    | 0, hk => cases hk; exact ⟨i1, i2⟩
    | 1, hk => cases hk; exact ⟨j1, j2⟩
    | 2, hk => cases hk; exact ⟨z1, z2⟩
    | 3, hk => cases hk; exact ⟨c1, c2⟩
    | 4, hk => cases hk; exact ⟨m1, m2⟩
    | k + 5, hk => simp at hk
  · exact vx_Zqof (hts (.laysStatic Bundle.tN "UNASSIGNED_STACK" Bundle.steD) (List.mem_of_getElem? (i := 812) (by decide +kernel))) (hts (.initialized Bundle.tN) (List.mem_of_getElem? (i := 122) (by decide +kernel))) (hs (.isRef (.static Bundle.tN "UNASSIGNED_STACK" Bundle.steD)) (by decide +kernel)) (fun a ha => Nat.not_le.mpr ha)
  · exact vx_Zqof (hts (.laysStatic Bundle.tN "SUPPRESSED_SENTINEL" Bundle.listD) (List.mem_of_getElem? (i := 814) (by decide +kernel))) (hts (.initialized Bundle.tN) (List.mem_of_getElem? (i := 122) (by decide +kernel))) (hs (.isRef (.static Bundle.tN "SUPPRESSED_SENTINEL" Bundle.listD)) (by decide +kernel)) (fun a ha => Nat.not_le.mpr ha)
  · obtain ⟨h1, h2⟩ := hf si q hq
    unfold es_SS
    rw [es_bf1, es_bf2]
    exact ⟨h1, h2⟩
  · obtain ⟨h1, h2⟩ := es_wxt w hw
    exact va_Nw.of h2 (hts w h1)
  · exact va_Zof (hts (.laysStatic "java/lang/String" "COMPACT_STRINGS" "Z") (List.mem_of_getElem? (i := 662) (by decide +kernel))) (hts (.initialized "java/lang/String") (List.mem_of_getElem? (i := 118) (by decide +kernel))) (va_eqt (hs (.eq (.static "java/lang/String" "COMPACT_STRINGS" "Z") (.int 1)) (by decide +kernel))) (fun a ha => Nat.not_le.mpr ha)
  · exact va_Zqof (hts (.laysStatic "jdk/internal/util/Preconditions" "SIOOBE_FORMATTER" "Ljava/util/function/BiFunction;") (List.mem_of_getElem? (i := 678) (by decide +kernel))) (hts (.initialized "jdk/internal/util/Preconditions") (List.mem_of_getElem? (i := 120) (by decide +kernel))) (hs (.isRef (.static "jdk/internal/util/Preconditions" "SIOOBE_FORMATTER" "Ljava/util/function/BiFunction;")) (by decide +kernel)) (fun a ha => Nat.not_le.mpr ha)
