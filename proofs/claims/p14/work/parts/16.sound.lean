section Snd
variable {l : Launch} {strs : List (String × Nat × String)} {wx : List Cond} {WS : List Cond} {SL : Nat} {D : va_G} {cI cJ cZ cC cM : ClassId} {n0 : Nat} {b : Nat → Nat} {ρ : Nat → Int32} {ME : Nat → es_M}
variable {p : Program} {e : Env} {R : Room} {s : State} {m : MethodId} {args : Array Value} {below : List Frame} {meth : Method} {c : Code} {Q : State → Prop}
theorem es_take {S : List es_V} {n : Nat} {st : List Value} (hs : es_sr n0 b ρ S st) : ∃ xs ys, st = xs ++ ys ∧ es_sr n0 b ρ (S.take n) xs ∧ es_sr n0 b ρ (S.drop n) ys := by
  rw [← List.take_append_drop n S] at hs
  exact es_sr_app _ _ _ hs
/-- a call's contract -/
theorem es_inv1_ok (G : es_GH strs wx WS ME) {ih : Nat → es_K → Option (List es_E)} (hih : ∀ (M : Nat) (K : es_K) (ends : List es_E), ih M K = some ends → es_RS l strs wx WS SL D cI cJ cZ cC cM n0 b ρ (ME M) K ends) {M M' : Nat} {vs rest : List es_V} {AH : List es_O} {F : es_F} {cs ss : Nat} {lfs : List es_Lf} {w : Nat} (h : es_inv1 ME w ih M M' vs rest AH F cs ss = some lfs) {xs : List Value} (hvs : es_sr n0 b ρ vs xs) (hF : es_fr ρ F) (hR : es_mc (ME M) ≤ R.cells ∧ es_ms (ME M) ≤ R.slots ∧ es_rf (ME M) ≤ R.frames ∧ es_lo (ME M) ≤ R.locals) :
    vx_Met l (es_y (ME M')) (es_cw (ME M') :: WS) (es_room (ME M')) (es_Pc l strs wx SL D cI cJ cZ cC cM n0 b ρ xs AH) (es_Qc D (es_TY cI cJ cZ cC cM) n0 b ρ lfs) (es_XC D (es_TY cI cJ cZ cC cM) n0 b ρ lfs) (es_mc (ME M')) (es_ms (ME M')) (es_A n0) ∧ es_cts rest ≤ w ∧ ((es_room (ME M')).frames + 1 ≤ R.frames ∧ 8 + (es_mL (ME M') + 11) + (es_room (ME M')).locals ≤ R.locals) ∧ (cs + es_mc (ME M') ≤ R.cells ∧ ss + es_ms (ME M') ≤ R.slots) ∧ es_cw (ME M') ∈ WS ∧ 16 + (es_mL (ME M') + 11) + (es_room (ME M')).locals ≤ R.locals := by
  unfold es_inv1 at h
  cases hc : ((Nat.ble (es_cts vs) (es_mL (ME M')) && (Nat.ble (es_cts rest) w && es_cx M')) && ((Nat.blt (es_rf (ME M')) (es_rf (ME M)) && Nat.ble (27 + es_mL (ME M') + es_lo (ME M')) (es_lo (ME M))) && (Nat.ble (cs + es_mc (ME M')) (es_mc (ME M)) && Nat.ble (ss + es_ms (ME M')) (es_ms (ME M)))))
  · rw [hc] at h; cases h
  · rw [hc] at h
    try dsimp only [cond_true] at h
    simp only [Bool.and_eq_true, es_blt, Nat.ble_eq] at hc
    obtain ⟨⟨c1, c2, ccx⟩, ⟨c3, c4⟩, c5, c6⟩ := hc
    split at h
    · rename_i ends hrun
      split at h
      rotate_left
      · cases h
      rename_i lfs0 hcat
      cases h
      refine ⟨es_met G.1 (G.2.2.2.1 M') (hih M' _ _ hrun) hcat hvs c1 hF, c2, ⟨?_, ?_⟩, ⟨by omega, by omega⟩, G.2.2.2.2.1 M' ccx, by show 16 + (es_mL (ME M') + 11) + es_lo (ME M') ≤ _; omega⟩
      · show es_rf (ME M') + 1 ≤ _; omega
      · show 8 + (es_mL (ME M') + 11) + es_lo (ME M') ≤ _; omega
    · cases h
theorem es_cpy_ad (t : Nat) (cs cd : List (Nat × es_V)) (sp dp k : Nat) : ∀ n, es_ad t (es_copy t cs cd sp dp n) k = if dp ≤ k ∧ k < dp + n then es_ad t cs (sp + (k - dp)) else es_ad t cd k
  | 0 => by
    rw [if_neg (by omega)]
    rfl
  | n + 1 => by
    show es_ad t (es_aset t (es_copy t cs cd sp dp n) (dp + n) (es_ad t cs (sp + n))) k = _
    rw [es_ad_set, es_cpy_ad t cs cd sp dp k n]
    by_cases h : k = dp + n
    · subst h
      rw [if_pos rfl, if_pos (by omega)]
      congr 1
      omega
    · rw [if_neg h]
      by_cases h2 : dp ≤ k ∧ k < dp + n
      · rw [if_pos h2, if_pos (by omega)]
      · rw [if_neg h2, if_neg (by omega)]
theorem es_ad_ti {c : List (Nat × es_V)} (h : c.all (fun x => es_ti x.2) = true) (j : Nat) : es_ti (es_ad 0 c j) = true := by
  induction c with
  | nil => rfl
  | cons q t ih =>
    rw [List.all_cons, Bool.and_eq_true] at h
    unfold es_ad es_get
    cases hb : Nat.beq q.1 j
    · exact ih h.2
    · exact h.1
theorem es_acp {cc : ByteArray} (hexec : p.tables.exec = Jvm.exec) (hb : c.code = cc) {ls : Array Slot} (hml : c.maxLocals = ls.size) {own : String} {index : Nat} (hown : s.vm.findClass own = some m.cls) (hlink : (Cond.methodLink own index arraycopyName).before args s = true) (hnat : (Cond.native arraycopyName).before args s = true) (hstat : (Cond.static arraycopyName).before args s = true) (hini : (Cond.initialized "java/lang/System").before args s = true)
    (hK : va_K D vwCl (es_TY cI cJ cZ cC cM) s) {H : Heap} {locs : List Loc} {cells slots pc : Nat} {rest : List Value} {a0 a : Nat} {N0 N1 : Nat} {V0 V1 : Nat → Value} (hc0 : H[a0]? = some (arrV cI N0 V0)) (hc1 : H[a]? = some (arrV cI N1 V1)) {sp dp n : Nat} (hN0 : N0 < 2147483648) (hN1 : N1 < 2147483648) (h4 : sp + n ≤ N0) (h5 : dp + n ≤ N1) (hi : ∀ j, ∃ z, j < N0 → V0 j = .int z)
    (hframes : 1 ≤ R.frames) (hlocals : (rest.map fun v => v.category).sum + (nativeFrameWords "java/lang/System" "arraycopy" 5 + 11) ≤ R.locals) (hdg : decode cc pc = .ok (.invokestatic index, 3))
    (kk : ∀ (H1 : Heap) (L : List Loc), H1[a]? = some (arrV cI N1 (va_cpy V0 V1 sp dp n)) → H1.size = H.size → (∀ q : Nat, q ≠ a → H1[q]? = H[q]?) → (∀ z ∈ L, z.base = a) → W p l e R s m args below meth c H1 (locs ++ L) cells slots Q (F0 m (pc + 3) ls rest)) : W p l e R s m args below meth c H locs cells slots Q (F0 m pc ls (.int (nI n) :: .int (nI dp) :: .ref a :: .int (nI sp) :: .ref a0 :: rest)) := by
  have nn : ∀ z : Nat, z < 2147483648 → (nI z).toInt = (z : Int) := fun z hz => by
    rw [es_nIt]
    simp only [Int.bmod]
    split <;> omega
  have ng : ∀ z : Nat, z < 2147483648 → ¬ nI z < 0 := fun z hz h => by
    have h2 := Int32.lt_iff_toInt_lt.mp h
    rw [nn z hz] at h2
    have h3 : (z : Int) < 0 := h2
    omega
  intro T hT X
  obtain ⟨-, k0, hk0, cm0, hkk0⟩ := (hK.2 0 _ rfl).1 N0 V0
  obtain ⟨-, k1, hk1, cm1, hkk1⟩ := (hK.2 0 _ rfl).1 N1 V1
  obtain ⟨vm', X', step⟩ := X.arraycopy hexec hown hlink hnat hstat hini (src := a0) (dst := a) (cs := arrV cI N0 V0) (cd := arrV cI N1 V1) (srcPos := nI sp) (destPos := nI dp) (n := nI n) (by rw [hT]; exact hc0) (by rw [hT]; exact hc1)
    (fun _ h => by cases h) (fun _ h => by cases h) (fun h => by cases h) (fun h => by cases h) hk0 hk1 hkk0 hkk1 (by simp [refKind]) (ng _ (by omega)) (ng _ (by omega)) (ng _ (by omega))
    (by rw [nn sp (by omega), nn n (by omega)]; show ¬ _ > ((arrV cI N0 V0).slots.size : Int); rw [arrV_size]; omega)
    (by rw [nn dp (by omega), nn n (by omega)]; show ¬ _ > ((arrV cI N1 V1).slots.size : Int); rw [arrV_size]; omega)
    (fun vm₁ _ i hi2 => by
      rw [nI_clamp (by omega)] at hi2
      rw [nI_clamp (by omega)]
      have e : (arrV cI N0 V0).slots.getD (sp + i) .null = V0 (sp + i) := by
        rw [Array.getD_eq_getD_getElem?, arrV_read _ _ (by omega)]
        rfl
      obtain ⟨z, hz⟩ := hi (sp + i)
      rw [e, hz (by omega)]
      exact ⟨rfl, trivial⟩)
    (g := F0 m pc ls (.int (nI n) :: .int (nI dp) :: .ref a :: .int (nI sp) :: .ref a0 :: rest)) rfl (by rw [hml]) (rest := rest) rfl (by rw [hb]; exact hdg) hframes (by show 2 * 0 + _ + _ ≤ _; omega)
  have e1 : copied (arrV cI N0 V0) (arrV cI N1 V1) (nI sp) (nI dp) (nI n) = arrV cI N1 (va_cpy V0 V1 sp dp n) := by
    unfold copied
    rw [nI_clamp (by omega), nI_clamp (by omega), nI_clamp (by omega)]
    exact va_copied (fun z => z) cI cI V0 V1 h4
  rw [e1] at X' step
  have hl : a < H.size := (Array.getElem?_eq_some_iff.mp hc1).1
  have hheap : ((T.setVm vm').setCell a (arrV cI N1 (va_cpy V0 V1 sp dp n))).heap = H.setIfInBounds a (arrV cI N1 (va_cpy V0 V1 sp dp n)) := by rw [← hT]; rfl
  obtain ⟨t, a1, b1⟩ := kk _ _ (show (H.setIfInBounds a (arrV cI N1 (va_cpy V0 V1 sp dp n)))[a]? = some _ by simp [Array.getElem?_setIfInBounds, hl]) (by simp) (fun q hq => by simp [Array.getElem?_setIfInBounds, Ne.symm hq]) (fun z hz => by
    obtain ⟨y, -, hy⟩ := List.mem_map.mp hz
    rw [← hy]) _ hheap X'
  exact ⟨t, step t a1, b1⟩
theorem es_str_ok (G : es_GH strs wx WS ME) {M : Nat} (fc : es_FC WS SL D cI cJ cZ cC cM n0 b ρ p R s m args meth c (ME M)) (hev : es_ev l strs wx SL D cI cJ cZ cC cM n0 b ρ s) {ent : es_I} (hsok : es_sok strs WS (ME M) ent = true) {f a : Nat} {tl : List Nat} (haux : ent.2.2.2 = 60 :: f :: a :: tl) {K K' : es_K} (hlen : (∀ d1 d2 d3 d4, ent.2.1 ≠ .tableswitch d1 d2 d3 d4) → decode (es_code (ME M)) K.1 = .ok (ent.2.1, es_len ent.2.1)) (h : es_str strs f a (es_len ent.2.1) K = some K')
    (k : es_G p l e R s m args below meth c Q D (es_TY cI cJ cZ cC cM) n0 b ρ (es_mL (ME M)) K') : es_G p l e R s m args below meth c Q D (es_TY cI cJ cZ cC cM) n0 b ρ (es_mL (ME M)) K := by
  intro H ls locs st hinv
  obtain ⟨pc, L, S, AH, F, cs, ss⟩ := K
  obtain ⟨hl, hs, hH, hF, hS⟩ := hinv
  obtain ⟨hx, hb, hml, hown, hts, hK, hR, hin, hscr, hao, -⟩ := id fc
  obtain ⟨-, -, -, -, -, -, hst, -, -, hZ, hZ2⟩ := hev
  obtain ⟨epc, ins, len, aux⟩ := ent
  dsimp only at hl hs hH hF haux hlen ⊢
  subst haux
  unfold es_sok at hsok
  unfold es_str at h
  dsimp only at h hsok
  split at hsok
  rotate_left
  · rename_i hne
    exact absurd rfl (hne _ _ _)
  rename_i f' a' tl' heq
  cases heq
  split at hsok
  -- ldc
  · rename_i idx
    replace h : some (pc + es_len (Instr.ldc idx), L, (8, a) :: S, AH, F, cs, ss) = some K' := h
    cases h
    have hd := hlen (fun _ _ _ _ h9 => by cases h9)
    cases hq : strs[a]? with
    | none => rw [hq] at hsok; cases hsok
    | some q =>
      rw [hq] at hsok
      dsimp only at hsok
      rw [Bool.and_eq_true] at hsok
      have g1 := of_decide_eq_true hsok.1
      have g2 := of_decide_eq_true hsok.2
      have hz := (hst a q hq).1
      rw [g1, g2] at hz
      exact va_ldcS hx hb hown hz hd (k H ls locs _ ⟨hl, ⟨_, _, rfl, rfl, hs⟩, hH, hF, hS⟩)
  -- value
  · rename_i idx
    replace h : es_q1 strs pc L S AH F cs ss = some K' := h
    unfold es_q1 at h
    split at hsok
    · rename_i j
      have hd := hlen (fun _ _ _ _ h9 => by cases h9)
      split at h
      · rename_i v S'
        cases ho : (Nat.beq v.1 8 && Nat.blt v.2 strs.length)
        · rw [ho] at h; cases h
        · rw [ho] at h
          cases h
          rw [Bool.and_eq_true, es_blt] at ho
          obtain ⟨x, st', rfl, hv, hs'⟩ := hs
          obtain ⟨t9, si⟩ := v
          have e9 := es_beq.mp ho.1
          dsimp only at e9
          subst e9
          have e2 : x = .ref (b (2 * si + 1)) := hv
          subst e2
          exact vk_getf hx hb (hst si _ (List.getElem?_eq_getElem ho.2)).2.2.2.1 hS hown (hts _ (es_wj_in hsok)) (fun x h => h) hd (k H ls locs _ ⟨hl, ⟨_, _, rfl, rfl, hs'⟩, hH, hF, hS⟩)
      · cases h
    · cases hsok
  -- coder
  · rename_i idx
    replace h : es_q2 strs pc L S AH F cs ss = some K' := h
    unfold es_q2 at h
    split at hsok
    · rename_i j
      have hd := hlen (fun _ _ _ _ h9 => by cases h9)
      split at h
      · rename_i v S'
        cases ho : (Nat.beq v.1 8 && Nat.blt v.2 strs.length)
        · rw [ho] at h; cases h
        · rw [ho] at h
          cases h
          rw [Bool.and_eq_true, es_blt] at ho
          obtain ⟨x, st', rfl, hv, hs'⟩ := hs
          obtain ⟨t9, si⟩ := v
          have e9 := es_beq.mp ho.1
          dsimp only at e9
          subst e9
          have e2 : x = .ref (b (2 * si + 1)) := hv
          subst e2
          exact vk_getf hx hb (hst si _ (List.getElem?_eq_getElem ho.2)).2.2.1 hS hown (hts _ (es_wj_in hsok)) (fun x h => h) hd (k H ls locs _ ⟨hl, ⟨_, _, rfl, by show Value.int 0 = Value.int (nI 0); rw [nI_0], hs'⟩, hH, hF, hS⟩)
      · cases h
    · cases hsok
  -- length
  · replace h : es_q3 strs pc L S AH F cs ss = some K' := h
    unfold es_q3 at h
    have hd := hlen (fun _ _ _ _ h9 => by cases h9)
    split at h
    · rename_i v S'
      split at h
      · rename_i q hq
        cases ho : Nat.beq v.1 9
        · rw [ho] at h; cases h
        · rw [ho] at h
          cases h
          obtain ⟨x, st', rfl, hv, hs'⟩ := hs
          obtain ⟨t9, si⟩ := v
          have e9 := es_beq.mp ho
          dsimp only at e9 hq
          subst e9
          have e2 : x = .ref (b (2 * si + 2)) := hv
          subst e2
          exact va_tlen hx hb (hst si q hq).2.2.2.2.1 hS rfl hd (k H ls locs _ ⟨hl, ⟨_, _, rfl, rfl, hs'⟩, hH, hF, hS⟩)
      · cases h
    · cases h
  -- byte
  · replace h : es_q4 strs pc L S AH F cs ss = some K' := h
    unfold es_q4 at h
    have hd := hlen (fun _ _ _ _ h9 => by cases h9)
    split at h
    · rename_i j v S'
      split at h
      · rename_i q jn hq hj
        cases ho : (Nat.beq v.1 9 && Nat.blt jn (es_bs q.2.2).length)
        · rw [ho] at h; cases h
        · rw [ho] at h
          cases h
          rw [Bool.and_eq_true, es_blt] at ho
          obtain ⟨xj, st1, rfl, hvj, x, st', rfl, hv, hs'⟩ := hs
          obtain ⟨t9, si⟩ := v
          have e9 := es_beq.mp ho.1
          dsimp only at e9 hq
          subst e9
          have e2 : x = .ref (b (2 * si + 2)) := hv
          subst e2
          have e3 := es_kn_ok hF hvj hj
          subst e3
          have hT := (hst si q hq).2.2.2.2
          refine va_tb hx hb hT.1 hS (vp_in_nI ho.2 hT.2) rfl hd (k H ls locs _ ⟨hl, ⟨_, _, rfl, ?_, hs'⟩, hH, hF, hS⟩)
          show Value.int _ = Value.int _
          rw [nI_clamp (by have := hT.2; omega)]
      · cases h
    · cases h
  -- static
  · rename_i idx
    replace h : some (pc + 3, L, (0, 1) :: S, AH, F, cs, ss) = some K' := h
    split at hsok
    · rename_i j
      cases h
      have hd := hlen (fun _ _ _ _ h9 => by cases h9)
      exact va_gets hx hb hZ hS hown (hts _ (es_wj_in hsok)) (fun x h => h) hd (k H ls locs _ ⟨hl, ⟨_, _, rfl, rfl, hs⟩, hH, hF, hS⟩)
    · cases hsok
  -- static reference
  · rename_i idx
    replace h : some (pc + 3, L, (10, 0) :: S, AH, F, cs, ss) = some K' := h
    split at hsok
    · rename_i j
      cases h
      have hd := hlen (fun _ _ _ _ h9 => by cases h9)
      rcases hZ2 with hZ3 | ⟨t9, hZ3⟩
      · exact va_gets hx hb hZ3 hS hown (hts _ (es_wj_in hsok)) (fun x h => h) hd (k H ls locs _ ⟨hl, ⟨_, _, rfl, Or.inl rfl, hs⟩, hH, hF, hS⟩)
      · exact va_gets hx hb hZ3 hS hown (hts _ (es_wj_in hsok)) (fun x h => h) hd (k H ls locs _ ⟨hl, ⟨_, _, rfl, Or.inr ⟨_, rfl⟩, hs⟩, hH, hF, hS⟩)
    · cases hsok
  · cases hsok
theorem es_emp {hh : List (Nat × Nat × Nat × Nat)} (h : hh.isEmpty = true) : hh = [] := by cases hh <;> simp_all
set_option maxHeartbeats 8000000 in
theorem es_step_ok (G : es_GH strs wx WS ME) {ih : Nat → es_K → Option (List es_E)} (hihA : ∀ (ρ : Nat → Int32) (M : Nat) (K : es_K) (ends : List es_E), ih M K = some ends → es_RS l strs wx WS SL D cI cJ cZ cC cM n0 b ρ (ME M) K ends) (M : Nat) (K : es_K) (ends : List es_E) (h : es_step ME strs SL ih M K = some ends) : es_RS l strs wx WS SL D cI cJ cZ cC cM n0 b ρ (ME M) K ends := by
  have hih := hihA ρ
  intro p e R s m args below meth c Q fc hev htab hends
  have hK0 : ∀ E : es_E, E = (0, K) → E ∈ ends → es_G p l e R s m args below meth c Q D (es_TY cI cJ cZ cC cM) n0 b ρ (es_mL (ME M)) K := fun E h1 h2 => by
    have h3 := hends E h2
    rw [h1] at h3
    exact h3
  have hgo : ∀ (K' : es_K) (ends' : List es_E), ih M K' = some ends' → (∀ E ∈ ends', E ∈ ends) → es_G p l e R s m args below meth c Q D (es_TY cI cJ cZ cC cM) n0 b ρ (es_mL (ME M)) K' := fun K' ends' h1 h2 => hih M K' ends' h1 p e R s m args below meth c Q fc hev htab (fun E hE => hends E (h2 E hE))
  obtain ⟨pc, L, S, AH, F, cs, ss⟩ := K
  obtain ⟨hx, hb, hml, hown, hts, hK, hR, hinit, hscr, hao, hlocks, hr⟩ := id fc
  unfold es_step at h
  try dsimp only at h
  split at h
  · cases h
  · rename_i ent hat
    obtain ⟨e1, qq, hq1, hq2⟩ := es_at_ok hat
    obtain ⟨hdk, htok⟩ := (G.2.2.2.1 M).2.2 qq hq1 ent hq2
    obtain ⟨⟨hhok, hcok⟩, hsok⟩ := G.2.2.2.2.2.1 M qq hq1 ent hq2
    unfold es_dok at hdk
    rw [Bool.and_eq_true] at hdk
    have hd := of_decide_eq_true hdk.1
    rw [e1] at hd
    have hlen : (∀ d1 d2 d3 d4, ent.2.1 ≠ .tableswitch d1 d2 d3 d4) → decode (es_code (ME M)) pc = .ok (ent.2.1, es_len ent.2.1) := fun hne => by
      have h2 := hdk.2
      split at h2
      · rename_i hts2; exact absurd hts2 (hne _ _ _ _)
      · rw [hd, es_beq.mp h2]
    split at h
    · cases h; exact hK0 _ rfl (List.mem_singleton.mpr rfl)
    · cases h; exact hK0 _ rfl (List.mem_singleton.mpr rfl)
    · rename_i f a tl haux
      split at h
      · rename_i K' hstr
        exact es_str_ok G fc hev hsok haux hlen hstr (hgo _ _ h (fun _ h => h))
      · cases h
    · rename_i hn60
      split at h
      -- without heap
      · rename_i pc' L' S' hpu
        intro H ls locs st hinv
        obtain ⟨hl, hs, hH, hF, hS⟩ := hinv
        refine es_pure_ok hx hb hF hl hs (hlen (fun d1 d2 d3 d4 h9 => by rw [h9] at hpu; cases hpu)) hpu (fun ls' st' g1 g2 => ?_)
        exact hgo _ _ h (fun _ h => h) H ls' locs st' ⟨g1, g2, hH, hF, hS⟩
      · split at h
        -- with heap
        · rename_i K' hhs
          have hhok' : es_hok WS (ME M) ent = true := by
            rw [Bool.or_eq_true] at hhok
            refine hhok.resolve_left (fun h9 => ?_)
            unfold es_k60 at h9
            split at h9
            · rename_i h8; exact hn60 _ _ _ h8
            · cases h9
          refine es_hs_ok G.2.1 fc (hlen (fun d1 d2 d3 d4 h9 => ?_)) hhok' hhs (hgo _ _ h (fun _ h => h))
          unfold es_hs at hhs
          dsimp only at hhs
          rw [h9] at hhs
          cases hhs
        · split at h
          · cases h; exact hK0 _ rfl (List.mem_singleton.mpr rfl)
          · cases h; exact hK0 _ rfl (List.mem_singleton.mpr rfl)
          · cases h; exact hK0 _ rfl (List.mem_singleton.mpr rfl)
          · cases h; exact hK0 _ rfl (List.mem_singleton.mpr rfl)
          -- ifCond
          · rename_i op off hins
            cases hto : es_to pc off with
            | none => rw [hto] at h; cases S <;> cases h
            | some t =>
             rw [hto] at h
             cases S with
             | nil => cases h
             | cons v S' =>
              try dsimp only at h
              cases hti : es_ti v
              · rw [hti] at h; cases h
              · rw [hti] at h
                try dsimp only [cond_true] at h
                split at h
                · rename_i x hx1
                  split at h
                  · rename_i y hy1
                    cases h
                    intro H ls locs st hinv
                    obtain ⟨hl, hs, hH, hF, hS⟩ := hinv
                    obtain ⟨xv, st', rfl, hv, hs'⟩ := hs
                    obtain ⟨z, rfl⟩ := es_ti_int hv hti
                    have h0 : es_vr n0 b ρ (0, 0) (.int 0) := by show Value.int 0 = Value.int (nI 0); rw [nI_0]
                    have hd2 := hlen (fun d1 d2 d3 d4 h9 => by rw [h9] at hins; cases hins)
                    rw [hins] at hd2
                    refine es_ifc hx hb op hd2 (es_to_ok hto) (fun hc => ?_) (fun hc => ?_)
                    · obtain ⟨f, hf1, hf2⟩ := es_br_ok hF op hv h0 hc
                      obtain ⟨w, g1, g2⟩ := es_cat_ok hx1 f hf1
                      exact hgo _ _ g1 (fun E hE => List.mem_append_left _ (g2 E hE)) H ls locs st' ⟨hl, hs', hH, hf2, hS⟩
                    · obtain ⟨f, hf1, hf2⟩ := es_br_ok hF (es_ng op) hv h0 hc
                      obtain ⟨w, g1, g2⟩ := es_cat_ok hy1 f hf1
                      exact hgo _ _ g1 (fun E hE => List.mem_append_right _ (g2 E hE)) H ls locs st' ⟨hl, hs', hH, hf2, hS⟩
                  · cases h
                · cases h
          -- if_icmp
          · rename_i op off hins
            cases hto : es_to pc off with
            | none => rw [hto] at h; rcases S with _ | ⟨w, _ | ⟨v, S'⟩⟩ <;> cases h
            | some t =>
             rw [hto] at h
             rcases S with _ | ⟨w, _ | ⟨v, S'⟩⟩
             · cases h
             · cases h
             ·
              try dsimp only at h
              cases hti : (es_ti v && es_ti w)
              · rw [hti] at h; cases h
              · rw [hti] at h
                try dsimp only [cond_true] at h
                rw [Bool.and_eq_true] at hti
                split at h
                · rename_i x hx1
                  split at h
                  · rename_i y hy1
                    cases h
                    intro H ls locs st hinv
                    obtain ⟨hl, hs, hH, hF, hS⟩ := hinv
                    obtain ⟨yv, st1, rfl, hvw, xv, st', rfl, hv, hs'⟩ := hs
                    obtain ⟨z, rfl⟩ := es_ti_int hv hti.1
                    obtain ⟨z2, rfl⟩ := es_ti_int hvw hti.2
                    have hd2 := hlen (fun d1 d2 d3 d4 h9 => by rw [h9] at hins; cases hins)
                    rw [hins] at hd2
                    refine es_icm hx hb op hd2 (es_to_ok hto) (fun hc => ?_) (fun hc => ?_)
                    · obtain ⟨f, hf1, hf2⟩ := es_br_ok hF op hv hvw hc
                      obtain ⟨w, g1, g2⟩ := es_cat_ok hx1 f hf1
                      exact hgo _ _ g1 (fun E hE => List.mem_append_left _ (g2 E hE)) H ls locs st' ⟨hl, hs', hH, hf2, hS⟩
                    · obtain ⟨f, hf1, hf2⟩ := es_br_ok hF (es_ng op) hv hvw hc
                      obtain ⟨w, g1, g2⟩ := es_cat_ok hy1 f hf1
                      exact hgo _ _ g1 (fun E hE => List.mem_append_right _ (g2 E hE)) H ls locs st' ⟨hl, hs', hH, hf2, hS⟩
                  · cases h
                · cases h
          -- tableswitch
          · rename_i dflt lo hi offs hins
            rcases S with _ | ⟨v, S'⟩
            · cases h
            · dsimp only at h
              rw [hins] at hd
              cases hk : es_kn F v with
              | some n =>
                rw [hk] at h
                try dsimp only at h
                split at h
                · rename_i t hto
                  cases hc : ((decide ((nI n).toInt < lo) || decide (hi < (nI n).toInt)) || decide (((nI n).toInt - lo).toNat < offs.size))
                  · rw [hc] at h; cases h
                  · rw [hc] at h
                    try dsimp only [cond_true] at h
                    intro H ls locs st hinv
                    obtain ⟨hl, hs, hH, hF, hS⟩ := hinv
                    obtain ⟨xv, st', rfl, hv, hs'⟩ := hs
                    have e5 := es_kn_ok hF hv hk
                    subst e5
                    by_cases hout : (nI n).toInt < lo ∨ hi < (nI n).toInt
                    · have hb1 : (decide ((nI n).toInt < lo) || decide (hi < (nI n).toInt)) = true := by
                        rw [Bool.or_eq_true, decide_eq_true_eq, decide_eq_true_eq]; exact hout
                      rw [hb1] at hto
                      exact lv_tableOut hx hb hd hout (es_to_ok hto) (hgo _ _ h (fun _ h => h) H ls locs st' ⟨hl, hs', hH, hF, hS⟩)
                    · have hb1 : (decide ((nI n).toInt < lo) || decide (hi < (nI n).toInt)) = false := by
                        rw [Bool.or_eq_false_iff, decide_eq_false_iff_not, decide_eq_false_iff_not]
                        exact ⟨fun h9 => hout (Or.inl h9), fun h9 => hout (Or.inr h9)⟩
                      rw [hb1] at hto hc
                      rw [Bool.false_or, decide_eq_true_eq] at hc
                      dsimp only [cond_false] at hto
                      rw [Array.getElem?_eq_getElem hc] at hto
                      dsimp only [Option.getD_some] at hto
                      exact lv_tableIn hx hb hd (fun h9 => hout (Or.inl h9)) (fun h9 => hout (Or.inr h9)) (Array.getElem?_eq_getElem hc) (es_to_ok hto) (hgo _ _ h (fun _ h => h) H ls locs st' ⟨hl, hs', hH, hF, hS⟩)
                · cases h
              | none =>
                rw [hk] at h
                try dsimp only at h
                obtain ⟨vt, vp⟩ := v
                try dsimp only at h
                by_cases hv1 : vt = 1
                · subst hv1
                  cases hq : F[vp]? with
                  | none => rw [hq] at h; cases h
                  | some q =>
                    rw [hq] at h
                    replace h : es_tn ih M pc L S' AH F cs ss dflt lo hi q = some ends := h
                    unfold es_tn at h
                    split at h
                    · rename_i t hto
                      cases hc : (decide ((q.2 : Int) - 2147483648 < lo) || decide (hi < (q.1 : Int) - 2147483648))
                      · rw [hc] at h; cases h
                      · rw [hc] at h
                        try dsimp only [cond_true] at h
                        rw [Bool.or_eq_true, decide_eq_true_eq, decide_eq_true_eq] at hc
                        intro H ls locs st hinv
                        obtain ⟨hl, hs, hH, hF, hS⟩ := hinv
                        obtain ⟨xv, st', rfl, hv, hs'⟩ := hs
                        have e5 : xv = .int (ρ vp) := hv
                        subst e5
                        have hqq := hF vp q hq
                        have hrg := es_rng (ρ vp)
                        unfold es_zb at hqq
                        have hout : (ρ vp).toInt < lo ∨ hi < (ρ vp).toInt := by
                          rcases hc with h9 | h9
                          · left; omega
                          · right; omega
                        exact lv_tableOut hx hb hd hout (es_to_ok hto) (hgo _ _ h (fun _ h => h) H ls locs st' ⟨hl, hs', hH, hF, hS⟩)
                    · cases h
                · split at h
                  · exact absurd rfl hv1
                  · cases h
          -- invokevirtual
          · rename_i idx hins
            have hd2 := hlen (fun d1 d2 d3 d4 h9 => by rw [h9] at hins; cases hins)
            rw [hins] at hd2
            unfold es_cok at hcok
            rw [hins] at hcok
            dsimp only at hcok
            split at hcok
            · rename_i M' n ci j1 j2 j3 j4 haux
              rw [haux] at h
              replace h : es_sv ME ih M (es_cal M M') n ci pc L S AH F cs ss = some ends := h
              generalize es_cal M M' = M' at h hcok
              unfold es_sv at h
              cases hdr : S.drop n with
              | nil => rw [hdr] at h; cases h
              | cons o S' =>
                rw [hdr] at h
                try dsimp only at h
                cases ho : es_obj AH ci o with
                | none => rw [ho] at h; cases h
                | some co =>
                  rw [ho] at h
                  try dsimp only at h
                  cases hi1 : es_inv1 ME 8 ih M M' (o :: (S.take n).reverse) S' AH F cs ss with
                  | none => rw [hi1] at h; cases h
                  | some lfs =>
                    rw [hi1] at h
                    try dsimp only at h
                    intro H ls locs st hinv
                    obtain ⟨hl, hs, hH, hF, hS⟩ := hinv
                    dsimp only at hl hs hH hF ⊢
                    obtain ⟨xs, ys, rfl, hxs, hys⟩ := es_take (n := n) hs
                    rw [hdr] at hys
                    obtain ⟨ro, rest, rfl, hvo, hs'⟩ := hys
                    obtain ⟨rfl, hA⟩ := es_obj_ok ho hvo
                    have hn : xs.length = n := by
                      rw [es_sr_len _ _ hxs, List.length_take]
                      have h7 : (S.drop n).length = S.length - n := List.length_drop
                      rw [hdr, List.length_cons] at h7
                      omega
                    obtain ⟨hmet, h8, hRR, hcap, hcwm, hR16⟩ := es_inv1_ok (R := R) G hih hi1 (xs := .ref (n0 + o.2) :: xs.reverse) ⟨_, _, rfl, hvo, es_sr_rev _ _ hxs⟩ hF hR
                    split at hcok
                    · rename_i r hr0
                      simp only [Bool.and_eq_true] at hcok
                      obtain ⟨k1, ⟨k2, k3⟩, ⟨k4, k5⟩, k6, k7⟩ := hcok
                      have k1 := of_decide_eq_true k1
                      have k7 := es_emp k7
                      have hcw : es_cw (ME M') = .code (es_y (ME M')) (es_code (ME M')) (es_mL (ME M')) (es_rt (ME M')) := by unfold es_cw; rw [k7]
                      obtain ⟨r', V', q1, ⟨cellV, g1, g2, g3, -⟩, -⟩ := hH.2 _ _ hA
                      dsimp only at q1 g2
                      rw [hr0] at q1
                      cases q1
                      have hfc := (hK.1 ci r hr0).2.1
                      rw [k1] at hfc
                      refine es_aft_ok G hih fc hev htab hends h hl hs' hS ?_
                      exact vx_runV (As := xs.reverse) (C := (es_y (ME M')).cls) ⟨hx, hb, hml, hown, hts⟩ hmet ⟨callB_of n hts (es_good G hcwm) (by rw [hcw]) rfl rfl (hts _ (es_wj_in k5)) (hts _ (es_wj_in k2)) (es_ymok_ok k6) hRR, hts _ (es_wj_in k3), hts _ (es_wj_in k4)⟩ ⟨es_blind G.2.2.1, ⟨cellV, g1, by rw [g3]; rfl, by rw [g2]; exact hfc⟩, es_pcU G.2.2.1 hev hS hH⟩ rfl (by rw [List.length_reverse]; exact hn) hl.1 (by rw [List.reverse_reverse]) (lv_room (by rw [(es_cts_ok _ _ hs').2]; exact h8)) hd2 hcap
                    · simp only [Bool.false_and] at hcok; cases hcok
            · rename_i M' n j1 j2 j3 j4 haux
              rw [haux] at h
              replace h : es_sq ME strs ih M (es_cal M M') n pc L S AH F cs ss = some ends := h
              generalize es_cal M M' = M' at h hcok
              unfold es_sq at h
              cases hdr : S.drop n with
              | nil => rw [hdr] at h; cases h
              | cons o S' =>
                rw [hdr] at h
                try dsimp only at h
                cases ho : (Nat.beq o.1 8 && Nat.blt o.2 strs.length)
                · rw [ho] at h; cases h
                · rw [ho] at h
                  try dsimp only [cond_true] at h
                  rw [Bool.and_eq_true, es_blt] at ho
                  cases hi1 : es_inv1 ME 8 ih M M' (o :: (S.take n).reverse) S' AH F cs ss with
                  | none => rw [hi1] at h; cases h
                  | some lfs =>
                    rw [hi1] at h
                    try dsimp only at h
                    intro H ls locs st hinv
                    obtain ⟨hl, hs, hH, hF, hS⟩ := hinv
                    dsimp only at hl hs hH hF ⊢
                    obtain ⟨xs, ys, rfl, hxs, hys⟩ := es_take (n := n) hs
                    rw [hdr] at hys
                    obtain ⟨ro, rest, rfl, hvo, hs'⟩ := hys
                    have hro : ro = .ref (b (2 * o.2 + 1)) := by
                      obtain ⟨t9, n9⟩ := o
                      have e9 := es_beq.mp ho.1
                      dsimp only at e9
                      subst e9
                      exact hvo
                    subst hro
                    have hn : xs.length = n := by
                      rw [es_sr_len _ _ hxs, List.length_take]
                      have h7 : (S.drop n).length = S.length - n := List.length_drop
                      rw [hdr, List.length_cons] at h7
                      omega
                    obtain ⟨hmet, h8, hRR, hcap, hcwm, hR16⟩ := es_inv1_ok (R := R) G hih hi1 (xs := .ref (b (2 * o.2 + 1)) :: xs.reverse) ⟨_, _, rfl, hvo, es_sr_rev _ _ hxs⟩ hF hR
                    simp only [Bool.and_eq_true] at hcok
                    obtain ⟨k1, ⟨k2, k3⟩, ⟨k4, k5⟩, k6, k7⟩ := hcok
                    have k1 := of_decide_eq_true k1
                    have k7 := es_emp k7
                    have hcw : es_cw (ME M') = .code (es_y (ME M')) (es_code (ME M')) (es_mL (ME M')) (es_rt (ME M')) := by unfold es_cw; rw [k7]
                    obtain ⟨cellV, g1, g3, g2, -⟩ := (hev.2.2.2.2.2.2.1 o.2 _ (List.getElem?_eq_getElem ho.2)).2.1.kept hS.2.1
                    refine es_aft_ok G hih fc hev htab hends h hl hs' hS ?_
                    exact vx_runV (As := xs.reverse) (C := (es_y (ME M')).cls) ⟨hx, hb, hml, hown, hts⟩ hmet ⟨callB_of n hts (es_good G hcwm) (by rw [hcw]) rfl rfl (hts _ (es_wj_in k5)) (hts _ (es_wj_in k2)) (es_ymok_ok k6) hRR, hts _ (es_wj_in k3), hts _ (es_wj_in k4)⟩ ⟨es_blind G.2.2.1, ⟨cellV, g1, g3, by rw [k1]; exact g2⟩, es_pcU G.2.2.1 hev hS hH⟩ rfl (by rw [List.length_reverse]; exact hn) hl.1 (by rw [List.reverse_reverse]) (lv_room (by rw [(es_cts_ok _ _ hs').2]; exact h8)) hd2 hcap
            · cases hcok
          -- invokestatic
          · rename_i idx hins
            have hd2 := hlen (fun d1 d2 d3 d4 h9 => by rw [h9] at hins; cases hins)
            rw [hins] at hd2
            unfold es_cok at hcok
            rw [hins] at hcok
            dsimp only at hcok
            split at hcok
            · rename_i M' n j1 j2 j3 haux
              rw [haux] at h
              replace h : es_ss ME ih M (es_cal M M') n pc L S AH F cs ss = some ends := h
              generalize es_cal M M' = M' at h hcok
              unfold es_ss at h
              cases hnl : Nat.ble n S.length
              · rw [hnl] at h; cases h
              · rw [hnl] at h
                try dsimp only [cond_true] at h
                cases hi1 : es_inv1 ME (bif (es_hh (ME M')).isEmpty then 16 else 8) ih M M' (S.take n).reverse (S.drop n) AH F cs ss with
                | none => rw [hi1] at h; cases h
                | some lfs =>
                  rw [hi1] at h
                  try dsimp only at h
                  intro H ls locs st hinv
                  obtain ⟨hl, hs, hH, hF, hS⟩ := hinv
                  dsimp only at hl hs hH hF ⊢
                  obtain ⟨xs, rest, rfl, hxs, hs'⟩ := es_take (n := n) hs
                  have hn : xs.length = n := by
                    rw [es_sr_len _ _ hxs, List.length_take]
                    have := Nat.ble_eq.mp hnl
                    omega
                  obtain ⟨hmet, h8, hRR, hcap, hcwm, hR16⟩ := es_inv1_ok (R := R) G hih hi1 (xs := xs.reverse) (es_sr_rev _ _ hxs) hF hR
                  simp only [Bool.and_eq_true] at hcok
                  obtain ⟨⟨k2, k3⟩, k5, k6⟩ := hcok
                  refine es_aft_ok G hih fc hev htab hends h hl hs' hS ?_
                  cases hh : es_hh (ME M') with
                  | nil =>
                    have hcw : es_cw (ME M') = .code (es_y (ME M')) (es_code (ME M')) (es_mL (ME M')) (es_rt (ME M')) := by unfold es_cw; rw [hh]
                    rw [hh] at h8
                    exact vx_runS16 (As := xs.reverse) ⟨hx, hb, hml, hown, hts⟩ hmet hR16 ⟨callB_of n hts (es_good G hcwm) (by rw [hcw]) rfl rfl (hts _ (es_wj_in k5)) (hts _ (es_wj_in k2)) (es_ymok_ok k6) hRR, hts _ (es_wj_in k3)⟩ ⟨es_blind G.2.2.1, es_pcU G.2.2.1 hev hS hH⟩ rfl (by rw [List.length_reverse]; exact hn) hl.1 (by rw [List.reverse_reverse]) (es_room16 (by rw [(es_cts_ok _ _ hs').2]; exact h8)) hd2 hcap
                  | cons hq0 ht0 =>
                    have hcw : es_cw (ME M') = .codeWith (es_y (ME M')) (es_code (ME M')) (es_mL (ME M')) (es_rt (ME M')) (es_hh (ME M')) := by unfold es_cw; rw [hh]
                    have hgd : GoodIn WS (va_wsS (es_own (ME M)) idx (es_y (ME M')) (es_cw (ME M') :: WS)) := fun w hw => by
                      unfold va_wsS at hw
                      rcases List.mem_append.mp hw with h9 | h9
                      · simp only [List.mem_cons, List.not_mem_nil, or_false] at h9
                        rcases h9 with rfl | rfl | rfl
                        · exact ⟨es_wj_in k2, good_of_word (G.1 _ (es_wj_in k2))⟩
                        · exact ⟨es_wj_in k3, good_of_word (G.1 _ (es_wj_in k3))⟩
                        · exact ⟨es_wj_in k5, good_of_word (G.1 _ (es_wj_in k5))⟩
                      · exact es_good G hcwm w h9
                    rw [hh] at h8
                    exact vx_runSX (As := xs.reverse) (hh := es_hh (ME M')) ⟨hx, hb, hml, hown, hts⟩ hmet (vx_cwSW n hts hgd (by rw [hcw]) rfl rfl (es_ymok_ok k6) hRR) ⟨es_blind G.2.2.1, es_pcU G.2.2.1 hev hS hH⟩ rfl (by rw [List.length_reverse]; exact hn) hl.1 (by rw [List.reverse_reverse]) (lv_room (by rw [(es_cts_ok _ _ hs').2]; exact h8)) hd2 hcap
            -- arraycopy
            · rename_i j1 j2 j3 j4 haux
              rw [haux] at h
              replace h : es_sc ME ih M pc L S AH F cs ss = some ends := h
              unfold es_sc at h
              rcases S with _ | ⟨vn, _ | ⟨vd, _ | ⟨d, _ | ⟨vs, _ | ⟨s0, S'⟩⟩⟩⟩⟩
              · cases h
              · cases h
              · cases h
              · cases h
              · cases h
              · dsimp only at h
                split at h
                · rename_i ts ns c1 td nd c2 ha0 ha1
                  split at h
                  · rename_i sp dp n hk0 hk1 hk2
                    cases hc : (((Nat.beq ts 0 && Nat.beq td 0) && ((Nat.ble (sp + n) ns && Nat.ble (dp + n) nd) && (Nat.blt 0 (es_rf (ME M)) && Nat.ble 200 (es_lo (ME M))))) && (c1.all (fun x => es_ti x.2) && Nat.ble (es_cts S') 8))
                    · rw [hc] at h; cases h
                    · rw [hc] at h
                      try dsimp only [cond_true] at h
                      simp only [Bool.and_eq_true, es_blt, Nat.ble_eq, es_beq] at hc hcok
                      obtain ⟨⟨⟨rfl, rfl⟩, ⟨c3, c4⟩, c5, c6⟩, c8, c9⟩ := hc
                      intro H ls locs st hinv
                      obtain ⟨hl, hs, hH, hF, hS⟩ := hinv
                      dsimp only at hl hs hH hF ⊢
                      obtain ⟨xn, st1, rfl, hvn, xd, st2, rfl, hvd, xa, st3, rfl, hva, xs, st4, rfl, hvs, x0, st', rfl, hv0, hs'⟩ := hs
                      have e1 := es_kn_ok hF hvn hk2
                      have e2 := es_kn_ok hF hvd hk1
                      have e3 := es_kn_ok hF hvs hk0
                      subst e1 e2 e3
                      obtain ⟨rfl, hA0, hn0⟩ := es_ary_ok ha0 hv0
                      obtain ⟨rfl, hA1, hn1⟩ := es_ary_ok ha1 hva
                      obtain ⟨q0, V0, t1, t2, t3⟩ := hH.2 _ _ hA0
                      obtain ⟨q1, V1, u1, u2, u3⟩ := hH.2 _ _ hA1
                      cases t1
                      cases u1
                      dsimp only at t2 u2 t3 u3
                      have hsum := (es_cts_ok _ _ hs').2
                      have e9 : nativeFrameWords "java/lang/System" "arraycopy" 5 ≤ 100 := by decide +kernel
                      refine es_acp hx hb (by rw [hl.1, hml]) hown (hts _ (es_wj_in hcok.1.1)) (hts _ (es_wj_in hcok.1.2)) (hts _ (es_wj_in hcok.2.1)) (hts _ (es_wj_in hcok.2.2)) hK t2 u2 hn0 hn1 c3 c4 (fun j => ?_) (by omega) (by omega) hd2 (fun H1 L1 g1 g2 g3 g4 => ?_)
                      · by_cases hj : j < ns
                        · obtain ⟨z, hz⟩ := es_ti_int (t3 j hj) (es_ad_ti c8 j)
                          exact ⟨z, fun _ => hz⟩
                        · exact ⟨0, fun h9 => absurd h9 hj⟩
                      · refine hgo _ _ h (fun _ h => h) H1 ls _ st' ⟨hl, hs', es_hr_set hH g2 g3 ⟨_, _, rfl, g1, fun j hj => ?_⟩, hF, ?_⟩
                        · rw [es_cpy_ad]
                          unfold va_cpy
                          by_cases h9 : dp ≤ j ∧ j < dp + n
                          · rw [if_pos h9, if_pos h9]
                            exact t3 _ (by omega)
                          · rw [if_neg h9, if_neg h9]
                            exact u3 j hj
                        · refine ⟨by rw [g2]; exact hS.1, fun q k1 k2 => (g3 q (fun e9 => k2 (by rw [e9]; exact Nat.le_add_right _ _))).trans (hS.2.1 q k1 k2), fun z hz => ?_⟩
                          rcases List.mem_append.mp hz with h9 | h9
                          · exact hS.2.2 z h9
                          · rw [g4 z h9]; exact Nat.le_add_right _ _
                  · cases h
                · cases h
            -- min
            · rename_i j1 j2 j3 j4 haux
              rw [haux] at h
              replace h : es_smm ME (fun x y => if y < x then y else x) ih M pc L S AH F cs ss = some ends := h
              unfold es_smm at h
              rcases S with _ | ⟨w, _ | ⟨v, S'⟩⟩
              · cases h
              · cases h
              · dsimp only at h
                cases hc : ((es_ti v && es_ti w) && (((Nat.blt 0 (es_rf (ME M)) && Nat.ble 200 (es_lo (ME M))) && Nat.ble (es_cts S') 8) && (Nat.ble cs (es_mc (ME M)) && Nat.ble ss (es_ms (ME M)))))
                · rw [hc] at h; cases h
                · rw [hc] at h
                  try dsimp only [cond_true] at h
                  simp only [Bool.and_eq_true, es_blt, Nat.ble_eq] at hc hcok
                  obtain ⟨⟨t1, t2⟩, ⟨⟨c1, c2⟩, c3⟩, c4, c5⟩ := hc
                  intro H ls locs st hinv
                  obtain ⟨hl, hs, hH, hF, hS⟩ := hinv
                  obtain ⟨yv, st1, rfl, hvw, xv, st', rfl, hv, hs'⟩ := hs
                  obtain ⟨z, rfl⟩ := es_ti_int hv t1
                  obtain ⟨z2, rfl⟩ := es_ti_int hvw t2
                  have hsum := (es_cts_ok _ _ hs').2
                  exact va_mmin hx hb (by rw [hl.1, hml]) hown (hts _ (es_wj_in hcok.1.1)) (hts _ (es_wj_in hcok.1.2)) (hts _ (es_wj_in hcok.2.1)) (hts _ (es_wj_in hcok.2.2)) (by omega) (by omega) (by dsimp only; omega) (by dsimp only; omega) hd2 (hgo _ _ h (fun _ h => h) H ls locs _ ⟨hl, ⟨_, _, rfl, es_bin_ok hF _ hv hvw, hs'⟩, hH, hF, hS⟩)
            -- max
            · rename_i j1 j2 j3 j4 haux
              rw [haux] at h
              replace h : es_smm ME (fun x y => if x < y then y else x) ih M pc L S AH F cs ss = some ends := h
              unfold es_smm at h
              rcases S with _ | ⟨w, _ | ⟨v, S'⟩⟩
              · cases h
              · cases h
              · dsimp only at h
                cases hc : ((es_ti v && es_ti w) && (((Nat.blt 0 (es_rf (ME M)) && Nat.ble 200 (es_lo (ME M))) && Nat.ble (es_cts S') 8) && (Nat.ble cs (es_mc (ME M)) && Nat.ble ss (es_ms (ME M)))))
                · rw [hc] at h; cases h
                · rw [hc] at h
                  try dsimp only [cond_true] at h
                  simp only [Bool.and_eq_true, es_blt, Nat.ble_eq] at hc hcok
                  obtain ⟨⟨t1, t2⟩, ⟨⟨c1, c2⟩, c3⟩, c4, c5⟩ := hc
                  intro H ls locs st hinv
                  obtain ⟨hl, hs, hH, hF, hS⟩ := hinv
                  obtain ⟨yv, st1, rfl, hvw, xv, st', rfl, hv, hs'⟩ := hs
                  obtain ⟨z, rfl⟩ := es_ti_int hv t1
                  obtain ⟨z2, rfl⟩ := es_ti_int hvw t2
                  have hsum := (es_cts_ok _ _ hs').2
                  exact va_mmax hx hb (by rw [hl.1, hml]) hown (hts _ (es_wj_in hcok.1.1)) (hts _ (es_wj_in hcok.1.2)) (hts _ (es_wj_in hcok.2.1)) (hts _ (es_wj_in hcok.2.2)) (by omega) (by omega) (by dsimp only; omega) (by dsimp only; omega) hd2 (hgo _ _ h (fun _ h => h) H ls locs _ ⟨hl, ⟨_, _, rfl, es_bin_ok hF _ hv hvw, hs'⟩, hH, hF, hS⟩)
            · cases hcok
          -- invokespecial
          · rename_i idx hins
            have hd2 := hlen (fun d1 d2 d3 d4 h9 => by rw [h9] at hins; cases hins)
            rw [hins] at hd2
            unfold es_cok at hcok
            rw [hins] at hcok
            dsimp only at hcok
            split at hcok
            · rename_i M' n nest j1 j2 j3 haux
              rw [haux] at h
              replace h : es_si ME ih M (es_cal M M') n pc L S AH F cs ss = some ends := h
              generalize es_cal M M' = M' at h hcok
              unfold es_si at h
              cases hdr : S.drop n with
              | nil => rw [hdr] at h; cases h
              | cons o S' =>
                rw [hdr] at h
                try dsimp only at h
                cases ho3 : Nat.beq o.1 3
                · rw [ho3] at h; cases h
                · rw [ho3] at h
                  try dsimp only [cond_true] at h
                  cases hi1 : es_inv1 ME 8 ih M M' (o :: (S.take n).reverse) S' AH F cs ss with
                  | none => rw [hi1] at h; cases h
                  | some lfs =>
                    rw [hi1] at h
                    try dsimp only at h
                    cases hnt : es_nothr lfs
                    · rw [hnt] at h; cases h
                    · rw [hnt] at h
                      try dsimp only [cond_true] at h
                      intro H ls locs st hinv
                      obtain ⟨hl, hs, hH, hF, hS⟩ := hinv
                      dsimp only at hl hs hH hF ⊢
                      obtain ⟨xs, ys, rfl, hxs, hys⟩ := es_take (n := n) hs
                      rw [hdr] at hys
                      obtain ⟨ro, rest, rfl, hvo, hs'⟩ := hys
                      have e6 := es_t3_ref hvo ho3
                      subst e6
                      have hn : xs.length = n := by
                        rw [es_sr_len _ _ hxs, List.length_take]
                        have h7 : (S.drop n).length = S.length - n := List.length_drop
                        rw [hdr, List.length_cons] at h7
                        omega
                      obtain ⟨hmet, h8, hRR, hcap, hcwm, hR16⟩ := es_inv1_ok (R := R) G hih hi1 (xs := .ref (n0 + o.2) :: xs.reverse) ⟨_, _, rfl, hvo, es_sr_rev _ _ hxs⟩ hF hR
                      have hmet0 := es_met0 hmet hnt
                      simp only [Bool.and_eq_true] at hcok
                      obtain ⟨k1, ⟨k2, k3⟩, ⟨k4, k5⟩, k6, k7⟩ := hcok
                      have k5 := es_emp k5
                      have k6 := of_decide_eq_true k6
                      have k7 := of_decide_eq_true k7
                      have hcw : es_cw (ME M') = .code (es_y (ME M')) (es_code (ME M')) (es_mL (ME M')) none := by unfold es_cw; rw [k5, k7]
                      refine es_aft_ok G hih fc hev htab hends h hl hs' hS ?_
                      cases hns : Nat.beq nest 0
                      · rw [hns] at k1
                        exact fun T hT X => Or.inl (va_runIN (As := xs.reverse) ⟨hx, hb, hml, hown, hts⟩ hmet0 ⟨va_cnB n hts (es_good G hcwm) (by rw [hcw]) rfl rfl (hev.2.2.2.2.2.2.2.1 _ (es_wj_in k1)) (hts _ (es_wj_in k3)) (es_ymok_ok k4) hRR, k6, hts _ (es_wj_in k2)⟩ ⟨es_blind G.2.2.1, es_pcU G.2.2.1 hev hS hH⟩ rfl (by rw [List.length_reverse]; exact hn) hl.1 (by rw [List.reverse_reverse]) (lv_room (by rw [(es_cts_ok _ _ hs').2]; exact h8)) hd2 hcap T hT X)
                      · rw [hns] at k1
                        exact fun T hT X => Or.inl (va_runI (As := xs.reverse) ⟨hx, hb, hml, hown, hts⟩ hmet0 ⟨callB_of n hts (es_good G hcwm) (by rw [hcw]) rfl rfl (hts _ (es_wj_in k3)) (hts _ (es_wj_in k1)) (es_ymok_ok k4) hRR, k6, hts _ (es_wj_in k2)⟩ ⟨es_blind G.2.2.1, es_pcU G.2.2.1 hev hS hH⟩ rfl (by rw [List.length_reverse]; exact hn) hl.1 (by rw [List.reverse_reverse]) (lv_room (by rw [(es_cts_ok _ _ hs').2]; exact h8)) hd2 hcap T hT X)
            -- Object.<init>
            · rename_i j1 j2 j3 haux
              rw [haux] at h
              replace h : es_so ME ih M pc L S AH F cs ss = some ends := h
              unfold es_so at h
              rcases S with _ | ⟨o, S'⟩
              · cases h
              · dsimp only at h
                cases hc : (Nat.beq o.1 3 && (Nat.blt 0 (es_rf (ME M)) && Nat.ble (es_cts S' + 12) (es_lo (ME M))))
                · rw [hc] at h; cases h
                · rw [hc] at h
                  try dsimp only [cond_true] at h
                  simp only [Bool.and_eq_true, es_blt, Nat.ble_eq] at hc hcok
                  obtain ⟨c1, c2, c3⟩ := hc
                  intro H ls locs st hinv
                  obtain ⟨hl, hs, hH, hF, hS⟩ := hinv
                  obtain ⟨yv, st', rfl, hv, hs'⟩ := hs
                  have e6 := es_t3_ref hv c1
                  subst e6
                  have hsum := (es_cts_ok _ _ hs').2
                  refine W.objInit hx hb hown (hts _ (es_wj_in hcok.1)) (hts _ (es_wj_in hcok.2.1)) (hts _ (es_wj_in hcok.2.2)) rfl (by rw [hml]; exact hl.1) rfl hd2 (by omega) (by show 2 * 0 + _ + 12 ≤ _; omega) ?_
                  exact hgo _ _ h (fun _ h => h) H ls locs _ ⟨hl, hs', hH, hF, hS⟩
            · cases hcok
          · cases h
end Snd
section Snd2
variable {l : Launch} {strs : List (String × Nat × String)} {wx : List Cond} {WS : List Cond} {SL : Nat} {D : va_G} {cI cJ cZ cC cM : ClassId} {n0 : Nat} {b : Nat → Nat} {ρ : Nat → Int32} {ME : Nat → es_M}
theorem es_run_ok (G : es_GH strs wx WS ME) : ∀ (n : Nat) (ρ : Nat → Int32) (M : Nat) (K : es_K) (ends : List es_E), es_run ME strs SL n M K = some ends → es_RS l strs wx WS SL D cI cJ cZ cC cM n0 b ρ (ME M) K ends
  | 0, _, _, _, _, h => by rw [es_run_z] at h; cases h
  | n + 1, ρ, M, K, ends, h => by
    rw [es_run_s] at h
    exact es_step_ok G (fun ρ' M' K' ends' h' => es_run_ok G n ρ' M' K' ends' h') M K ends h
end Snd2
