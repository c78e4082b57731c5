def es_wj (WS : List Cond) (j : Nat) (w : Cond) : Bool := decide (WS[j]? = some w)
theorem es_wj_in {WS : List Cond} {j : Nat} {w : Cond} (h : es_wj WS j w = true) : w ∈ WS := List.mem_of_getElem? (of_decide_eq_true h)
def es_hok (WS : List Cond) (M : es_M) (e : es_I) : Bool := match e.2.1 with
  | .getfield idx => match e.2.2.2 with
    | [ci, k, j] => match vwCl[ci]? with
      | some r => es_wj WS j (.fieldLink (es_own M) idx (r.2.1 k).1 (r.2.1 k).2.1 (r.2.1 k).2.2.1)
      | none => false
    | _ => false
  | .putfield idx => match e.2.2.2 with
    | [ci, k, j] => match vwCl[ci]? with
      | some r => es_wj WS j (.fieldLink (es_own M) idx (r.2.1 k).1 (r.2.1 k).2.1 (r.2.1 k).2.2.1) && (!(r.2.1 k).2.2.2 || (decide ((es_y M).name = "<init>") && decide ((r.2.1 k).1 = es_own M)))
      | none => false
    | _ => false
  | .new idx => match e.2.2.2 with
    | [1, ci, j1, j2, j3] => match vwCl[ci]? with
      | some r => es_wj WS j1 (.classLink (es_own M) idx r.1) && (es_wj WS j2 (.instantiable r.1 r.2.2) && es_wj WS j3 (.initialized r.1))
      | none => false
    | 1 :: _ => false
    | _ => true
  | .newarray ty => match e.2.2.2 with
    | [t, j] => decide (ty = es_nat t) && es_wj WS j (.arrayClass (newarray.typeOf (es_nat t)))
    | _ => false
  | .anewarray idx => match e.2.2.2 with
    | [t, j1] => match es_tyq (t + 3) with
      | .object C => es_wj WS j1 (.classLink (es_own M) idx C)
      | _ => false
    | _ => false
  | .ldc idx => match e.2.2.2 with
    | [j, n] => es_wj WS j (.constant (es_own M) idx (nI n))
    | _ => false
  | .ldc_w idx => match e.2.2.2 with
    | [j, n] => es_wj WS j (.constant (es_own M) idx (nI n))
    | _ => false
  | .ldc2_w idx => match e.2.2.2 with
    | [j, n] => es_wj WS j (.constantLong (es_own M) idx (lN n))
    | _ => false
  | _ => true
theorem es_pl (x : FieldType) (h : (match x with | .int => true | .boolean => true | .object _ => true | .array _ => true | _ => false) = true) : x = .int ∨ x = .boolean ∨ (∃ C, x = .object C) ∨ ∃ t, x = .array t := by
  cases x <;> simp at h <;> simp
def es_plb (x : FieldType) : Bool := match x with
  | .int => true
  | .boolean => true
  | .object _ => true
  | .array _ => true
  | _ => false
theorem es_cl {ci : Nat} {r : vw_C} (h : vwCl[ci]? = some r) : (∀ k, k < r.2.2 → parseFieldDescriptor (r.2.1 k).2.2.1 = some (es_tyf ci k)) ∧ (∀ a, a < r.2.2 → ∀ b, b < r.2.2 → a ≠ b → (r.2.1 a).2.1 ≠ (r.2.1 b).2.1) ∧ ∀ k, k < r.2.2 → es_plb (es_tyf ci k) = true := by
  match ci, h with
  | 0, h => cases h; exact ⟨tyX0_ok, nmX0, by decide +kernel⟩
  | 1, h => cases h; exact ⟨tyX1_ok, nmX1, by decide +kernel⟩
  | 2, h => cases h; exact ⟨tyX2_ok, nmX2, by decide +kernel⟩
  | 3, h => cases h; exact ⟨tyX3_ok, nmX3, by decide +kernel⟩
  | 4, h => cases h; exact ⟨tyX4_ok, nmX4, by decide +kernel⟩
  | 5, h => cases h; exact ⟨tyX5_ok, nmX5, by decide +kernel⟩
  | 6, h => cases h; exact ⟨tyX6_ok, nmX6, by decide +kernel⟩
  | 7, h => cases h; exact ⟨tyX7_ok, nmX7, by decide +kernel⟩
  | 8, h => cases h; exact ⟨tyX8_ok, nmX8, by decide +kernel⟩
  | 9, h => cases h; exact ⟨tyX9_ok, nmX9, by decide +kernel⟩
  | 10, h => cases h; exact ⟨tyX10_ok, nmX10, by decide +kernel⟩
  | 11, h => cases h; exact ⟨tyX11_ok, nmX11, by decide +kernel⟩
  | 12, h => cases h; exact ⟨tyX12_ok, nmX12, by decide +kernel⟩
  | t + 13, h => simp at h
abbrev es_A (n0 : Nat) : Nat → Prop := fun q => n0 ≤ q
def es_inv (D : va_G) (tys : List (ClassId × FieldType)) (n0 : Nat) (b : Nat → Nat) (ρ : Nat → Int32) (nL : Nat) (s : State) (K : es_K) (H : Heap) (ls : Array Slot) (locs : List Loc) (st : List Value) : Prop :=
  es_lr n0 b ρ nL K.2.1 ls ∧ es_sr n0 b ρ K.2.2.1 st ∧ es_hr D tys n0 b ρ K.2.2.2.1 H ∧ es_fr ρ K.2.2.2.2.1 ∧ va_S (es_A n0) s.heap H locs
def es_G (p : Program) (l : Launch) (e : Env) (R : Room) (s : State) (m : MethodId) (args : Array Value) (below : List Frame) (meth : Method) (c : Code) (Q : State → Prop) (D : va_G) (tys : List (ClassId × FieldType)) (n0 : Nat) (b : Nat → Nat) (ρ : Nat → Int32) (nL : Nat) (K : es_K) : Prop :=
  ∀ (H : Heap) (ls : Array Slot) (locs : List Loc) (st : List Value), es_inv D tys n0 b ρ nL s K H ls locs st → W p l e R s m args below meth c H locs K.2.2.2.2.2.1 K.2.2.2.2.2.2 Q (F0 m K.1 ls st)
/-- what holds of a frame of the method M -/
def es_FC (WS : List Cond) (SL : Nat) (D : va_G) (cI cJ cZ cC cM : ClassId) (n0 : Nat) (b : Nat → Nat) (ρ : Nat → Int32) (p : Program) (R : Room) (s : State) (m : MethodId) (args : Array Value) (meth : Method) (c : Code) (M : es_M) : Prop :=
  p.tables.exec = Jvm.exec ∧ c.code = es_code M ∧ c.maxLocals = es_mL M ∧ s.vm.findClass (es_own M) = some m.cls ∧ (∀ w ∈ WS, w.before args s = true) ∧ va_K D vwCl (es_TY cI cJ cZ cC cM) s ∧ (es_mc M ≤ R.cells ∧ es_ms M ≤ R.slots ∧ es_rf M ≤ R.frames ∧ es_lo M ≤ R.locals) ∧
  ((es_y M).name = "<init>" → meth.name = "<init>") ∧ (b 0 < n0 ∧ n0 ≤ s.heap.size ∧ va_X (b 0) SL ρ s s.heap) ∧ (va_AO RX2 s ∧ va_AO RX7 s) ∧ meth.locks = false ∧ meth.sig.returnType = es_rt M
section Hs
variable {p : Program} {l : Launch} {e : Env} {R : Room} {s : State} {m : MethodId} {args : Array Value} {below : List Frame} {meth : Method} {c : Code} {Q : State → Prop}
variable {WS : List Cond} {SL : Nat} {D : va_G} {cI cJ cZ cC cM : ClassId} {n0 : Nat} {b : Nat → Nat} {ρ : Nat → Int32} {M : es_M}
theorem es_va_put {H0 H H1 : Heap} {locs : List Loc} {i j : Nat} (h : va_S (es_A n0) H0 H locs) (z : H1.size = H.size) (o : ∀ q : Nat, q ≠ n0 + i → H1[q]? = H[q]?) : va_S (es_A n0) H0 H1 (locs ++ [⟨n0 + i, j⟩]) := h.put z o (Nat.le_add_right _ _)
theorem es_va_push {H0 H H1 : Heap} {locs : List Loc} (h : va_S (es_A n0) H0 H locs) (z : H1.size = H.size + 1) (o : ∀ q : Nat, q < H.size → H1[q]? = H[q]?) : va_S (es_A n0) H0 H1 locs :=
  ⟨Nat.le_trans h.1 (by omega), fun x h1 h2 => (o x (Nat.lt_of_lt_of_le h1 h.1)).trans (h.2.1 x h1 h2), h.2.2⟩
theorem es_obj_ok {AH : List es_O} {ci : Nat} {v : es_V} {cs : List (Nat × es_V)} {x : Value} (h : es_obj AH ci v = some cs) (hv : es_vr n0 b ρ v x) : x = .ref (n0 + v.2) ∧ AH[v.2]? = some (0, ci, cs) := by
  unfold es_obj at h
  cases h3 : Nat.beq v.1 3
  · rw [h3] at h; cases h
  · rw [h3] at h
    dsimp only [cond_true] at h
    refine ⟨es_t3_ref hv h3, ?_⟩
    split at h
    · rename_i i c0 hA
      cases hi : Nat.beq i ci
      · rw [hi] at h; cases h
      · rw [hi] at h
        cases h
        rw [hA, es_beq.mp hi]
    · cases h
theorem es_ary_ok {AH : List es_O} {v : es_V} {t n : Nat} {cs : List (Nat × es_V)} {x : Value} (h : es_ary AH v = some (t, n, cs)) (hv : es_vr n0 b ρ v x) : x = .ref (n0 + v.2) ∧ AH[v.2]? = some (t + 2, n, cs) ∧ n < 2147483648 := by
  unfold es_ary at h
  cases h3 : Nat.beq v.1 3
  · rw [h3] at h; cases h
  · rw [h3] at h
    dsimp only [cond_true] at h
    refine ⟨es_t3_ref hv h3, ?_⟩
    split at h
    · rename_i t' n' c0 hA
      cases hi : Nat.blt n' 2147483648
      · rw [hi] at h; cases h
      · rw [hi] at h
        cases h
        exact ⟨hA, es_blt.mp hi⟩
    · cases h
theorem es_sti_eq {ins : Instr} {t : Nat} (h : es_sti ins t = true) : ins = es_sop t ∧ es_len ins = 1 := by
  unfold es_sti at h
  split at h
  · rw [es_beq.mp h]; exact ⟨rfl, rfl⟩
  · rw [es_beq.mp h]; exact ⟨rfl, rfl⟩
  · rw [es_beq.mp h]; exact ⟨rfl, rfl⟩
  · rw [Bool.and_eq_true] at h
    have := es_blt.mp h.1
    match t, this with
    | t + 3, _ => exact ⟨rfl, rfl⟩
  · cases h
theorem es_lt_eq {ins : Instr} {t : Nat} (h : es_lt ins t = true) : ins = es_lop t ∧ es_len ins = 1 := by
  unfold es_lt at h
  split at h
  · rw [es_beq.mp h]; exact ⟨rfl, rfl⟩
  · rw [es_beq.mp h]; exact ⟨rfl, rfl⟩
  · rw [es_beq.mp h]; exact ⟨rfl, rfl⟩
  · rw [Bool.and_eq_true] at h
    have := es_blt.mp h.1
    match t, this with
    | t + 3, _ => exact ⟨rfl, rfl⟩
  · cases h
theorem es_stw (fc : es_FC WS SL D cI cJ cZ cC cM n0 b ρ p R s m args meth c M) {H : Heap} {ls : Array Slot} {locs : List Loc} {st : List Value} {ins : Instr} {pc : Nat} {L : es_L} {v j a : es_V} {S' : List es_V} {AH : List es_O} {F : es_F} {cs ss : Nat} {K' : es_K} (hd : decode (es_code M) pc = .ok (ins, es_len ins))
    (hs : es_sr n0 b ρ (v :: j :: a :: S') st) (hl : es_lr n0 b ρ (es_mL M) L ls) (hH : es_hr D (es_TY cI cJ cZ cC cM) n0 b ρ AH H) (hF : es_fr ρ F) (hS : va_S (es_A n0) s.heap H locs) {t n jn : Nat} {cf : List (Nat × es_V)} (hA : es_ary AH a = some (t, n, cf)) (hj : es_kn F j = some jn)
    (h : (bif (es_sti ins t && Nat.blt jn n) && es_sfit AH F t v then some (pc + 1, L, S', es_hset AH a.2 t n cf jn v, F, cs, ss) else none) = some K')
    (k : es_G p l e R s m args below meth c Q D (es_TY cI cJ cZ cC cM) n0 b ρ (es_mL M) K') : W p l e R s m args below meth c H locs cs ss Q (F0 m pc ls st) := by
  obtain ⟨hx, hb, hml, hown, hts, hK, hR, hin, hscr, hao, -⟩ := fc
  cases hc : ((es_sti ins t && Nat.blt jn n) && es_sfit AH F t v)
  · rw [hc] at h; cases h
  · rw [hc] at h
    simp only [Bool.and_eq_true, es_blt] at hc
    obtain ⟨⟨h1, h2⟩, h3⟩ := hc
    obtain ⟨e1, e2⟩ := es_sti_eq h1
    rw [e2, e1] at hd
    obtain ⟨x, st1, rfl, hv, y, st2, rfl, hvj, z, st', rfl, hva, hs'⟩ := hs
    obtain ⟨rfl, hA', hn⟩ := es_ary_ok hA hva
    rw [es_hset_eq hA'] at h
    cases h
    have e3 := es_kn_ok hF hvj hj
    subst e3
    exact es_ast hx hb hK hF hH (hH.2 _ _ hA') h2 hn hv h3 hd (fun H1 i g1 g2 g3 => k H1 ls _ _ ⟨hl, hs', es_hr_set hH g2 g3 g1, hF, es_va_put hS g2 g3⟩)
theorem es_ldw (fc : es_FC WS SL D cI cJ cZ cC cM n0 b ρ p R s m args meth c M) {H : Heap} {ls : Array Slot} {locs : List Loc} {st : List Value} {ins : Instr} {pc : Nat} {L : es_L} {j a : es_V} {S' : List es_V} {AH : List es_O} {F : es_F} {cs ss : Nat} {K' : es_K} (hd : decode (es_code M) pc = .ok (ins, es_len ins))
    (hs : es_sr n0 b ρ (j :: a :: S') st) (hl : es_lr n0 b ρ (es_mL M) L ls) (hH : es_hr D (es_TY cI cJ cZ cC cM) n0 b ρ AH H) (hF : es_fr ρ F) (hS : va_S (es_A n0) s.heap H locs) {jn : Nat} (hj : es_kn F j = some jn)
    (h : (bif Nat.beq a.1 5 then (match ins with
            | .iaload => bif Nat.blt jn SL && Nat.blt SL 2147483648 then some (pc + 1, L, es_nrm F jn :: S', AH, F, cs, ss) else none
            | _ => none) else match es_ary AH a with
          | some (t, n, c) => bif es_lt ins t && Nat.blt jn n then some (pc + 1, L, es_ad t c jn :: S', AH, F, cs, ss) else none
          | none => none) = some K')
    (k : es_G p l e R s m args below meth c Q D (es_TY cI cJ cZ cC cM) n0 b ρ (es_mL M) K') : W p l e R s m args below meth c H locs cs ss Q (F0 m pc ls st) := by
  obtain ⟨hx, hb, hml, hown, hts, hK, hR, hin, hscr, hao, -⟩ := fc
  obtain ⟨y, st2, rfl, hvj, z, st', rfl, hva, hs'⟩ := hs
  have e3 := es_kn_ok hF hvj hj
  subst e3
  cases h5 : Nat.beq a.1 5
  · rw [h5] at h
    dsimp only [cond_false] at h
    split at h
    · rename_i t n cf hA
      obtain ⟨rfl, hA', hn⟩ := es_ary_ok hA hva
      cases hc : (es_lt ins t && Nat.blt jn n)
      · rw [hc] at h; cases h
      · rw [hc] at h
        cases h
        rw [Bool.and_eq_true, es_blt] at hc
        obtain ⟨e1, e2⟩ := es_lt_eq hc.1
        rw [e2, e1] at hd
        exact es_ald hx hb hK (hH.2 _ _ hA') hc.2 hn hd (fun x hx2 => k H ls locs _ ⟨hl, ⟨_, _, rfl, hx2, hs'⟩, hH, hF, hS⟩)
    · cases h
  · rw [h5] at h
    dsimp only [cond_true] at h
    split at h
    · cases hc : (Nat.blt jn SL && Nat.blt SL 2147483648)
      · rw [hc] at h; cases h
      · rw [hc] at h
        cases h
        simp only [Bool.and_eq_true, es_blt] at hc
        obtain ⟨t, q⟩ := a
        have e := es_beq.mp h5
        dsimp only at e
        subst e
        have e2 : z = .ref (b 0) := hva
        subst e2
        refine va_sld hx hb hscr.2.2 (Nat.lt_of_lt_of_le hscr.1 hscr.2.1) (Nat.not_le.mpr hscr.1) hS (vp_in_nI hc.1 hc.2) (by assumption) (k H ls locs _ ⟨hl, ⟨_, _, rfl, ?_, hs'⟩, hH, hF, hS⟩)
        rw [nI_clamp (by omega)]
        unfold es_nrm
        have h1 : es_vr n0 b ρ (1, jn) (.int (ρ jn)) := rfl
        cases hkn : es_kn F (1, jn) with
        | none => exact h1
        | some nn => exact es_kn_ok hF h1 hkn
    · cases h
set_option maxHeartbeats 4000000 in
theorem es_hs_ok (hU : ∀ (ci : Nat) (r : vw_C), vwCl[ci]? = some r → ∀ w ∈ u_ws r.1 r.2.1 r.2.2, w ∈ WS) (fc : es_FC WS SL D cI cJ cZ cC cM n0 b ρ p R s m args meth c M) {E : es_I} {K K' : es_K} (hd : decode (es_code M) K.1 = .ok (E.2.1, es_len E.2.1)) (hok : es_hok WS M E = true) (h : es_hs SL M E K = some K')
    (k : es_G p l e R s m args below meth c Q D (es_TY cI cJ cZ cC cM) n0 b ρ (es_mL M) K') : es_G p l e R s m args below meth c Q D (es_TY cI cJ cZ cC cM) n0 b ρ (es_mL M) K := by
  intro H ls locs st hinv
  obtain ⟨pc, L, S, AH, F, cs, ss⟩ := K
  obtain ⟨hl, hs, hH, hF, hS⟩ := hinv
  obtain ⟨hx, hb, hml, hown, hts, hK, hR, hin, hscr, hao, -⟩ := id fc
  obtain ⟨epc, ins, len, aux⟩ := E
  dsimp only at hl hs hH hF hd ⊢
  unfold es_hs at h
  unfold es_hok at hok
  dsimp only at h hok
  split at h
  -- getfield
  · rename_i idx
    split at h
    · rename_i ci kf tl v S'
      cases ho : es_obj AH ci v with
      | none => rw [ho] at h; cases h
      | some cf =>
        rw [ho] at h
        dsimp only at h
        cases hg : es_get cf kf with
        | none => rw [hg] at h; cases h
        | some w =>
          rw [hg] at h
          cases h
          obtain ⟨x, st', rfl, hv, hs'⟩ := hs
          obtain ⟨rfl, hA⟩ := es_obj_ok ho hv
          dsimp only at hok
          split at hok
          · rename_i ci' k' j heq
            cases heq
            split at hok
            · rename_i r hr
              obtain ⟨C, T, N⟩ := r
              exact es_getf hx hb hown hts hK hr (hU ci _ hr) (es_wj_in hok) (hH.2 _ _ hA) hg hd (fun y hy => k H ls locs _ ⟨hl, ⟨_, _, rfl, hy, hs'⟩, hH, hF, hS⟩)
            · cases hok
          · cases hok
    · cases h
  -- putfield
  · rename_i idx
    split at h
    · rename_i ci kf tl v o S'
      cases ho : es_obj AH ci o with
      | none => rw [ho] at h; cases h
      | some cf =>
        rw [ho] at h
        dsimp only at h
        cases hg : es_get cf kf with
        | none => rw [hg] at h; cases h
        | some w =>
          rw [hg] at h
          dsimp only at h
          cases hft : es_fitv (es_tyf ci kf) F v
          · rw [hft] at h; cases h
          · rw [hft] at h
            cases h
            obtain ⟨x, st1, rfl, hv, y, st', rfl, hvo, hs'⟩ := hs
            obtain ⟨rfl, hA⟩ := es_obj_ok ho hvo
            dsimp only at hok
            split at hok
            · rename_i ci' k' j heq
              cases heq
              split at hok
              · rename_i r hr
                obtain ⟨C, T, N⟩ := r
                rw [Bool.and_eq_true] at hok
                obtain ⟨c1, c2, -⟩ := es_cl hr
                obtain ⟨f1, f2⟩ := es_fitv_ok hF hv hft
                have hfin : (T kf).2.2.2 = false ∨ (meth.name = "<init>" ∧ (T kf).1 = es_own M) := by
                  have h2 := hok.2
                  rw [Bool.or_eq_true] at h2
                  rcases h2 with h2 | h2
                  · left; simpa using h2
                  · right
                    rw [Bool.and_eq_true] at h2
                    exact ⟨hin (of_decide_eq_true h2.1), of_decide_eq_true h2.2⟩
                exact es_putf hx hb hown hts hK hr (hU ci _ hr) (es_tyf ci) c1 c2 (es_wj_in hok.1) hfin (hH.2 _ _ hA) hg hv f1 f2 hd (fun H1 i g1 g2 g3 => k H1 ls _ _ ⟨hl, hs', es_hr_set hH g2 g3 g1, hF, es_va_put hS g2 g3⟩)
              · cases hok
            · cases hok
    · cases h
  -- new
  · rename_i idx
    split at h
    · rename_i ci tl
      dsimp only at hok
      split at hok
      · rename_i ci' j1 j2 j3 heq
        cases heq
        split at h
        · rename_i r hr
          rw [hr] at hok
          dsimp only at hok
          cases hcap : (Nat.blt cs (es_mc M) && Nat.ble (ss + r.2.2) (es_ms M))
          · rw [hcap] at h; cases h
          · rw [hcap] at h
            cases h
            rw [Bool.and_eq_true] at hcap
            have e1 := es_blt.mp hcap.1
            have e2 := Nat.ble_eq.mp hcap.2
            obtain ⟨C, T, N⟩ := r
            simp only [Bool.and_eq_true] at hok
            obtain ⟨c1, c2, c3⟩ := es_cl hr
            refine es_newo hx hb hown hts hK hH hr (hU ci _ hr) (es_tyf ci) c1 (fun q hq => es_pl _ (c3 q hq)) (es_wj_in hok.1) (es_wj_in hok.2.1) (es_wj_in hok.2.2) (by have := hR.1; omega) (by have := hR.2.1; dsimp only at e2; omega) hd (fun H1 g1 g2 g3 => k H1 ls _ _ ⟨hl, ⟨_, _, rfl, ?_, hs⟩, g1, hF, es_va_push hS g2 g3⟩)
            show Value.ref H.size = Value.ref (n0 + AH.length)
            rw [hH.1]
        · cases h
      · cases hok
      · rename_i hne1 hne2
        exact absurd rfl (hne2 _)
    · cases h
  -- newarray
  · rename_i ty
    split at h
    · rename_i t tl v S'
      cases hk : es_kn F v with
      | none => rw [hk] at h; cases h
      | some n =>
        rw [hk] at h
        dsimp only at h
        cases hcap : ((Nat.blt t 3 && Nat.blt n 1000000) && (Nat.blt cs (es_mc M) && Nat.ble (ss + n) (es_ms M)))
        · rw [hcap] at h; cases h
        · rw [hcap] at h
          cases h
          simp only [Bool.and_eq_true, es_blt, Nat.ble_eq] at hcap
          obtain ⟨⟨t3, n6⟩, e1, e2⟩ := hcap
          obtain ⟨x, st', rfl, hv, hs'⟩ := hs
          have e3 := es_kn_ok hF hv hk
          subst e3
          dsimp only at hok
          split at hok
          · rename_i t' j heq
            cases heq
            rw [Bool.and_eq_true] at hok
            have e4 := of_decide_eq_true hok.1
            subst e4
            refine es_newa hx hb hK hH t3 n6 (hts _ (es_wj_in hok.2)) (by have := hR.1; omega) (by have := hR.2.1; omega) hd (fun H1 g1 g2 g3 => k H1 ls _ _ ⟨hl, ⟨_, _, rfl, ?_, hs'⟩, g1, hF, es_va_push hS g2 g3⟩)
            show Value.ref H.size = Value.ref (n0 + AH.length)
            rw [hH.1]
          · cases hok
    · cases h
  -- anewarray
  · rename_i idx
    split at h
    · rename_i t tl v S'
      cases hk : es_kn F v with
      | none => rw [hk] at h; cases h
      | some n =>
        rw [hk] at h
        dsimp only at h
        cases hcap : ((Nat.blt t 2 && Nat.blt n 1000000) && (Nat.blt cs (es_mc M) && Nat.ble (ss + n) (es_ms M)))
        · rw [hcap] at h; cases h
        · rw [hcap] at h
          cases h
          simp only [Bool.and_eq_true, es_blt, Nat.ble_eq] at hcap
          obtain ⟨⟨t2, n6⟩, e1, e2⟩ := hcap
          obtain ⟨x, st', rfl, hv, hs'⟩ := hs
          have e3 := es_kn_ok hF hv hk
          subst e3
          dsimp only at hok
          split at hok
          · rename_i t' j heq
            cases heq
            split at hok
            · rename_i C hC
              have hover : va_AO C s := by
                match t, t2, hC with
                | 0, _, hC => cases hC; exact hao.1
                | 1, _, hC => cases hC; exact hao.2
              refine es_anew hx hb hown hK hH hC t2 n6 (hts _ (es_wj_in hok)) (va_AO.use hover) (by have := hR.1; omega) (by have := hR.2.1; omega) hd (fun H1 g1 g2 g3 => k H1 ls _ _ ⟨hl, ⟨_, _, rfl, ?_, hs'⟩, g1, hF, es_va_push hS g2 g3⟩)
              show Value.ref H.size = Value.ref (n0 + AH.length)
              rw [hH.1]
            · cases hok
          · cases hok
    · cases h
  -- arraylength
  · split at h
    · rename_i v S'
      obtain ⟨x, st', rfl, hv, hs'⟩ := hs
      cases h5 : Nat.beq v.1 5
      · rw [h5] at h
        dsimp only [cond_false] at h
        split at h
        · rename_i t n cf hA
          cases h
          obtain ⟨rfl, hA', -⟩ := es_ary_ok hA hv
          exact es_aln hx hb hK (hH.2 _ _ hA') hd (k H ls locs _ ⟨hl, ⟨_, _, rfl, rfl, hs'⟩, hH, hF, hS⟩)
        · cases h
      · rw [h5] at h
        cases h
        obtain ⟨t, q⟩ := v
        have e := es_beq.mp h5
        dsimp only at e
        subst e
        have e2 : x = .ref (b 0) := hv
        subst e2
        exact va_slen hx hb hscr.2.2 (Nat.lt_of_lt_of_le hscr.1 hscr.2.1) (Nat.not_le.mpr hscr.1) hS hd (k H ls locs _ ⟨hl, ⟨_, _, rfl, rfl, hs'⟩, hH, hF, hS⟩)
    · cases h
  · split at h
    · rename_i v j a S'
      split at h
      · rename_i t n cf jn hA hj
        exact es_stw fc hd hs hl hH hF hS hA hj h k
      · cases h
    · cases h
  · split at h
    · rename_i v j a S'
      split at h
      · rename_i t n cf jn hA hj
        exact es_stw fc hd hs hl hH hF hS hA hj h k
      · cases h
    · cases h
  · split at h
    · rename_i v j a S'
      split at h
      · rename_i t n cf jn hA hj
        exact es_stw fc hd hs hl hH hF hS hA hj h k
      · cases h
    · cases h
  · split at h
    · rename_i v j a S'
      split at h
      · rename_i t n cf jn hA hj
        exact es_stw fc hd hs hl hH hF hS hA hj h k
      · cases h
    · cases h
  · split at h
    · rename_i j a S'
      split at h
      · rename_i jn hj
        exact es_ldw fc hd hs hl hH hF hS hj h k
      · cases h
    · cases h
  · split at h
    · rename_i j a S'
      split at h
      · rename_i jn hj
        exact es_ldw fc hd hs hl hH hF hS hj h k
      · cases h
    · cases h
  · split at h
    · rename_i j a S'
      split at h
      · rename_i jn hj
        exact es_ldw fc hd hs hl hH hF hS hj h k
      · cases h
    · cases h
  · split at h
    · rename_i j a S'
      split at h
      · rename_i jn hj
        exact es_ldw fc hd hs hl hH hF hS hj h k
      · cases h
    · cases h
  · rename_i idx
    split at h
    · rename_i n tl
      cases h
      dsimp only at hok
      split at hok
      · rename_i n' j heq
        cases heq
        exact lv_ldc hx hb hown (hts _ (es_wj_in hok)) hd (k H ls locs _ ⟨hl, ⟨_, _, rfl, rfl, hs⟩, hH, hF, hS⟩)
      · cases hok
    · cases h
  · rename_i idx
    split at h
    · rename_i n tl
      cases h
      dsimp only at hok
      split at hok
      · rename_i n' j heq
        cases heq
        exact lv_ldcw hx hb hown (hts _ (es_wj_in hok)) hd (k H ls locs _ ⟨hl, ⟨_, _, rfl, rfl, hs⟩, hH, hF, hS⟩)
      · cases hok
    · cases h
  · rename_i idx
    split at h
    · rename_i n tl
      cases h
      dsimp only at hok
      split at hok
      · rename_i n' j heq
        cases heq
        exact lv_ldc2 hx hb hown (hts _ (es_wj_in hok)) hd (k H ls locs _ ⟨hl, ⟨_, _, rfl, rfl, hs⟩, hH, hF, hS⟩)
      · cases hok
    · cases h
  · cases h
end Hs
