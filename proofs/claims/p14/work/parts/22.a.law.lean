theorem es_rtv_b {ins : Instr} {F : es_F} {q : Nat × es_V} : ∀ {S : List es_V}, es_rtv (some .boolean) ins S F = some q → ins = .ireturn ∧ ∃ v, S = [v] ∧ q = (1, v)
  | [], h => by cases ins <;> cases h
  | [v], h => by
    cases ins
    case ireturn =>
      have h1 : (bif es_fitv .boolean F v then some (1, v) else none) = some q := h
      cases hc : es_fitv .boolean F v
      · rw [hc] at h1; cases h1
      · rw [hc] at h1
        cases h1
        exact ⟨rfl, v, rfl, rfl⟩
    all_goals cases h
  | v :: w :: S, h => by cases ins <;> cases h
theorem lw_leaf {d : Nat} {E : es_E} {v : es_V} {AH : List es_O} {F : es_F} (h : es_leaf (gdp d em_511) E = some (1, v, AH, F)) : ∃ pc L cs ss e, E = (0, pc, L, [v], AH, F, cs, ss) ∧ es_at (es_tab em_511) pc = some e ∧ e.2.1 = .ireturn ∧ cs ≤ 601024 ∧ ss ≤ 7293034 := by
  obtain ⟨k, pc, L, S, AH', F', cs, ss⟩ := E
  match k, h with
  | k + 1, h =>
    have h1 : (bif Nat.ble cs 601024 && Nat.ble ss 7293034 then some (k + 2, ((0, 0) : es_V), AH', F') else none) = some (1, v, AH, F) := h
    cases hc : (Nat.ble cs 601024 && Nat.ble ss 7293034)
    · rw [hc] at h1; cases h1
    · rw [hc] at h1
      have h2 : k + 2 = 1 := congrArg Prod.fst (Option.some.inj h1)
      omega
  | 0, h =>
    have ht : es_tab (gdp d em_511) = es_tab em_511 := rfl
    have hh : es_hh (gdp d em_511) = [] := rfl
    have hr : es_rt (gdp d em_511) = some .boolean := rfl
    unfold es_leaf at h
    dsimp only at h
    rw [ht, hh, hr] at h
    cases hat : es_at (es_tab em_511) pc with
    | none => rw [hat] at h; cases h
    | some e =>
      rw [hat] at h
      dsimp only at h
      split at h
      · rename_i x tl haux
        exfalso
        revert h
        generalize ((Nat.blt cs (es_mc (gdp d em_511)) && Nat.ble (ss + 6) (es_ms (gdp d em_511))) && (Nat.blt 5 (es_rf (gdp d em_511)) && Nat.ble 100 (es_lo (gdp d em_511))) && Nat.ble (es_cts S) 8) = bb
        intro h
        cases bb
        · cases h
        · have h2 : x + 2 = 1 := congrArg Prod.fst (Option.some.inj h)
          omega
      · cases hq : es_rtv (some .boolean) e.2.1 S F' with
        | none => rw [hq] at h; cases h
        | some q =>
          rw [hq] at h
          obtain ⟨h1, w, rfl, rfl⟩ := es_rtv_b hq
          have h2 : (bif Nat.ble cs 601024 && Nat.ble ss 7293034 then some (1, w, AH', F') else none) = some (1, v, AH, F) := h
          cases hc : (Nat.ble cs 601024 && Nat.ble ss 7293034)
          · rw [hc] at h2; cases h2
          · rw [hc] at h2
            cases h2
            simp only [Bool.and_eq_true, Nat.ble_eq] at hc
            exact ⟨pc, L, cs, ss, e, rfl, hat, h1, hc.1, hc.2⟩
/-- what is left: the law as a Lean function answers 1 -/
noncomputable def lw_y0 : Nat × Nat × Nat × Int × gS := (0, 217, 231, 0, gfrom es_H0)
def lw_D : Prop := ∀ (n : Nat) (sc : Nat → Int), n ≤ 3072 → (∀ i, gc32 (sc i)) → ∃ s', giter (st_511_23 n sc) 513 lw_y0 = some (1, 1, 0, s')
theorem whole_start {p : Program} {e : Env} {s : State} {m : MethodId} {below : List Frame} {meth : Method} {c : Code} (hD : lw_D) (l : Launch) (htr : l.stackTraces = false) {b0 L : Nat} {xs : Nat → Int32} (hL : L ≤ 3072) (C0 : lw_At p s m meth c b0 L xs) : W p l e room_1 s m #[Value.ref b0] below meth c s.heap [] 0 0 (lw_Z below #[Value.ref b0] s) (entryFrame m ([Value.ref b0] : List Value).toArray 7) := by
  obtain ⟨hx, hb, hr, hml, hown, hts, hX, hbl, hlocks, hgv, htab⟩ := C0
  obtain ⟨D, cI, cJ, cZ, cC, cM, b, hb0, hev⟩ := es_ev0 l htr hts hX hbl hgv
  have hM : gME es_ME0 (511 + 512 * 103) = gdp 103 em_511 := gME_at es_ME0 (by decide) 103
  have fc : es_FC es_WS L D cI cJ cZ cC cM s.heap.size b xs p room_1 s m #[Value.ref b0] meth c (gME es_ME0 (511 + 512 * 103)) := by
    rw [hM]
    exact ⟨hx, hb, hml, hown, fun w hw => hts w (es_WSt w hw), hev.1, ⟨Nat.le_refl _, Nat.le_refl _, Nat.le_of_ble_eq_true rfl, Nat.le_of_ble_eq_true rfl⟩, fun h => absurd h (by decide +kernel), hev.2.1, hev.2.2.1, hlocks, hr⟩
  have ht : c.exceptionTable.toList = tableOf (es_hh (gME es_ME0 (511 + 512 * 103))) := by
    rw [hM]
    show c.exceptionTable.toList = []
    exact List.eq_nil_iff_forall_not_mem.mpr htab
  have hmL : es_mL (gME es_ME0 (511 + 512 * 103)) = 7 := by rw [hM]; rfl
  obtain ⟨hE0, hw0⟩ := gckf_ok es_pre1
  obtain ⟨s', hs'⟩ := hD L (fun i => (xs i).toInt) hL (fun i => gc32_t _)
  have ok : gOK (gxX l L D cI cJ cZ cC cM s.heap.size b (gFs L xs)) := gx_ok
  obtain ⟨E, h1, h2, -⟩ := law_it ok gx_hX 0 (Nat.lt_of_le_of_lt hL (by decide)) (sc := fun i => (xs i).toInt) (fun i hi => gFs_kn hi) 513 232 47168 (by decide) (by decide) lw_y0 rfl (by decide) rfl hw0 (fun q hq => by
    simp only [List.mem_cons, List.not_mem_nil, or_false] at hq
    rcases hq with rfl | rfl | rfl | rfl | rfl
    · exact fun h => absurd h (by decide)
    · exact gokb_ok (by decide +kernel)
    · exact gokb_ok (by decide +kernel)
    · exact gokb_ok (by decide +kernel)
    · exact gokb_ok (by decide +kernel)) (fun v hv => by cases hv) (1, 1, 0, s') (by
      show (giter (st_511_23 L (fun i => (xs i).toInt)) 513 lw_y0).bind some = _
      rw [hs']; rfl)
  have h3 : gRS (gxX l L D cI cJ cZ cC cM s.heap.size b (gFs L xs)) (511 + 512 * 103) (23, es_L0, [], es_H0, gFs L xs, 232, 47168) [E] := ok.2.2.2.2.2 _ _ _ _ _ _ _ _ _ _ hE0 h1
  have h4 : es_leaf (gdp 103 em_511) E = some (1, (0, 1), gH s', gFs L xs) := h2
  have hfin : es_EG p l e room_1 s m #[Value.ref b0] below meth c (lw_Z below #[Value.ref b0] s) D (es_TY cI cJ cZ cC cM) s.heap.size b xs (es_mL (gME es_ME0 (511 + 512 * 103))) E := by
    obtain ⟨pc, L1, cs, ss, e1, rfl, hat, hins, hcs, hss⟩ := lw_leaf h4
    have hd := es_rows es_G0 (M := 511 + 512 * 103) (pc := pc) (ent := e1) (by rw [hM]; exact hat) (fun d1 d2 d3 d4 h9 => by rw [hins] at h9; cases h9)
    rw [hins, hM] at hd
    intro H ls locs st hinv
    obtain ⟨hl, hs, hH, hF, hS⟩ := hinv
    dsimp only at hl hs hH hF hS ⊢
    obtain ⟨y, st', rfl, hy, hst⟩ := hs
    have e2 : st' = [] := hst
    subst e2
    have e3 : y = .int 1 := by
      have h9 : y = .int (nI 1) := hy
      rw [h9]; rfl
    subst e3
    refine va_forget hS.2.2 (W.widen (k := 601024) (n := 7293034) hcs hss ?_)
    exact lw_ret hx hb hr hlocks hd
  have hgo : es_G p l e room_1 s m #[Value.ref b0] below meth c (lw_Z below #[Value.ref b0] s) D (es_TY cI cJ cZ cC cM) s.heap.size b xs (es_mL (gME es_ME0 (511 + 512 * 103))) (23, es_L0, [], es_H0, gFs L xs, 232, 47168) := h3 xs p e room_1 s m #[Value.ref b0] below meth c (lw_Z below #[Value.ref b0] s) fc hev ht (fun E' hE => by rw [List.mem_singleton.mp hE]; exact hfin)
  have hG : es_G p l e room_1 s m #[Value.ref b0] below meth c (lw_Z below #[Value.ref b0] s) D (es_TY cI cJ cZ cC cM) s.heap.size b xs (es_mL (gME es_ME0 (511 + 512 * 103))) (0, [(0, (5, 0))], [], [], [], 0, 0) :=
    es_rz_ok ok (M0 := 511 + 512 * 103) 100000 (511 + 512 * 103) _ _ (es_is_eq es_pre0) xs p e room_1 s m #[Value.ref b0] below meth c (lw_Z below #[Value.ref b0] s) fc hev ht (fun E' hE => by
      rw [List.mem_singleton.mp hE]
      intro H ls locs st hinv
      exact hgo H ls locs st ⟨hinv.1, hinv.2.1, hinv.2.2.1, gFs_fr L xs, hinv.2.2.2.2⟩)
  rw [hmL] at hG
  have hent := lv_entry ([.ref b0]) (n := 7) (Nat.le_of_ble_eq_true rfl)
  rw [lg_entry_eq]
  generalize (lg_sl ([.ref b0]) ++ List.replicate (7 - (lg_sl ([.ref b0])).length) Slot.unset).toArray = ls at hent ⊢
  refine hG s.heap ls [] [] ⟨⟨hent.1, hent.2.1, fun j v hv => ?_⟩, rfl, ⟨rfl, fun i o ho => by cases ho⟩, fun k q hq => (by cases hq), va_S.rf⟩
  obtain ⟨x, h1, h2⟩ := es_al_ok (n0 := s.heap.size) (b := b) (ρ := xs) [(5, 0)] [.ref b0] 0 ⟨_, _, rfl, by rw [← hb0]; rfl, rfl⟩ j v hv
  exact ⟨x, hent.2.2 _ h1, h2⟩
