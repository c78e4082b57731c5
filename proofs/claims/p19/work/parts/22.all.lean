section
theorem es_rtv_b {ins : Instr} {F : es_F} {q : Nat × es_V} : ∀ {S : List es_V}, es_rtv (some .boolean) ins S F = some q → ins = .ireturn ∧ ∃ v, S = [v] ∧ q = (1, v)
  | [], h => by cases ins <;> cases h
  | [v], h => by
    cases ins
    case ireturn =>
      have h1 : (bif es_fitv .boolean F v then some (1, v) else none) = some q := h
      cases hc : es_fitv .boolean F v
      · rw [hc] at h1; cases h1
      · rw [hc] at h1
        cases h1
        exact ⟨rfl, v, rfl, rfl⟩
    all_goals cases h
  | v :: w :: S, h => by cases ins <;> cases h
theorem lw_leaf {d : Nat} {E : es_E} {v : es_V} {AH : List es_O} {F : es_F} (h : es_leaf (gdp d em_511) E = some (1, v, AH, F)) : ∃ pc L cs ss e, E = (0, pc, L, [v], AH, F, cs, ss) ∧ es_at (es_tab em_511) pc = some e ∧ e.2.1 = .ireturn ∧ cs ≤ 601024 ∧ ss ≤ 7293034 := by
  obtain ⟨k, pc, L, S, AH', F', cs, ss⟩ := E
  match k, h with
  | k + 1, h =>
    have h1 : (bif Nat.ble cs 601024 && Nat.ble ss 7293034 then some (k + 2, ((0, 0) : es_V), AH', F') else none) = some (1, v, AH, F) := h
    cases hc : (Nat.ble cs 601024 && Nat.ble ss 7293034)
    · rw [hc] at h1; cases h1
    · rw [hc] at h1
      have h2 : k + 2 = 1 := congrArg Prod.fst (Option.some.inj h1)
      omega
  | 0, h =>
    have ht : es_tab (gdp d em_511) = es_tab em_511 := rfl
    have hh : es_hh (gdp d em_511) = [] := rfl
    have hr : es_rt (gdp d em_511) = some .boolean := rfl
    unfold es_leaf at h
    dsimp only at h
    rw [ht, hh, hr] at h
    cases hat : es_at (es_tab em_511) pc with
    | none => rw [hat] at h; cases h
    | some e =>
      rw [hat] at h
      dsimp only at h
      split at h
      · rename_i x tl haux
        exfalso
        revert h
        generalize ((Nat.blt cs (es_mc (gdp d em_511)) && Nat.ble (ss + 6) (es_ms (gdp d em_511))) && (Nat.blt 5 (es_rf (gdp d em_511)) && Nat.ble 100 (es_lo (gdp d em_511))) && Nat.ble (es_cts S) 8) = bb
        intro h
        cases bb
        · cases h
        · have h2 : x + 2 = 1 := congrArg Prod.fst (Option.some.inj h)
          omega
      · cases hq : es_rtv (some .boolean) e.2.1 S F' with
        | none => rw [hq] at h; cases h
        | some q =>
          rw [hq] at h
          obtain ⟨h1, w, rfl, rfl⟩ := es_rtv_b hq
          have h2 : (bif Nat.ble cs 601024 && Nat.ble ss 7293034 then some (1, w, AH', F') else none) = some (1, v, AH, F) := h
          cases hc : (Nat.ble cs 601024 && Nat.ble ss 7293034)
          · rw [hc] at h2; cases h2
          · rw [hc] at h2
            cases h2
            simp only [Bool.and_eq_true, Nat.ble_eq] at hc
            exact ⟨pc, L, cs, ss, e, rfl, hat, h1, hc.1, hc.2⟩
/-- what is left: the law as a Lean function answers 1 -/
noncomputable def lw_y0 : Nat × Nat × Nat × Int × gS := (0, 217, 231, 0, gfrom es_H0)
noncomputable def lw_D : Prop := ∀ (n : Nat) (sc : Nat → Int), n ≤ 3072 → (∀ i, gc32 (sc i)) → ∃ s', giter (st_511_23 n sc) 513 lw_y0 = some (1, 1, 0, s')
theorem whole_start {p : Program} {e : Env} {s : State} {m : MethodId} {below : List Frame} {meth : Method} {c : Code} (hD : lw_D) (l : Launch) (htr : l.stackTraces = false) {b0 L : Nat} {xs : Nat → Int32} (hL : L ≤ 3072) (C0 : lw_At p s m meth c b0 L xs) : W p l e room_1 s m #[Value.ref b0] below meth c s.heap [] 0 0 (lw_Z below #[Value.ref b0] s) (entryFrame m ([Value.ref b0] : List Value).toArray 7) := by
  obtain ⟨hx, hb, hr, hml, hown, hts, hX, hbl, hlocks, hgv, htab⟩ := C0
  obtain ⟨D, cI, cJ, cZ, cC, cM, b, hb0, hev⟩ := es_ev0 l htr hts hX hbl hgv
  have hM : gME es_ME0 (511 + 512 * 103) = gdp 103 em_511 := gME_at es_ME0 (by decide) 103
  have fc : es_FC es_WS L D cI cJ cZ cC cM s.heap.size b xs p room_1 s m #[Value.ref b0] meth c (gME es_ME0 (511 + 512 * 103)) := by
    rw [hM]
    exact ⟨hx, hb, hml, hown, fun w hw => hts w (es_WSt w hw), hev.1, ⟨Nat.le_refl _, Nat.le_refl _, Nat.le_of_ble_eq_true rfl, Nat.le_of_ble_eq_true rfl⟩, fun h => absurd h (by decide +kernel), hev.2.1, hev.2.2.1, hlocks, hr⟩
  have ht : c.exceptionTable.toList = tableOf (es_hh (gME es_ME0 (511 + 512 * 103))) := by
    rw [hM]
    show c.exceptionTable.toList = []
    exact List.eq_nil_iff_forall_not_mem.mpr htab
  have hmL : es_mL (gME es_ME0 (511 + 512 * 103)) = 7 := by rw [hM]; rfl
  obtain ⟨hE0, hw0⟩ := gckf_ok es_pre1
  obtain ⟨s', hs'⟩ := hD L (fun i => (xs i).toInt) hL (fun i => gc32_t _)
  have ok : gOK (gxX l L D cI cJ cZ cC cM s.heap.size b (gFs L xs)) := gx_ok
  obtain ⟨E, h1, h2, -⟩ := law_it ok gx_hX 0 (Nat.lt_of_le_of_lt hL (by decide)) (sc := fun i => (xs i).toInt) (fun i hi => gFs_kn hi) 513 232 47168 (by decide) (by decide) lw_y0 rfl (by decide) rfl hw0 (fun q hq => by
    simp only [List.mem_cons, List.not_mem_nil, or_false] at hq
    rcases hq with rfl | rfl | rfl | rfl | rfl
    · exact fun h => absurd h (by decide)
    · exact gokb_ok (by decide +kernel)
    · exact gokb_ok (by decide +kernel)
    · exact gokb_ok (by decide +kernel)
    · exact gokb_ok (by decide +kernel)) (fun v hv => by cases hv) (1, 1, 0, s') (by
      show (giter (st_511_23 L (fun i => (xs i).toInt)) 513 lw_y0).bind some = _
      rw [hs']; rfl)
  have h3 : gRS (gxX l L D cI cJ cZ cC cM s.heap.size b (gFs L xs)) (511 + 512 * 103) (23, es_L0, [], es_H0, gFs L xs, 232, 47168) [E] := ok.2.2.2.2.2 _ _ _ _ _ _ _ _ _ _ hE0 h1
  have h4 : es_leaf (gdp 103 em_511) E = some (1, (0, 1), gH s', gFs L xs) := h2
  have hfin : es_EG p l e room_1 s m #[Value.ref b0] below meth c (lw_Z below #[Value.ref b0] s) D (es_TY cI cJ cZ cC cM) s.heap.size b xs (es_mL (gME es_ME0 (511 + 512 * 103))) E := by
    obtain ⟨pc, L1, cs, ss, e1, rfl, hat, hins, hcs, hss⟩ := lw_leaf h4
    have hd := es_rows es_G0 (M := 511 + 512 * 103) (pc := pc) (ent := e1) (by rw [hM]; exact hat) (fun d1 d2 d3 d4 h9 => by rw [hins] at h9; cases h9)
    rw [hins, hM] at hd
    intro H ls locs st hinv
    obtain ⟨hl, hs, hH, hF, hS⟩ := hinv
    dsimp only at hl hs hH hF hS ⊢
    obtain ⟨y, st', rfl, hy, hst⟩ := hs
    have e2 : st' = [] := hst
    subst e2
    have e3 : y = .int 1 := by
      have h9 : y = .int (nI 1) := hy
      rw [h9]; rfl
    subst e3
    refine va_forget hS.2.2 (W.widen (k := 601024) (n := 7293034) hcs hss ?_)
    exact lw_ret hx hb hr hlocks hd
  have hgo : es_G p l e room_1 s m #[Value.ref b0] below meth c (lw_Z below #[Value.ref b0] s) D (es_TY cI cJ cZ cC cM) s.heap.size b xs (es_mL (gME es_ME0 (511 + 512 * 103))) (23, es_L0, [], es_H0, gFs L xs, 232, 47168) := h3 xs p e room_1 s m #[Value.ref b0] below meth c (lw_Z below #[Value.ref b0] s) fc hev ht (fun E' hE => by rw [List.mem_singleton.mp hE]; exact hfin)
  have hG : es_G p l e room_1 s m #[Value.ref b0] below meth c (lw_Z below #[Value.ref b0] s) D (es_TY cI cJ cZ cC cM) s.heap.size b xs (es_mL (gME es_ME0 (511 + 512 * 103))) (0, [(0, (5, 0))], [], [], [], 0, 0) :=
    es_rz_ok ok (M0 := 511 + 512 * 103) 100000 (511 + 512 * 103) _ _ (es_is_eq es_pre0) xs p e room_1 s m #[Value.ref b0] below meth c (lw_Z below #[Value.ref b0] s) fc hev ht (fun E' hE => by
      rw [List.mem_singleton.mp hE]
      intro H ls locs st hinv
      exact hgo H ls locs st ⟨hinv.1, hinv.2.1, hinv.2.2.1, gFs_fr L xs, hinv.2.2.2.2⟩)
  rw [hmL] at hG
  have hent := lv_entry ([.ref b0]) (n := 7) (Nat.le_of_ble_eq_true rfl)
  rw [lg_entry_eq]
  generalize (lg_sl ([.ref b0]) ++ List.replicate (7 - (lg_sl ([.ref b0])).length) Slot.unset).toArray = ls at hent ⊢
  refine hG s.heap ls [] [] ⟨⟨hent.1, hent.2.1, fun j v hv => ?_⟩, rfl, ⟨rfl, fun i o ho => by cases ho⟩, fun k q hq => (by cases hq), va_S.rf⟩
  obtain ⟨x, h1, h2⟩ := es_al_ok (n0 := s.heap.size) (b := b) (ρ := xs) [(5, 0)] [.ref b0] 0 ⟨_, _, rfl, by rw [← hb0]; rfl, rfl⟩ j v hv
  exact ⟨x, hent.2.2 _ h1, h2⟩

end
section
set_option maxHeartbeats 4000000 in
theorem lw_walk (hD : lw_D) (l : Launch) (htr : l.stackTraces = false) (b : Addr) (xs : List Int32) : MetFree l x (headSpec (Jvm.Cond.code x code maxLocals ret :: tables_1) room_1) (lw_P b xs) (fun _ _ _ _ _ => True) lw_Q := by
  refine MetFree.of_bodyS (code := code) (maxLocals := maxLocals) (ret := ret) (by decide) ?_ ?_
  · intro args s m h hn
    obtain ⟨meth, c, h1, h2, h3, h4, h5, h6, -, -⟩ := Cond.code_spec hn (atoms_spec (ws := Jvm.Cond.code x code maxLocals ret :: tables_1) h _ List.mem_cons_self)
    exact ⟨meth, c, h1, h2, h3, h4, h5, h6⟩
  · intro p e s m args below meth c s₁ B hml0 hP _
    obtain ⟨rfl, hx, hbd, hgv⟩ := hP
    obtain ⟨scr, harrAt, hlist, hof, hsmall⟩ := hx
    obtain ⟨hcb, hkn, -, -⟩ := State.arrayAt?_spec harrAt
    have hown : s.vm.findClass R_law = some m.cls := findClass_of_methodNamed B.named
    have hts0 : ∀ c ∈ (Jvm.Cond.code x code maxLocals ret :: tables_1), c.before #[Value.ref b] s = true := atoms_spec (ws := Jvm.Cond.code x code maxLocals ret :: tables_1) B.pre
    have hts : ∀ w ∈ lw_tbl, w.before #[Value.ref b] s = true := k2_hts_sels lw_privs (fun w hw => hts0 w (List.mem_cons_of_mem _ hw)) lw_privs_ok
    have hml : c.maxLocals = 7 := B.maxLocals_eq (hts0 _ List.mem_cons_self)
    have ht9 : ∀ x ∈ c.exceptionTable.toList, False := by
      obtain ⟨meth9, c9, h1, h2, -, -, -, -, h7, -⟩ := Cond.code_spec B.named (hts0 _ List.mem_cons_self)
      cases Option.some.inj (h1.symm.trans B.method)
      cases Option.some.inj (h2.symm.trans (Stand.of_body B).code)
      intro x hx
      rw [Array.isEmpty_iff.mp h7] at hx
      cases hx
    have X₀ : Stand p l e room_1 s m #[Value.ref b] below meth c s₁ [] 0 0 := Stand.of_body B
    have hh0 : s₁.heap = s.heap := by rw [B.state]; rfl
    have hsz : scr.slots.size = xs.length := by rw [← Array.length_toList, hlist, List.length_map]
    have hval : ∀ j : Nat, j < xs.length → scr.slots[j]? = some (.int (xs.getD j 0)) := fun j hj => by
      rw [← Array.getElem?_toList, hlist]
      simp [hj]
    have hbl : b < s.heap.size := (Array.getElem?_eq_some_iff.mp hcb).1
    have hX : va_X b xs.length (fun j => xs.getD j 0) s s.heap := ⟨scr, hcb, hof, hkn, hsz, hval⟩
    have K : W p l e room_1 s m #[Value.ref b] below meth c s₁.heap [] 0 0 (lw_Z below #[Value.ref b] s) (entryFrame m ([Value.ref b] : List Value).toArray 7) := by
      rw [hh0]
      exact whole_start hD l htr hbd ⟨B.exec, B.bytes, B.returns, hml, hown, hts, hX, hbl, B.notSynchronized, hgv, ht9⟩
    obtain ⟨t, a1, o, b1, b2, b3⟩ := K s₁ rfl X₀
    exact ⟨t, o, a1, b1, b2, b3⟩
theorem lw_pre_spec {args : Array Value} {s : State} (h : (Jvm.Cond.and given_1 narrow_1).before args s = true) (hr : rest_1_c.before args s = true) : ∃ (b : Addr) (xs : List Int32), lw_P b xs args s := by
  have hs := flat_of_before _ h
  have hq := flat_of_before _ hr
  have hc : (Cond.count 1).before args s = true := hs _ (by decide +kernel)
  have harr : (Cond.arrayOf (.arg 0) .int).before args s = true := hs _ (by decide +kernel)
  have hle : (Cond.le (.length (.arg 0)) (.int 3072)).before args s = true := hs _ (by decide +kernel)
  have hlen : (Cond.isInt (.length (.arg 0))).before args s = true := hq _ (by decide +kernel)
  have hall : (Cond.all (.arg 0) (.isInt (.elem (.arg 0) (.index 0)))).before args s = true := hq _ (by decide +kernel)
  obtain ⟨b, xs, hb, hx⟩ := State.ints_of_pre rfl harr hlen hall
  have hsm : xs.length < 2 ^ 31 := hx.choose_spec.2.2.2
  have hev : (Term.length (.arg 0)).eval args s none [] s = some (.int xs.length.toInt32) := hx.length_eval hb
  have hv := Cond.le_ints hev (show (Term.int 3072).eval args s none [] s = some (.int 3072) from rfl)
  have hd : xs.length.toInt32 ≤ 3072 := by
    simpa [Cond.before, Cond.holds, hv] using hle
  have hN : xs.length ≤ 3072 := (Int32.ofNat_le_ofNat hsm (by decide)).mp (show Int32.ofNat xs.length ≤ Int32.ofNat 3072 from hd)
  exact ⟨b, xs, Cond.one_arg hc (show args[0]? = some (.ref b) from hb), hx, hN, h⟩
theorem lw_comes (hD : lw_D) (l : Launch) (htr : l.stackTraces = false) : Comes l x (Jvm.Cond.code x code maxLocals ret :: tables_1) room_1 (fun tb e args s => Calls_1 tb e args s ∧ rest_1 tb e args s ∧ Pre_1 tb e args s)
    (fun _ _ args s o t => lw_Q args s o t) := by
  intro p e ha hc hk s m args below hf hfit hheap happ hpre
  obtain ⟨b, xs, hP⟩ := lw_pre_spec hpre.2.2 hpre.2.1
  obtain ⟨k, o, h1, h2, h3, hQ⟩ := lw_walk hD l htr b xs p e ha hc hk s m args below hf ((Spec.applies_iff_loose hf).mp happ).1 hP trivial
  exact ⟨k, o, h1, h2, h3, hQ⟩
theorem lw_frame {s t : State} {o : Outcome} {args : Array Value} (h : Framed s o t [] 601024 7293034) :
    Framed s o t (fieldLocs frame_1_writes args s ++ arrayLocs frame_1_arrays args s ++ staticLocs frame_1_statics s) 601024 7293034 := h
theorem lw_limb (hD : lw_D) (L : Cond) (hL : ∀ (args : Array Value) (s t : State), L.after args s (.returned (some (.int 1))) t = true) :
    ArmFor flags0 classFile x code maxLocals ret World_1 tables_1 room_1 Calls_1 rest_1 Pre_1
      (fun tb e a s o t => postC L tb e a s o t ∧ Framed s o t (fieldLocs frame_1_writes a s ++ arrayLocs frame_1_arrays a s ++ staticLocs frame_1_statics s) 601024 7293034) := by
  intro l hfl _ _ p e ha hc hk s m args below hf hfit hheap happ hpre
  obtain ⟨k, o, h1, h2, h3, rfl, hF⟩ := lw_comes hD l (by rw [Launch.stackTraces, hfl]; decide +kernel) p e ha hc hk s m args below hf hfit hheap happ hpre
  exact ⟨k, _, h1, h2, h3, hL args s _, lw_frame hF⟩

end
section
theorem lw_all (hD : lw_D) : Claimed_1_1 ∧ Claimed_1_2 := ⟨lw_limb hD limb_1_1 (fun args s t => by simp [limb_1_1, Cond.after, Cond.holds, Cond.value]), lw_limb hD limb_1_2 (fun args s t => Cond.after_iff.mpr (by
  first | (rw [show limb_1_2 = Cond.eq .result (.int 1) from rfl, Cond.eq_ints (x := 1) (y := 1) rfl rfl]; simp; done) | (simp [limb_1_2, Cond.value, Term.eval]; done)))⟩

end
section
/-! Layer D: the functions end -/
noncomputable def gT {Q : Type} (x : Option Q) (P : Q → Prop) : Prop := ∃ r, x = some r ∧ P r
section GT
variable {Q : Type} {x y : Option Q} {P : Q → Prop}
theorem gT_ret {r : Q} (h : P r) : gT (some r) P := ⟨r, rfl, h⟩
theorem gT_mono {P' : Q → Prop} (h : gT x P') (hp : ∀ r, P' r → P r) : gT x P := by
  obtain ⟨r, h1, h2⟩ := h
  exact ⟨r, h1, hp r h2⟩
theorem gT_ite {c : Prop} [Decidable c] (h1 : c → gT x P) (h2 : ¬ c → gT y P) : gT (if c then x else y) P := by
  by_cases h : c
  · rw [if_pos h]; exact h1 h
  · rw [if_neg h]; exact h2 h
theorem gT_chk {j n : Int} (h1 : 0 ≤ j) (h2 : j < n) (k : gT x P) : gT (gchk j n x) P := by
  unfold gchk
  rw [if_pos ⟨h1, h2⟩]
  exact k
theorem gT_bool {v : Int} (h : v = 0 ∨ v = 1) (k : gT x P) : gT (gbool v x) P := by
  unfold gbool
  rw [if_pos h]
  exact k
theorem gT_map {R : Type} {f : Q → R} {P : R → Prop} (h : gT x (fun r => P (f r))) : gT (x.map f) P := by
  obtain ⟨r, h1, h2⟩ := h
  rw [h1]
  exact ⟨f r, rfl, h2⟩
theorem gT_v0 {z : Option gO} {A : gS → Prop} {E : gS → Option Q} (h : gT z (fun r => r.1 = 0 ∧ A r.2.2.2)) (k : ∀ s, A s → gT (E s) P) : gT (z.bind (gv0 E)) P := by
  obtain ⟨r, h1, h2, h3⟩ := h
  rw [h1]
  show gT (gv0 E r) P
  unfold gv0
  rw [if_pos h2]
  exact k _ h3
theorem gT_v1 {z : Option gO} {A : Int → gS → Prop} {E : Int → gS → Option Q} (h : gT z (fun r => r.1 = 1 ∧ A r.2.1 r.2.2.2)) (k : ∀ v s, A v s → gT (E v s) P) : gT (z.bind (gv1 E)) P := by
  obtain ⟨r, h1, h2, h3⟩ := h
  rw [h1]
  show gT (gv1 E r) P
  unfold gv1
  rw [if_pos h2]
  exact k _ _ h3
theorem gT_vr {z : Option gO} {A : Nat → gS → Prop} {E : Nat → gS → Option Q} (h : gT z (fun r => r.1 = 1 ∧ A r.2.2.1 r.2.2.2)) (k : ∀ v s, A v s → gT (E v s) P) : gT (z.bind (gvr E)) P := by
  obtain ⟨r, h1, h2, h3⟩ := h
  rw [h1]
  show gT (gvr E r) P
  unfold gvr
  rw [if_pos h2]
  exact k _ _ h3
theorem gT_t0 {z : Option gO} {A : gS → Prop} {B : Nat → gS → Prop} {Z : gO → Q} {E : gS → Option Q} (h : gT z (fun r => (r.1 = 0 ∧ A r.2.2.2) ∨ (2 ≤ r.1 ∧ r.1 ≤ 6 ∧ B r.1 r.2.2.2))) (k : ∀ s, A s → gT (E s) P) (kz : ∀ (t : Nat) (s : gS), 2 ≤ t → t ≤ 6 → B t s → P (Z (t, 0, 0, s))) : gT (z.bind (gt0 Z E)) P := by
  obtain ⟨r, h1, h2⟩ := h
  rw [h1]
  show gT (gt0 Z E r) P
  unfold gt0
  rcases h2 with ⟨h2, h3⟩ | ⟨h2, h3, h4⟩
  · rw [if_pos h2]; exact k _ h3
  · rw [if_neg (by omega), if_pos h2]
    exact ⟨_, rfl, kz _ _ h2 h3 h4⟩
theorem gT_t1 {z : Option gO} {A : Int → gS → Prop} {B : Nat → gS → Prop} {Z : gO → Q} {E : Int → gS → Option Q} (h : gT z (fun r => (r.1 = 1 ∧ A r.2.1 r.2.2.2) ∨ (2 ≤ r.1 ∧ r.1 ≤ 6 ∧ B r.1 r.2.2.2))) (k : ∀ v s, A v s → gT (E v s) P) (kz : ∀ (t : Nat) (s : gS), 2 ≤ t → t ≤ 6 → B t s → P (Z (t, 0, 0, s))) : gT (z.bind (gt1 Z E)) P := by
  obtain ⟨r, h1, h2⟩ := h
  rw [h1]
  show gT (gt1 Z E r) P
  unfold gt1
  rcases h2 with ⟨h2, h3⟩ | ⟨h2, h3, h4⟩
  · rw [if_pos h2]; exact k _ _ h3
  · rw [if_neg (by omega), if_pos h2]
    exact ⟨_, rfl, kz _ _ h2 h3 h4⟩
theorem gT_c1 {z : Option gO} {A : Int → gS → Prop} {B : Nat → gS → Prop} {C : Nat → gS → Option Q} {E : Int → gS → Option Q} (h : gT z (fun r => (r.1 = 1 ∧ A r.2.1 r.2.2.2) ∨ (2 ≤ r.1 ∧ r.1 ≤ 6 ∧ B r.1 r.2.2.2))) (k : ∀ v s, A v s → gT (E v s) P) (kz : ∀ (t : Nat) (s : gS), t ≤ 4 → B (t + 2) s → gT (C t s) P) : gT (z.bind (gc1 C E)) P := by
  obtain ⟨r, h1, h2⟩ := h
  rw [h1]
  show gT (gc1 C E r) P
  unfold gc1
  rcases h2 with ⟨h2, h3⟩ | ⟨h2, h3, h4⟩
  · rw [if_pos h2]; exact k _ _ h3
  · rw [if_neg (by omega), if_pos h2]
    exact kz _ _ (by omega) (by rw [show r.1 - 2 + 2 = r.1 by omega]; exact h4)
end GT
/-- a loop that counts down -/
theorem gT_loop {σ Q : Type} {step : σ → Option (σ ⊕ Q)} {P : Q → Prop} (I : σ → Prop) (μ : σ → Nat) (h : ∀ y, I y → gT (step y) (Sum.elim (fun z => I z ∧ μ z < μ y) P)) {y : σ} (h0 : I y) : gT (gloop step y) P := by
  have hi : ∀ (n : Nat) (y : σ), μ y < n → I y → ∃ r, giter step n y = some r ∧ P r := by
    intro n
    induction n with
    | zero => intro y hy; omega
    | succ n ih =>
      intro y hy hI
      obtain ⟨r, h1, h2⟩ := h y hI
      cases r with
      | inl z =>
        obtain ⟨h3, h4⟩ : I z ∧ μ z < μ y := h2
        obtain ⟨q, h5, h6⟩ := ih z (by omega) h3
        exact ⟨q, by show (step y).bind (Sum.elim (giter step n) some) = some q; rw [h1]; exact h5, h6⟩
      | inr q => exact ⟨q, by show (step y).bind (Sum.elim (giter step n) some) = some q; rw [h1]; rfl, h2⟩
  obtain ⟨r, h1, h2⟩ := hi (μ y + 1) y (by omega) h0
  exact ⟨r, gloop_of h1, h2⟩
theorem g32_eq {v : Int} (h1 : -2147483648 ≤ v) (h2 : v < 2147483648) : g32 v = v := by
  unfold g32
  rw [Int.bmod_def]
  split <;> omega
/-- kinds and references of the start -/
noncomputable def lw_s0 : gS := gfrom es_H0
noncomputable def k0 (a : Nat) : Nat := gK lw_s0 a
noncomputable def r0 (a k : Nat) : Nat := gR lw_s0 a k
theorem r0_ok : ∀ a, a < 232 → ∀ i, i < 25 → k0 a < 13 → 16 ≤ gfk (k0 a) i → r0 a i < 232 ∧ k0 (r0 a i) + 16 = gfk (k0 a) i := by decide +kernel

end
section
/-- what is kept of a field's number, of a row's -/
noncomputable def frn (kd i : Nat) : Option (Int × Int) := match kd, i with
  | 0, 5 => some (0, 8)
  | 0, 6 => some (0, 6)
  | 2, 4 => some (0, 6)
  | 2, 5 => some (0, 6)
  | 3, 2 => some (0, 32)
  | 5, 2 => some (0, 400)
  | 6, 1 => some (0, 60)
  | 7, 0 => some (0, 99)
  | 7, 1 => some (0, 9)
  | 7, 3 => some (0, 8)
  | 9, 8 => some (0, 30)
  | 10, 1 => some (0, 400)
  | 10, 3 => some (0, 400)
  | 10, 4 => some (0, 400)
  | 11, 13 => some (0, 11)
  | 12, 6 => some (0, 12)
  | 12, 8 => some (0, 400)
  | 12, 9 => some (-1, 340)
  | 12, 10 => some (0, 400)
  | 12, 11 => some (0, 406)
  | 12, 13 => some (0, 6)
  | 12, 15 => some (0, 1)
  | 12, 16 => some (0, 1)
  | _, _ => none
noncomputable def mrn (k : Nat) : Option (Int × Int) := if k = 2 then some (0, 400) else if k = 3 then some (0, 8) else if 4 ≤ k ∧ k ≤ 6 then some (0, 6) else if k = 12 then some (0, 50) else if k = 13 then some (0, 60) else if 16 ≤ k ∧ k < 40 ∧ (k - 16) % 3 = 2 then some (0, 50) else
  if 40 ≤ k ∧ k < 76 then (if (k - 40) % 6 = 0 then some (0, 99) else if (k - 40) % 6 = 1 then some (0, 9) else if (k - 40) % 6 = 3 then some (0, 8) else none) else none
noncomputable def arn (a k : Nat) : Option (Int × Int) := if a = 2 ∨ a = 222 then some (0, 255) else if a = 30 then some (0, 8) else if a = 218 ∨ a = 219 ∨ a = 220 then mrn k else if a = 221 then mrn (k % 340) else none
noncomputable def cr (p : Int) (a k : Nat) : Option (Int × Int) := if k0 a < 13 then (if k0 a = 0 ∧ k = 9 then some (if a = 36 then p else 0, 50) else frn (k0 a) k) else arn a k
/-- a law that was read -/
noncomputable def Jl (s : gS) (x : Nat) : Prop := (232 ≤ x ∧ x < gn s) ∧ (232 ≤ gR s x 1 ∧ gR s x 1 < gn s) ∧ glen s (gR s x 1) ≤ 400
noncomputable def J0 (p : Int) (s : gS) : Prop := 232 ≤ gn s ∧ (∀ a k, a < 232 → ¬ (k0 a = 0 ∧ k = 11) → gR s a k = r0 a k) ∧ (∀ a k, a < 232 → ∀ q, cr p a k = some q → q.1 ≤ gI s a k ∧ gI s a k ≤ q.2) ∧ ∀ a, a < 232 → k0 a = 0 → gR s a 11 = 0 ∨ Jl s (gR s a 11)
noncomputable def T (kd a : Nat) : Prop := a < 232 ∧ k0 a = kd
section JL
variable {p : Int} {s : gS} {a k kd i : Nat} {v : Int}
theorem Jl_w {x : Nat} (h : Jl s x) : Jl (gw s a k v) x := h
theorem Jl_cpy {x b sp dp n : Nat} (h : Jl s x) : Jl (gcpy s a sp b dp n) x := h
theorem Jl_nw {x : Nat} (h : Jl s x) : Jl (gnw s kd) x := by
  obtain ⟨⟨h1, h2⟩, ⟨h3, h4⟩, h5⟩ := h
  have hr : ∀ y, y < gn s → ∀ j, gR (gnw s kd) y j = gR s y j := fun y hy j => by
    show (if y = s.1 then 0 else s.2.2.2 y j) = s.2.2.2 y j
    rw [if_neg (fun e => by rw [e] at hy; exact Nat.lt_irrefl _ hy)]
  have hk : ∀ y, y < gn s → gK (gnw s kd) y = gK s y := fun y hy => by
    show (if y = s.1 then kd else s.2.1 y) = s.2.1 y
    rw [if_neg (fun e => by rw [e] at hy; exact Nat.lt_irrefl _ hy)]
  have hn : gn (gnw s kd) = gn s + 1 := rfl
  unfold Jl
  rw [hr x h2, hn]
  refine ⟨⟨h1, by omega⟩, ⟨h3, by omega⟩, ?_⟩
  unfold glen at h5 ⊢
  rw [hk _ h4]
  exact h5
theorem J0_w (h : J0 p s) (hv : a < 232 → ∀ q, cr p a k = some q → q.1 ≤ v ∧ v ≤ q.2) : J0 p (gw s a k v) := by
  refine ⟨h.1, h.2.1, fun b j hb q hq => ?_, fun b hb h0 => (h.2.2.2 b hb h0).imp id Jl_w⟩
  show q.1 ≤ (if b = a ∧ j = k then v else gI s b j) ∧ (if b = a ∧ j = k then v else gI s b j) ≤ q.2
  by_cases hc : b = a ∧ j = k
  · rw [if_pos hc]
    obtain ⟨rfl, rfl⟩ := hc
    exact hv hb q hq
  · rw [if_neg hc]
    exact h.2.2.1 b j hb q hq
theorem J0_nw (h : J0 p s) : J0 p (gnw s kd) := by
  have hr : ∀ y, y < 232 → ∀ j, gR (gnw s kd) y j = gR s y j := fun y hy j => by
    show (if y = s.1 then 0 else s.2.2.2 y j) = s.2.2.2 y j
    rw [if_neg (fun e => by have h9 := h.1; unfold gn at h9; omega)]
  have hi : ∀ y, y < 232 → ∀ j, gI (gnw s kd) y j = gI s y j := fun y hy j => by
    show (if y = s.1 then 0 else s.2.2.1 y j) = s.2.2.1 y j
    rw [if_neg (fun e => by have h9 := h.1; unfold gn at h9; omega)]
  refine ⟨Nat.le_succ_of_le h.1, fun b j hb h0 => by rw [hr b hb]; exact h.2.1 b j hb h0, fun b j hb q hq => by rw [hi b hb]; exact h.2.2.1 b j hb q hq, fun b hb h0 => ?_⟩
  rw [hr b hb]
  exact (h.2.2.2 b hb h0).imp id Jl_nw
theorem J0_cpy {b sp dp n : Nat} (h : J0 p s) (hv : b < 232 → ∀ k, dp ≤ k → k < dp + n → ∀ q, cr p b k = some q → q.1 ≤ gI s a (sp + (k - dp)) ∧ gI s a (sp + (k - dp)) ≤ q.2) : J0 p (gcpy s a sp b dp n) := by
  refine ⟨h.1, h.2.1, fun c j hc q hq => ?_, fun b hb h0 => (h.2.2.2 b hb h0).imp id Jl_cpy⟩
  show q.1 ≤ (if c = b ∧ dp ≤ j ∧ j < dp + n then gI s a (sp + (j - dp)) else gI s c j) ∧ (if c = b ∧ dp ≤ j ∧ j < dp + n then gI s a (sp + (j - dp)) else gI s c j) ≤ q.2
  by_cases he : c = b ∧ dp ≤ j ∧ j < dp + n
  · rw [if_pos he]
    obtain ⟨rfl, h1, h2⟩ := he
    exact hv hc j h1 h2 q hq
  · rw [if_neg he]
    exact h.2.2.1 c j hc q hq
/-- what is read of a field -/
theorem J0_f (h : J0 p s) (hT : T kd a) (hk : Nat.blt kd 13 = true) (h9 : kd = 0 → i ≠ 9) {x y : Int} (hf : frn kd i = some (x, y)) : x ≤ gI s a i ∧ gI s a i ≤ y := by
  obtain ⟨h1, rfl⟩ := hT
  refine h.2.2.1 a i h1 (x, y) ?_
  unfold cr
  rw [if_pos (es_blt.mp hk), if_neg (fun e => h9 e.1 e.2)]
  exact hf
/-- a field is written -/
theorem J0_wf (h : J0 p s) (hT : T kd a) (hk : Nat.blt kd 13 = true) (h9 : kd = 0 → i ≠ 9) (hv : ∀ q, frn kd i = some q → q.1 ≤ v ∧ v ≤ q.2) : J0 p (gw s a i v) := by
  refine J0_w h (fun ha q hq => ?_)
  obtain ⟨h1, rfl⟩ := hT
  unfold cr at hq
  rw [if_pos (es_blt.mp hk), if_neg (fun e => h9 e.1 e.2)] at hq
  exact hv q hq
/-- a row whose numbers are free -/
noncomputable def akb (kd : Nat) : Bool := Nat.blt 12 kd && (!Nat.beq kd 3300 && (!Nat.beq kd 340 && (!Nat.beq kd 6020 && (!Nat.beq kd 2820 && !Nat.beq kd 32740))))
theorem k0_sp : k0 2 = 3300 ∧ k0 222 = 3300 ∧ k0 30 = 340 ∧ k0 218 = 6020 ∧ k0 219 = 6020 ∧ k0 220 = 2820 ∧ k0 221 = 32740 := by decide +kernel
theorem cr_free (hT : T kd a) (hk : akb kd = true) : cr p a k = none := by
  obtain ⟨h1, rfl⟩ := hT
  unfold akb at hk
  simp only [Bool.and_eq_true, Bool.not_eq_true', es_blt, es_beqf] at hk
  obtain ⟨g0, g1, g2, g3, g4, g5⟩ := hk
  obtain ⟨e1, e2, e3, e4, e5, e6, e7⟩ := k0_sp
  unfold cr
  rw [if_neg (by omega)]
  unfold arn
  rw [if_neg (fun h => by rcases h with rfl | rfl <;> omega), if_neg (fun h => by subst h; omega), if_neg (fun h => by rcases h with rfl | rfl | rfl <;> omega), if_neg (fun h => by subst h; omega)]
theorem J0_wa (h : J0 p s) (hT : T kd a) (hk : akb kd = true) : J0 p (gw s a k v) :=
  J0_w h (fun _ q hq => by rw [cr_free hT hk] at hq; cases hq)
theorem J0_ca {b sp dp n : Nat} (h : J0 p s) (hT : T kd b) (hk : akb kd = true) : J0 p (gcpy s a sp b dp n) :=
  J0_cpy h (fun _ j _ _ q hq => by rw [cr_free hT hk] at hq; cases hq)
/-- a row whose numbers are bound -/
theorem J0_ra (h : J0 p s) {a : Nat} (ha : a < 232) (hk : 13 ≤ k0 a) {x y : Int} (hf : arn a k = some (x, y)) : x ≤ gI s a k ∧ gI s a k ≤ y :=
  h.2.2.1 a k ha (x, y) (by unfold cr; rw [if_neg (by omega)]; exact hf)
theorem J0_wb (h : J0 p s) {a : Nat} (hk : 13 ≤ k0 a) (hv : ∀ q, arn a k = some q → q.1 ≤ v ∧ v ≤ q.2) : J0 p (gw s a k v) :=
  J0_w h (fun _ q hq => by unfold cr at hq; rw [if_neg (by omega)] at hq; exact hv q hq)
/-- what a field refers to -/
theorem T0_f (h : J0 p s) (hT : T kd a) (hi : i < 25) (hk : Nat.blt kd 13 = true) {c : Nat} (hc : gfk kd i = c + 16) : T c (gR s a i) := by
  obtain ⟨h1, rfl⟩ := hT
  have h2 := r0_ok a h1 i hi (es_blt.mp hk) (by omega)
  have h3 : ¬ (k0 a = 0 ∧ i = 11) := fun e => by
    rw [e.1, e.2] at hc
    have h9 : gfk 0 11 = 11 := rfl
    omega
  rw [h.2.1 a i h1 h3]
  exact ⟨h2.1, by omega⟩
theorem r0_men : ∀ a, a < 232 → k0 a = 152 → ∀ i, i < 6 → r0 a i < 232 ∧ k0 (r0 a i) = 7 := by decide +kernel
theorem r0_past : ∀ i, i < 12 → r0 72 i < 232 ∧ k0 (r0 72 i) = 2 := by decide +kernel
theorem T0_man (h : J0 p s) (hT : T 152 a) (hi : i < 6) : T 7 (gR s a i) := by
  obtain ⟨h1, h2⟩ := hT
  rw [h.2.1 a i h1 (fun e => by rw [h2] at e; exact absurd e.1 (by decide))]
  exact r0_men a h1 h2 i hi
theorem T0_past (h : J0 p s) (hi : i < 12) : T 2 (gR s 72 i) := by
  rw [h.2.1 72 i (by decide) (fun e => by
    have h9 : k0 72 = 199 := by decide +kernel
    rw [h9] at e; exact absurd e.1 (by decide))]
  exact r0_past i hi
/-- a reference of the start -/
theorem J0_r (h : J0 p s) {a k r : Nat} (ha : Nat.blt a 232 = true) (h0 : (Nat.beq (k0 a) 0 && Nat.beq k 11) = false) (hr : r0 a k = r) : gR s a k = r := by
  rw [h.2.1 a k (es_blt.mp ha) (fun e => by rw [es_beq.mpr e.1, es_beq.mpr e.2] at h0; cases h0)]
  exact hr
end JL
/-- the tape's thing is the end, or it begins below 400 -/
noncomputable def TK (s : gS) : Prop := gI s 1 2 = 0 ∨ gI s 1 3 ≤ 399
/-- the draft's least gain; both tapes' lengths; whether images are kept -/
abbrev gP := Int × Int × Int × Int × Int
noncomputable def TG (p : gP) (s : gS) : Prop := gI s 1 1 = p.2.1 ∧ gI s 217 8 = p.2.2.1 ∧ gI s 0 15 = p.2.2.2.1 ∧ gI s 217 3 = p.2.2.2.2
noncomputable def J (p : gP) (s : gS) : Prop := J0 p.1 s ∧ TK s ∧ TG p s
theorem k0_1 : k0 1 = 10 := by decide +kernel
theorem k0_0 : k0 0 = 11 := by decide +kernel
theorem k0_217 : k0 217 = 12 := by decide +kernel
/-- fields that no ghost holds -/
noncomputable def jw (kd i : Nat) : Bool := !((Nat.beq kd 10 && (Nat.beq i 1 || (Nat.beq i 2 || Nat.beq i 3))) || ((Nat.beq kd 12 && (Nat.beq i 3 || Nat.beq i 8)) || (Nat.beq kd 11 && Nat.beq i 15)))
theorem jw_s {kd i : Nat} (h : jw kd i = true) : (kd = 10 → i ≠ 1 ∧ i ≠ 2 ∧ i ≠ 3) ∧ (kd = 12 → i ≠ 3 ∧ i ≠ 8) ∧ (kd = 11 → i ≠ 15) := by
  unfold jw at h
  simp only [Bool.not_eq_true', Bool.or_eq_false_iff, Bool.and_eq_false_iff, es_beqf] at h
  omega
section JT
variable {p : gP} {s s' : gS} {a k kd i : Nat} {v : Int}
theorem TKG (h : TK s ∧ TG p s) (hx : ∀ b j, (b = 1 ∧ (j = 1 ∨ j = 2 ∨ j = 3)) ∨ (b = 217 ∧ (j = 3 ∨ j = 8)) ∨ (b = 0 ∧ j = 15) → gI s' b j = gI s b j) : TK s' ∧ TG p s' := by
  unfold TK TG
  rw [hx 1 2 (by decide), hx 1 3 (by decide), hx 1 1 (by decide), hx 217 8 (by decide), hx 0 15 (by decide), hx 217 3 (by decide)]
  exact h
theorem TKG_w (h : TK s ∧ TG p s) (hx : (a = 1 → k ≠ 1 ∧ k ≠ 2 ∧ k ≠ 3) ∧ (a = 217 → k ≠ 3 ∧ k ≠ 8) ∧ (a = 0 → k ≠ 15)) : TK (gw s a k v) ∧ TG p (gw s a k v) :=
  TKG h (fun b j hb => by
    show (if b = a ∧ j = k then v else gI s b j) = _
    rw [if_neg (fun z => by omega)])
theorem TKG_b (h : TK s ∧ TG p s) (hk : 13 ≤ k0 a) : TK (gw s a k v) ∧ TG p (gw s a k v) :=
  TKG_w h ⟨fun e => by rw [e, k0_1] at hk; omega, fun e => by rw [e, k0_217] at hk; omega, fun e => by rw [e, k0_0] at hk; omega⟩
theorem TKG_c {b sp dp n : Nat} (h : TK s ∧ TG p s) (hk : 13 ≤ k0 b) : TK (gcpy s a sp b dp n) ∧ TG p (gcpy s a sp b dp n) := by
  have e1 : b ≠ 1 := fun e => by rw [e, k0_1] at hk; omega
  have e2 : b ≠ 217 := fun e => by rw [e, k0_217] at hk; omega
  have e3 : b ≠ 0 := fun e => by rw [e, k0_0] at hk; omega
  exact TKG h (fun c j hc => by
    show (if c = b ∧ dp ≤ j ∧ j < dp + n then gI s a (sp + (j - dp)) else gI s c j) = _
    rw [if_neg (fun z => by omega)])
theorem akb_13 (hT : T kd a) (h : akb kd = true) : 13 ≤ k0 a := by
  rw [hT.2]
  unfold akb at h
  simp only [Bool.and_eq_true, es_blt] at h
  omega
theorem J_f (h : J p s) (hT : T kd a) (hk : Nat.blt kd 13 = true) (h9 : kd = 0 → i ≠ 9) {x y : Int} (hf : frn kd i = some (x, y)) : x ≤ gI s a i ∧ gI s a i ≤ y := J0_f h.1 hT hk h9 hf
theorem J_wf (h : J p s) (hT : T kd a) (hk : Nat.blt kd 13 = true) (h9 : kd = 0 → i ≠ 9) (h10 : jw kd i = true) (hv : ∀ q, frn kd i = some q → q.1 ≤ v ∧ v ≤ q.2) : J p (gw s a i v) := by
  obtain ⟨e1, e2, e3⟩ := jw_s h10
  exact ⟨J0_wf h.1 hT hk h9 hv, TKG_w h.2 ⟨fun e => e1 (by rw [← hT.2, e]; exact k0_1), fun e => e2 (by rw [← hT.2, e]; exact k0_217), fun e => e3 (by rw [← hT.2, e]; exact k0_0)⟩⟩
theorem J_wa (h : J p s) (hT : T kd a) (hk : akb kd = true) : J p (gw s a k v) := ⟨J0_wa h.1 hT hk, TKG_b h.2 (akb_13 hT hk)⟩
theorem J_ca {b sp dp n : Nat} (h : J p s) (hT : T kd b) (hk : akb kd = true) : J p (gcpy s a sp b dp n) := ⟨J0_ca h.1 hT hk, TKG_c h.2 (akb_13 hT hk)⟩
theorem J_nw (h : J p s) : J p (gnw s kd) := by
  refine ⟨J0_nw h.1, TKG h.2 (fun b j hb => ?_)⟩
  show (if b = s.1 then 0 else s.2.2.1 b j) = s.2.2.1 b j
  rw [if_neg (fun z => by have h9 := h.1.1; unfold gn at h9; omega)]
theorem J_ra (h : J p s) {a : Nat} (ha : a < 232) (hk : 13 ≤ k0 a) {x y : Int} (hf : arn a k = some (x, y)) : x ≤ gI s a k ∧ gI s a k ≤ y := J0_ra h.1 ha hk hf
theorem J_wb (h : J p s) {a : Nat} (hk : 13 ≤ k0 a) (hv : ∀ q, arn a k = some q → q.1 ≤ v ∧ v ≤ q.2) : J p (gw s a k v) := ⟨J0_wb h.1 hk hv, TKG_b h.2 hk⟩
theorem T_f (h : J p s) (hT : T kd a) (hi : i < 25) (hk : Nat.blt kd 13 = true) {c : Nat} (hc : gfk kd i = c + 16) : T c (gR s a i) := T0_f h.1 hT hi hk hc
theorem T_man (h : J p s) (hT : T 152 a) (hi : i < 6) : T 7 (gR s a i) := T0_man h.1 hT hi
theorem T_past (h : J p s) (hi : i < 12) : T 2 (gR s 72 i) := T0_past h.1 hi
theorem J_r (h : J p s) {a k r : Nat} (ha : Nat.blt a 232 = true) (h0 : (Nat.beq (k0 a) 0 && Nat.beq k 11) = false) (hr : r0 a k = r) : gR s a k = r := J0_r h.1 ha h0 hr
/-- the four cells of the ghosts -/
theorem k0_1a : ∀ a, a < 232 → (k0 a = 12 → a = 217) ∧ (k0 a = 10 → a = 1) ∧ (k0 a = 11 → a = 0) := by decide +kernel
theorem rd_w {b j : Nat} : gI (gw s a k v) b j = if b = a ∧ j = k then v else gI s b j := rfl
theorem J_l (h : J p s) (t : T 10 a) (hv : 0 ≤ v ∧ v ≤ 400) : J (p.1, v, p.2.2) (gw s a 1 v) := by
  have e := (k0_1a a t.1).2.1 t.2
  refine ⟨J0_wf h.1 t rfl (by decide) (fun q hq => by cases hq; exact hv), ?_⟩
  subst e
  obtain ⟨h1, h2, h3, h4, h5⟩ := h.2
  unfold TK at h1
  unfold TK TG
  simp only [rd_w]
  exact ⟨h1, rfl, h3, h4, h5⟩
theorem J_t (h : J p s) (t : T 12 a) (hv : 0 ≤ v ∧ v ≤ 400) : J (p.1, p.2.1, v, p.2.2.2) (gw s a 8 v) := by
  have e := (k0_1a a t.1).1 t.2
  refine ⟨J0_wf h.1 t rfl (by decide) (fun q hq => by cases hq; exact hv), ?_⟩
  subst e
  obtain ⟨h1, h2, h3, h4, h5⟩ := h.2
  unfold TK at h1
  unfold TK TG
  simp only [rd_w]
  exact ⟨h1, h2, rfl, h4, h5⟩
theorem J_i (h : J p s) (t : T 11 a) : J (p.1, p.2.1, p.2.2.1, v, p.2.2.2.2) (gw s a 15 v) := by
  have e := (k0_1a a t.1).2.2 t.2
  refine ⟨J0_wf h.1 t rfl (by decide) (fun q hq => by cases hq), ?_⟩
  subst e
  obtain ⟨h1, h2, h3, h4, h5⟩ := h.2
  unfold TK at h1
  unfold TK TG
  simp only [rd_w]
  exact ⟨h1, h2, h3, rfl, h5⟩
theorem J_j (h : J p s) (t : T 12 a) : J (p.1, p.2.1, p.2.2.1, p.2.2.2.1, v) (gw s a 3 v) := by
  have e := (k0_1a a t.1).1 t.2
  refine ⟨J0_wf h.1 t rfl (by decide) (fun q hq => by cases hq), ?_⟩
  subst e
  obtain ⟨h1, h2, h3, h4, h5⟩ := h.2
  unfold TK at h1
  unfold TK TG
  simp only [rd_w]
  exact ⟨h1, h2, h3, h4, rfl⟩
end JT

end
section
section Rd
variable {p : gP} {s s' : gS} {a a' k k' : Nat} {v : Int}
theorem rd_same (e : s' = gw s a k v) : gI s' a k = v := by
  rw [e]
  show (if a = a ∧ k = k then v else gI s a k) = v
  rw [if_pos ⟨rfl, rfl⟩]
theorem rd_k (e : s' = gw s a' k' v) (h : k ≠ k') : gI s' a k = gI s a k := by
  rw [e]
  show (if a = a' ∧ k = k' then v else gI s a k) = gI s a k
  rw [if_neg (fun x => h x.2)]
theorem rd_T (e : s' = gw s a' k' v) {x y : Nat} (hx : T x a) (hy : T y a') (h : x ≠ y) : gI s' a k = gI s a k := by
  rw [e]
  show (if a = a' ∧ k = k' then v else gI s a k) = gI s a k
  rw [if_neg (fun z => h (by rw [← hx.2, ← hy.2, z.1]))]
theorem rd_c {b sp dp n : Nat} (e : s' = gcpy s a' sp b dp n) {x y : Nat} (hx : T x a) (hy : T y b) (h : x ≠ y) : gI s' a k = gI s a k := by
  rw [e]
  show (if a = b ∧ dp ≤ k ∧ k < dp + n then gI s a' (sp + (k - dp)) else gI s a k) = gI s a k
  rw [if_neg (fun z => h (by rw [← hx.2, ← hy.2, z.1]))]
end Rd
section Mo
variable {p : gP} {s s2 : gS} {a k : Nat} {v : Int}
theorem k0_one : ∀ a, a < 232 → (k0 a = 12 → a = 217) ∧ (k0 a = 10 → a = 1) ∧ (k0 a = 9 → a = 27) ∧ (k0 a = 11 → a = 0) := by decide +kernel
theorem T_12 (t : T 12 a) : a = 217 := (k0_one a t.1).1 t.2
theorem T_10 (t : T 10 a) : a = 1 := (k0_one a t.1).2.1 t.2
theorem T_9 (t : T 9 a) : a = 27 := (k0_one a t.1).2.2.1 t.2
theorem T_11 (t : T 11 a) : a = 0 := (k0_one a t.1).2.2.2 t.2
theorem r_m (h : J p s) (t : T 12 a) : gR s a 1 = 218 := by
  rw [T_12 t]
  exact J_r h rfl (by decide +kernel) (by decide +kernel)
theorem r_by (h : J p s) (t : T 10 a) : gR s a 0 = 2 := by
  rw [T_10 t]
  exact J_r h rfl (by decide +kernel) (by decide +kernel)
theorem r_at (h : J p s) (t : T 9 a) : gR s a 4 = 30 := by
  rw [T_9 t]
  exact J_r h rfl (by decide +kernel) (by decide +kernel)
theorem r_mt (h : J p s) (t : T 12 a) : gR s a 7 = 222 := by
  rw [T_12 t]
  exact J_r h rfl (by decide +kernel) (by decide +kernel)
theorem r_past (h : J p s) (t : T 11 a) : gR s a 12 = 72 := by
  rw [T_11 t]
  exact J_r h rfl (by decide +kernel) (by decide +kernel)
theorem J_m (h : J p s) (h2 : J p s2) (t : T 12 a) {x y : Int} (hf : mrn k = some (x, y)) : x ≤ gI s (gR s2 a 1) k ∧ gI s (gR s2 a 1) k ≤ y := by
  rw [r_m h2 t]
  exact J_ra h (by decide) (by rw [k0_sp.2.2.2.1]; decide) (by unfold arn; simp; exact hf)
theorem J_wm (h : J p s) (h2 : J p s2) (t : T 12 a) (hv : ∀ q, mrn k = some q → q.1 ≤ v ∧ v ≤ q.2) : J p (gw s (gR s2 a 1) k v) := by
  rw [r_m h2 t]
  exact J_wb h (by rw [k0_sp.2.2.2.1]; decide) (fun q hq => hv q (by unfold arn at hq; simpa using hq))
theorem J_by (h : J p s) (h2 : J p s2) (t : T 10 a) : 0 ≤ gI s (gR s2 a 0) k ∧ gI s (gR s2 a 0) k ≤ 255 := by
  rw [r_by h2 t]
  exact J_ra h (by decide) (by rw [k0_sp.1]; decide) rfl
theorem J_wby (h : J p s) (h2 : J p s2) (t : T 10 a) (hv : 0 ≤ v ∧ v ≤ 255) : J p (gw s (gR s2 a 0) k v) := by
  rw [r_by h2 t]
  exact J_wb h (by rw [k0_sp.1]; decide) (fun q hq => by cases hq; exact hv)
theorem J_mt (h : J p s) (h2 : J p s2) (t : T 12 a) : 0 ≤ gI s (gR s2 a 7) k ∧ gI s (gR s2 a 7) k ≤ 255 := by
  rw [r_mt h2 t]
  exact J_ra h (by decide) (by rw [k0_sp.2.1]; decide) rfl
theorem J_wmt (h : J p s) (h2 : J p s2) (t : T 12 a) (hv : 0 ≤ v ∧ v ≤ 255) : J p (gw s (gR s2 a 7) k v) := by
  rw [r_mt h2 t]
  exact J_wb h (by rw [k0_sp.2.1]; decide) (fun q hq => by cases hq; exact hv)
theorem J_at (h : J p s) (h2 : J p s2) (t : T 9 a) : 0 ≤ gI s (gR s2 a 4) k ∧ gI s (gR s2 a 4) k ≤ 8 := by
  rw [r_at h2 t]
  exact J_ra h (by decide) (by rw [k0_sp.2.2.1]; decide) rfl
theorem J_wat (h : J p s) (h2 : J p s2) (t : T 9 a) (hv : 0 ≤ v ∧ v ≤ 8) : J p (gw s (gR s2 a 4) k v) := by
  rw [r_at h2 t]
  exact J_wb h (by rw [k0_sp.2.2.1]; decide) (fun q hq => by cases hq; exact hv)
theorem T_pastc (h : J p s) (h2 : J p s2) (t : T 11 a) {i : Nat} (hi : i < 12) : T 2 (gR s (gR s2 a 12) i) := by
  rw [r_past h2 t]
  exact T_past h hi
end Mo
theorem g_oi {x : Int} (h : -2147483648 ≤ x ∧ x < 2147483648) : (Int32.ofInt x).toInt = x := by
  rw [Int32.toInt_ofInt]
  exact g32_eq h.1 h.2
theorem bm_eq {v : Int} (h1 : -2147483648 ≤ v) (h2 : v < 2147483648) : Int.bmod v (2 ^ 32) = v := g32_eq h1 h2
theorem gdiv_eq {x c : Int} (hx : 0 ≤ x ∧ x < 2147483648) (hc : 0 < c ∧ c < 2147483648) : gdiv x c = x / c := by
  unfold gdiv
  rw [Int32.toInt_div, g_oi ⟨by omega, hx.2⟩, g_oi ⟨by omega, hc.2⟩, Int.tdiv_eq_ediv_of_nonneg hx.1]
  have h1 : 0 ≤ x / c := Int.ediv_nonneg hx.1 (by omega)
  have h2 : x / c ≤ x := Int.ediv_le_self c hx.1
  exact bm_eq (by omega) (by omega)
theorem grem_eq {x c : Int} (hx : 0 ≤ x ∧ x < 2147483648) (hc : 0 < c ∧ c < 2147483648) : grem x c = x % c := by
  have h1 : 0 ≤ x / c := Int.ediv_nonneg hx.1 (by omega)
  have h2 : x / c ≤ x := Int.ediv_le_self c hx.1
  have h3 : x / c * c ≤ x := Int.ediv_mul_le x (by omega)
  have h4 : 0 ≤ x / c * c := Int.mul_nonneg h1 (by omega)
  have h5 : x % c = x - x / c * c := by rw [Int.emod_def, Int.mul_comm]
  unfold grem
  rw [Int32.toInt_sub, Int32.toInt_mul, show (Int32.ofInt x / Int32.ofInt c).toInt = x / c from gdiv_eq hx hc, g_oi ⟨by omega, hx.2⟩, g_oi ⟨by omega, hc.2⟩, bm_eq (v := x / c * c) (by omega) (by omega), h5]
  exact bm_eq (by omega) (by omega)
theorem gBN {z : Int32} {n : Nat} (h : z.toBitVec.toNat = n) (hn : n < 2147483648) : z.toInt = (n : Int) := by
  have h1 : z.toInt = z.toBitVec.toInt := rfl
  rw [h1, BitVec.toInt_eq_toNat_cond, h, if_pos (by omega)]
theorem gON {m : Int} (h0 : 0 ≤ m) (h1 : m < 2147483648) : (Int32.ofInt m).toBitVec.toNat = m.toNat := by
  have h2 := geN (n := m.toNat) (by omega)
  rw [Int.toNat_of_nonneg h0] at h2
  exact h2
theorem gand_le {x m : Int} (h0 : 0 ≤ m) (h1 : m < 2147483648) : 0 ≤ gand x m ∧ gand x m ≤ m := by
  have h2 : (Int32.ofInt x &&& Int32.ofInt m).toBitVec.toNat ≤ m.toNat := by
    rw [Int32.toBitVec_and, BitVec.toNat_and, gON h0 h1]
    exact Nat.and_le_right
  have h3 := gBN (z := Int32.ofInt x &&& Int32.ofInt m) rfl (by omega)
  unfold gand
  rw [h3]
  omega
theorem gor_lt {x y : Int} (n : Nat) (hn : n < 31) (hx : 0 ≤ x ∧ x < 2 ^ n) (hy : 0 ≤ y ∧ y < 2 ^ n) : 0 ≤ gor x y ∧ gor x y < 2 ^ n := by
  have hp : (2 : Nat) ^ n ≤ 2 ^ 30 := Nat.pow_le_pow_right (by decide) (by omega)
  have hp2 : ((2 ^ n : Nat) : Int) = 2 ^ n := by simp
  have hx3 : x.toNat < 2 ^ n := by omega
  have hy3 : y.toNat < 2 ^ n := by omega
  have h2 : (Int32.ofInt x ||| Int32.ofInt y).toBitVec.toNat < 2 ^ n := by
    rw [Int32.toBitVec_or, BitVec.toNat_or, gON hx.1 (by omega), gON hy.1 (by omega)]
    exact Nat.or_lt_two_pow hx3 hy3
  have h3 := gBN (z := Int32.ofInt x ||| Int32.ofInt y) rfl (by omega)
  unfold gor
  rw [h3]
  omega
theorem gshl_1 {x : Int} (h : 0 ≤ x ∧ x ≤ 8) : gshl 1 x = 2 ^ x.toNat ∧ 1 ≤ gshl 1 x ∧ gshl 1 x ≤ 256 := by
  have h1 : x = 0 ∨ x = 1 ∨ x = 2 ∨ x = 3 ∨ x = 4 ∨ x = 5 ∨ x = 6 ∨ x = 7 ∨ x = 8 := by omega
  rcases h1 with rfl | rfl | rfl | rfl | rfl | rfl | rfl | rfl | rfl <;> decide +kernel
theorem gshl_5 {x : Int} (h : 0 ≤ x ∧ x ≤ 5) : 1 ≤ gshl 1 x ∧ gshl 1 x ≤ 32 := by
  have h1 : x = 0 ∨ x = 1 ∨ x = 2 ∨ x = 3 ∨ x = 4 ∨ x = 5 := by omega
  rcases h1 with rfl | rfl | rfl | rfl | rfl | rfl <;> decide +kernel
theorem gshl_6 {x : Int} (h : 0 ≤ x ∧ x ≤ 6) : 1 ≤ gshl 1 x ∧ gshl 1 x ≤ 64 := by
  have h1 : x = 0 ∨ x = 1 ∨ x = 2 ∨ x = 3 ∨ x = 4 ∨ x = 5 ∨ x = 6 := by omega
  rcases h1 with rfl | rfl | rfl | rfl | rfl | rfl | rfl <;> decide +kernel
theorem gand_le_l {x m : Int} (h0 : 0 ≤ x) (h1 : x < 2147483648) : 0 ≤ gand x m ∧ gand x m ≤ x := by
  have h2 : (Int32.ofInt x &&& Int32.ofInt m).toBitVec.toNat ≤ x.toNat := by
    rw [Int32.toBitVec_and, BitVec.toNat_and, gON h0 h1]
    exact Nat.and_le_left
  have h3 := gBN (z := Int32.ofInt x &&& Int32.ofInt m) rfl (by omega)
  unfold gand
  rw [h3]
  omega

end
section
/-- all but the tape's thing is as it was -/
noncomputable def Fr (s s' : gS) : Prop := (gn s' = gn s ∧ (∀ a, gK s' a = gK s a) ∧ ∀ a k, gR s' a k = gR s a k) ∧ ∀ a k, ¬ (a = 1 ∧ (k = 2 ∨ k = 3 ∨ k = 4)) → gI s' a k = gI s a k
theorem Fr_r (s : gS) : Fr s s := ⟨⟨rfl, fun _ => rfl, fun _ _ => rfl⟩, fun _ _ _ => rfl⟩
theorem Fr_t {s s' s2 : gS} (h : Fr s s') (h2 : Fr s' s2) : Fr s s2 := ⟨⟨h2.1.1.trans h.1.1, fun a => (h2.1.2.1 a).trans (h.1.2.1 a), fun a k => (h2.1.2.2 a k).trans (h.1.2.2 a k)⟩, fun a k hc => (h2.2 a k hc).trans (h.2 a k hc)⟩
theorem Fr_w {s s' : gS} {a k : Nat} {v : Int} (h : Fr s s') (ha : T 10 a) (hk : k = 2 ∨ k = 3 ∨ k = 4) : Fr s (gw s' a k v) := by
  refine ⟨h.1, fun b j hc => ?_⟩
  show (if b = a ∧ j = k then v else gI s' b j) = _
  rw [if_neg (fun e => hc ⟨by rw [e.1]; exact T_10 ha, by rw [e.2]; exact hk⟩)]
  exact h.2 b j hc
/-- a thing that is not the end has a letter -/
noncomputable def Wt (s : gS) : Prop := gI s 1 2 = 0 ∨ gI s 1 3 + 1 ≤ gI s 1 4
section Tape
variable {p : gP} {F : Int} {s s0 : gS} {x0 a0 : Nat}
theorem TG_fr (hf : Fr s0 s) (h : TG p s0) : TG p s := by
  unfold TG
  rw [hf.2 1 1 (by decide), hf.2 217 8 (by decide), hf.2 0 15 (by decide), hf.2 217 3 (by decide)]
  exact h
noncomputable def Pad (p : gP) (F : Int) (s0 : gS) (r : gO) : Prop := r.1 = 0 ∧ J p r.2.2.2 ∧ Fr s0 r.2.2.2 ∧ Wt r.2.2.2 ∧ F ≤ gI r.2.2.2 1 3
theorem d78_a {x4 x5 : Int} (t : T 10 x0) (hG : TG p s0) (h : J0 p.1 s) (h3 : gI s x0 3 ≤ 399) (hf : Fr s0 s) (hF : F ≤ gI s x0 3) (hw : gI s x0 3 + 1 ≤ gI s x0 4) : gT (gloop st_78_174 (x0, x4, x5, s)) (Pad p F s0) := by
  refine gT_loop (fun y => T 10 y.1 ∧ J0 p.1 y.2.2.2 ∧ gI y.2.2.2 y.1 3 ≤ 399 ∧ Fr s0 y.2.2.2 ∧ F ≤ gI y.2.2.2 y.1 3 ∧ gI y.2.2.2 y.1 3 + 1 ≤ gI y.2.2.2 y.1 4) (fun y => (400 - gI y.2.2.2 y.1 4).toNat) (fun y hy => ?_) ⟨t, h, h3, hf, hF, hw⟩
  obtain ⟨x0, x4, x5, s⟩ := y
  obtain ⟨t, h, h3, hf, hF, hw⟩ := hy
  dsimp only at t h h3 hf hF hw
  have hend : Pad p F s0 (0, 0, 0, s) := by
    have e := T_10 t
    rw [e] at h3 hF hw
    exact ⟨rfl, ⟨h, Or.inr h3, TG_fr hf hG⟩, hf, Or.inr hw, hF⟩
  have r4 := J0_f (i := 4) h t rfl (by decide) rfl
  have r1 := J0_f (i := 1) h t rfl (by decide) rfl
  show gT (sb_78_174 x0 x4 x5 s) _
  unfold sb_78_174
  refine gT_ite (fun _ => gT_map (gT_ret hend)) (fun _ => ?_)
  refine gT_ite (fun h5 => ?_) (fun _ => gT_map (gT_ret hend))
  refine gT_chk (by omega) (by omega) ?_
  refine gT_ite (fun _ => gT_map (gT_ret hend)) (fun _ => ?_)
  refine gT_chk (by omega) (by omega) ?_
  refine gT_ite (fun _ => gT_map (gT_ret hend)) (fun _ => ?_)
  extract_lets s7
  have e1 := g32_eq (v := gI s x0 4 + 1) (by omega) (by omega)
  have e2 : gI s7 x0 4 = g32 (gI s x0 4 + 1) := rd_same (show s7 = gw s x0 4 (g32 (gI s x0 4 + 1)) from rfl)
  have e3 : gI s7 x0 3 = gI s x0 3 := rd_k (a := x0) (k := 3) (show s7 = gw s x0 4 (g32 (gI s x0 4 + 1)) from rfl) (by decide)
  refine gT_ret ⟨⟨t, J0_wf h t rfl (by decide) (fun q hq => by cases hq; dsimp only; omega), ?_, Fr_w hf t (by decide), ?_, ?_⟩, ?_⟩
  · show gI s7 x0 3 ≤ 399
    omega
  · show F ≤ gI s7 x0 3
    omega
  · show gI s7 x0 3 + 1 ≤ gI s7 x0 4
    omega
  · show (400 - gI s7 x0 4).toNat < (400 - gI s x0 4).toNat
    omega
theorem d78_b {x2 w0 : Int} (t : T 10 x0) (hG : TG p s0) (h : J0 p.1 s) (h3 : gI s x0 3 ≤ 399) (h4 : gI s x0 4 = gI s x0 3) (hf : Fr s0 s) (hF : F ≤ gI s x0 3) : gT (fb_78_135 x0 x2 w0 x0 s) (Pad p F s0) := by
  unfold fb_78_135
  extract_lets s5 s6
  have r4 := J0_f (i := 4) h t rfl (by decide) rfl
  have a1 : gI s5 x0 4 = gI s x0 4 := rd_k (a := x0) (k := 4) (show s5 = gw s x0 2 w0 from rfl) (by decide)
  have a2 : gI s5 x0 3 = gI s x0 3 := rd_k (a := x0) (k := 3) (show s5 = gw s x0 2 w0 from rfl) (by decide)
  have e1 := g32_eq (v := gI s5 x0 4 + 1) (by omega) (by omega)
  have h5 : J0 p.1 s5 := J0_wf h t rfl (by decide) (fun q hq => by cases hq)
  have h6 : J0 p.1 s6 := J0_wf h5 t rfl (by decide) (fun q hq => by cases hq; dsimp only; omega)
  have a3 : gI s6 x0 3 = gI s5 x0 3 := rd_k (a := x0) (k := 3) (show s6 = gw s5 x0 4 (g32 (gI s5 x0 4 + 1)) from rfl) (by decide)
  have a4 : gI s6 x0 4 = g32 (gI s5 x0 4 + 1) := rd_same (show s6 = gw s5 x0 4 (g32 (gI s5 x0 4 + 1)) from rfl)
  have f6 : Fr s0 s6 := Fr_w (Fr_w hf t (by decide)) t (by decide)
  refine gT_ite (fun _ => ?_) (fun _ => ?_)
  · unfold fb_78_159
    refine gT_ite (fun _ => ?_) (fun _ => ?_)
    · exact d78_a t hG h6 (by omega) f6 (by omega) (by omega)
    · exact d78_a t hG h6 (by omega) f6 (by omega) (by omega)
  · unfold fb_78_159
    refine gT_ite (fun _ => ?_) (fun _ => ?_)
    · exact d78_a t hG h6 (by omega) f6 (by omega) (by omega)
    · exact d78_a t hG h6 (by omega) f6 (by omega) (by omega)
theorem d78_c {x2 w0 : Int} (t : T 10 x0) (hG : TG p s0) (h : J0 p.1 s) (h3 : gI s x0 3 ≤ 399) (h4 : gI s x0 4 = gI s x0 3) (hf : Fr s0 s) (hF : F ≤ gI s x0 3) : gT (fb_78_116 x0 x2 w0 s) (Pad p F s0) := by
  unfold fb_78_116
  refine gT_ite (fun _ => ?_) (fun _ => d78_b t hG h h3 h4 hf hF)
  refine gT_ite (fun _ => d78_b t hG h h3 h4 hf hF) (fun _ => d78_b t hG h h3 h4 hf hF)
theorem d78_d {x1 w0 : Int} (t : T 10 x0) (hG : TG p s0) (h : J0 p.1 s) (h3 : gI s x0 3 ≤ 399) (h4 : gI s x0 4 = gI s x0 3) (hf : Fr s0 s) (hF : F ≤ gI s x0 3) : gT (fb_78_98 x0 x1 w0 s) (Pad p F s0) := by
  unfold fb_78_98
  refine gT_ite (fun _ => d78_c t hG h h3 h4 hf hF) (fun _ => ?_)
  refine gT_ite (fun _ => d78_c t hG h h3 h4 hf hF) (fun _ => d78_c t hG h h3 h4 hf hF)
theorem d78_e (t : T 10 x0) (hG : TG p s0) (h : J0 p.1 s) (hf : Fr s0 s) (hF : F ≤ gI s x0 3) : gT (fb_78_46 x0 s) (Pad p F s0) := by
  unfold fb_78_46
  extract_lets s3 v4 s8
  have r3 := J0_f (i := 3) h t rfl (by decide) rfl
  have r1 := J0_f (i := 1) h t rfl (by decide) rfl
  have h3 : J0 p.1 s3 := J0_wf h t rfl (by decide) (fun q hq => by cases hq; dsimp only; omega)
  have a3 : gI s3 x0 3 = gI s x0 3 := rd_k (a := x0) (k := 3) (show s3 = gw s x0 4 (gI s x0 3) from rfl) (by decide)
  have a4 : gI s3 x0 4 = gI s x0 3 := rd_same (show s3 = gw s x0 4 (gI s x0 3) from rfl)
  have a1 : gI s3 x0 1 = gI s x0 1 := rd_k (a := x0) (k := 1) (show s3 = gw s x0 4 (gI s x0 3) from rfl) (by decide)
  have f3 : Fr s0 s3 := Fr_w hf t (by decide)
  refine gT_ite (fun h5 => ?_) (fun _ => ?_)
  · refine gT_chk (by omega) (by omega) ?_
    refine gT_ite (fun _ => d78_d t hG h3 (by omega) (by omega) f3 (by omega)) (fun _ => ?_)
    refine gT_ite (fun _ => d78_d t hG h3 (by omega) (by omega) f3 (by omega)) (fun _ => d78_d t hG h3 (by omega) (by omega) f3 (by omega))
  · have h8 : J0 p.1 s8 := J0_wf h3 t rfl (by decide) (fun q hq => by cases hq)
    have a8 : gI s8 x0 2 = 0 := rd_same (show s8 = gw s3 x0 2 0 from rfl)
    have b8 : gI s8 x0 3 = gI s3 x0 3 := rd_k (a := x0) (k := 3) (show s8 = gw s3 x0 2 0 from rfl) (by decide)
    have f8 : Fr s0 s8 := Fr_w f3 t (by decide)
    have hF8 : F ≤ gI s8 x0 3 := by omega
    have e := T_10 t
    rw [e] at a8 hF8
    exact gT_ret ⟨rfl, ⟨h8, Or.inl a8, TG_fr f8 hG⟩, f8, Or.inl a8, hF8⟩
theorem c_78 (h : J p s) (t0 : T 10 a0) : gT (f_78 a0 s) (Pad p (gI s 1 4) s) := by
  have hG := h.2.2
  unfold f_78
  extract_lets s1
  have r4 := J0_f (i := 4) h.1 t0 rfl (by decide) rfl
  have h1 : J0 p.1 s1 := J0_wf h.1 t0 rfl (by decide) (fun q hq => by cases hq; dsimp only; omega)
  have a1 : gI s1 a0 3 = gI s a0 4 := rd_same (show s1 = gw s a0 3 (gI s a0 4) from rfl)
  have f1 : Fr s s1 := Fr_w (Fr_r s) t0 (by decide)
  have hF1 : gI s 1 4 ≤ gI s1 a0 3 := by rw [a1, T_10 t0]; exact Int.le_refl _
  generalize gI s 1 4 = F at hF1
  refine gT_loop (fun y => T 10 y.1 ∧ J0 p.1 y.2 ∧ Fr s y.2 ∧ F ≤ gI y.2 y.1 3) (fun y => (400 - gI y.2 y.1 3).toNat) (fun y hy => ?_) ⟨t0, h1, f1, hF1⟩
  obtain ⟨x0, s'⟩ := y
  obtain ⟨t, h, hf, hF⟩ := hy
  dsimp only at t h hf hF
  have r3 := J0_f (i := 3) h t rfl (by decide) rfl
  have r1 := J0_f (i := 1) h t rfl (by decide) rfl
  show gT (sb_78_8 x0 s') _
  unfold sb_78_8
  refine gT_ite (fun h5 => ?_) (fun _ => gT_map (d78_e t hG h hf hF))
  refine gT_chk (by omega) (by omega) ?_
  refine gT_ite (fun _ => ?_) (fun _ => gT_map (d78_e t hG h hf hF))
  extract_lets s2
  have e1 := g32_eq (v := gI s' x0 3 + 1) (by omega) (by omega)
  have e2 : gI s2 x0 3 = g32 (gI s' x0 3 + 1) := rd_same (show s2 = gw s' x0 3 (g32 (gI s' x0 3 + 1)) from rfl)
  refine gT_ret ⟨⟨t, J0_wf h t rfl (by decide) (fun q hq => by cases hq; dsimp only; omega), Fr_w hf t (by decide), ?_⟩, ?_⟩
  · show F ≤ gI s2 x0 3
    omega
  · show (400 - gI s2 x0 3).toNat < (400 - gI s' x0 3).toNat
    omega
theorem d_78 (_hp : -1 ≤ p.1 ∧ p.1 ≤ 0) (h : J p s) (t0 : T 10 a0) : gT (f_78 a0 s) (fun r => r.1 = 0 ∧ J p r.2.2.2) := gT_mono (c_78 h t0) (fun _ hr => ⟨hr.1, hr.2.1⟩)
theorem c_81 {a1 : Int} (h : J p s) (t0 : T 10 a0) : gT (f_81 a0 a1 s) (fun r => r.1 = 1 ∧ (0 ≤ r.2.1 ∧ r.2.1 ≤ 1 ∧ (r.2.1 = 1 → gI s 1 2 = 3)) ∧ r.2.2.2 = s) := by
  have r3 := J_f (i := 3) h t0 rfl (by decide) rfl
  have e := T_10 t0
  subst e
  have h2 := h.2.1
  unfold TK at h2
  unfold f_81
  refine gT_ite (fun h5 => ?_) (fun _ => ?_)
  · refine gT_chk (by omega) (by omega) ?_
    refine gT_ite (fun _ => gT_ret ⟨rfl, by dsimp only; omega, rfl⟩) (fun _ => ?_)
    unfold fb_81_25
    exact gT_ret ⟨rfl, by dsimp only; omega, rfl⟩
  · unfold fb_81_25
    exact gT_ret ⟨rfl, by dsimp only; omega, rfl⟩
theorem d_81 {a1 : Int} (_hp : -1 ≤ p.1 ∧ p.1 ≤ 0) (h : J p s) (t0 : T 10 a0) : gT (f_81 a0 a1 s) (fun r => r.1 = 1 ∧ (0 ≤ r.2.1 ∧ r.2.1 ≤ 1) ∧ J p r.2.2.2) := gT_mono (c_81 h t0) (fun _ hr => ⟨hr.1, ⟨hr.2.1.1, hr.2.1.2.1⟩, by rw [hr.2.2]; exact h⟩)
end Tape

end
section
theorem gtx_70 : ∀ a, a < 70 → (gtx a).length ≤ 40 := by decide +kernel
theorem gtx_le (a : Nat) : (gtx a).length ≤ 40 := by
  by_cases h : a < 70
  · exact gtx_70 a h
  · unfold gtx
    rw [List.getElem?_eq_none (by rw [es_strs_len]; omega)]
    exact Nat.zero_le _
theorem gshr_0 {x : Int} (h : -2147483648 ≤ x ∧ x < 2147483648) : gshr x 0 = x := by
  have e : (Int32.ofInt x >>> (Int32.ofInt 0 &&& 31)) = Int32.ofInt x := by
    rw [show (Int32.ofInt 0 &&& 31) = 0 by decide]
    simp
  unfold gshr
  rw [e]
  exact g_oi h
section Word
variable {p : gP} {s : gS} {a0 a1 : Nat}
theorem c_80 (h : J p s) (t0 : T 10 a0) : gT (f_80 a0 a1 s) (fun r => r.1 = 1 ∧ (0 ≤ r.2.1 ∧ r.2.1 ≤ 1 ∧ (r.2.1 = 1 → gI s 1 2 = 1 ∧ gI s 1 4 = gI s 1 3 + gsl a1)) ∧ r.2.2.2 = s) := by
  have e10 := T_10 t0
  subst e10
  have hlen := gtx_le a1
  have hsl : gsl a1 = ((gtx a1).length : Int) := rfl
  have hsr := gshr_0 (x := gsl a1) (by omega)
  unfold f_80
  refine gT_ite (fun hk => ?_) (fun _ => gT_ret ⟨rfl, by dsimp only; omega, rfl⟩)
  refine gT_v1 (A := fun v u => v = gsl a1 ∧ u = s) ⟨_, rfl, rfl, hsr, rfl⟩ (fun v2 s1 hA => ?_)
  obtain ⟨rfl, rfl⟩ := hA
  have r3 := J_f (i := 3) h t0 rfl (by decide) rfl
  have r4 := J_f (i := 4) h t0 rfl (by decide) rfl
  have e1 := g32_eq (v := gI s1 1 4 - gI s1 1 3) (by omega) (by omega)
  refine gT_ite (fun h5 => ?_) (fun _ => gT_ret ⟨rfl, by dsimp only; omega, rfl⟩)
  refine gT_loop (fun y => y.1 = 1 ∧ y.2.1 = a1 ∧ (0 ≤ y.2.2.1 ∧ y.2.2.1 ≤ gsl a1) ∧ y.2.2.2 = s1) (fun y => (gsl a1 - y.2.2.1).toNat) (fun y hy => ?_) ⟨rfl, rfl, by dsimp only; omega, rfl⟩
  obtain ⟨x0, x1, x2, s⟩ := y
  obtain ⟨e0, e2, r2, e3⟩ := hy
  dsimp only at e0 e2 r2 e3
  subst e0 e2 e3
  show gT (sb_80_28 1 x1 x2 s) _
  unfold sb_80_28
  refine gT_v1 (A := fun v u => v = gsl x1 ∧ u = s) ⟨_, rfl, rfl, hsr, rfl⟩ (fun v4 s3 hA => ?_)
  obtain ⟨rfl, rfl⟩ := hA
  refine gT_ite (fun h6 => ?_) (fun _ => gT_map (gT_ret ⟨rfl, by dsimp only; omega, rfl⟩))
  have e4 := g32_eq (v := gI s3 1 3 + x2) (by omega) (by omega)
  refine gT_chk (by omega) (by omega) ?_
  refine gT_v1 (A := fun _ u => u = s3) (gT_chk (by omega) (by omega) (gT_ret ⟨rfl, rfl⟩)) (fun v6 s5 hA => ?_)
  subst hA
  have e5 := g32_eq (v := x2 + 1) (by omega) (by omega)
  refine gT_ite (fun _ => gT_ret ⟨⟨rfl, rfl, by dsimp only; omega, rfl⟩, by dsimp only; omega⟩) (fun _ => gT_map (gT_ret ⟨rfl, by dsimp only; omega, rfl⟩))
theorem d_80 (_hp : -1 ≤ p.1 ∧ p.1 ≤ 0) (h : J p s) (t0 : T 10 a0) : gT (f_80 a0 a1 s) (fun r => r.1 = 1 ∧ (0 ≤ r.2.1 ∧ r.2.1 ≤ 1) ∧ J p r.2.2.2) := gT_mono (c_80 h t0) (fun _ hr => ⟨hr.1, ⟨hr.2.1.1, hr.2.1.2.1⟩, by rw [hr.2.2]; exact h⟩)
end Word

end
