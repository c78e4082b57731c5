section
/-- a constant text, its parts at their places -/
noncomputable def es_SS (b : Nat → Nat) (n0 si : Nat) (tx : String) (U : State) (H : Heap) : Prop :=
  va_O "java/lang/String" (b (2 * si + 1)) (es_A n0) U H ∧ va_OF "java/lang/String" "coder" "B" (.int 0) (b (2 * si + 1)) (es_A n0) U H ∧ va_OF "java/lang/String" "value" "[B" (.ref (b (2 * si + 2))) (b (2 * si + 1)) (es_A n0) U H ∧ va_T .byte (b (2 * si + 2)) (es_bs tx).length (fun j => .int (nI ((es_bs tx).getD j 0))) (es_A n0) U H ∧ (es_bs tx).length < 2147483648
theorem es_SS.move {b : Nat → Nat} {n0 si : Nat} {tx : String} {u U : State} {H H1 : Heap} (hvm : u.vm.Alike U.vm) (h : es_SS b n0 si tx u H) (hq : ∀ a : Nat, a < H.size → ¬ es_A n0 a → H1[a]? = H[a]?) : es_SS b n0 si tx U H1 :=
  ⟨va_O.moved hvm (h.1.kept hq), va_OF.moved hvm (h.2.1.kept hq), va_OF.moved hvm (h.2.2.1.kept hq), va_T.moved hvm (h.2.2.2.1.kept hq), h.2.2.2.2⟩
noncomputable def es_ex (l : Launch) (strs : List (String × Nat × String)) (wx : List Cond) (n0 : Nat) (b : Nat → Nat) (U : State) : Prop :=
  l.stackTraces = false ∧ vx_Zq Bundle.tN "UNASSIGNED_STACK" Bundle.steD (es_A n0) U U.heap ∧ vx_Zq Bundle.tN "SUPPRESSED_SENTINEL" Bundle.listD (es_A n0) U U.heap ∧ (∀ (si : Nat) (q : String × Nat × String), strs[si]? = some q → vk_R q.1 q.2.1 q.2.2 (b (2 * si + 1)) U ∧ es_SS b n0 si q.2.2 U U.heap) ∧ (∀ w ∈ wx, va_Nw w U) ∧ (∀ x y : Nat, x < 5 → y < 5 → x ≠ y → va_Nc (es_exc x) (es_exc y) U) ∧ va_Z "java/lang/String" "COMPACT_STRINGS" "Z" (.int 1) (es_A n0) U U.heap ∧ va_Zq "jdk/internal/util/Preconditions" "SIOOBE_FORMATTER" "Ljava/util/function/BiFunction;" (es_A n0) U U.heap
noncomputable def es_ev (l : Launch) (strs : List (String × Nat × String)) (wx : List Cond) (SL : Nat) (D : va_G) (cI cJ cZ cC cM : ClassId) (n0 : Nat) (b : Nat → Nat) (ρ : Nat → Int32) (U : State) : Prop :=
  va_K D vwCl (es_TY cI cJ cZ cC cM) U ∧ (b 0 < n0 ∧ n0 ≤ U.heap.size ∧ va_X (b 0) SL ρ U U.heap) ∧ (va_AO RX2 U ∧ va_AO RX7 U) ∧ es_ex l strs wx n0 b U
noncomputable def es_room (M : es_M) : Room := { frames := es_rf M, cells := es_mc M, slots := es_ms M, locals := es_lo M }
noncomputable def es_cw (M : es_M) : Cond := match es_hh M with
  | [] => .code (es_y M) (es_code M) (es_mL M) (es_rt M)
  | hh => .codeWith (es_y M) (es_code M) (es_mL M) (es_rt M) hh
section Met
variable {l : Launch} {strs : List (String × Nat × String)} {wx : List Cond} {WS : List Cond} {SL : Nat} {D : va_G} {cI cJ cZ cC cM : ClassId} {n0 : Nat} {b : Nat → Nat} {ρ : Nat → Int32}
/-- words that go along with the tables' warming -/
noncomputable def es_wxok (wx : List Cond) : Prop := ∀ w ∈ wx, ∀ s U : State, s.WarmedH U.vm → va_Nw w s → va_Nw w U
theorem es_ev_move (hwx : es_wxok wx) {s U : State} (h : es_ev l strs wx SL D cI cJ cZ cC cM n0 b ρ s) (hW : s.WarmedH U.vm) (h1 : s.heap.size ≤ U.heap.size) (h2 : ∀ q : Nat, q < s.heap.size → ¬ es_A n0 q → U.heap[q]? = s.heap[q]?) : es_ev l strs wx SL D cI cJ cZ cC cM n0 b ρ U := by
  obtain ⟨hK, ⟨hb0, hn0, hX⟩, hao, hl, hU, hN, hst, hw, hnc, hZ, hZ2⟩ := h
  exact ⟨va_K.moved hW.alike hK, ⟨hb0, Nat.le_trans hn0 h1, va_X.moved hW.alike (hX.kept (h2 (b 0) (Nat.lt_of_lt_of_le hb0 hn0) (Nat.not_le.mpr hb0)))⟩, ⟨va_AO.moved hW.alike hao.1, va_AO.moved hW.alike hao.2⟩, hl, vx_Zq.moved hW.alike (hU.kept h2), vx_Zq.moved hW.alike (hN.kept h2),
    fun si q hq => ⟨vk_R.warm hW (hst si q hq).1, (hst si q hq).2.move hW.alike h2⟩, fun w hw' => hwx w hw' s U hW (hw w hw'), fun x y h3 h4 h5 => va_Nc.moved hW.alike (hnc x y h3 h4 h5), va_Z.moved hW.alike (hZ.kept h2), va_Zq.moved hW.alike (hZ2.kept h2)⟩
noncomputable def es_Qc (D : va_G) (tys : List (ClassId × FieldType)) (n0 : Nat) (b : Nat → Nat) (ρ : Nat → Int32) (lfs : List es_Lf) : Array Value → State → Outcome → State → Prop := fun _ st o t =>
  ∃ lf ∈ lfs, es_fr ρ lf.2.2.2 ∧ es_hr D tys n0 b ρ lf.2.2.1 t.heap ∧ va_F (es_A n0) st t ∧ ((lf.1 = 0 ∧ o = .returned none) ∨ (lf.1 = 1 ∧ ∃ x, o = .returned (some x) ∧ es_vr n0 b ρ lf.2.1 x))
noncomputable def es_XC (D : va_G) (tys : List (ClassId × FieldType)) (n0 : Nat) (b : Nat → Nat) (ρ : Nat → Int32) (lfs : List es_Lf) : String → State → State → Prop := fun E st t =>
  ∃ lf ∈ lfs, ∃ n, lf.1 = n + 2 ∧ es_exc n = E ∧ es_fr ρ lf.2.2.2 ∧ es_hr D tys n0 b ρ lf.2.2.1 t.heap ∧ va_F (es_A n0) st t
/-- an end of a walk, as its method owes it -/
noncomputable def es_EG (p : Program) (l : Launch) (e : Env) (R : Room) (s : State) (m : MethodId) (args : Array Value) (below : List Frame) (meth : Method) (c : Code) (Q : State → Prop) (D : va_G) (tys : List (ClassId × FieldType)) (n0 : Nat) (b : Nat → Nat) (ρ : Nat → Int32) (nL : Nat) (E : es_E) : Prop := match E.1 with
  | 0 => es_G p l e R s m args below meth c Q D tys n0 b ρ nL E.2
  | n + 1 => ∀ (H : Heap) (ls : Array Slot) (locs : List Loc) (st : List Value) (q : Addr) (ce : Cell), es_inv D tys n0 b ρ nL s E.2 H ls locs st → H[q]? = some ce → ce.vm = .none → s.vm.findClass (es_exc n) = some ce.cls → vx_W p l e R s m args below meth c H locs E.2.2.2.2.2.2.1 E.2.2.2.2.2.2.2 Q (F0 m E.2.1 ls st) q
variable {p : Program} {e : Env} {R : Room} {s : State} {m : MethodId} {args : Array Value} {below : List Frame} {meth : Method} {c : Code} {M : es_M}
theorem es_nar128 : ∀ n, n < 128 → narrow .char (.int (nI n)) = .int (nI n) ∧ narrow .byte (.int (nI n)) = .int (nI n) := by decide +kernel
theorem es_nar_ok {F : es_F} {v : es_V} {x : Value} (hF : es_fr ρ F) (hv : es_vr n0 b ρ v x) (h : es_nar F v = true) : ∃ n, x = .int (nI n) ∧ n < 128 := by
  unfold es_nar at h
  cases hk : es_kn F v with
  | none => rw [hk] at h; cases h
  | some n =>
    rw [hk] at h
    exact ⟨n, es_kn_ok hF hv hk, es_blt.mp h⟩
theorem es_rtv_ok {ret : Option FieldType} {ins : Instr} {S : List es_V} {F : es_F} {q : Nat × es_V} (h : es_rtv ret ins S F = some q) (hF : es_fr ρ F) {st : List Value} (hs : es_sr n0 b ρ S st) {pc : Nat} {cc : ByteArray} (hd : decode cc pc = .ok (ins, es_len ins)) {H : Heap} {ls : Array Slot} {locs : List Loc} {cells slots : Nat} {Qc : Array Value → State → Outcome → State → Prop} {free : Addr → Prop}
    (hx : p.tables.exec = Jvm.exec) (hb : c.code = cc) (hr : meth.sig.returnType = ret) (hlocks : meth.locks = false) (hf : ∀ z ∈ locs, free z.base)
    (hq0 : q.1 = 0 → ∀ t : State, t.heap = H → s.WarmedH t.vm → Qc args s (.returned none) t) (hq1 : q.1 = 1 → ∀ x, es_vr n0 b ρ q.2 x → ∀ t : State, t.heap = H → s.WarmedH t.vm → Qc args s (.returned (some x)) t) :
    W p l e R s m args below meth c H locs cells slots (MQ below Qc args s cells slots free) (F0 m pc ls st) := by
  unfold es_rtv at h
  split at h
  · split at h
    · cases h
      have e1 : st = [] := hs
      subst e1
      exact W.vret hx hb hr (hq0 rfl) hf hd
    · cases h
  · split at h
    · rename_i v
      cases hv : es_ti v
      · rw [hv] at h; cases h
      · rw [hv] at h
        cases h
        obtain ⟨x, st', rfl, hvr, e1⟩ := hs
        have e2 : st' = [] := e1
        subst e2
        obtain ⟨z, rfl⟩ := es_ti_int hvr hv
        exact W.iret hx hb hr (hq1 rfl _ hvr) hf hd
    · rename_i v
      cases hv : es_fitv .boolean F v
      · rw [hv] at h; cases h
      · rw [hv] at h
        cases h
        obtain ⟨x, st', rfl, hvr, e1⟩ := hs
        have e2 : st' = [] := e1
        subst e2
        have e3 := es_fitv_ok hF hvr hv
        have hti : es_ti v = true := by
          have h9 : (match es_kn F v with | some n => Nat.beq n 0 || Nat.beq n 1 | none => false) = true := hv
          cases hk : es_kn F v with
          | none => rw [hk] at h9; cases h9
          | some n => exact es_kn_ti hk
        obtain ⟨z, rfl⟩ := es_ti_int hvr hti
        exact W.zret hx hb hr e3.1 (hq1 rfl _ hvr) hf hd
    · rename_i v
      cases hv : es_nar F v
      · rw [hv] at h; cases h
      · rw [hv] at h
        cases h
        obtain ⟨x, st', rfl, hvr, e1⟩ := hs
        have e2 : st' = [] := e1
        subst e2
        obtain ⟨n, e4, e5⟩ := es_nar_ok hF hvr hv
        subst e4
        exact W.zret hx hb hr (es_nar128 n e5).1 (hq1 rfl _ hvr) hf hd
    · rename_i v
      cases hv : es_nar F v
      · rw [hv] at h; cases h
      · rw [hv] at h
        cases h
        obtain ⟨x, st', rfl, hvr, e1⟩ := hs
        have e2 : st' = [] := e1
        subst e2
        obtain ⟨n, e4, e5⟩ := es_nar_ok hF hvr hv
        subst e4
        exact W.zret hx hb hr (es_nar128 n e5).2 (hq1 rfl _ hvr) hf hd
    · cases h
  · split at h
    · rename_i v
      cases hv : Nat.beq v.1 2
      · rw [hv] at h; cases h
      · rw [hv] at h
        cases h
        obtain ⟨x, st', rfl, hvr, e1⟩ := hs
        have e2 : st' = [] := e1
        subst e2
        have e3 := es_t2_long hvr hv
        subst e3
        exact W.lret hx hb hr (hq1 rfl _ hvr) hf hd
    · cases h
  · split at h
    · rename_i v C
      cases hv : es_tr v
      · rw [hv] at h; cases h
      · rw [hv] at h
        cases h
        obtain ⟨x, st', rfl, hvr, e1⟩ := hs
        have e2 : st' = [] := e1
        subst e2
        exact W.aret hx hb hr (Or.inl ⟨_, rfl⟩) (es_tr_ref hvr hv) (hq1 rfl _ hvr) hf hd
    · rename_i v C
      cases hv : es_tr v
      · rw [hv] at h; cases h
      · rw [hv] at h
        cases h
        obtain ⟨x, st', rfl, hvr, e1⟩ := hs
        have e2 : st' = [] := e1
        subst e2
        exact W.aret hx hb hr (Or.inr ⟨_, rfl⟩) (es_tr_ref hvr hv) (hq1 rfl _ hvr) hf hd
    · cases h
  · cases h
theorem es_vxrun {H : Heap} {locs : List Loc} {cells slots mc ms pc : Nat} {ls : Array Slot} {st0 rest : List Value} {Q : State → Prop} {Qa : State → Outcome → State → Prop} {XC : String → State → State → Prop} {free : Addr → Prop} (hr : vx_Run p l e R s m args below meth c H locs cells slots mc ms (F0 m pc ls st0) rest Qa XC free)
    (kk : ∀ (v : Option Value) (st₀ t : State) (H1 : Heap) (L : List Loc), st₀.heap = H → t.heap = H1 → Qa st₀ (.returned v) t → (∀ q ∈ L, free q.base) → W p l e R s m args below meth c H1 (locs ++ L) (cells + mc) (slots + ms) Q (F0 m (pc + 3) ls (v.toList ++ rest)))
    (kx : ∀ (q : Addr) (st₀ t : State) (H1 : Heap) (L : List Loc) (E : String) (ce : Cell), st₀.heap = H → t.heap = H1 → XC E st₀ t → H1[q]? = some ce → ce.vm = .none → s.vm.findClass E = some ce.cls → (∀ z ∈ L, free z.base) → vx_W p l e R s m args below meth c H1 (locs ++ L) (cells + mc) (slots + ms) Q (F0 m pc ls rest) q) :
    W p l e R s m args below meth c H locs cells slots Q (F0 m pc ls st0) := by
  intro T hT X
  rcases hr T hT X with ⟨v, st₀, t, T', L, h0, X', hL, e1, e2, hq, st⟩ | ⟨q, st₀, t, T', L, E, ce, h0, X', hL, e1, e2, hxc, hce, hcv, hcl, st⟩
  · obtain ⟨t2, a1, b1⟩ := kk v st₀ t T'.heap L h0 e1.symm hq hL T' rfl X'
    exact ⟨t2, st t2 a1, b1⟩
  · obtain ⟨t2, a1, b1⟩ := kx q st₀ t T'.heap L E ce h0 e1.symm hxc (by rw [e1]; exact hce) hcv hcl hL T' rfl X'
    exact ⟨t2, st.trans a1, b1⟩
/-- the arguments in their places -/
theorem es_al_ok : ∀ (vs : List es_V) (xs : List Value) (i : Nat), es_sr n0 b ρ vs xs → ∀ j v, es_get (es_al i vs) j = some v → ∃ x, (j, x) ∈ lv_args i xs ∧ es_vr n0 b ρ v x
  | [], xs, i, h, j, v, hv => by cases hv
  | w :: vs, xs, i, h, j, v, hv => by
    obtain ⟨x, xs', rfl, hw, h'⟩ := h
    unfold es_al at hv
    unfold es_get at hv
    cases hb : Nat.beq i j
    · rw [hb] at hv
      have hv' : es_get (es_al (bif Nat.beq w.1 2 then i + 2 else i + 1) vs) j = some v := hv
      obtain ⟨y, h1, h2⟩ := es_al_ok vs xs' _ h' j v hv'
      refine ⟨y, ?_, h2⟩
      unfold lv_args
      refine List.mem_cons_of_mem _ ?_
      cases h2w : Nat.beq w.1 2
      · rw [h2w] at h1
        rw [if_neg (by rw [es_cat1 hw h2w]; decide)]
        exact h1
      · rw [h2w] at h1
        have e1 := es_t2_long hw h2w
        subst e1
        rw [if_pos (show (Value.long (lN w.2)).category = 2 from rfl)]
        exact h1
    · rw [hb] at hv
      cases hv
      have e1 := es_beq.mp hb
      subst e1
      exact ⟨x, List.mem_cons_self, hw⟩
theorem es_cts_ok : ∀ (vs : List es_V) (xs : List Value), es_sr n0 b ρ vs xs → (lg_sl xs).length = es_cts vs ∧ (xs.map fun v => v.category).sum = es_cts vs
  | [], xs, h => by have e : xs = [] := h; subst e; exact ⟨rfl, rfl⟩
  | w :: vs, xs, h => by
    obtain ⟨x, xs', rfl, hw, h'⟩ := h
    obtain ⟨h1, h2⟩ := es_cts_ok vs xs' h'
    unfold es_cts
    cases h2w : Nat.beq w.1 2
    · have hc := es_cat1 hw h2w
      refine ⟨?_, ?_⟩
      · rw [← h1]
        simp only [lg_sl, List.flatMap_cons, hc, List.length_append]
        rfl
      · simp only [List.map_cons, List.sum_cons, hc, h2, cond_false]
    · have e1 := es_t2_long hw h2w
      subst e1
      refine ⟨?_, ?_⟩
      · rw [← h1]
        simp only [lg_sl, List.flatMap_cons, List.length_append]
        rfl
      · simp only [List.map_cons, List.sum_cons, h2, cond_true]
        rfl
theorem es_sr_len : ∀ (vs : List es_V) (xs : List Value), es_sr n0 b ρ vs xs → xs.length = vs.length
  | [], xs, h => by have e : xs = [] := h; subst e; rfl
  | w :: vs, xs, h => by
    obtain ⟨x, xs', rfl, hw, h'⟩ := h
    simp [es_sr_len vs xs' h']
theorem es_sr_app : ∀ (vs ws : List es_V) (st : List Value), es_sr n0 b ρ (vs ++ ws) st → ∃ xs ys, st = xs ++ ys ∧ es_sr n0 b ρ vs xs ∧ es_sr n0 b ρ ws ys
  | [], ws, st, h => ⟨[], st, rfl, rfl, h⟩
  | v :: vs, ws, st, h => by
    obtain ⟨x, st', rfl, hv, h'⟩ := h
    obtain ⟨xs, ys, rfl, h1, h2⟩ := es_sr_app vs ws st' h'
    exact ⟨x :: xs, ys, rfl, ⟨x, xs, rfl, hv, h1⟩, h2⟩
theorem es_sr_cat : ∀ (vs ws : List es_V) (xs ys : List Value), es_sr n0 b ρ vs xs → es_sr n0 b ρ ws ys → es_sr n0 b ρ (vs ++ ws) (xs ++ ys)
  | [], ws, xs, ys, h, h' => by have e : xs = [] := h; subst e; exact h'
  | v :: vs, ws, xs, ys, h, h' => by
    obtain ⟨x, xs', rfl, hv, h1⟩ := h
    exact ⟨x, xs' ++ ys, rfl, hv, es_sr_cat vs ws xs' ys h1 h'⟩
theorem es_sr_rev : ∀ (vs : List es_V) (xs : List Value), es_sr n0 b ρ vs xs → es_sr n0 b ρ vs.reverse xs.reverse
  | [], xs, h => by have e : xs = [] := h; subst e; rfl
  | v :: vs, xs, h => by
    obtain ⟨x, xs', rfl, hv, h1⟩ := h
    rw [List.reverse_cons, List.reverse_cons]
    exact es_sr_cat _ _ _ _ (es_sr_rev vs xs' h1) ⟨x, [], rfl, hv, rfl⟩
end Met

end
section
/-- the constructor of an exception whose call of the next one stands at another number of its pool -/
noncomputable def es_rxN : ByteArray := ⟨#[0x2a, 0x2b, 0xb7, 0x00, 0x0d, 0xb1]⟩
theorem es_rxN0 : decode es_rxN 0 = .ok (.aload_n 0, 1) := by decide +kernel
theorem es_rxN1 : decode es_rxN 1 = .ok (.aload_n 1, 1) := by decide +kernel
theorem es_rxN2 : decode es_rxN 2 = .ok (.invokespecial 13, 3) := by decide +kernel
theorem es_rxN5 : decode es_rxN 5 = .ok (.return_, 1) := by decide +kernel
noncomputable def es_rt9 : String := "java/lang/RuntimeException"
noncomputable def es_chN (X : String) : List Cond := Bundle.passSAtoms X es_rt9 13 es_rxN ++ Bundle.chainSAtoms es_rt9 ["java/lang/Exception"]
noncomputable def es_tlN (own : String) (ic : Nat) (X : String) : List Cond := [.methodLink own ic (Bundle.initS X), .instantiable X 6, .castable X X, .selects X Bundle.tFill0 Bundle.tFill0, .selects X Bundle.tFill Bundle.tFill,
  .lays X Bundle.tN "cause" "Ljava/lang/Throwable;", .lays X Bundle.tN "stackTrace" Bundle.steD, .lays X Bundle.tN "suppressedExceptions" Bundle.listD, .lays X Bundle.tN "detailMessage" "Ljava/lang/String;",
  .isRef (.static Bundle.tN "UNASSIGNED_STACK" Bundle.steD), .isRef (.static Bundle.tN "SUPPRESSED_SENTINEL" Bundle.listD),
  .fieldLink Bundle.tN 198 Bundle.tN "backtrace" "Ljava/lang/Object;", .lays Bundle.tN Bundle.tN "backtrace" "Ljava/lang/Object;", .lays X Bundle.tN "backtrace" "Ljava/lang/Object;"]
noncomputable def es_owN (own : String) (ic : Nat) (X : String) : List Cond := (Bundle.throwableAtoms ++ Bundle.throwableSAtoms) ++ (es_chN X ++ es_tlN own ic X)
noncomputable def es_atN (own : String) (ic : Nat) (X : String) : List Cond := (es_owN own ic X).filter vx_no
section Ns
variable {p : Program} {l : Launch} {e : Env} {R : Room} {s : State} {m : MethodId} {args : Array Value} {below : List Frame} {meth : Method} {c : Code} {V : State} {cells slots : Nat}
set_option maxHeartbeats 4000000 in
theorem es_ctorN (X : Stand p l e R s m args below meth c V [] cells slots) (hexec : p.tables.exec = Jvm.exec) (htr : e.platform.stackTraces = false) {own cls : String} {ic : Nat} (hown : s.vm.findClass own = some m.cls) (hcls : Bundle.fit cls = true) (h : ∀ w ∈ es_owN own ic cls, w.before args s = true)
    {a : Addr} {cX : ClassId} {kX : Class} (hfX : s.vm.findClass cls = some cX) (hkX : s.vm.classes[cX]? = some kX) (hcell : V.heap[a]? = some (freshCell cX kX)) (hnew : s.heap.size ≤ a) {msg : Value} (hmsg : msg.isRef = true)
    {g : JFrame} (hg : g.method = m) (hsize : g.locals.size = c.maxLocals) (hlocked : g.locked = none) (hentered : g.entered = []) {rest : List Value} (hstack : g.stack = msg :: .ref a :: .ref a :: rest)
    (hd6 : decode c.code g.pc = .ok (.invokespecial ic, 3)) (hd9 : decode c.code (g.pc + 3) = .ok (.athrow, 1)) (hout : ∀ x ∈ c.exceptionTable.toList, covers x (g.pc + 3) = false)
    (hRf : 5 < R.frames) (hRl : 2 * g.monitorRoom + ((Value.ref a :: rest).map fun v => v.category).sum + (13 * 3 + 42) ≤ R.locals) (hlocks : meth.locks = false) :
    ∃ U : State, Steps p.tables e below (V.setTop g) U ∧ U.status = .running ∧ Ended U below (.threw a) ∧ s.WarmedH U.vm ∧ s.sameButNew ({ U with vm := s.vm } : State) [] cells slots ∧ ∃ ce : Cell, U.heap[a]? = some ce ∧ s.vm.findClass cls = some ce.cls ∧ ce.vm = .none := by
  have hpf := X.admits.platform
  have hpl : e.platform.magicAccessors = ({} : Platform).magicAccessors := by rw [hpf]
  have hA : ∀ w ∈ Bundle.throwableAtoms, w.before args s = true := fun w hw => h w (List.mem_append_left _ (List.mem_append_left _ hw))
  have hB : ∀ w ∈ Bundle.throwableSAtoms, w.before args s = true := fun w hw => h w (List.mem_append_left _ (List.mem_append_right _ hw))
  have hC : ∀ w ∈ Bundle.passSAtoms cls es_rt9 13 es_rxN, w.before args s = true := fun w hw => h w (List.mem_append_right _ (List.mem_append_left _ (List.mem_append_left _ hw)))
  have hD : ∀ w ∈ Bundle.chainSAtoms es_rt9 ["java/lang/Exception"], w.before args s = true := fun w hw => h w (List.mem_append_right _ (List.mem_append_left _ (List.mem_append_right _ hw)))
  have hE : ∀ w ∈ es_tlN own ic cls, w.before args s = true := fun w hw => h w (List.mem_append_right _ (List.mem_append_right _ hw))
  obtain ⟨T, Z0, L, -, Y⟩ := ThrowableC.of_atoms (args := args) (by rw [hpf]) (by rw [hpf]) hpl hA
  obtain ⟨Z, M, LZ, LM, hnZ⟩ := Init0T.ofS_atoms (args := args) hpl L Y hB
  obtain ⟨P0, L0, hm0, hs0⟩ := PassC.ofS_atoms (args := args) (s := s) hpl (X := cls) (Y := es_rt9) (Bundle.fit_spec hcls).1 (by decide) es_rxN0 es_rxN1 es_rxN2 es_rxN5 hC
  obtain ⟨P1, Ps, hlen, L1, hL, hm1, k1, k2⟩ := Bundle.chainS (args := args) hpl hnZ ["java/lang/Exception"] es_rt9 (by decide +kernel) (fun n hn => by rw [List.mem_singleton.mp hn]; decide +kernel) hD
  have e01 : P0.sup = P1.m := Option.some.inj (hs0.symm.trans hm1)
  have hfd : s.vm.findClass cls = some P0.m.cls := findClass_of_methodNamed hm0
  cases Option.some.inj (hfX.symm.trans hfd)
  obtain ⟨cI, kI, i1, hk, hord, -, -, hn6⟩ := Cond.instantiable_spec (hE (.instantiable cls 6) (by simp [es_tlN]))
  cases Option.some.inj (i1.symm.trans hfd)
  cases Option.some.inj (hkX.symm.trans hk)
  have s0 : selectMethod e.platform s.vm P0.m.cls T.fill0 = .method T.fill0 := by
    obtain ⟨c2, r2, m2, q1, q2, q3, q4, -⟩ := Cond.selects_spec (hE (.selects cls Bundle.tFill0 Bundle.tFill0) (by simp [es_tlN]))
    cases Option.some.inj (q1.symm.trans hfd)
    cases Option.some.inj (q2.symm.trans (State.methodFound?_of_named Y.fill0 (by decide)))
    cases Option.some.inj (q3.symm.trans Y.fill0)
    rw [Launch.admits_selectMethod X.admits]
    exact q4
  have s1 : selectMethod e.platform s.vm P0.m.cls T.fill = .method T.fill := by
    obtain ⟨c2, r2, m2, q1, q2, q3, q4, -⟩ := Cond.selects_spec (hE (.selects cls Bundle.tFill Bundle.tFill) (by simp [es_tlN]))
    cases Option.some.inj (q1.symm.trans hfd)
    cases Option.some.inj (q2.symm.trans (State.methodFound?_of_named Y.fill (by decide)))
    cases Option.some.inj (q3.symm.trans Y.fill)
    rw [Launch.admits_selectMethod X.admits]
    exact q4
  obtain ⟨cS, hcS, hst⟩ := Y.statics
  obtain ⟨u0, hu0⟩ := Cond.staticRefV Y.unassigned L.unassignedStatic L.statics hcS hst (hE (.isRef (.static Bundle.tN "UNASSIGNED_STACK" Bundle.steD)) (by simp [es_tlN]))
  obtain ⟨sen, hsen⟩ := Cond.staticRefV Y.sentinel L.sentinelStatic L.statics hcS hst (hE (.isRef (.static Bundle.tN "SUPPRESSED_SENTINEL" Bundle.listD)) (by simp [es_tlN]))
  obtain ⟨b1, b2, fB, b3, b4, b5, b6, -, b7, b8, b9⟩ := Cond.ownField (t := .object "java/lang/Object") Y.found L.cls (by decide +kernel) (hE (.fieldLink Bundle.tN 198 Bundle.tN "backtrace" "Ljava/lang/Object;") (by simp [es_tlN])) (hE (.lays Bundle.tN Bundle.tN "backtrace" "Ljava/lang/Object;") (by simp [es_tlN])) e.platform hpl
  obtain ⟨cN, hcN, heN, -, hkp⟩ := X.same.2.2.2.2.2 T.aS cS hcS
  have hno : ∀ i, (⟨T.aS, i⟩ : Loc) ∉ ([] : List Loc) := fun i hm => by cases hm
  have hunk : cN.vm ≠ .unknown := by
    rw [heN]
    intro hu
    rw [show cS.vm = .unknown from hu] at hst
    cases hst
  have hapart : T.aS ≠ a := Nat.ne_of_lt (Nat.lt_of_lt_of_le (Array.getElem?_eq_some_iff.mp hcS).1 hnew)
  obtain ⟨iM, hfM⟩ := Y.msg
  obtain ⟨tC, dC, gC, nC⟩ := Cond.laysAt hfd hk Y.cause (hE (.lays cls Bundle.tN "cause" "Ljava/lang/Throwable;") (by simp [es_tlN]))
  obtain ⟨tS, dS, gS, nS⟩ := Cond.laysAt hfd hk Y.stack (hE (.lays cls Bundle.tN "stackTrace" Bundle.steD) (by simp [es_tlN]))
  obtain ⟨tP, dP, gP, nP⟩ := Cond.laysAt hfd hk Y.supp (hE (.lays cls Bundle.tN "suppressedExceptions" Bundle.listD) (by simp [es_tlN]))
  obtain ⟨tM, dM, gM, nM⟩ := Cond.laysAt hfd hk hfM (hE (.lays cls Bundle.tN "detailMessage" "Ljava/lang/String;") (by simp [es_tlN]))
  obtain ⟨tB, dB, gB, nB⟩ := Cond.laysAt hfd hk b9 (hE (.lays cls Bundle.tN "backtrace" "Ljava/lang/Object;") (by simp [es_tlN]))
  have x1 := Cond.laysApart gB gC nB nC (by rw [b7, Y.causeName]; decide)
  have x2 := Cond.laysApart gB gS nB nS (by rw [b7, Y.stackName]; decide)
  have x3 := Cond.laysApart gB gP nB nP (by rw [b7, Y.suppName]; decide)
  have hsk : SkipFacts T e.platform s (fun u => u) u0 ((preparedCellV T.toThrowableT (freshCell P0.m.cls kX) a u0 sen).withEntry V.cur) := by
    refine ⟨{ ci198 := b1, i198 := b2, fBack := fB }, ⟨b3, b4, b5, b6⟩, ?_, fun _ _ => rfl⟩
    have h9 := fresh_default (c := P0.m.cls) tB
    rw [b8] at h9
    simpa [preparedCellV, Cell.setSlot, Cell.withEntry, Array.getElem?_setIfInBounds, x1, x2, x3, x1.symm, x2.symm, x3.symm, defaultValue] using h9
  obtain ⟨tm, mC, cC, kC, vm₁, hnC, -, -, -, -, -, -, -, hW₁, st1⟩ := Steps.initColdS (tb := p.tables) (e := e) (below := below) (s := s) (U := V) X.here hexec X.warmed hpl hown (t := Bundle.initS cls) rfl rfl (Bundle.fit_spec hcls).2
    (hE (.methodLink own ic (Bundle.initS cls)) (by simp [es_tlN])) (hC (.instanceMethod (Bundle.initS cls)) (by simp [Bundle.passSAtoms])) (bytes := es_rxN) (maxL := 2) (hC (.code (Bundle.initS cls) es_rxN 2 none) (by simp [Bundle.passSAtoms]))
    (f := g) hg (a := a) (msg := msg) (rest := .ref a :: rest) hstack hd6
  cases Option.some.inj (hnC.symm.trans hm0)
  have X₁ := X.noted hW₁
  obtain ⟨vm₂, X₂, st2⟩ := X₁.ctorMessageOffV hexec (g := { g with stack := .ref a :: rest }) hg hsize T L Z LZ M LM (P0 :: P1 :: Ps)
    (fun P hP => by
      rcases List.mem_cons.mp hP with rfl | hP
      · exact L0
      · rcases List.mem_cons.mp hP with rfl | hP
        · exact L1
        · exact hL P hP) ⟨e01, k1, k2⟩ (u0 := u0) (sen := sen) (self := a) hmsg (cell := freshCell P0.m.cls kX) (cellS := cN)
    hcell (fun _ => by simp) (by simp) rfl rfl s0 s1 hcN hapart hunk (by rw [hkp _ (hno _)]; exact hu0) (by rw [hkp _ (hno _)]; exact hsen)
    (Takes.of_laid hk hord tC (by rw [Y.causeType]; rfl)) (Takes.of_laid hk hord tS (by rw [Y.stackType]; exact fits_refV_array _ u0)) (Takes.of_laid hk hord tP (by rw [Y.suppType]; exact fits_refV_object _ sen))
    (Takes.of_laid hk hord tM (by rw [Y.msgType]; exact fits_refV_object _ ⟨msg, hmsg⟩)) Y.objLocals hsk htr [] hd6
    (by simp only [List.length_cons, hlen]; simp; omega) (by simp only [List.length_cons, hlen]; exact hRl)
  obtain ⟨hwalk, hrun, hended, hWU, hsame⟩ := X₂.athrowLeaves hexec (g := { g with stack := .ref a :: rest, pc := g.pc + 3 }) hg hlocked hentered hout (a := a) (rest := rest) rfl hd9
  have hlt : a < ((V.setVm vm₁).setVm vm₂).heap.size := (Array.getElem?_eq_some_iff.mp hcell).1
  have hU := heapAt_setCell_self (s := (V.setVm vm₁).setVm vm₂) (plainBareV T.toThrowableT (freshCell P0.m.cls kX) a u0 sen msg) hlt
  refine ⟨_, st1 _ (fun acts => ?_), hrun, hended, hWU, hsame.weaken (fun y hy hl' => ?_) (Nat.le_refl _) (Nat.le_refl _), _, hU, hfd, rfl⟩
  · rw [doInvoke_state]
    exact st2 _ hwalk
  · exfalso
    have hb : y.base = a := by
      simp only [List.nil_append, List.mem_cons, List.not_mem_nil, or_false] at hy
      rcases hy with rfl | rfl | rfl | rfl | rfl <;> rfl
    rw [hb] at hl'
    exact Nat.not_lt.mpr hnew hl'
end Ns
section NsE
variable {p : Program} {l : Launch} {e : Env} {R : Room} {s : State} {m : MethodId} {args : Array Value} {below : List Frame} {meth : Method} {c : Code} {H : Heap} {locs : List Loc} {cells slots : Nat} {Q : State → Prop}
variable {mc ms : Nat} {free : Addr → Prop} {A0 A1 : Nat → Prop} {H0 : Heap} {a : Array Value} {ls : Array Slot} {st0 rest : List Value}
variable {Qc : Array Value → State → Outcome → State → Prop} {XC : String → State → State → Prop}
theorem es_throwN {cc : ByteArray} {pc : Nat} (hexec : p.tables.exec = Jvm.exec) (hb : c.code = cc) (hl : l.stackTraces = false) {own cls text : String} {ik is ic mc ms sa : Nat} {A : Nat → Prop}
    (hown : s.vm.findClass own = some m.cls) (hcls : Bundle.fit cls = true)
    (hk : (Cond.classLink own ik cls).before args s = true) (hini : (Cond.initialized cls).before args s = true) (hstr : vk_R own is text sa s) (hat : ∀ w ∈ es_atN own ic cls, w.before args s = true)
    (hgood : ∀ w ∈ Cond.classLink own ik cls :: Cond.initialized cls :: es_atN own ic cls, vx_ot w = true)
    (hU : vx_Zq Bundle.tN "UNASSIGNED_STACK" Bundle.steD A s s.heap) (hN : vx_Zq Bundle.tN "SUPPRESSED_SENTINEL" Bundle.listD A s s.heap) (hS : va_S A s.heap H locs) (hsize : ls.size = c.maxLocals)
    (d0 : decode cc pc = .ok (.new ik, 3)) (d3 : decode cc (pc + 3) = .ok (.dup, 1)) (d4 : decode cc (pc + 4) = .ok (.ldc is, 2)) (d6 : decode cc (pc + 6) = .ok (.invokespecial ic, 3)) (d9 : decode cc (pc + 9) = .ok (.athrow, 1))
    (hout : ∀ x ∈ c.exceptionTable.toList, covers x (pc + 9) = false)
    (hRframes : 5 < R.frames) (hRlocals : (rest.map fun v => v.category).sum + (13 * 3 + 43) ≤ R.locals) (hRcells : cells + 1 ≤ R.cells) (hRslots : slots + 6 ≤ R.slots) (hlocks : meth.locks = false)
    (hx : ∀ t : State, s.vm.Alike t.vm → t.heap.size = H.size + 1 → (∀ q : Nat, q < H.size → t.heap[q]? = H[q]?) → XC cls s t)
    (hf : ∀ z ∈ locs, free z.base) (hc : cells + 1 ≤ mc) (hs : slots + 6 ≤ ms) :
    W p l e R s m args below meth c H locs cells slots (vx_MQ below Qc XC args s mc ms free) (F0 m pc ls rest) := by
  intro T hT X
  have htr : e.platform.stackTraces = false := (show e.platform.stackTraces = l.stackTraces by rw [X.admits.platform]).trans hl
  have Y := vx_rebase X (R' := { frames := R.frames, locals := R.locals, cells := 1, slots := 6 }) (Nat.le_refl _) (Nat.le_refl _) hRcells hRslots
  obtain ⟨s', hA⟩ : ∃ z, z = (T.setVm s.vm).setFrames (.invoking m args :: below) := ⟨_, rfl⟩
  rw [← hA] at Y
  have hvm : s'.vm = s.vm := by rw [hA]; rfl
  have hhp : s'.heap = H := by rw [hA]; exact hT
  have hW0 : s.WarmedH s'.vm := by rw [hvm]; exact State.WarmedH.refl s
  have hat' : ∀ w ∈ es_atN own ic cls, w.before args s' = true := fun w hw => vx_ot_at hW0 hvm.symm (hgood w (List.mem_cons_of_mem _ (List.mem_cons_of_mem _ hw))) (hat w hw)
  have hk' : (Cond.classLink own ik cls).before args s' = true := vx_ot_at hW0 hvm.symm (hgood _ List.mem_cons_self) hk
  have hini' : (Cond.initialized cls).before args s' = true := vx_ot_at hW0 hvm.symm (hgood _ (List.mem_cons_of_mem _ List.mem_cons_self)) hini
  have hU' : vx_Zq Bundle.tN "UNASSIGNED_STACK" Bundle.steD A s' s'.heap := by rw [hhp]; exact vx_Zq.moved hW0.alike (hU.kept hS.2.1)
  have hN' : vx_Zq Bundle.tN "SUPPRESSED_SENTINEL" Bundle.listD A s' s'.heap := by rw [hhp]; exact vx_Zq.moved hW0.alike (hN.kept hS.2.1)
  have h : ∀ w ∈ es_owN own ic cls, w.before args s' = true := vx_own hat' (vx_isRefq hU'.1) (vx_isRefq hN'.1) hU'.2.word hN'.2.word
  have hown' : s'.vm.findClass own = some m.cls := by rw [hvm]; exact hown
  have hins : (Cond.instantiable cls 6).before args s' = true := h _ (List.mem_append_right _ (List.mem_append_right _ (by simp [es_tlN])))
  obtain ⟨vm₁, cX, kX, hfX, hkX, -, -, X₁, st1⟩ := Y.newCold hexec (own := own) (C := cls) (index := ik) (n := 6) hown' hk' hins hini'
    (g := F0 m pc ls rest) rfl (by rw [hb]; exact d0) (Nat.le_refl _) (Nat.le_refl _)
  generalize hT1 : (T.setVm vm₁).pushCell { cls := cX, slots := kX.instanceTypes.map defaultValue, vm := .none } = T1 at X₁ st1
  have hcat : (Value.ref T.heap.size).category = 1 := rfl
  have hcellA : T1.heap[T.heap.size]? = some (freshCell cX kX) := by rw [← hT1]; exact State.heap_pushCell_size _ _
  have d3' : decode c.code (pc + 3) = .ok (.dup, 1) := by rw [hb]; exact d3
  have d4' : decode c.code (pc + 4) = .ok (.ldc is, 2) := by rw [hb]; exact d4
  have hstr' : vk_R own is text sa s' := vk_R.warm hW0 hstr
  obtain ⟨U, hsteps, hrun, hend, hW, hsame, ce, hce, hO1, hO2⟩ := es_ctorN X₁ hexec htr (own := own) (cls := cls) (ic := ic) hown' hcls h hfX hkX hcellA (by rw [hhp, hT]; exact Nat.le_refl _) (msg := .ref sa) rfl
    (g := { method := m, pc := pc + 6, locals := ls, stack := .ref sa :: .ref T.heap.size :: .ref T.heap.size :: rest, locked := none }) rfl hsize rfl rfl (rest := rest) rfl
    (by rw [hb]; exact d6) (by rw [hb]; exact d9) hout hRframes (by simp only [List.map_cons, List.sum_cons, hcat]; omega) hlocks
  obtain ⟨f1, f2⟩ := vx_frame hsame
  rw [hhp] at f1 f2
  have hWs : s.WarmedH U.vm := State.WarmedH.trans hW0 hW
  have hcl : s.vm.findClass cls = some ce.cls := by
    have h9 := hO1
    rw [hvm] at h9
    exact h9
  have hall : s.sameButNew ({ U with vm := s.vm } : State) locs mc ms := by
    subst hA
    obtain ⟨e1, e2⟩ := hsame
    rw [State.setFrames_setFrames] at e1
    have h2 : (T.setVm s.vm).sameButNew ({ U with vm := s.vm } : State) [] (0 + 1) (0 + 6) := ⟨e1, e2⟩
    have h3 := X.same.trans h2
    rw [List.append_nil] at h3
    exact h3.mono hc hs
  refine ⟨U, ?_, .threw T.heap.size, hrun, hend, Or.inr ⟨T.heap.size, rfl, cls, ce, locs, hx U hWs.alike (by have g1 : U.heap.size ≤ s'.heap.size + (0 + 1) := hsame.2.2.1; have g2 : T.heap.size < U.heap.size := (Array.getElem?_eq_some_iff.mp hce).1; rw [hhp] at g1; rw [hT] at g2; omega) (fun q hq => f2 q hq (fun z hz => nomatch hz)), hce, hO2, hcl, hWs, hall, hf⟩⟩
  refine st1 _ ?_
  show Steps p.tables e below (T1.setTop { method := m, pc := pc + 3, locals := ls, stack := .ref T.heap.size :: rest, locked := none }) _
  jvm_step X₁.here [X₁.here.top, hexec, d3', Value.category]
  exact X₁.ldcString hexec (own := own) (text := text) (index := is) (a := sa) hown' hstr'.1 hstr'.2
    (g := { method := m, pc := pc + 4, locals := ls, stack := .ref T.heap.size :: .ref T.heap.size :: rest, locked := none }) rfl d4' _ hsteps
end NsE

end
section
section Met2
variable {l : Launch} {strs : List (String × Nat × String)} {wx : List Cond} {WS : List Cond} {SL : Nat} {D : va_G} {cI cJ cZ cC cM : ClassId} {n0 : Nat} {b : Nat → Nat} {ρ : Nat → Int32}
variable {p : Program} {e : Env} {R : Room} {s : State} {m : MethodId} {args : Array Value} {below : List Frame} {meth : Method} {c : Code} {M : es_M}
noncomputable def es_dok (M : es_M) (E : es_I) : Bool := decide (decode (es_code M) E.1 = .ok (E.2.1, E.2.2.1)) && (match E.2.1 with
  | .tableswitch _ _ _ _ => true
  | _ => Nat.beq E.2.2.1 (es_len E.2.1))
/-- a throw, as its row of the table says it -/
noncomputable def es_tok (WS : List Cond) (wx : List Cond) (strs : List (String × Nat × String)) (M : es_M) (E : es_I) : Bool := match E.2.1, E.2.2.2 with
  | .new ik, [100, x, is, ic, wide, si, j1, j2] => (Nat.beq E.2.2.1 3 && (!Nat.beq x 2 || Nat.beq wide 0)) && (match strs[si]? with
      | some q => decide (q.1 = es_own M) && decide (q.2.1 = is)
      | none => false) && ((es_wj WS j1 (.classLink (es_own M) ik (es_exc x)) && es_wj WS j2 (.initialized (es_exc x))) && (decide (decode (es_code M) (E.1 + 3) = .ok (.dup, 1)) &&
      (bif Nat.beq wide 0 then decide (decode (es_code M) (E.1 + 4) = .ok (.ldc is, 2)) && (decide (decode (es_code M) (E.1 + 6) = .ok (.invokespecial ic, 3)) && decide (decode (es_code M) (E.1 + 9) = .ok (.athrow, 1)))
        else decide (decode (es_code M) (E.1 + 4) = .ok (.ldc_w is, 3)) && (decide (decode (es_code M) (E.1 + 7) = .ok (.invokespecial ic, 3)) && decide (decode (es_code M) (E.1 + 10) = .ok (.athrow, 1))))))
  | _, 100 :: _ => false
  | _, _ => true
noncomputable def es_nms : List String := ["java/lang/RuntimeException", "java/lang/Exception"]
/-- the words that a throw of the class with this number, by this constructor, asks beside -/
noncomputable def es_ats (own : String) (ic x : Nat) : List Cond := bif Nat.beq x 2 then es_atN own ic (es_exc x) else vx_atS own ic (es_exc x) es_nms
noncomputable def es_thw (WS wx : List Cond) (own : String) (ic x : Nat) : Prop := ∀ w ∈ es_ats own ic x, w ∈ WS ∨ (w ∈ wx ∧ w.onTables = true)
theorem es_throw_ok (hWS : ∀ w ∈ WS, goodWord w = true)  (fc : es_FC WS SL D cI cJ cZ cC cM n0 b ρ p R s m args meth c M) (hev : es_ev l strs wx SL D cI cJ cZ cC cM n0 b ρ s) (htab : c.exceptionTable.toList = tableOf (es_hh M)) (hh0 : es_hh M = []) {E : es_I} (hthw : ∀ x is ic wide si j1 j2, E.2.2.2 = [100, x, is, ic, wide, si, j1, j2] → es_thw WS wx (es_own M) ic x) (hd : decode (es_code M) E.1 = .ok (E.2.1, E.2.2.1)) (htok : es_tok WS wx strs M E = true) {x : Nat} {tl : List Nat} (ha : E.2.2.2 = 100 :: x :: tl)
    {L : es_L} {S : List es_V} {AH : List es_O} {F : es_F} {cs ss : Nat} (hcap : ((Nat.blt cs (es_mc M) && Nat.ble (ss + 6) (es_ms M)) && (Nat.blt 5 (es_rf M) && Nat.ble 100 (es_lo M)) && Nat.ble (es_cts S) 8) = true) {lfs : List es_Lf} (hin : (x + 2, (0, 0), AH ++ [(1, 0, [])], F) ∈ lfs) :
    es_G p l e R s m args below meth c (vx_MQ below (es_Qc D (es_TY cI cJ cZ cC cM) n0 b ρ lfs) (es_XC D (es_TY cI cJ cZ cC cM) n0 b ρ lfs) args s (es_mc M) (es_ms M) (es_A n0)) D (es_TY cI cJ cZ cC cM) n0 b ρ (es_mL M) (E.1, L, S, AH, F, cs, ss) := by
  intro H ls locs st hinv
  obtain ⟨hl, hs, hH, hF, hS⟩ := hinv
  dsimp only at hl hs hH hF ⊢
  obtain ⟨hx, hb, hml, hown, hts, hK, hR, hinit, hscr, hao, hlocks, hr⟩ := id fc
  obtain ⟨-, -, -, htr, hU, hN, hst, hw, -, -⟩ := hev
  obtain ⟨epc, ins, len, aux⟩ := E
  dsimp only at ha hd ⊢
  simp only [Bool.and_eq_true, es_blt, Nat.ble_eq] at hcap
  obtain ⟨⟨⟨c1, c2⟩, c3, c4⟩, c5⟩ := hcap
  have hsum := (es_cts_ok S st hs).2
  have hsz : ls.size = c.maxLocals := by rw [hl.1, hml]
  unfold es_tok at htok
  dsimp only at htok
  subst ha
  split at htok
  · rename_i ik x' is ic wide si j1 j2 heq
    cases heq
    have hthx := hthw x is ic wide si j1 j2 rfl
    simp only [Bool.and_eq_true] at htok
    obtain ⟨⟨⟨h3, hxw⟩, hstr⟩, ⟨hj1, hj2⟩, hdup, hrest⟩ := htok
    have e3 := es_beq.mp h3
    subst e3
    cases hq : strs[si]? with
    | none => rw [hq] at hstr; cases hstr
    | some q =>
      rw [hq] at hstr
      dsimp only at hstr
      rw [Bool.and_eq_true] at hstr
      obtain ⟨so, sk, tx⟩ := q
      have g1 := of_decide_eq_true hstr.1
      have g2 := of_decide_eq_true hstr.2
      dsimp only at g1 g2
      subst g1; subst g2
      have hsa := (hst _ _ hq).1
      dsimp only at hsa
      have hat : ∀ w ∈ es_ats (es_own M) ic x, w.before args s = true := fun w hw' => by
        rcases hthx w hw' with h | ⟨h, h2⟩
        · exact hts w h
        · exact va_Nw.use h2 (hw w h)
      have hgood : ∀ w ∈ Cond.classLink (es_own M) ik (es_exc x) :: Cond.initialized (es_exc x) :: es_ats (es_own M) ic x, vx_ot w = true := fun w hw' => by
        rcases List.mem_cons.mp hw' with rfl | hw'
        · unfold vx_ot; rw [hWS _ (es_wj_in hj1), Bool.or_true]
        · rcases List.mem_cons.mp hw' with rfl | hw'
          · unfold vx_ot; rw [hWS _ (es_wj_in hj2), Bool.or_true]
          · rcases hthx w hw' with h | ⟨h, h2⟩
            · unfold vx_ot; rw [hWS _ h, Bool.or_true]
            · unfold vx_ot; rw [h2, Bool.true_or]
      have hfit : Bundle.fit (es_exc x) = true := by unfold es_exc; split <;> decide +kernel
      have hfn : ∀ n ∈ es_nms, Bundle.fit n = true := by decide +kernel
      have hxx : ∀ t : State, s.vm.Alike t.vm → t.heap.size = H.size + 1 → (∀ q : Nat, q < H.size → t.heap[q]? = H[q]?) → es_XC D (es_TY cI cJ cZ cC cM) n0 b ρ lfs (es_exc x) s t := fun t ht1 ht2 ht3 =>
        ⟨_, hin, x, rfl, rfl, hF, es_hr_push hH ht2 ht3 trivial, by rw [ht2]; exact Nat.le_trans hS.1 (by omega), fun q q1 q2 => (ht3 q (Nat.lt_of_lt_of_le q1 hS.1)).trans (hS.2.1 q q1 q2)⟩
      have hout : ∀ pc9 : Nat, ∀ z ∈ c.exceptionTable.toList, covers z pc9 = false := fun pc9 z hz => by rw [htab, hh0] at hz; cases hz
      cases hx2 : Nat.beq x 2
      · have ea : es_ats (es_own M) ic x = vx_atS (es_own M) ic (es_exc x) es_nms := by unfold es_ats; rw [hx2]; rfl
        rw [ea] at hat hgood
        cases hwd : Nat.beq wide 0
        · rw [hwd] at hrest
          simp only [cond_false, Bool.and_eq_true] at hrest
          exact vx_throwSW hx hb htr hown hfit hfn (hts _ (es_wj_in hj1)) (hts _ (es_wj_in hj2)) hsa hat hgood hU hN hS hsz hd (of_decide_eq_true hdup) (of_decide_eq_true hrest.1) (of_decide_eq_true hrest.2.1) (of_decide_eq_true hrest.2.2) (hout _) (by show 2 + 3 < _; omega) (by show _ + (13 * (2 + 1) + 43) ≤ _; omega) (by omega) (by omega) hlocks hxx hS.2.2 (by omega) (by omega)
        · rw [hwd] at hrest
          simp only [cond_true, Bool.and_eq_true] at hrest
          exact vx_throwS hx hb htr hown hfit hfn (hts _ (es_wj_in hj1)) (hts _ (es_wj_in hj2)) hsa hat hgood hU hN hS hsz hd (of_decide_eq_true hdup) (of_decide_eq_true hrest.1) (of_decide_eq_true hrest.2.1) (of_decide_eq_true hrest.2.2) (hout _) (by show 2 + 3 < _; omega) (by show _ + (13 * (2 + 1) + 43) ≤ _; omega) (by omega) (by omega) hlocks hxx hS.2.2 (by omega) (by omega)
      · have ea : es_ats (es_own M) ic x = es_atN (es_own M) ic (es_exc x) := by unfold es_ats; rw [hx2]; rfl
        rw [ea] at hat hgood
        rw [hx2] at hxw
        have hwd : Nat.beq wide 0 = true := hxw
        rw [hwd] at hrest
        simp only [cond_true, Bool.and_eq_true] at hrest
        exact es_throwN hx hb htr hown hfit (hts _ (es_wj_in hj1)) (hts _ (es_wj_in hj2)) hsa hat hgood hU hN hS hsz hd (of_decide_eq_true hdup) (of_decide_eq_true hrest.1) (of_decide_eq_true hrest.2.1) (of_decide_eq_true hrest.2.2) (hout _) (by omega) (by omega) (by omega) (by omega) hlocks hxx hS.2.2 (by omega) (by omega)
  · cases htok
  · rename_i h7 h8
    first | exact (h7 _ rfl).elim | exact (h8 _ rfl).elim | (exfalso; apply h7; rfl)
theorem es_leaf_ok (hWS : ∀ w ∈ WS, goodWord w = true) (hthw : ∀ q ∈ es_tab M, ∀ E ∈ q.2, ∀ x is ic wide si j1 j2, E.2.2.2 = [100, x, is, ic, wide, si, j1, j2] → es_thw WS wx (es_own M) ic x) (htk : ∀ q ∈ es_tab M, ∀ E ∈ q.2, es_dok M E = true ∧ es_tok WS wx strs M E = true) (fc : es_FC WS SL D cI cJ cZ cC cM n0 b ρ p R s m args meth c M) (hev : es_ev l strs wx SL D cI cJ cZ cC cM n0 b ρ s) (htab : c.exceptionTable.toList = tableOf (es_hh M)) {E : es_E} {lf : es_Lf} (h : es_leaf M E = some lf) {lfs : List es_Lf} (hin : lf ∈ lfs) :
    es_EG p l e R s m args below meth c (vx_MQ below (es_Qc D (es_TY cI cJ cZ cC cM) n0 b ρ lfs) (es_XC D (es_TY cI cJ cZ cC cM) n0 b ρ lfs) args s (es_mc M) (es_ms M) (es_A n0)) D (es_TY cI cJ cZ cC cM) n0 b ρ (es_mL M) E := by
  obtain ⟨hx, hb, hml, hown, hts, hK, hR, hinit, hscr, hao, hlocks, hr⟩ := id fc
  obtain ⟨kd, pc, L, S, AH, F, cs, ss⟩ := E
  unfold es_leaf at h
  split at h
  · rename_i n pc' L' S' AH' F' cs' ss' heq
    cases heq
    split at h
    · rename_i hh0
      cases hcap : (Nat.ble cs (es_mc M) && Nat.ble ss (es_ms M))
      · rw [hcap] at h; cases h
      · rw [hcap] at h
        cases h
        rw [Bool.and_eq_true, Nat.ble_eq, Nat.ble_eq] at hcap
        intro H ls locs st q ce hinv h1 h2 h3
        obtain ⟨hl, hs, hH, hF, hS⟩ := hinv
        refine vx_out (E := es_exc n) ?_ hlocks h1 h2 h3 (fun t ht hvm => ⟨_, hin, n, rfl, rfl, hF, by rw [ht]; exact hH, hS.F ht⟩) hS.2.2 hcap.1 hcap.2
        intro z hz
        rw [htab, hh0] at hz
        cases hz
    · cases h
  · rename_i pc' L' S' AH' F' cs' ss' heq
    cases heq
    split at h
    · rename_i ent hat
      obtain ⟨e1, qq, hq1, hq2⟩ := es_at_ok hat
      obtain ⟨hdk, htok⟩ := htk qq hq1 ent hq2
      unfold es_dok at hdk
      rw [Bool.and_eq_true] at hdk
      have hd := of_decide_eq_true hdk.1
      split at h
      · rename_i x tl haux
        split at h
        · rename_i hh0
          cases hcap : ((Nat.blt cs (es_mc M) && Nat.ble (ss + 6) (es_ms M)) && (Nat.blt 5 (es_rf M) && Nat.ble 100 (es_lo M)) && Nat.ble (es_cts S) 8)
          · rw [hcap] at h; cases h
          · rw [hcap] at h
            cases h
            subst e1
            exact es_throw_ok hWS fc hev htab hh0 (hthw qq hq1 ent hq2) hd htok haux hcap hin
        · cases h
      · cases hrt : es_rtv (es_rt M) ent.2.1 S F with
        | none => rw [hrt] at h; cases h
        | some q =>
          rw [hrt] at h
          dsimp only at h
          cases hcap : (Nat.ble cs (es_mc M) && Nat.ble ss (es_ms M))
          · rw [hcap] at h; cases h
          · rw [hcap] at h
            cases h
            rw [Bool.and_eq_true, Nat.ble_eq, Nat.ble_eq] at hcap
            intro H ls locs st hinv
            obtain ⟨hl, hs, hH, hF, hS⟩ := hinv
            dsimp only at hl hs hH hF ⊢
            have hdl : es_len ent.2.1 = ent.2.2.1 := by
              have h2 := hdk.2
              split at h2
              · rename_i hts2
                rw [hts2] at hrt
                cases hrt
              · exact (es_beq.mp h2).symm
            rw [← hdl, e1] at hd
            refine W.widen (k := es_mc M) (n := es_ms M) hcap.1 hcap.2 (vx_ret ?_)
            exact es_rtv_ok hrt hF hs hd hx hb hr hlocks hS.2.2 (fun h0 t ht hW => ⟨_, hin, hF, by rw [ht]; exact hH, hS.F ht, Or.inl ⟨h0, rfl⟩⟩) (fun h1 y hy t ht hW => ⟨_, hin, hF, by rw [ht]; exact hH, hS.F ht, Or.inr ⟨h1, y, rfl, hy⟩⟩)
    · cases h
end Met2

end
section
section Con
variable {l : Launch} {strs : List (String × Nat × String)} {wx : List Cond} {WS : List Cond} {SL : Nat} {D : va_G} {cI cJ cZ cC cM : ClassId} {n0 : Nat} {b : Nat → Nat} {ρ : Nat → Int32} {M : es_M}
/-- what a run of a method's body gives, in every frame of it -/
noncomputable def es_RS (l : Launch) (strs : List (String × Nat × String)) (wx : List Cond) (WS : List Cond) (SL : Nat) (D : va_G) (cI cJ cZ cC cM : ClassId) (n0 : Nat) (b : Nat → Nat) (ρ : Nat → Int32) (M : es_M) (K : es_K) (ends : List es_E) : Prop :=
  ∀ (p : Program) (e : Env) (R : Room) (s : State) (m : MethodId) (args : Array Value) (below : List Frame) (meth : Method) (c : Code) (Q : State → Prop), es_FC WS SL D cI cJ cZ cC cM n0 b ρ p R s m args meth c M → es_ev l strs wx SL D cI cJ cZ cC cM n0 b ρ s → c.exceptionTable.toList = tableOf (es_hh M) →
    (∀ E ∈ ends, es_EG p l e R s m args below meth c Q D (es_TY cI cJ cZ cC cM) n0 b ρ (es_mL M) E) → es_G p l e R s m args below meth c Q D (es_TY cI cJ cZ cC cM) n0 b ρ (es_mL M) K
/-- what holds of a method's rows -/
noncomputable def es_MOK (strs : List (String × Nat × String)) (wx WS : List Cond) (M : es_M) : Prop :=
  (es_own M = (es_y M).cls ∧ plainName (es_y M).cls = true) ∧ (∀ q ∈ es_tab M, ∀ E ∈ q.2, ∀ x is ic wide si j1 j2, E.2.2.2 = [100, x, is, ic, wide, si, j1, j2] → es_thw WS wx (es_own M) ic x) ∧ ∀ q ∈ es_tab M, ∀ E ∈ q.2, es_dok M E = true ∧ es_tok WS wx strs M E = true
theorem es_body (hWS : ∀ w ∈ WS, goodWord w = true) (hMO : es_MOK strs wx WS M) {vs : List es_V} {xs : List Value} {AH : List es_O} {F : es_F} {ends : List es_E} (hrs : es_RS l strs wx WS SL D cI cJ cZ cC cM n0 b ρ M (0, es_al 0 vs, [], AH, F, 0, 0) ends) {lfs : List es_Lf} (hlf : es_cat (fun E => (es_leaf M E).map (fun x => [x])) ends = some lfs) (hvs : es_sr n0 b ρ vs xs) (hct : es_cts vs ≤ es_mL M) (hF : es_fr ρ F)
    {p : Program} {e : Env} {s : State} {m : MethodId} {args : Array Value} {below : List Frame} {meth : Method} {c : Code} {s₁ : State} (B : BodyLoose p l (es_y M) (headSpec (es_cw M :: WS) (es_room M)) (es_code M) (es_mL M) (es_rt M) e s m args below meth c s₁) (hml : c.maxLocals = es_mL M) (htab : c.exceptionTable.toList = tableOf (es_hh M))
    (hP : va_Pc xs (fun U => es_hr D (es_TY cI cJ cZ cC cM) n0 b ρ AH U.heap ∧ es_ev l strs wx SL D cI cJ cZ cC cM n0 b ρ U) args s) :
    W p l e (headSpec (es_cw M :: WS) (es_room M)).room s m args below meth c s.heap [] 0 0 (vx_MQ below (es_Qc D (es_TY cI cJ cZ cC cM) n0 b ρ lfs) (es_XC D (es_TY cI cJ cZ cC cM) n0 b ρ lfs) args s (es_mc M) (es_ms M) (es_A n0)) (entryFrame m args (es_mL M)) := by
  obtain ⟨rfl, hH, hev⟩ := hP
  have hts := atoms_spec (ws := es_cw M :: WS) B.pre
  have hown : s.vm.findClass (es_own M) = some m.cls := by rw [hMO.1.1]; exact findClass_of_methodNamed B.named
  have fc : es_FC WS SL D cI cJ cZ cC cM n0 b ρ p (headSpec (es_cw M :: WS) (es_room M)).room s m xs.toArray meth c M :=
    ⟨B.exec, B.bytes, hml, hown, fun w hw => hts w (List.mem_cons_of_mem _ hw), hev.1, ⟨Nat.le_refl _, Nat.le_refl _, Nat.le_refl _, Nat.le_refl _⟩, fun h => ((name_of_methodNamed B.named B.method).1).trans h, hev.2.1, hev.2.2.1, B.notSynchronized, B.returns⟩
  have hent := lv_entry xs (n := es_mL M) (by rw [(es_cts_ok vs xs hvs).1]; exact hct)
  rw [lg_entry_eq]
  generalize (lg_sl xs ++ List.replicate (es_mL M - (lg_sl xs).length) Slot.unset).toArray = ls at hent ⊢
  refine hrs p e _ s m xs.toArray below meth c _ fc hev htab (fun E hE => ?_) s.heap ls [] [] ⟨⟨hent.1, hent.2.1, fun j v hv => ?_⟩, rfl, hH, hF, va_S.rf⟩
  · obtain ⟨x, h1, h2⟩ := es_cat_ok hlf E hE
    cases hlE : es_leaf M E with
    | none => rw [hlE] at h1; cases h1
    | some lf =>
      rw [hlE] at h1
      cases h1
      exact es_leaf_ok hWS hMO.2.1 hMO.2.2 fc hev htab hlE (h2 lf (List.mem_singleton.mpr rfl))
  · obtain ⟨x, h1, h2⟩ := es_al_ok vs xs 0 hvs j v hv
    exact ⟨x, hent.2.2 _ h1, h2⟩
theorem es_met (hWS : ∀ w ∈ WS, goodWord w = true) (hMO : es_MOK strs wx WS M) {vs : List es_V} {xs : List Value} {AH : List es_O} {F : es_F} {ends : List es_E} (hrs : es_RS l strs wx WS SL D cI cJ cZ cC cM n0 b ρ M (0, es_al 0 vs, [], AH, F, 0, 0) ends) {lfs : List es_Lf} (hlf : es_cat (fun E => (es_leaf M E).map (fun x => [x])) ends = some lfs) (hvs : es_sr n0 b ρ vs xs) (hct : es_cts vs ≤ es_mL M) (hF : es_fr ρ F) :
    vx_Met l (es_y M) (es_cw M :: WS) (es_room M) (va_Pc xs (fun U => es_hr D (es_TY cI cJ cZ cC cM) n0 b ρ AH U.heap ∧ es_ev l strs wx SL D cI cJ cZ cC cM n0 b ρ U)) (es_Qc D (es_TY cI cJ cZ cC cM) n0 b ρ lfs) (es_XC D (es_TY cI cJ cZ cC cM) n0 b ρ lfs) (es_mc M) (es_ms M) (es_A n0) := by
  cases hh : es_hh M with
  | nil =>
    have hcw : es_cw M = .code (es_y M) (es_code M) (es_mL M) (es_rt M) := by unfold es_cw; rw [hh]
    refine vx_ofW (cc := es_code M) (maxL := es_mL M) (ret := es_rt M) hMO.1.2 (by rw [hcw]) ?_
    intro p e s m args below meth c s₁ B hml ht hP
    refine es_body hWS hMO hrs hlf hvs hct hF B hml ?_ hP
    rw [hh]
    exact List.eq_nil_iff_forall_not_mem.mpr ht
  | cons q t =>
    have hcw : es_cw M = .codeWith (es_y M) (es_code M) (es_mL M) (es_rt M) (es_hh M) := by unfold es_cw; rw [hh]
    refine vx_ofWH (cc := es_code M) (maxL := es_mL M) (ret := es_rt M) (hh := es_hh M) hMO.1.2 (by rw [hcw]) ?_
    intro p e s m args below meth c s₁ B hml hP
    refine es_body hWS hMO hrs hlf hvs hct hF B hml ?_ hP
    have hts := atoms_spec (ws := es_cw M :: WS) B.pre
    exact vx_table (x := es_y M) B (by rw [← hcw]; exact hts _ List.mem_cons_self)
/-- .. and where nothing is thrown -/
theorem es_met0 {y : MethodName} {ws : List Cond} {rm : Room} {Pc : Array Value → State → Prop} {lfs : List es_Lf} {mc ms : Nat} {free : Addr → Prop} (h : vx_Met l y ws rm Pc (es_Qc D (es_TY cI cJ cZ cC cM) n0 b ρ lfs) (es_XC D (es_TY cI cJ cZ cC cM) n0 b ρ lfs) mc ms free) (hn : es_nothr lfs = true) : Met l y ws rm Pc (es_Qc D (es_TY cI cJ cZ cC cM) n0 b ρ lfs) mc ms free := by
  unfold vx_Met at h
  unfold Met
  intro p e ha hc hk s m args below hf hfit hheap happ
  obtain ⟨t, o, h1, h2, h3, h4⟩ := h p e ha hc hk s m args below hf hfit hheap happ
  refine ⟨t, o, h1, h2, h3, ?_⟩
  rcases h4 with h4 | ⟨q, rfl, E, ce, L, ⟨lf, hl1, n, hl2, -⟩, -⟩
  · exact h4
  · have h5 := List.all_eq_true.mp hn lf hl1
    have h6 := es_blt.mp h5
    rw [hl2] at h6
    omega
end Con

end
section
section Catch
theorem es_covers {q : Nat × Nat × Nat × Nat} {pc : Nat} : covers (⟨q.1, q.2.1, q.2.2.1, q.2.2.2⟩ : ExceptionTableEntry) pc = (Nat.ble q.1 pc && Nat.blt pc q.2.1) := by
  unfold covers
  cases h1 : Nat.ble q.1 pc <;> cases h2 : Nat.blt pc q.2.1
  · have g1 : ¬ q.1 ≤ pc := fun h => by rw [Nat.ble_eq.mpr h] at h1; cases h1
    simp [g1]
  · have g1 : ¬ q.1 ≤ pc := fun h => by rw [Nat.ble_eq.mpr h] at h1; cases h1
    simp [g1]
  · have g1 : ¬ pc < q.2.1 := fun h => by rw [es_blt.mpr h] at h2; cases h2
    simp [g1]
  · have g1 := Nat.ble_eq.mp h1
    have g2 := es_blt.mp h2
    simp [g1, g2]
theorem es_goOne {Q : Handler → Pre} {E : CtlPost} {e : Env} {d : Bool} {acts : List Action} {s : State} {f : JFrame} {a : Addr} {x : ExceptionTableEntry} {t : List ExceptionTableEntry} {c : ClassId} {cell : Cell} (hx : covers x f.pc = true) (h0 : x.catchType ≠ 0)
    (hl : s.vm.ClassLinks e.platform f.method.cls x.catchType c) (hcell : s.heap[a]? = some cell) (hobj : ∀ k, cell.vm ≠ .statics k)
    (hk : ∃ k, s.vm.classes[cell.cls]? = some k) (hc : ∃ k, s.vm.classes[c]? = some k) :
    wp (findHandler.go f a (x :: t)) Q E e d acts s ↔ (if s.vm.assignable cell.cls c = true then Q (.found x.handlerPc) d acts (s.setVm (s.vm.noted f.method.cls x.catchType (.cls c))) else wp (findHandler.go f a t) Q E e d acts (s.setVm (s.vm.noted f.method.cls x.catchType (.cls c)))) := by
  simp only [covers] at hx
  obtain ⟨ha, ht⟩ := (resolveClass_links e.toSetting hl).op (op := VmOp.resolveClass f.method.cls x.catchType) rfl
  have hal : s.vm.Alike (s.vm.noted f.method.cls x.catchType (.cls c)) := (Vm.Alike.refl s.vm).noted _ _ _
  obtain ⟨k1, hk1⟩ := hk
  obtain ⟨k2, hk2⟩ := hc
  obtain ⟨k1', hk1', -⟩ := hal.2.2 _ _ hk1
  obtain ⟨k2', hk2', -⟩ := hal.2.2 _ _ hk2
  have hfit' : (s.vm.noted f.method.cls x.catchType (.cls c)).assignable cell.cls c = s.vm.assignable cell.cls c := by rw [hal.assignable]
  by_cases hf : s.vm.assignable cell.cls c = true
  · rw [if_pos hf]
    rw [hf] at hfit'
    simp [findHandler.go, hx, h0, ha, ht, hcell, hobj, hk1', hk2', hfit', VmOp.dirties, VmOp.acts]
  · rw [if_neg hf]
    have hf2 : s.vm.assignable cell.cls c = false := by simpa using hf
    rw [hf2] at hfit'
    simp [findHandler.go, hx, h0, ha, ht, hcell, hobj, hk1', hk2', hfit', VmOp.dirties, VmOp.acts]
theorem es_goes {e : Env} {s₀ : State} {f : JFrame} {a : Addr} {cell : Cell} {x h : Nat} {own : String} {args : Array Value} (hpl : e.platform.magicAccessors = ({} : Platform).magicAccessors) (hown : s₀.vm.findClass own = some f.method.cls) (hobj : ∀ k, cell.vm ≠ .statics k) (hx5 : x < 5) (hcl : s₀.vm.findClass (es_exc x) = some cell.cls) (hnc : ∀ x y : Nat, x < 5 → y < 5 → x ≠ y → va_Nc (es_exc x) (es_exc y) s₀) :
    ∀ (hh : List (Nat × Nat × Nat × Nat)) (S : State), s₀.WarmedH S.vm → S.heap[a]? = some cell → (∀ q ∈ hh, q.2.2.2 ≠ 0 ∧ es_ct q.2.2.2 < 5 ∧ (Cond.classLink own q.2.2.2 (es_exc (es_ct q.2.2.2))).before args s₀ = true) → es_hdl es_ct hh f.pc x = some h →
      ∃ vm', s₀.WarmedH vm' ∧ ∀ (Q : Handler → Pre) (E : CtlPost) (d : Bool) (acts : List Action), wp (findHandler.go f a (tableOf hh)) Q E e d acts S ↔ Q (.found h) d acts (S.setVm vm') := by
  intro hh
  induction hh with
  | nil => intro S _ _ _ h0; cases h0
  | cons q t ih =>
    intro S hW hcell hrow hhd
    obtain ⟨g0, g5, glk⟩ := hrow q List.mem_cons_self
    have hrest : ∀ z ∈ t, z.2.2.2 ≠ 0 ∧ es_ct z.2.2.2 < 5 ∧ (Cond.classLink own z.2.2.2 (es_exc (es_ct z.2.2.2))).before args s₀ = true := fun z hz => hrow z (List.mem_cons_of_mem _ hz)
    unfold es_hdl at hhd
    cases hcv : (Nat.ble q.1 f.pc && Nat.blt f.pc q.2.1)
    · rw [hcv] at hhd
      dsimp only [cond_false] at hhd
      obtain ⟨vm', w1, w2⟩ := ih S hW hcell hrest hhd
      refine ⟨vm', w1, fun Q E d acts => ?_⟩
      show wp (findHandler.go f a (⟨q.1, q.2.1, q.2.2.1, q.2.2.2⟩ :: tableOf t)) Q E e d acts S ↔ _
      rw [W.findHandler_go_skip (by rw [es_covers]; exact hcv)]
      exact w2 Q E d acts
    · rw [hcv] at hhd
      dsimp only [cond_true] at hhd
      obtain ⟨c', hc', hlk⟩ := Cond.classLink_spec hown glk e.platform hpl
      obtain ⟨dk, _, _, kt, hd, _, _, _, _, hkt, _, hopn⟩ := hlk.here
      obtain ⟨kt', hkt', -⟩ := hW.alike.2.2 _ _ hkt
      obtain ⟨k0, hk0, -⟩ := Vm.findClass_spec hcl
      obtain ⟨k0', hk0', -⟩ := hW.alike.2.2 _ _ hk0
      have hW2 : s₀.WarmedH (S.vm.noted f.method.cls q.2.2.2 (.cls c')) := hW.noted hd hopn (State.rightAt_cls hlk)
      have hone : ∀ (Q : Handler → Pre) (E : CtlPost) (d : Bool) (acts : List Action), _ := fun Q E d acts => es_goOne (Q := Q) (E := E) (e := e) (d := d) (acts := acts) (s := S) (f := f) (a := a) (x := (⟨q.1, q.2.1, q.2.2.1, q.2.2.2⟩ : ExceptionTableEntry)) (t := tableOf t) (c := c') (cell := cell) (by rw [es_covers]; exact hcv) g0 (hW.classLinks hlk) hcell hobj ⟨k0', hk0'⟩ ⟨kt', hkt'⟩
      cases hcx : Nat.beq (es_ct q.2.2.2) x
      · rw [hcx] at hhd
        dsimp only [cond_false] at hhd
        have hne := es_beqf.mp hcx
        obtain ⟨a8, b8, n1, n2, n3⟩ := hnc x (es_ct q.2.2.2) hx5 g5 (Ne.symm hne)
        cases Option.some.inj (n1.symm.trans hcl)
        cases Option.some.inj (n2.symm.trans hc')
        obtain ⟨vm', w1, w2⟩ := ih (S.setVm (S.vm.noted f.method.cls q.2.2.2 (.cls c'))) hW2 hcell hrest hhd
        refine ⟨vm', w1, fun Q E d acts => ?_⟩
        show wp (findHandler.go f a (⟨q.1, q.2.1, q.2.2.1, q.2.2.2⟩ :: tableOf t)) Q E e d acts S ↔ _
        rw [hone Q E d acts, if_neg (by rw [hW.alike.assignable, n3]; decide)]
        exact w2 Q E d acts
      · rw [hcx] at hhd
        cases hhd
        have he := es_beq.mp hcx
        rw [he] at hc'
        cases Option.some.inj (hcl.symm.trans hc')
        refine ⟨_, hW2, fun Q E d acts => ?_⟩
        show wp (findHandler.go f a (⟨q.1, q.2.1, q.2.2.1, q.2.2.2⟩ :: tableOf t)) Q E e d acts S ↔ _
        rw [hone Q E d acts, if_pos (va_asg _ _)]
theorem es_catch {p : Program} {l : Launch} {e : Env} {R : Room} {s : State} {m : MethodId} {args : Array Value} {below : List Frame} {meth : Method} {c : Code} {H : Heap} {locs : List Loc} {cells slots : Nat} {Q : State → Prop} {pc : Nat} {ls : Array Slot} {rest : List Value} {q : Addr} {ce : Cell} {own : String} {x h : Nat} {hh : List (Nat × Nat × Nat × Nat)}
    (hown : s.vm.findClass own = some m.cls) (htab : c.exceptionTable.toList = tableOf hh) (hx5 : x < 5) (hnc : ∀ x y : Nat, x < 5 → y < 5 → x ≠ y → va_Nc (es_exc x) (es_exc y) s) (hrow : ∀ q ∈ hh, q.2.2.2 ≠ 0 ∧ es_ct q.2.2.2 < 5 ∧ (Cond.classLink own q.2.2.2 (es_exc (es_ct q.2.2.2))).before args s = true) (hhd : es_hdl es_ct hh pc x = some h) (hcell : H[q]? = some ce) (hv : ce.vm = .none) (hcl : s.vm.findClass (es_exc x) = some ce.cls)
    (kk : W p l e R s m args below meth c H locs cells slots Q (F0 m h ls [.ref q])) : vx_W p l e R s m args below meth c H locs cells slots Q (F0 m pc ls rest) q := by
  intro T hT X
  have hpl : e.platform.magicAccessors = ({} : Platform).magicAccessors := by rw [X.admits.platform]
  obtain ⟨vm', hW', hq⟩ := es_goes (e := e) (s₀ := s) (f := F0 m pc ls rest) (a := q) (cell := ce) (args := args) (own := own) hpl hown (fun k h9 => by rw [hv] at h9; cases h9) hx5 hcl hnc hh ((T.setTop (F0 m pc ls rest)).pushFrame (.throwing q)) X.warmed (by show T.heap[q]? = some ce; rw [hT]; exact hcell) hrow hhd
  obtain ⟨t, a1, b1⟩ := kk (T.setVm vm') hT (X.noted hW')
  refine ⟨t, ?_, b1⟩
  have hgoes : ∀ (Q : Handler → Pre) (E : CtlPost) (d : Bool) (acts : List Action), wp (findHandler (F0 m pc ls rest) q) Q E e d acts ((T.setTop (F0 m pc ls rest)).pushFrame (.throwing q)) ↔ Q (.found h) d acts (((T.setTop (F0 m pc ls rest)).pushFrame (.throwing q)).setVm vm') := fun Q E d acts => by
    rw [W.findHandler_eq (meth := meth) (code := c) X.method' X.code, htab]
    exact hq Q E d acts
  have hst : (stepThrowing e ((T.setTop (F0 m pc ls rest)).pushFrame (.throwing q)) q (.java (F0 m pc ls rest) :: below)).Is ((((T.setTop (F0 m pc ls rest)).pushFrame (.throwing q)).setVm vm').setFrames (.java { (F0 m pc ls rest) with pc := h, stack := [.ref q] } :: below)) [] := by
    simp only [stepThrowing, searchFrame, vmDo]
    generalize hr : Sem.go _ e false [] ((T.setTop (F0 m pc ls rest)).pushFrame (.throwing q)) = res
    obtain ⟨as, rfl, ha⟩ := Sem.eq_ok_of hr (a := Handler.found h) (s' := ((T.setTop (F0 m pc ls rest)).pushFrame (.throwing q)).setVm vm') (acts' := []) (by simp [hgoes])
    exact ⟨rfl, ha⟩
  have hAt : At T (F0 m pc ls rest).method c below := X.here
  obtain ⟨hgo, hw⟩ := hAt.throwing q
  refine Steps.head hgo hw ?_
  rw [stepThread_throwing (frames_entered hAt.top _)]
  obtain ⟨g₀, hfr⟩ := X.frames_eq
  have hr' : (T.setVm vm').frames = .java g₀ :: below := hfr
  rw [State.setTop_of_frames _ hr'] at a1
  rw [hfr, List.tail_cons, hst.1, State.pushFrame, State.setTop_of_frames _ hfr]
  have hz : ∀ (u : State) (F G : List Frame), ((u.setFrames F).setVm vm').setFrames G = (u.setVm vm').setFrames G := fun u F G => by
    have h1 : (u.setFrames F).setVm vm' = (u.setVm vm').setFrames F := rfl
    rw [h1, State.setFrames_setFrames]
  rw [State.setFrames_setFrames, hz]
  exact a1
end Catch

end
section
noncomputable def es_ymok (y : MethodName) (n : Nat) : Bool := decide (y.cls ≠ "java/lang/invoke/MethodHandle") && (decide (y.cls ≠ "java/lang/invoke/VarHandle") && decide ((parseMethodDescriptor y.desc).map (fun d => d.parameters.length) = some n))
theorem es_ymok_ok {y : MethodName} {n : Nat} (h : es_ymok y n = true) : y.cls ≠ "java/lang/invoke/MethodHandle" ∧ y.cls ≠ "java/lang/invoke/VarHandle" ∧ (parseMethodDescriptor y.desc).map (fun d => d.parameters.length) = some n := by
  unfold es_ymok at h
  rw [Bool.and_eq_true, Bool.and_eq_true] at h
  exact ⟨of_decide_eq_true h.1, of_decide_eq_true h.2.1, of_decide_eq_true h.2.2⟩
noncomputable def es_cok (ME : Nat → es_M) (WS wx : List Cond) (M : Nat) (E : es_I) : Bool := match E.2.1 with
  | .invokevirtual idx => match E.2.2.2 with
    | [1, M', n, ci, j1, j2, j3, j4] => (match vwCl[ci]? with
        | some r => decide (r.1 = (es_y (ME (es_cal M M'))).cls)
        | none => false) && ((es_wj WS j1 (.methodLink (es_own (ME M)) idx (es_y (ME (es_cal M M')))) && es_wj WS j2 (.instanceMethod (es_y (ME (es_cal M M'))))) && ((es_wj WS j3 (.selects (es_y (ME (es_cal M M'))).cls (es_y (ME (es_cal M M'))) (es_y (ME (es_cal M M')))) && es_wj WS j4 (.initialized (es_y (ME (es_cal M M'))).cls)) && (es_ymok (es_y (ME (es_cal M M'))) n && (es_hh (ME (es_cal M M'))).isEmpty)))
    | [3, M', n, j1, j2, j3, j4] => decide ((es_y (ME (es_cal M M'))).cls = "java/lang/String") && ((es_wj WS j1 (.methodLink (es_own (ME M)) idx (es_y (ME (es_cal M M')))) && es_wj WS j2 (.instanceMethod (es_y (ME (es_cal M M'))))) && ((es_wj WS j3 (.selects (es_y (ME (es_cal M M'))).cls (es_y (ME (es_cal M M'))) (es_y (ME (es_cal M M')))) && es_wj WS j4 (.initialized (es_y (ME (es_cal M M'))).cls)) && (es_ymok (es_y (ME (es_cal M M'))) n && (es_hh (ME (es_cal M M'))).isEmpty)))
    | _ => false
  | .invokestatic idx => match E.2.2.2 with
    | [2, M', n, j1, j2, j3] => (es_wj WS j1 (.methodLink (es_own (ME M)) idx (es_y (ME (es_cal M M')))) && es_wj WS j2 (.static (es_y (ME (es_cal M M'))))) && (es_wj WS j3 (.initialized (es_y (ME (es_cal M M'))).cls) && es_ymok (es_y (ME (es_cal M M'))) n)
    | [4, j1, j2, j3, j4] => (es_wj WS j1 (.methodLink (es_own (ME M)) idx arraycopyName) && es_wj WS j2 (.native arraycopyName)) && (es_wj WS j3 (.static arraycopyName) && es_wj WS j4 (.initialized "java/lang/System"))
    | [5, j1, j2, j3, j4] => (es_wj WS j1 (.methodLink (es_own (ME M)) idx Lib.Math.min.name) && es_wj WS j2 (.static Lib.Math.min.name)) && (es_wj WS j3 (.initialized "java/lang/Math") && es_wj WS j4 (.code Lib.Math.min.name Lib.Math.min.code 2 (some .int)))
    | [6, j1, j2, j3, j4] => (es_wj WS j1 (.methodLink (es_own (ME M)) idx Lib.Math.max.name) && es_wj WS j2 (.static Lib.Math.max.name)) && (es_wj WS j3 (.initialized "java/lang/Math") && es_wj WS j4 (.code Lib.Math.max.name Lib.Math.max.code 2 (some .int)))
    | _ => false
  | .invokespecial idx => match E.2.2.2 with
    | [7, M', n, nest, j1, j2, j3] => (bif Nat.beq nest 0 then es_wj WS j1 (.methodLink (es_own (ME M)) idx (es_y (ME (es_cal M M')))) else es_wj wx j1 (.methodLinkNest (es_own (ME M)) idx (es_y (ME (es_cal M M'))) RX11)) && ((es_wj WS j2 (.instanceMethod (es_y (ME (es_cal M M')))) && es_wj WS j3 (.initialized (es_y (ME (es_cal M M'))).cls)) && ((es_ymok (es_y (ME (es_cal M M'))) n && (es_hh (ME (es_cal M M'))).isEmpty) && (decide ((es_y (ME (es_cal M M'))).name = "<init>") && decide (es_rt (ME (es_cal M M')) = none))))
    | [9, j1, j2, j3] => es_wj WS j1 (.methodLink (es_own (ME M)) idx Lib.objectInit) && (es_wj WS j2 (.instanceMethod Lib.objectInit) && es_wj WS j3 (.code Lib.objectInit ⟨#[0xb1]⟩ 1 none))
    | _ => false
  | _ => true
/-- a row that speaks of a constant text -/
noncomputable def es_sok (strs : List (String × Nat × String)) (WS : List Cond) (M : es_M) (E : es_I) : Bool := match E.2.2.2 with
  | 60 :: f :: a :: tl => match f, E.2.1 with
    | 0, .ldc idx => (match strs[a]? with
      | some q => decide (q.1 = es_own M) && decide (q.2.1 = idx)
      | none => false)
    | 1, .getfield idx => (match tl with
      | [j] => es_wj WS j (.fieldLink (es_own M) idx "java/lang/String" "value" "[B")
      | _ => false)
    | 2, .getfield idx => (match tl with
      | [j] => es_wj WS j (.fieldLink (es_own M) idx "java/lang/String" "coder" "B")
      | _ => false)
    | 3, .arraylength => true
    | 4, .baload => true
    | 5, .getstatic idx => (match tl with
      | [j] => es_wj WS j (.fieldLink (es_own M) idx "java/lang/String" "COMPACT_STRINGS" "Z")
      | _ => false)
    | 6, .getstatic idx => (match tl with
      | [j] => es_wj WS j (.fieldLink (es_own M) idx "jdk/internal/util/Preconditions" "SIOOBE_FORMATTER" "Ljava/util/function/BiFunction;")
      | _ => false)
    | _, _ => false
  | _ => true
/-- a row that speaks of a constant text -/
noncomputable def es_k60 (E : es_I) : Bool := match E.2.2.2 with
  | 60 :: _ :: _ :: _ => true
  | _ => false
section Call
variable {l : Launch} {strs : List (String × Nat × String)} {wx : List Cond} {WS : List Cond} {SL : Nat} {D : va_G} {cI cJ cZ cC cM : ClassId} {n0 : Nat} {b : Nat → Nat} {ρ : Nat → Int32} {ME : Nat → es_M}
variable {p : Program} {e : Env} {R : Room} {s : State} {m : MethodId} {args : Array Value} {below : List Frame} {meth : Method} {c : Code} {Q : State → Prop}
/-- what holds of all rows -/
noncomputable def es_GH (strs : List (String × Nat × String)) (wx WS : List Cond) (ME : Nat → es_M) : Prop :=
  (∀ w ∈ WS, goodWord w = true) ∧ (∀ (ci : Nat) (r : vw_C), vwCl[ci]? = some r → ∀ w ∈ u_ws r.1 r.2.1 r.2.2, w ∈ WS) ∧ es_wxok wx ∧ (∀ M, es_MOK strs wx WS (ME M)) ∧ (∀ M, es_cx M = true → es_cw (ME M) ∈ WS) ∧ (∀ M, ∀ q ∈ es_tab (ME M), ∀ E ∈ q.2, ((es_k60 E || es_hok WS (ME M) E) = true ∧ es_cok ME WS wx M E = true) ∧ es_sok strs WS (ME M) E = true) ∧
  (∀ M, ∀ q ∈ es_hh (ME M), q.2.2.2 ≠ 0 ∧ es_ct q.2.2.2 < 5 ∧ Cond.classLink (es_own (ME M)) q.2.2.2 (es_exc (es_ct q.2.2.2)) ∈ WS)
theorem es_good (G : es_GH strs wx WS ME) {M : Nat} (hc : es_cw (ME M) ∈ WS) : GoodIn WS (es_cw (ME M) :: WS) := fun w hw => by
  rcases List.mem_cons.mp hw with rfl | h
  · exact ⟨hc, good_of_word (G.1 _ hc)⟩
  · exact ⟨h, good_of_word (G.1 _ h)⟩
noncomputable abbrev es_Pc (l : Launch) (strs : List (String × Nat × String)) (wx : List Cond) (SL : Nat) (D : va_G) (cI cJ cZ cC cM : ClassId) (n0 : Nat) (b : Nat → Nat) (ρ : Nat → Int32) (xs : List Value) (AH : List es_O) : Array Value → State → Prop := va_Pc xs (fun U => es_hr D (es_TY cI cJ cZ cC cM) n0 b ρ AH U.heap ∧ es_ev l strs wx SL D cI cJ cZ cC cM n0 b ρ U)
theorem es_blind (hwx : es_wxok wx) {xs : List Value} {AH : List es_O} : FrameBlind (es_Pc l strs wx SL D cI cJ cZ cC cM n0 b ρ xs AH) := by
  intro a U g mk h
  obtain ⟨h1, h2, h3⟩ := h
  exact ⟨h1, h2, es_ev_move hwx h3 (U := U.calling g mk a) (State.WarmedH.refl U) (Nat.le_refl _) (fun _ _ _ => rfl)⟩
theorem es_pcU (hwx : es_wxok wx) (hev : es_ev l strs wx SL D cI cJ cZ cC cM n0 b ρ s) {H : Heap} {locs : List Loc} (hS : va_S (es_A n0) s.heap H locs) {AH : List es_O} (hH : es_hr D (es_TY cI cJ cZ cC cM) n0 b ρ AH H) {xs : List Value} : ∀ U : State, U.heap = H → s.WarmedH U.vm → es_Pc l strs wx SL D cI cJ cZ cC cM n0 b ρ xs AH xs.toArray U := fun U hU hW =>
  ⟨rfl, by rw [hU]; exact hH, es_ev_move hwx hev hW (by rw [hU]; exact hS.1) (fun q h1 h2 => by rw [hU]; exact hS.2.1 q h1 h2)⟩
theorem es_va_join {H H1 : Heap} {locs L : List Loc} {st₀ t : State} (hS : va_S (es_A n0) s.heap H locs) (h0 : st₀.heap = H) (ht : t.heap = H1) (hf : va_F (es_A n0) st₀ t) (hL : ∀ q ∈ L, es_A n0 q.base) : va_S (es_A n0) s.heap H1 (locs ++ L) := by
  obtain ⟨f1, f2⟩ := hf
  rw [h0, ht] at f1
  rw [h0, ht] at f2
  refine ⟨Nat.le_trans hS.1 f1, fun q h1 h2 => (f2 q (Nat.lt_of_lt_of_le h1 hS.1) h2).trans (hS.2.1 q h1 h2), fun z hz => ?_⟩
  rcases List.mem_append.mp hz with h | h
  · exact hS.2.2 z h
  · exact hL z h
/-- what comes behind a call -/
theorem es_aft_ok (G : es_GH strs wx WS ME) {ih : Nat → es_K → Option (List es_E)} (hih : ∀ (M : Nat) (K : es_K) (ends : List es_E), ih M K = some ends → es_RS l strs wx WS SL D cI cJ cZ cC cM n0 b ρ (ME M) K ends) {M : Nat} (fc : es_FC WS SL D cI cJ cZ cC cM n0 b ρ p R s m args meth c (ME M)) (hev : es_ev l strs wx SL D cI cJ cZ cC cM n0 b ρ s) (htab : c.exceptionTable.toList = tableOf (es_hh (ME M))) {ends : List es_E} (hends : ∀ E ∈ ends, es_EG p l e R s m args below meth c Q D (es_TY cI cJ cZ cC cM) n0 b ρ (es_mL (ME M)) E)
    {pc : Nat} {L : es_L} {S' : List es_V} {cs ss mc ms : Nat} {lfs : List es_Lf} (hcat : es_cat (es_aft ME ih M pc L S' (cs + mc) (ss + ms)) lfs = some ends)
    {H : Heap} {ls : Array Slot} {locs : List Loc} {rest st0 : List Value} (hl : es_lr n0 b ρ (es_mL (ME M)) L ls) (hs' : es_sr n0 b ρ S' rest) (hS : va_S (es_A n0) s.heap H locs)
    (hr : vx_Run p l e R s m args below meth c H locs cs ss mc ms (F0 m pc ls st0) rest (es_Qc D (es_TY cI cJ cZ cC cM) n0 b ρ lfs #[]) (es_XC D (es_TY cI cJ cZ cC cM) n0 b ρ lfs) (es_A n0)) :
    W p l e R s m args below meth c H locs cs ss Q (F0 m pc ls st0) := by
  refine es_vxrun hr (fun v st₀ t H1 L1 h0 ht hq hL => ?_) (fun q st₀ t H1 L1 E ce h0 ht hxc hce hcv hcl hL => ?_)
  · obtain ⟨lf, hlf, hF', hH', hf, hcase⟩ := hq
    obtain ⟨x, h1, h2⟩ := es_cat_ok hcat lf hlf
    rw [ht] at hH'
    obtain ⟨kd, w, AH', F'⟩ := lf
    dsimp only at hF' hH' hcase
    rcases hcase with ⟨rfl, hv⟩ | ⟨rfl, y, hv, hy⟩
    · cases hv
      have h1' : ih M (pc + 3, L, S', AH', F', cs + mc, ss + ms) = some x := h1
      exact hih M _ _ h1' p e R s m args below meth c Q fc hev htab (fun E hE => hends E (h2 E hE)) H1 ls _ rest ⟨hl, hs', hH', hF', es_va_join hS h0 ht hf hL⟩
    · cases hv
      have h1' : ih M (pc + 3, L, w :: S', AH', F', cs + mc, ss + ms) = some x := h1
      exact hih M _ _ h1' p e R s m args below meth c Q fc hev htab (fun E hE => hends E (h2 E hE)) H1 ls _ (y :: rest) ⟨hl, ⟨y, rest, rfl, hy, hs'⟩, hH', hF', es_va_join hS h0 ht hf hL⟩
  · obtain ⟨lf, hlf, n, hn, rfl, hF', hH', hf⟩ := hxc
    obtain ⟨x, h1, h2⟩ := es_cat_ok hcat lf hlf
    rw [ht] at hH'
    obtain ⟨kd, w, AH', F'⟩ := lf
    dsimp only at hF' hH' hn
    subst hn
    unfold es_aft at h1
    dsimp only at h1
    split at h1
    · cases h1
      have h3 := hends _ (h2 _ (List.mem_singleton.mpr rfl))
      exact h3 H1 ls _ rest q ce ⟨hl, hs', hH', hF', es_va_join hS h0 ht hf hL⟩ hce hcv hcl
    · split at h1
      · rename_i hd2 hdl
        cases hx5 : Nat.blt n 5
        · rw [hx5] at h1; cases h1
        · rw [hx5] at h1
          have h1' : ih M (hd2, L, [(7, 0)], AH', F', cs + mc, ss + ms) = some x := h1
          refine es_catch fc.2.2.2.1 htab (es_blt.mp hx5) hev.2.2.2.2.2.2.2.2.1 (fun z hz => ?_) hdl hce hcv hcl ?_
          · obtain ⟨g1, g2, g3⟩ := G.2.2.2.2.2.2 M z hz
            exact ⟨g1, g2, fc.2.2.2.2.1 _ g3⟩
          · exact hih M _ _ h1' p e R s m args below meth c Q fc hev htab (fun E hE => hends E (h2 E hE)) H1 ls _ [.ref q] ⟨hl, ⟨_, _, rfl, ⟨q, rfl⟩, rfl⟩, hH', hF', es_va_join hS h0 ht hf hL⟩
      · cases h1
end Call

end
section
theorem es_room16 {m : MethodId} {pc : Nat} {ls : Array Slot} {rest st : List Value} (h : (st.map fun v => v.category).sum ≤ 16) : 2 * (F0 m pc ls rest).monitorRoom + (st.map fun v => v.category).sum ≤ 16 := by
  show 2 * 0 + _ ≤ _
  omega
section Snd
variable {l : Launch} {strs : List (String × Nat × String)} {wx : List Cond} {WS : List Cond} {SL : Nat} {D : va_G} {cI cJ cZ cC cM : ClassId} {n0 : Nat} {b : Nat → Nat} {ρ : Nat → Int32} {ME : Nat → es_M}
variable {p : Program} {e : Env} {R : Room} {s : State} {m : MethodId} {args : Array Value} {below : List Frame} {meth : Method} {c : Code} {Q : State → Prop}
theorem es_ifc {cc : ByteArray} (hx : p.tables.exec = Jvm.exec) (hb : c.code = cc) {H : Heap} {locs : List Loc} {cells slots pc tgt : Nat} {ls : Array Slot} {rest : List Value} {x : Int32} {off : Int} (op : es_Op) (hd : decode cc pc = .ok (.ifCond op off, 3)) (ht : (pc : Int) + off = (tgt : Int))
    (kt : es_cmp op (es_zb x) (es_zb 0) = true → W p l e R s m args below meth c H locs cells slots Q (F0 m tgt ls rest)) (kf : es_cmp (es_ng op) (es_zb x) (es_zb 0) = true → W p l e R s m args below meth c H locs cells slots Q (F0 m (pc + 3) ls rest)) : W p l e R s m args below meth c H locs cells slots Q (F0 m pc ls (.int x :: rest)) := by
  have hn : ∀ P : Prop, (es_cmp op (es_zb x) (es_zb 0) = true ↔ P) → ¬ P → es_cmp (es_ng op) (es_zb x) (es_zb 0) = true := fun P h1 h2 => by
    rw [es_cmp_ng]
    cases hc : es_cmp op (es_zb x) (es_zb 0)
    · rfl
    · exact absurd (h1.mp hc) h2
  have hc := es_cmp_eq op x 0
  cases op
  · exact lv_if_eq hx hb hd ht (fun h => kt (hc.mpr h)) (fun h => kf (hn _ hc h))
  · exact lv_if_ne hx hb hd ht (fun h => kt (hc.mpr h)) (fun h => kf (hn _ hc (fun h9 => h9 h)))
  · exact lv_if_lt hx hb hd ht (fun h => kt (hc.mpr h)) (fun h => kf (hn _ hc h))
  · exact lv_if_ge hx hb hd ht (fun h => kt (hc.mpr h)) (fun h => kf (hn _ hc h))
  · exact lv_if_gt hx hb hd ht (fun h => kt (hc.mpr h)) (fun h => kf (hn _ hc h))
  · exact lv_if_le hx hb hd ht (fun h => kt (hc.mpr h)) (fun h => kf (hn _ hc h))
theorem es_icm {cc : ByteArray} (hx : p.tables.exec = Jvm.exec) (hb : c.code = cc) {H : Heap} {locs : List Loc} {cells slots pc tgt : Nat} {ls : Array Slot} {rest : List Value} {x y : Int32} {off : Int} (op : es_Op) (hd : decode cc pc = .ok (.if_icmp op off, 3)) (ht : (pc : Int) + off = (tgt : Int))
    (kt : es_cmp op (es_zb x) (es_zb y) = true → W p l e R s m args below meth c H locs cells slots Q (F0 m tgt ls rest)) (kf : es_cmp (es_ng op) (es_zb x) (es_zb y) = true → W p l e R s m args below meth c H locs cells slots Q (F0 m (pc + 3) ls rest)) : W p l e R s m args below meth c H locs cells slots Q (F0 m pc ls (.int y :: .int x :: rest)) := by
  have hn : ∀ P : Prop, (es_cmp op (es_zb x) (es_zb y) = true ↔ P) → ¬ P → es_cmp (es_ng op) (es_zb x) (es_zb y) = true := fun P h1 h2 => by
    rw [es_cmp_ng]
    cases hc : es_cmp op (es_zb x) (es_zb y)
    · rfl
    · exact absurd (h1.mp hc) h2
  have hc := es_cmp_eq op x y
  cases op
  · exact lv_icmp_eq hx hb hd ht (fun h => kt (hc.mpr h)) (fun h => kf (hn _ hc h))
  · exact lv_icmp_ne hx hb hd ht (fun h => kt (hc.mpr h)) (fun h => kf (hn _ hc (fun h9 => h9 h)))
  · exact lv_icmp_lt hx hb hd ht (fun h => kt (hc.mpr h)) (fun h => kf (hn _ hc h))
  · exact lv_icmp_ge hx hb hd ht (fun h => kt (hc.mpr h)) (fun h => kf (hn _ hc h))
  · exact lv_icmp_gt hx hb hd ht (fun h => kt (hc.mpr h)) (fun h => kf (hn _ hc h))
  · exact lv_icmp_le hx hb hd ht (fun h => kt (hc.mpr h)) (fun h => kf (hn _ hc h))
theorem es_rows (G : es_GH strs wx WS ME) {M pc : Nat} {ent : es_I} (hat : es_at (es_tab (ME M)) pc = some ent) (hne : ∀ d1 d2 d3 d4, ent.2.1 ≠ .tableswitch d1 d2 d3 d4) : decode (es_code (ME M)) pc = .ok (ent.2.1, es_len ent.2.1) := by
  obtain ⟨e1, qq, hq1, hq2⟩ := es_at_ok hat
  obtain ⟨hdk, -⟩ := (G.2.2.2.1 M).2.2 qq hq1 ent hq2
  unfold es_dok at hdk
  rw [Bool.and_eq_true] at hdk
  have hd := of_decide_eq_true hdk.1
  rw [e1] at hd
  have h2 := hdk.2
  split at h2
  · rename_i hts2; exact absurd hts2 (hne _ _ _ _)
  · rw [hd, es_beq.mp h2]
end Snd

end
section
section Snd
variable {l : Launch} {strs : List (String × Nat × String)} {wx : List Cond} {WS : List Cond} {SL : Nat} {D : va_G} {cI cJ cZ cC cM : ClassId} {n0 : Nat} {b : Nat → Nat} {ρ : Nat → Int32} {ME : Nat → es_M}
variable {p : Program} {e : Env} {R : Room} {s : State} {m : MethodId} {args : Array Value} {below : List Frame} {meth : Method} {c : Code} {Q : State → Prop}
theorem es_take {S : List es_V} {n : Nat} {st : List Value} (hs : es_sr n0 b ρ S st) : ∃ xs ys, st = xs ++ ys ∧ es_sr n0 b ρ (S.take n) xs ∧ es_sr n0 b ρ (S.drop n) ys := by
  rw [← List.take_append_drop n S] at hs
  exact es_sr_app _ _ _ hs
/-- a call's contract -/
theorem es_inv1_ok (G : es_GH strs wx WS ME) {ih : Nat → es_K → Option (List es_E)} (hih : ∀ (M : Nat) (K : es_K) (ends : List es_E), ih M K = some ends → es_RS l strs wx WS SL D cI cJ cZ cC cM n0 b ρ (ME M) K ends) {M M' : Nat} {vs rest : List es_V} {AH : List es_O} {F : es_F} {cs ss : Nat} {lfs : List es_Lf} {w : Nat} (h : es_inv1 ME w ih M M' vs rest AH F cs ss = some lfs) {xs : List Value} (hvs : es_sr n0 b ρ vs xs) (hF : es_fr ρ F) (hR : es_mc (ME M) ≤ R.cells ∧ es_ms (ME M) ≤ R.slots ∧ es_rf (ME M) ≤ R.frames ∧ es_lo (ME M) ≤ R.locals) :
    vx_Met l (es_y (ME M')) (es_cw (ME M') :: WS) (es_room (ME M')) (es_Pc l strs wx SL D cI cJ cZ cC cM n0 b ρ xs AH) (es_Qc D (es_TY cI cJ cZ cC cM) n0 b ρ lfs) (es_XC D (es_TY cI cJ cZ cC cM) n0 b ρ lfs) (es_mc (ME M')) (es_ms (ME M')) (es_A n0) ∧ es_cts rest ≤ w ∧ ((es_room (ME M')).frames + 1 ≤ R.frames ∧ 8 + (es_mL (ME M') + 11) + (es_room (ME M')).locals ≤ R.locals) ∧ (cs + es_mc (ME M') ≤ R.cells ∧ ss + es_ms (ME M') ≤ R.slots) ∧ es_cw (ME M') ∈ WS ∧ 16 + (es_mL (ME M') + 11) + (es_room (ME M')).locals ≤ R.locals := by
  unfold es_inv1 at h
  cases hc : ((Nat.ble (es_cts vs) (es_mL (ME M')) && (Nat.ble (es_cts rest) w && es_cx M')) && ((Nat.blt (es_rf (ME M')) (es_rf (ME M)) && Nat.ble (27 + es_mL (ME M') + es_lo (ME M')) (es_lo (ME M))) && (Nat.ble (cs + es_mc (ME M')) (es_mc (ME M)) && Nat.ble (ss + es_ms (ME M')) (es_ms (ME M)))))
  · rw [hc] at h; cases h
  · rw [hc] at h
    try dsimp only [cond_true] at h
    simp only [Bool.and_eq_true, es_blt, Nat.ble_eq] at hc
    obtain ⟨⟨c1, c2, ccx⟩, ⟨c3, c4⟩, c5, c6⟩ := hc
    split at h
    · rename_i ends hrun
      split at h
      rotate_left
      · cases h
      rename_i lfs0 hcat
      cases h
      refine ⟨es_met G.1 (G.2.2.2.1 M') (hih M' _ _ hrun) hcat hvs c1 hF, c2, ⟨?_, ?_⟩, ⟨by omega, by omega⟩, G.2.2.2.2.1 M' ccx, by show 16 + (es_mL (ME M') + 11) + es_lo (ME M') ≤ _; omega⟩
      · show es_rf (ME M') + 1 ≤ _; omega
      · show 8 + (es_mL (ME M') + 11) + es_lo (ME M') ≤ _; omega
    · cases h
theorem es_cpy_ad (t : Nat) (cs cd : List (Nat × es_V)) (sp dp k : Nat) : ∀ n, es_ad t (es_copy t cs cd sp dp n) k = if dp ≤ k ∧ k < dp + n then es_ad t cs (sp + (k - dp)) else es_ad t cd k
  | 0 => by
    rw [if_neg (by omega)]
    rfl
  | n + 1 => by
    show es_ad t (es_aset t (es_copy t cs cd sp dp n) (dp + n) (es_ad t cs (sp + n))) k = _
    rw [es_ad_set, es_cpy_ad t cs cd sp dp k n]
    by_cases h : k = dp + n
    · subst h
      rw [if_pos rfl, if_pos (by omega)]
      congr 1
      omega
    · rw [if_neg h]
      by_cases h2 : dp ≤ k ∧ k < dp + n
      · rw [if_pos h2, if_pos (by omega)]
      · rw [if_neg h2, if_neg (by omega)]
theorem es_ad_ti {c : List (Nat × es_V)} (h : c.all (fun x => es_ti x.2) = true) (j : Nat) : es_ti (es_ad 0 c j) = true := by
  induction c with
  | nil => rfl
  | cons q t ih =>
    rw [List.all_cons, Bool.and_eq_true] at h
    unfold es_ad es_get
    cases hb : Nat.beq q.1 j
    · exact ih h.2
    · exact h.1
theorem es_acp {cc : ByteArray} (hexec : p.tables.exec = Jvm.exec) (hb : c.code = cc) {ls : Array Slot} (hml : c.maxLocals = ls.size) {own : String} {index : Nat} (hown : s.vm.findClass own = some m.cls) (hlink : (Cond.methodLink own index arraycopyName).before args s = true) (hnat : (Cond.native arraycopyName).before args s = true) (hstat : (Cond.static arraycopyName).before args s = true) (hini : (Cond.initialized "java/lang/System").before args s = true)
    (hK : va_K D vwCl (es_TY cI cJ cZ cC cM) s) {H : Heap} {locs : List Loc} {cells slots pc : Nat} {rest : List Value} {a0 a : Nat} {N0 N1 : Nat} {V0 V1 : Nat → Value} (hc0 : H[a0]? = some (arrV cI N0 V0)) (hc1 : H[a]? = some (arrV cI N1 V1)) {sp dp n : Nat} (hN0 : N0 < 2147483648) (hN1 : N1 < 2147483648) (h4 : sp + n ≤ N0) (h5 : dp + n ≤ N1) (hi : ∀ j, ∃ z, j < N0 → V0 j = .int z)
    (hframes : 1 ≤ R.frames) (hlocals : (rest.map fun v => v.category).sum + (nativeFrameWords "java/lang/System" "arraycopy" 5 + 11) ≤ R.locals) (hdg : decode cc pc = .ok (.invokestatic index, 3))
    (kk : ∀ (H1 : Heap) (L : List Loc), H1[a]? = some (arrV cI N1 (va_cpy V0 V1 sp dp n)) → H1.size = H.size → (∀ q : Nat, q ≠ a → H1[q]? = H[q]?) → (∀ z ∈ L, z.base = a) → W p l e R s m args below meth c H1 (locs ++ L) cells slots Q (F0 m (pc + 3) ls rest)) : W p l e R s m args below meth c H locs cells slots Q (F0 m pc ls (.int (nI n) :: .int (nI dp) :: .ref a :: .int (nI sp) :: .ref a0 :: rest)) := by
  have nn : ∀ z : Nat, z < 2147483648 → (nI z).toInt = (z : Int) := fun z hz => by
    rw [es_nIt]
    simp only [Int.bmod]
    split <;> omega
  have ng : ∀ z : Nat, z < 2147483648 → ¬ nI z < 0 := fun z hz h => by
    have h2 := Int32.lt_iff_toInt_lt.mp h
    rw [nn z hz] at h2
    have h3 : (z : Int) < 0 := h2
    omega
  intro T hT X
  obtain ⟨-, k0, hk0, cm0, hkk0⟩ := (hK.2 0 _ rfl).1 N0 V0
  obtain ⟨-, k1, hk1, cm1, hkk1⟩ := (hK.2 0 _ rfl).1 N1 V1
  obtain ⟨vm', X', step⟩ := X.arraycopy hexec hown hlink hnat hstat hini (src := a0) (dst := a) (cs := arrV cI N0 V0) (cd := arrV cI N1 V1) (srcPos := nI sp) (destPos := nI dp) (n := nI n) (by rw [hT]; exact hc0) (by rw [hT]; exact hc1)
    (fun _ h => by cases h) (fun _ h => by cases h) (fun h => by cases h) (fun h => by cases h) hk0 hk1 hkk0 hkk1 (by simp [refKind]) (ng _ (by omega)) (ng _ (by omega)) (ng _ (by omega))
    (by rw [nn sp (by omega), nn n (by omega)]; show ¬ _ > ((arrV cI N0 V0).slots.size : Int); rw [arrV_size]; omega)
    (by rw [nn dp (by omega), nn n (by omega)]; show ¬ _ > ((arrV cI N1 V1).slots.size : Int); rw [arrV_size]; omega)
    (fun vm₁ _ i hi2 => by
      rw [nI_clamp (by omega)] at hi2
      rw [nI_clamp (by omega)]
      have e : (arrV cI N0 V0).slots.getD (sp + i) .null = V0 (sp + i) := by
        rw [Array.getD_eq_getD_getElem?, arrV_read _ _ (by omega)]
        rfl
      obtain ⟨z, hz⟩ := hi (sp + i)
      rw [e, hz (by omega)]
      exact ⟨rfl, trivial⟩)
    (g := F0 m pc ls (.int (nI n) :: .int (nI dp) :: .ref a :: .int (nI sp) :: .ref a0 :: rest)) rfl (by rw [hml]) (rest := rest) rfl (by rw [hb]; exact hdg) hframes (by show 2 * 0 + _ + _ ≤ _; omega)
  have e1 : copied (arrV cI N0 V0) (arrV cI N1 V1) (nI sp) (nI dp) (nI n) = arrV cI N1 (va_cpy V0 V1 sp dp n) := by
    unfold copied
    rw [nI_clamp (by omega), nI_clamp (by omega), nI_clamp (by omega)]
    exact va_copied (fun z => z) cI cI V0 V1 h4
  rw [e1] at X' step
  have hl : a < H.size := (Array.getElem?_eq_some_iff.mp hc1).1
  have hheap : ((T.setVm vm').setCell a (arrV cI N1 (va_cpy V0 V1 sp dp n))).heap = H.setIfInBounds a (arrV cI N1 (va_cpy V0 V1 sp dp n)) := by rw [← hT]; rfl
  obtain ⟨t, a1, b1⟩ := kk _ _ (show (H.setIfInBounds a (arrV cI N1 (va_cpy V0 V1 sp dp n)))[a]? = some _ by simp [Array.getElem?_setIfInBounds, hl]) (by simp) (fun q hq => by simp [Array.getElem?_setIfInBounds, Ne.symm hq]) (fun z hz => by
    obtain ⟨y, -, hy⟩ := List.mem_map.mp hz
    rw [← hy]) _ hheap X'
  exact ⟨t, step t a1, b1⟩
theorem es_str_ok (G : es_GH strs wx WS ME) {M : Nat} (fc : es_FC WS SL D cI cJ cZ cC cM n0 b ρ p R s m args meth c (ME M)) (hev : es_ev l strs wx SL D cI cJ cZ cC cM n0 b ρ s) {ent : es_I} (hsok : es_sok strs WS (ME M) ent = true) {f a : Nat} {tl : List Nat} (haux : ent.2.2.2 = 60 :: f :: a :: tl) {K K' : es_K} (hlen : (∀ d1 d2 d3 d4, ent.2.1 ≠ .tableswitch d1 d2 d3 d4) → decode (es_code (ME M)) K.1 = .ok (ent.2.1, es_len ent.2.1)) (h : es_str strs f a (es_len ent.2.1) K = some K')
    (k : es_G p l e R s m args below meth c Q D (es_TY cI cJ cZ cC cM) n0 b ρ (es_mL (ME M)) K') : es_G p l e R s m args below meth c Q D (es_TY cI cJ cZ cC cM) n0 b ρ (es_mL (ME M)) K := by
  intro H ls locs st hinv
  obtain ⟨pc, L, S, AH, F, cs, ss⟩ := K
  obtain ⟨hl, hs, hH, hF, hS⟩ := hinv
  obtain ⟨hx, hb, hml, hown, hts, hK, hR, hin, hscr, hao, -⟩ := id fc
  obtain ⟨-, -, -, -, -, -, hst, -, -, hZ, hZ2⟩ := hev
  obtain ⟨epc, ins, len, aux⟩ := ent
  dsimp only at hl hs hH hF haux hlen ⊢
  subst haux
  unfold es_sok at hsok
  unfold es_str at h
  dsimp only at h hsok
  split at hsok
  rotate_left
  · rename_i hne
    exact absurd rfl (hne _ _ _)
  rename_i f' a' tl' heq
  cases heq
  split at hsok
  -- ldc
  · rename_i idx
    replace h : some (pc + es_len (Instr.ldc idx), L, (8, a) :: S, AH, F, cs, ss) = some K' := h
    cases h
    have hd := hlen (fun _ _ _ _ h9 => by cases h9)
    cases hq : strs[a]? with
    | none => rw [hq] at hsok; cases hsok
    | some q =>
      rw [hq] at hsok
      dsimp only at hsok
      rw [Bool.and_eq_true] at hsok
      have g1 := of_decide_eq_true hsok.1
      have g2 := of_decide_eq_true hsok.2
      have hz := (hst a q hq).1
      rw [g1, g2] at hz
      exact va_ldcS hx hb hown hz hd (k H ls locs _ ⟨hl, ⟨_, _, rfl, rfl, hs⟩, hH, hF, hS⟩)
  -- value
  · rename_i idx
    replace h : es_q1 strs pc L S AH F cs ss = some K' := h
    unfold es_q1 at h
    split at hsok
    · rename_i j
      have hd := hlen (fun _ _ _ _ h9 => by cases h9)
      split at h
      · rename_i v S'
        cases ho : (Nat.beq v.1 8 && Nat.blt v.2 strs.length)
        · rw [ho] at h; cases h
        · rw [ho] at h
          cases h
          rw [Bool.and_eq_true, es_blt] at ho
          obtain ⟨x, st', rfl, hv, hs'⟩ := hs
          obtain ⟨t9, si⟩ := v
          have e9 := es_beq.mp ho.1
          dsimp only at e9
          subst e9
          have e2 : x = .ref (b (2 * si + 1)) := hv
          subst e2
          exact vk_getf hx hb (hst si _ (List.getElem?_eq_getElem ho.2)).2.2.2.1 hS hown (hts _ (es_wj_in hsok)) (fun x h => h) hd (k H ls locs _ ⟨hl, ⟨_, _, rfl, rfl, hs'⟩, hH, hF, hS⟩)
      · cases h
    · cases hsok
  -- coder
  · rename_i idx
    replace h : es_q2 strs pc L S AH F cs ss = some K' := h
    unfold es_q2 at h
    split at hsok
    · rename_i j
      have hd := hlen (fun _ _ _ _ h9 => by cases h9)
      split at h
      · rename_i v S'
        cases ho : (Nat.beq v.1 8 && Nat.blt v.2 strs.length)
        · rw [ho] at h; cases h
        · rw [ho] at h
          cases h
          rw [Bool.and_eq_true, es_blt] at ho
          obtain ⟨x, st', rfl, hv, hs'⟩ := hs
          obtain ⟨t9, si⟩ := v
          have e9 := es_beq.mp ho.1
          dsimp only at e9
          subst e9
          have e2 : x = .ref (b (2 * si + 1)) := hv
          subst e2
          exact vk_getf hx hb (hst si _ (List.getElem?_eq_getElem ho.2)).2.2.1 hS hown (hts _ (es_wj_in hsok)) (fun x h => h) hd (k H ls locs _ ⟨hl, ⟨_, _, rfl, by show Value.int 0 = Value.int (nI 0); rw [nI_0], hs'⟩, hH, hF, hS⟩)
      · cases h
    · cases hsok
  -- length
  · replace h : es_q3 strs pc L S AH F cs ss = some K' := h
    unfold es_q3 at h
    have hd := hlen (fun _ _ _ _ h9 => by cases h9)
    split at h
    · rename_i v S'
      split at h
      · rename_i q hq
        cases ho : Nat.beq v.1 9
        · rw [ho] at h; cases h
        · rw [ho] at h
          cases h
          obtain ⟨x, st', rfl, hv, hs'⟩ := hs
          obtain ⟨t9, si⟩ := v
          have e9 := es_beq.mp ho
          dsimp only at e9 hq
          subst e9
          have e2 : x = .ref (b (2 * si + 2)) := hv
          subst e2
          exact va_tlen hx hb (hst si q hq).2.2.2.2.1 hS rfl hd (k H ls locs _ ⟨hl, ⟨_, _, rfl, rfl, hs'⟩, hH, hF, hS⟩)
      · cases h
    · cases h
  -- byte
  · replace h : es_q4 strs pc L S AH F cs ss = some K' := h
    unfold es_q4 at h
    have hd := hlen (fun _ _ _ _ h9 => by cases h9)
    split at h
    · rename_i j v S'
      split at h
      · rename_i q jn hq hj
        cases ho : (Nat.beq v.1 9 && Nat.blt jn (es_bs q.2.2).length)
        · rw [ho] at h; cases h
        · rw [ho] at h
          cases h
          rw [Bool.and_eq_true, es_blt] at ho
          obtain ⟨xj, st1, rfl, hvj, x, st', rfl, hv, hs'⟩ := hs
          obtain ⟨t9, si⟩ := v
          have e9 := es_beq.mp ho.1
          dsimp only at e9 hq
          subst e9
          have e2 : x = .ref (b (2 * si + 2)) := hv
          subst e2
          have e3 := es_kn_ok hF hvj hj
          subst e3
          have hT := (hst si q hq).2.2.2.2
          refine va_tb hx hb hT.1 hS (vp_in_nI ho.2 hT.2) rfl hd (k H ls locs _ ⟨hl, ⟨_, _, rfl, ?_, hs'⟩, hH, hF, hS⟩)
          show Value.int _ = Value.int _
          rw [nI_clamp (by have := hT.2; omega)]
      · cases h
    · cases h
  -- static
  · rename_i idx
    replace h : some (pc + 3, L, (0, 1) :: S, AH, F, cs, ss) = some K' := h
    split at hsok
    · rename_i j
      cases h
      have hd := hlen (fun _ _ _ _ h9 => by cases h9)
      exact va_gets hx hb hZ hS hown (hts _ (es_wj_in hsok)) (fun x h => h) hd (k H ls locs _ ⟨hl, ⟨_, _, rfl, rfl, hs⟩, hH, hF, hS⟩)
    · cases hsok
  -- static reference
  · rename_i idx
    replace h : some (pc + 3, L, (10, 0) :: S, AH, F, cs, ss) = some K' := h
    split at hsok
    · rename_i j
      cases h
      have hd := hlen (fun _ _ _ _ h9 => by cases h9)
      rcases hZ2 with hZ3 | ⟨t9, hZ3⟩
      · exact va_gets hx hb hZ3 hS hown (hts _ (es_wj_in hsok)) (fun x h => h) hd (k H ls locs _ ⟨hl, ⟨_, _, rfl, Or.inl rfl, hs⟩, hH, hF, hS⟩)
      · exact va_gets hx hb hZ3 hS hown (hts _ (es_wj_in hsok)) (fun x h => h) hd (k H ls locs _ ⟨hl, ⟨_, _, rfl, Or.inr ⟨_, rfl⟩, hs⟩, hH, hF, hS⟩)
    · cases hsok
  · cases hsok
theorem es_emp {hh : List (Nat × Nat × Nat × Nat)} (h : hh.isEmpty = true) : hh = [] := by cases hh <;> simp_all
set_option maxHeartbeats 8000000 in
theorem es_step_ok (G : es_GH strs wx WS ME) {ih : Nat → es_K → Option (List es_E)} (hihA : ∀ (ρ : Nat → Int32) (M : Nat) (K : es_K) (ends : List es_E), ih M K = some ends → es_RS l strs wx WS SL D cI cJ cZ cC cM n0 b ρ (ME M) K ends) (M : Nat) (K : es_K) (ends : List es_E) (h : es_step ME strs SL ih M K = some ends) : es_RS l strs wx WS SL D cI cJ cZ cC cM n0 b ρ (ME M) K ends := by
  have hih := hihA ρ
  intro p e R s m args below meth c Q fc hev htab hends
  have hK0 : ∀ E : es_E, E = (0, K) → E ∈ ends → es_G p l e R s m args below meth c Q D (es_TY cI cJ cZ cC cM) n0 b ρ (es_mL (ME M)) K := fun E h1 h2 => by
    have h3 := hends E h2
    rw [h1] at h3
    exact h3
  have hgo : ∀ (K' : es_K) (ends' : List es_E), ih M K' = some ends' → (∀ E ∈ ends', E ∈ ends) → es_G p l e R s m args below meth c Q D (es_TY cI cJ cZ cC cM) n0 b ρ (es_mL (ME M)) K' := fun K' ends' h1 h2 => hih M K' ends' h1 p e R s m args below meth c Q fc hev htab (fun E hE => hends E (h2 E hE))
  obtain ⟨pc, L, S, AH, F, cs, ss⟩ := K
  obtain ⟨hx, hb, hml, hown, hts, hK, hR, hinit, hscr, hao, hlocks, hr⟩ := id fc
  unfold es_step at h
  try dsimp only at h
  split at h
  · cases h
  · rename_i ent hat
    obtain ⟨e1, qq, hq1, hq2⟩ := es_at_ok hat
    obtain ⟨hdk, htok⟩ := (G.2.2.2.1 M).2.2 qq hq1 ent hq2
    obtain ⟨⟨hhok, hcok⟩, hsok⟩ := G.2.2.2.2.2.1 M qq hq1 ent hq2
    unfold es_dok at hdk
    rw [Bool.and_eq_true] at hdk
    have hd := of_decide_eq_true hdk.1
    rw [e1] at hd
    have hlen : (∀ d1 d2 d3 d4, ent.2.1 ≠ .tableswitch d1 d2 d3 d4) → decode (es_code (ME M)) pc = .ok (ent.2.1, es_len ent.2.1) := fun hne => by
      have h2 := hdk.2
      split at h2
      · rename_i hts2; exact absurd hts2 (hne _ _ _ _)
      · rw [hd, es_beq.mp h2]
    split at h
    · cases h; exact hK0 _ rfl (List.mem_singleton.mpr rfl)
    · cases h; exact hK0 _ rfl (List.mem_singleton.mpr rfl)
    · rename_i f a tl haux
      split at h
      · rename_i K' hstr
        exact es_str_ok G fc hev hsok haux hlen hstr (hgo _ _ h (fun _ h => h))
      · cases h
    · rename_i hn60
      split at h
      -- without heap
      · rename_i pc' L' S' hpu
        intro H ls locs st hinv
        obtain ⟨hl, hs, hH, hF, hS⟩ := hinv
        refine es_pure_ok hx hb hF hl hs (hlen (fun d1 d2 d3 d4 h9 => by rw [h9] at hpu; cases hpu)) hpu (fun ls' st' g1 g2 => ?_)
        exact hgo _ _ h (fun _ h => h) H ls' locs st' ⟨g1, g2, hH, hF, hS⟩
      · split at h
        -- with heap
        · rename_i K' hhs
          have hhok' : es_hok WS (ME M) ent = true := by
            rw [Bool.or_eq_true] at hhok
            refine hhok.resolve_left (fun h9 => ?_)
            unfold es_k60 at h9
            split at h9
            · rename_i h8; exact hn60 _ _ _ h8
            · cases h9
          refine es_hs_ok G.2.1 fc (hlen (fun d1 d2 d3 d4 h9 => ?_)) hhok' hhs (hgo _ _ h (fun _ h => h))
          unfold es_hs at hhs
          dsimp only at hhs
          rw [h9] at hhs
          cases hhs
        · split at h
          · cases h; exact hK0 _ rfl (List.mem_singleton.mpr rfl)
          · cases h; exact hK0 _ rfl (List.mem_singleton.mpr rfl)
          · cases h; exact hK0 _ rfl (List.mem_singleton.mpr rfl)
          · cases h; exact hK0 _ rfl (List.mem_singleton.mpr rfl)
          -- ifCond
          · rename_i op off hins
            cases hto : es_to pc off with
            | none => rw [hto] at h; cases S <;> cases h
            | some t =>
             rw [hto] at h
             cases S with
             | nil => cases h
             | cons v S' =>
              try dsimp only at h
              cases hti : es_ti v
              · rw [hti] at h; cases h
              · rw [hti] at h
                try dsimp only [cond_true] at h
                split at h
                · rename_i x hx1
                  split at h
                  · rename_i y hy1
                    cases h
                    intro H ls locs st hinv
                    obtain ⟨hl, hs, hH, hF, hS⟩ := hinv
                    obtain ⟨xv, st', rfl, hv, hs'⟩ := hs
                    obtain ⟨z, rfl⟩ := es_ti_int hv hti
                    have h0 : es_vr n0 b ρ (0, 0) (.int 0) := by show Value.int 0 = Value.int (nI 0); rw [nI_0]
                    have hd2 := hlen (fun d1 d2 d3 d4 h9 => by rw [h9] at hins; cases hins)
                    rw [hins] at hd2
                    refine es_ifc hx hb op hd2 (es_to_ok hto) (fun hc => ?_) (fun hc => ?_)
                    · obtain ⟨f, hf1, hf2⟩ := es_br_ok hF op hv h0 hc
                      obtain ⟨w, g1, g2⟩ := es_cat_ok hx1 f hf1
                      exact hgo _ _ g1 (fun E hE => List.mem_append_left _ (g2 E hE)) H ls locs st' ⟨hl, hs', hH, hf2, hS⟩
                    · obtain ⟨f, hf1, hf2⟩ := es_br_ok hF (es_ng op) hv h0 hc
                      obtain ⟨w, g1, g2⟩ := es_cat_ok hy1 f hf1
                      exact hgo _ _ g1 (fun E hE => List.mem_append_right _ (g2 E hE)) H ls locs st' ⟨hl, hs', hH, hf2, hS⟩
                  · cases h
                · cases h
          -- if_icmp
          · rename_i op off hins
            cases hto : es_to pc off with
            | none => rw [hto] at h; rcases S with _ | ⟨w, _ | ⟨v, S'⟩⟩ <;> cases h
            | some t =>
             rw [hto] at h
             rcases S with _ | ⟨w, _ | ⟨v, S'⟩⟩
             · cases h
             · cases h
             ·
              try dsimp only at h
              cases hti : (es_ti v && es_ti w)
              · rw [hti] at h; cases h
              · rw [hti] at h
                try dsimp only [cond_true] at h
                rw [Bool.and_eq_true] at hti
                split at h
                · rename_i x hx1
                  split at h
                  · rename_i y hy1
                    cases h
                    intro H ls locs st hinv
                    obtain ⟨hl, hs, hH, hF, hS⟩ := hinv
                    obtain ⟨yv, st1, rfl, hvw, xv, st', rfl, hv, hs'⟩ := hs
                    obtain ⟨z, rfl⟩ := es_ti_int hv hti.1
                    obtain ⟨z2, rfl⟩ := es_ti_int hvw hti.2
                    have hd2 := hlen (fun d1 d2 d3 d4 h9 => by rw [h9] at hins; cases hins)
                    rw [hins] at hd2
                    refine es_icm hx hb op hd2 (es_to_ok hto) (fun hc => ?_) (fun hc => ?_)
                    · obtain ⟨f, hf1, hf2⟩ := es_br_ok hF op hv hvw hc
                      obtain ⟨w, g1, g2⟩ := es_cat_ok hx1 f hf1
                      exact hgo _ _ g1 (fun E hE => List.mem_append_left _ (g2 E hE)) H ls locs st' ⟨hl, hs', hH, hf2, hS⟩
                    · obtain ⟨f, hf1, hf2⟩ := es_br_ok hF (es_ng op) hv hvw hc
                      obtain ⟨w, g1, g2⟩ := es_cat_ok hy1 f hf1
                      exact hgo _ _ g1 (fun E hE => List.mem_append_right _ (g2 E hE)) H ls locs st' ⟨hl, hs', hH, hf2, hS⟩
                  · cases h
                · cases h
          -- tableswitch
          · rename_i dflt lo hi offs hins
            rcases S with _ | ⟨v, S'⟩
            · cases h
            · dsimp only at h
              rw [hins] at hd
              cases hk : es_kn F v with
              | some n =>
                rw [hk] at h
                try dsimp only at h
                split at h
                · rename_i t hto
                  cases hc : ((decide ((nI n).toInt < lo) || decide (hi < (nI n).toInt)) || decide (((nI n).toInt - lo).toNat < offs.size))
                  · rw [hc] at h; cases h
                  · rw [hc] at h
                    try dsimp only [cond_true] at h
                    intro H ls locs st hinv
                    obtain ⟨hl, hs, hH, hF, hS⟩ := hinv
                    obtain ⟨xv, st', rfl, hv, hs'⟩ := hs
                    have e5 := es_kn_ok hF hv hk
                    subst e5
                    by_cases hout : (nI n).toInt < lo ∨ hi < (nI n).toInt
                    · have hb1 : (decide ((nI n).toInt < lo) || decide (hi < (nI n).toInt)) = true := by
                        rw [Bool.or_eq_true, decide_eq_true_eq, decide_eq_true_eq]; exact hout
                      rw [hb1] at hto
                      exact lv_tableOut hx hb hd hout (es_to_ok hto) (hgo _ _ h (fun _ h => h) H ls locs st' ⟨hl, hs', hH, hF, hS⟩)
                    · have hb1 : (decide ((nI n).toInt < lo) || decide (hi < (nI n).toInt)) = false := by
                        rw [Bool.or_eq_false_iff, decide_eq_false_iff_not, decide_eq_false_iff_not]
                        exact ⟨fun h9 => hout (Or.inl h9), fun h9 => hout (Or.inr h9)⟩
                      rw [hb1] at hto hc
                      rw [Bool.false_or, decide_eq_true_eq] at hc
                      dsimp only [cond_false] at hto
                      rw [Array.getElem?_eq_getElem hc] at hto
                      dsimp only [Option.getD_some] at hto
                      exact lv_tableIn hx hb hd (fun h9 => hout (Or.inl h9)) (fun h9 => hout (Or.inr h9)) (Array.getElem?_eq_getElem hc) (es_to_ok hto) (hgo _ _ h (fun _ h => h) H ls locs st' ⟨hl, hs', hH, hF, hS⟩)
                · cases h
              | none =>
                rw [hk] at h
                try dsimp only at h
                obtain ⟨vt, vp⟩ := v
                try dsimp only at h
                by_cases hv1 : vt = 1
                · subst hv1
                  cases hq : F[vp]? with
                  | none => rw [hq] at h; cases h
                  | some q =>
                    rw [hq] at h
                    replace h : es_tn ih M pc L S' AH F cs ss dflt lo hi q = some ends := h
                    unfold es_tn at h
                    split at h
                    · rename_i t hto
                      cases hc : (decide ((q.2 : Int) - 2147483648 < lo) || decide (hi < (q.1 : Int) - 2147483648))
                      · rw [hc] at h; cases h
                      · rw [hc] at h
                        try dsimp only [cond_true] at h
                        rw [Bool.or_eq_true, decide_eq_true_eq, decide_eq_true_eq] at hc
                        intro H ls locs st hinv
                        obtain ⟨hl, hs, hH, hF, hS⟩ := hinv
                        obtain ⟨xv, st', rfl, hv, hs'⟩ := hs
                        have e5 : xv = .int (ρ vp) := hv
                        subst e5
                        have hqq := hF vp q hq
                        have hrg := es_rng (ρ vp)
                        unfold es_zb at hqq
                        have hout : (ρ vp).toInt < lo ∨ hi < (ρ vp).toInt := by
                          rcases hc with h9 | h9
                          · left; omega
                          · right; omega
                        exact lv_tableOut hx hb hd hout (es_to_ok hto) (hgo _ _ h (fun _ h => h) H ls locs st' ⟨hl, hs', hH, hF, hS⟩)
                    · cases h
                · split at h
                  · exact absurd rfl hv1
                  · cases h
          -- invokevirtual
          · rename_i idx hins
            have hd2 := hlen (fun d1 d2 d3 d4 h9 => by rw [h9] at hins; cases hins)
            rw [hins] at hd2
            unfold es_cok at hcok
            rw [hins] at hcok
            dsimp only at hcok
            split at hcok
            · rename_i M' n ci j1 j2 j3 j4 haux
              rw [haux] at h
              replace h : es_sv ME ih M (es_cal M M') n ci pc L S AH F cs ss = some ends := h
              generalize es_cal M M' = M' at h hcok
              unfold es_sv at h
              cases hdr : S.drop n with
              | nil => rw [hdr] at h; cases h
              | cons o S' =>
                rw [hdr] at h
                try dsimp only at h
                cases ho : es_obj AH ci o with
                | none => rw [ho] at h; cases h
                | some co =>
                  rw [ho] at h
                  try dsimp only at h
                  cases hi1 : es_inv1 ME 8 ih M M' (o :: (S.take n).reverse) S' AH F cs ss with
                  | none => rw [hi1] at h; cases h
                  | some lfs =>
                    rw [hi1] at h
                    try dsimp only at h
                    intro H ls locs st hinv
                    obtain ⟨hl, hs, hH, hF, hS⟩ := hinv
                    dsimp only at hl hs hH hF ⊢
                    obtain ⟨xs, ys, rfl, hxs, hys⟩ := es_take (n := n) hs
                    rw [hdr] at hys
                    obtain ⟨ro, rest, rfl, hvo, hs'⟩ := hys
                    obtain ⟨rfl, hA⟩ := es_obj_ok ho hvo
                    have hn : xs.length = n := by
                      rw [es_sr_len _ _ hxs, List.length_take]
                      have h7 : (S.drop n).length = S.length - n := List.length_drop
                      rw [hdr, List.length_cons] at h7
                      omega
                    obtain ⟨hmet, h8, hRR, hcap, hcwm, hR16⟩ := es_inv1_ok (R := R) G hih hi1 (xs := .ref (n0 + o.2) :: xs.reverse) ⟨_, _, rfl, hvo, es_sr_rev _ _ hxs⟩ hF hR
                    split at hcok
                    · rename_i r hr0
                      simp only [Bool.and_eq_true] at hcok
                      obtain ⟨k1, ⟨k2, k3⟩, ⟨k4, k5⟩, k6, k7⟩ := hcok
                      have k1 := of_decide_eq_true k1
                      have k7 := es_emp k7
                      have hcw : es_cw (ME M') = .code (es_y (ME M')) (es_code (ME M')) (es_mL (ME M')) (es_rt (ME M')) := by unfold es_cw; rw [k7]
                      obtain ⟨r', V', q1, ⟨cellV, g1, g2, g3, -⟩, -⟩ := hH.2 _ _ hA
                      dsimp only at q1 g2
                      rw [hr0] at q1
                      cases q1
                      have hfc := (hK.1 ci r hr0).2.1
                      rw [k1] at hfc
                      refine es_aft_ok G hih fc hev htab hends h hl hs' hS ?_
                      exact vx_runV (As := xs.reverse) (C := (es_y (ME M')).cls) ⟨hx, hb, hml, hown, hts⟩ hmet ⟨callB_of n hts (es_good G hcwm) (by rw [hcw]) rfl rfl (hts _ (es_wj_in k5)) (hts _ (es_wj_in k2)) (es_ymok_ok k6) hRR, hts _ (es_wj_in k3), hts _ (es_wj_in k4)⟩ ⟨es_blind G.2.2.1, ⟨cellV, g1, by rw [g3]; rfl, by rw [g2]; exact hfc⟩, es_pcU G.2.2.1 hev hS hH⟩ rfl (by rw [List.length_reverse]; exact hn) hl.1 (by rw [List.reverse_reverse]) (lv_room (by rw [(es_cts_ok _ _ hs').2]; exact h8)) hd2 hcap
                    · simp only [Bool.false_and] at hcok; cases hcok
            · rename_i M' n j1 j2 j3 j4 haux
              rw [haux] at h
              replace h : es_sq ME strs ih M (es_cal M M') n pc L S AH F cs ss = some ends := h
              generalize es_cal M M' = M' at h hcok
              unfold es_sq at h
              cases hdr : S.drop n with
              | nil => rw [hdr] at h; cases h
              | cons o S' =>
                rw [hdr] at h
                try dsimp only at h
                cases ho : (Nat.beq o.1 8 && Nat.blt o.2 strs.length)
                · rw [ho] at h; cases h
                · rw [ho] at h
                  try dsimp only [cond_true] at h
                  rw [Bool.and_eq_true, es_blt] at ho
                  cases hi1 : es_inv1 ME 8 ih M M' (o :: (S.take n).reverse) S' AH F cs ss with
                  | none => rw [hi1] at h; cases h
                  | some lfs =>
                    rw [hi1] at h
                    try dsimp only at h
                    intro H ls locs st hinv
                    obtain ⟨hl, hs, hH, hF, hS⟩ := hinv
                    dsimp only at hl hs hH hF ⊢
                    obtain ⟨xs, ys, rfl, hxs, hys⟩ := es_take (n := n) hs
                    rw [hdr] at hys
                    obtain ⟨ro, rest, rfl, hvo, hs'⟩ := hys
                    have hro : ro = .ref (b (2 * o.2 + 1)) := by
                      obtain ⟨t9, n9⟩ := o
                      have e9 := es_beq.mp ho.1
                      dsimp only at e9
                      subst e9
                      exact hvo
                    subst hro
                    have hn : xs.length = n := by
                      rw [es_sr_len _ _ hxs, List.length_take]
                      have h7 : (S.drop n).length = S.length - n := List.length_drop
                      rw [hdr, List.length_cons] at h7
                      omega
                    obtain ⟨hmet, h8, hRR, hcap, hcwm, hR16⟩ := es_inv1_ok (R := R) G hih hi1 (xs := .ref (b (2 * o.2 + 1)) :: xs.reverse) ⟨_, _, rfl, hvo, es_sr_rev _ _ hxs⟩ hF hR
                    simp only [Bool.and_eq_true] at hcok
                    obtain ⟨k1, ⟨k2, k3⟩, ⟨k4, k5⟩, k6, k7⟩ := hcok
                    have k1 := of_decide_eq_true k1
                    have k7 := es_emp k7
                    have hcw : es_cw (ME M') = .code (es_y (ME M')) (es_code (ME M')) (es_mL (ME M')) (es_rt (ME M')) := by unfold es_cw; rw [k7]
                    obtain ⟨cellV, g1, g3, g2, -⟩ := (hev.2.2.2.2.2.2.1 o.2 _ (List.getElem?_eq_getElem ho.2)).2.1.kept hS.2.1
                    refine es_aft_ok G hih fc hev htab hends h hl hs' hS ?_
                    exact vx_runV (As := xs.reverse) (C := (es_y (ME M')).cls) ⟨hx, hb, hml, hown, hts⟩ hmet ⟨callB_of n hts (es_good G hcwm) (by rw [hcw]) rfl rfl (hts _ (es_wj_in k5)) (hts _ (es_wj_in k2)) (es_ymok_ok k6) hRR, hts _ (es_wj_in k3), hts _ (es_wj_in k4)⟩ ⟨es_blind G.2.2.1, ⟨cellV, g1, g3, by rw [k1]; exact g2⟩, es_pcU G.2.2.1 hev hS hH⟩ rfl (by rw [List.length_reverse]; exact hn) hl.1 (by rw [List.reverse_reverse]) (lv_room (by rw [(es_cts_ok _ _ hs').2]; exact h8)) hd2 hcap
            · cases hcok
          -- invokestatic
          · rename_i idx hins
            have hd2 := hlen (fun d1 d2 d3 d4 h9 => by rw [h9] at hins; cases hins)
            rw [hins] at hd2
            unfold es_cok at hcok
            rw [hins] at hcok
            dsimp only at hcok
            split at hcok
            · rename_i M' n j1 j2 j3 haux
              rw [haux] at h
              replace h : es_ss ME ih M (es_cal M M') n pc L S AH F cs ss = some ends := h
              generalize es_cal M M' = M' at h hcok
              unfold es_ss at h
              cases hnl : Nat.ble n S.length
              · rw [hnl] at h; cases h
              · rw [hnl] at h
                try dsimp only [cond_true] at h
                cases hi1 : es_inv1 ME (bif (es_hh (ME M')).isEmpty then 16 else 8) ih M M' (S.take n).reverse (S.drop n) AH F cs ss with
                | none => rw [hi1] at h; cases h
                | some lfs =>
                  rw [hi1] at h
                  try dsimp only at h
                  intro H ls locs st hinv
                  obtain ⟨hl, hs, hH, hF, hS⟩ := hinv
                  dsimp only at hl hs hH hF ⊢
                  obtain ⟨xs, rest, rfl, hxs, hs'⟩ := es_take (n := n) hs
                  have hn : xs.length = n := by
                    rw [es_sr_len _ _ hxs, List.length_take]
                    have := Nat.ble_eq.mp hnl
                    omega
                  obtain ⟨hmet, h8, hRR, hcap, hcwm, hR16⟩ := es_inv1_ok (R := R) G hih hi1 (xs := xs.reverse) (es_sr_rev _ _ hxs) hF hR
                  simp only [Bool.and_eq_true] at hcok
                  obtain ⟨⟨k2, k3⟩, k5, k6⟩ := hcok
                  refine es_aft_ok G hih fc hev htab hends h hl hs' hS ?_
                  cases hh : es_hh (ME M') with
                  | nil =>
                    have hcw : es_cw (ME M') = .code (es_y (ME M')) (es_code (ME M')) (es_mL (ME M')) (es_rt (ME M')) := by unfold es_cw; rw [hh]
                    rw [hh] at h8
                    exact vx_runS16 (As := xs.reverse) ⟨hx, hb, hml, hown, hts⟩ hmet hR16 ⟨callB_of n hts (es_good G hcwm) (by rw [hcw]) rfl rfl (hts _ (es_wj_in k5)) (hts _ (es_wj_in k2)) (es_ymok_ok k6) hRR, hts _ (es_wj_in k3)⟩ ⟨es_blind G.2.2.1, es_pcU G.2.2.1 hev hS hH⟩ rfl (by rw [List.length_reverse]; exact hn) hl.1 (by rw [List.reverse_reverse]) (es_room16 (by rw [(es_cts_ok _ _ hs').2]; exact h8)) hd2 hcap
                  | cons hq0 ht0 =>
                    have hcw : es_cw (ME M') = .codeWith (es_y (ME M')) (es_code (ME M')) (es_mL (ME M')) (es_rt (ME M')) (es_hh (ME M')) := by unfold es_cw; rw [hh]
                    have hgd : GoodIn WS (va_wsS (es_own (ME M)) idx (es_y (ME M')) (es_cw (ME M') :: WS)) := fun w hw => by
                      unfold va_wsS at hw
                      rcases List.mem_append.mp hw with h9 | h9
                      · simp only [List.mem_cons, List.not_mem_nil, or_false] at h9
                        rcases h9 with rfl | rfl | rfl
                        · exact ⟨es_wj_in k2, good_of_word (G.1 _ (es_wj_in k2))⟩
                        · exact ⟨es_wj_in k3, good_of_word (G.1 _ (es_wj_in k3))⟩
                        · exact ⟨es_wj_in k5, good_of_word (G.1 _ (es_wj_in k5))⟩
                      · exact es_good G hcwm w h9
                    rw [hh] at h8
                    exact vx_runSX (As := xs.reverse) (hh := es_hh (ME M')) ⟨hx, hb, hml, hown, hts⟩ hmet (vx_cwSW n hts hgd (by rw [hcw]) rfl rfl (es_ymok_ok k6) hRR) ⟨es_blind G.2.2.1, es_pcU G.2.2.1 hev hS hH⟩ rfl (by rw [List.length_reverse]; exact hn) hl.1 (by rw [List.reverse_reverse]) (lv_room (by rw [(es_cts_ok _ _ hs').2]; exact h8)) hd2 hcap
            -- arraycopy
            · rename_i j1 j2 j3 j4 haux
              rw [haux] at h
              replace h : es_sc ME ih M pc L S AH F cs ss = some ends := h
              unfold es_sc at h
              rcases S with _ | ⟨vn, _ | ⟨vd, _ | ⟨d, _ | ⟨vs, _ | ⟨s0, S'⟩⟩⟩⟩⟩
              · cases h
              · cases h
              · cases h
              · cases h
              · cases h
              · dsimp only at h
                split at h
                · rename_i ts ns c1 td nd c2 ha0 ha1
                  split at h
                  · rename_i sp dp n hk0 hk1 hk2
                    cases hc : (((Nat.beq ts 0 && Nat.beq td 0) && ((Nat.ble (sp + n) ns && Nat.ble (dp + n) nd) && (Nat.blt 0 (es_rf (ME M)) && Nat.ble 200 (es_lo (ME M))))) && (c1.all (fun x => es_ti x.2) && Nat.ble (es_cts S') 8))
                    · rw [hc] at h; cases h
                    · rw [hc] at h
                      try dsimp only [cond_true] at h
                      simp only [Bool.and_eq_true, es_blt, Nat.ble_eq, es_beq] at hc hcok
                      obtain ⟨⟨⟨rfl, rfl⟩, ⟨c3, c4⟩, c5, c6⟩, c8, c9⟩ := hc
                      intro H ls locs st hinv
                      obtain ⟨hl, hs, hH, hF, hS⟩ := hinv
                      dsimp only at hl hs hH hF ⊢
                      obtain ⟨xn, st1, rfl, hvn, xd, st2, rfl, hvd, xa, st3, rfl, hva, xs, st4, rfl, hvs, x0, st', rfl, hv0, hs'⟩ := hs
                      have e1 := es_kn_ok hF hvn hk2
                      have e2 := es_kn_ok hF hvd hk1
                      have e3 := es_kn_ok hF hvs hk0
                      subst e1 e2 e3
                      obtain ⟨rfl, hA0, hn0⟩ := es_ary_ok ha0 hv0
                      obtain ⟨rfl, hA1, hn1⟩ := es_ary_ok ha1 hva
                      obtain ⟨q0, V0, t1, t2, t3⟩ := hH.2 _ _ hA0
                      obtain ⟨q1, V1, u1, u2, u3⟩ := hH.2 _ _ hA1
                      cases t1
                      cases u1
                      dsimp only at t2 u2 t3 u3
                      have hsum := (es_cts_ok _ _ hs').2
                      have e9 : nativeFrameWords "java/lang/System" "arraycopy" 5 ≤ 100 := by decide +kernel
                      refine es_acp hx hb (by rw [hl.1, hml]) hown (hts _ (es_wj_in hcok.1.1)) (hts _ (es_wj_in hcok.1.2)) (hts _ (es_wj_in hcok.2.1)) (hts _ (es_wj_in hcok.2.2)) hK t2 u2 hn0 hn1 c3 c4 (fun j => ?_) (by omega) (by omega) hd2 (fun H1 L1 g1 g2 g3 g4 => ?_)
                      · by_cases hj : j < ns
                        · obtain ⟨z, hz⟩ := es_ti_int (t3 j hj) (es_ad_ti c8 j)
                          exact ⟨z, fun _ => hz⟩
                        · exact ⟨0, fun h9 => absurd h9 hj⟩
                      · refine hgo _ _ h (fun _ h => h) H1 ls _ st' ⟨hl, hs', es_hr_set hH g2 g3 ⟨_, _, rfl, g1, fun j hj => ?_⟩, hF, ?_⟩
                        · rw [es_cpy_ad]
                          unfold va_cpy
                          by_cases h9 : dp ≤ j ∧ j < dp + n
                          · rw [if_pos h9, if_pos h9]
                            exact t3 _ (by omega)
                          · rw [if_neg h9, if_neg h9]
                            exact u3 j hj
                        · refine ⟨by rw [g2]; exact hS.1, fun q k1 k2 => (g3 q (fun e9 => k2 (by rw [e9]; exact Nat.le_add_right _ _))).trans (hS.2.1 q k1 k2), fun z hz => ?_⟩
                          rcases List.mem_append.mp hz with h9 | h9
                          · exact hS.2.2 z h9
                          · rw [g4 z h9]; exact Nat.le_add_right _ _
                  · cases h
                · cases h
            -- min
            · rename_i j1 j2 j3 j4 haux
              rw [haux] at h
              replace h : es_smm ME (fun x y => if y < x then y else x) ih M pc L S AH F cs ss = some ends := h
              unfold es_smm at h
              rcases S with _ | ⟨w, _ | ⟨v, S'⟩⟩
              · cases h
              · cases h
              · dsimp only at h
                cases hc : ((es_ti v && es_ti w) && (((Nat.blt 0 (es_rf (ME M)) && Nat.ble 200 (es_lo (ME M))) && Nat.ble (es_cts S') 8) && (Nat.ble cs (es_mc (ME M)) && Nat.ble ss (es_ms (ME M)))))
                · rw [hc] at h; cases h
                · rw [hc] at h
                  try dsimp only [cond_true] at h
                  simp only [Bool.and_eq_true, es_blt, Nat.ble_eq] at hc hcok
                  obtain ⟨⟨t1, t2⟩, ⟨⟨c1, c2⟩, c3⟩, c4, c5⟩ := hc
                  intro H ls locs st hinv
                  obtain ⟨hl, hs, hH, hF, hS⟩ := hinv
                  obtain ⟨yv, st1, rfl, hvw, xv, st', rfl, hv, hs'⟩ := hs
                  obtain ⟨z, rfl⟩ := es_ti_int hv t1
                  obtain ⟨z2, rfl⟩ := es_ti_int hvw t2
                  have hsum := (es_cts_ok _ _ hs').2
                  exact va_mmin hx hb (by rw [hl.1, hml]) hown (hts _ (es_wj_in hcok.1.1)) (hts _ (es_wj_in hcok.1.2)) (hts _ (es_wj_in hcok.2.1)) (hts _ (es_wj_in hcok.2.2)) (by omega) (by omega) (by dsimp only; omega) (by dsimp only; omega) hd2 (hgo _ _ h (fun _ h => h) H ls locs _ ⟨hl, ⟨_, _, rfl, es_bin_ok hF _ hv hvw, hs'⟩, hH, hF, hS⟩)
            -- max
            · rename_i j1 j2 j3 j4 haux
              rw [haux] at h
              replace h : es_smm ME (fun x y => if x < y then y else x) ih M pc L S AH F cs ss = some ends := h
              unfold es_smm at h
              rcases S with _ | ⟨w, _ | ⟨v, S'⟩⟩
              · cases h
              · cases h
              · dsimp only at h
                cases hc : ((es_ti v && es_ti w) && (((Nat.blt 0 (es_rf (ME M)) && Nat.ble 200 (es_lo (ME M))) && Nat.ble (es_cts S') 8) && (Nat.ble cs (es_mc (ME M)) && Nat.ble ss (es_ms (ME M)))))
                · rw [hc] at h; cases h
                · rw [hc] at h
                  try dsimp only [cond_true] at h
                  simp only [Bool.and_eq_true, es_blt, Nat.ble_eq] at hc hcok
                  obtain ⟨⟨t1, t2⟩, ⟨⟨c1, c2⟩, c3⟩, c4, c5⟩ := hc
                  intro H ls locs st hinv
                  obtain ⟨hl, hs, hH, hF, hS⟩ := hinv
                  obtain ⟨yv, st1, rfl, hvw, xv, st', rfl, hv, hs'⟩ := hs
                  obtain ⟨z, rfl⟩ := es_ti_int hv t1
                  obtain ⟨z2, rfl⟩ := es_ti_int hvw t2
                  have hsum := (es_cts_ok _ _ hs').2
                  exact va_mmax hx hb (by rw [hl.1, hml]) hown (hts _ (es_wj_in hcok.1.1)) (hts _ (es_wj_in hcok.1.2)) (hts _ (es_wj_in hcok.2.1)) (hts _ (es_wj_in hcok.2.2)) (by omega) (by omega) (by dsimp only; omega) (by dsimp only; omega) hd2 (hgo _ _ h (fun _ h => h) H ls locs _ ⟨hl, ⟨_, _, rfl, es_bin_ok hF _ hv hvw, hs'⟩, hH, hF, hS⟩)
            · cases hcok
          -- invokespecial
          · rename_i idx hins
            have hd2 := hlen (fun d1 d2 d3 d4 h9 => by rw [h9] at hins; cases hins)
            rw [hins] at hd2
            unfold es_cok at hcok
            rw [hins] at hcok
            dsimp only at hcok
            split at hcok
            · rename_i M' n nest j1 j2 j3 haux
              rw [haux] at h
              replace h : es_si ME ih M (es_cal M M') n pc L S AH F cs ss = some ends := h
              generalize es_cal M M' = M' at h hcok
              unfold es_si at h
              cases hdr : S.drop n with
              | nil => rw [hdr] at h; cases h
              | cons o S' =>
                rw [hdr] at h
                try dsimp only at h
                cases ho3 : Nat.beq o.1 3
                · rw [ho3] at h; cases h
                · rw [ho3] at h
                  try dsimp only [cond_true] at h
                  cases hi1 : es_inv1 ME 8 ih M M' (o :: (S.take n).reverse) S' AH F cs ss with
                  | none => rw [hi1] at h; cases h
                  | some lfs =>
                    rw [hi1] at h
                    try dsimp only at h
                    cases hnt : es_nothr lfs
                    · rw [hnt] at h; cases h
                    · rw [hnt] at h
                      try dsimp only [cond_true] at h
                      intro H ls locs st hinv
                      obtain ⟨hl, hs, hH, hF, hS⟩ := hinv
                      dsimp only at hl hs hH hF ⊢
                      obtain ⟨xs, ys, rfl, hxs, hys⟩ := es_take (n := n) hs
                      rw [hdr] at hys
                      obtain ⟨ro, rest, rfl, hvo, hs'⟩ := hys
                      have e6 := es_t3_ref hvo ho3
                      subst e6
                      have hn : xs.length = n := by
                        rw [es_sr_len _ _ hxs, List.length_take]
                        have h7 : (S.drop n).length = S.length - n := List.length_drop
                        rw [hdr, List.length_cons] at h7
                        omega
                      obtain ⟨hmet, h8, hRR, hcap, hcwm, hR16⟩ := es_inv1_ok (R := R) G hih hi1 (xs := .ref (n0 + o.2) :: xs.reverse) ⟨_, _, rfl, hvo, es_sr_rev _ _ hxs⟩ hF hR
                      have hmet0 := es_met0 hmet hnt
                      simp only [Bool.and_eq_true] at hcok
                      obtain ⟨k1, ⟨k2, k3⟩, ⟨k4, k5⟩, k6, k7⟩ := hcok
                      have k5 := es_emp k5
                      have k6 := of_decide_eq_true k6
                      have k7 := of_decide_eq_true k7
                      have hcw : es_cw (ME M') = .code (es_y (ME M')) (es_code (ME M')) (es_mL (ME M')) none := by unfold es_cw; rw [k5, k7]
                      refine es_aft_ok G hih fc hev htab hends h hl hs' hS ?_
                      cases hns : Nat.beq nest 0
                      · rw [hns] at k1
                        exact fun T hT X => Or.inl (va_runIN (As := xs.reverse) ⟨hx, hb, hml, hown, hts⟩ hmet0 ⟨va_cnB n hts (es_good G hcwm) (by rw [hcw]) rfl rfl (hev.2.2.2.2.2.2.2.1 _ (es_wj_in k1)) (hts _ (es_wj_in k3)) (es_ymok_ok k4) hRR, k6, hts _ (es_wj_in k2)⟩ ⟨es_blind G.2.2.1, es_pcU G.2.2.1 hev hS hH⟩ rfl (by rw [List.length_reverse]; exact hn) hl.1 (by rw [List.reverse_reverse]) (lv_room (by rw [(es_cts_ok _ _ hs').2]; exact h8)) hd2 hcap T hT X)
                      · rw [hns] at k1
                        exact fun T hT X => Or.inl (va_runI (As := xs.reverse) ⟨hx, hb, hml, hown, hts⟩ hmet0 ⟨callB_of n hts (es_good G hcwm) (by rw [hcw]) rfl rfl (hts _ (es_wj_in k3)) (hts _ (es_wj_in k1)) (es_ymok_ok k4) hRR, k6, hts _ (es_wj_in k2)⟩ ⟨es_blind G.2.2.1, es_pcU G.2.2.1 hev hS hH⟩ rfl (by rw [List.length_reverse]; exact hn) hl.1 (by rw [List.reverse_reverse]) (lv_room (by rw [(es_cts_ok _ _ hs').2]; exact h8)) hd2 hcap T hT X)
            -- Object.<init>
            · rename_i j1 j2 j3 haux
              rw [haux] at h
              replace h : es_so ME ih M pc L S AH F cs ss = some ends := h
              unfold es_so at h
              rcases S with _ | ⟨o, S'⟩
              · cases h
              · dsimp only at h
                cases hc : (Nat.beq o.1 3 && (Nat.blt 0 (es_rf (ME M)) && Nat.ble (es_cts S' + 12) (es_lo (ME M))))
                · rw [hc] at h; cases h
                · rw [hc] at h
                  try dsimp only [cond_true] at h
                  simp only [Bool.and_eq_true, es_blt, Nat.ble_eq] at hc hcok
                  obtain ⟨c1, c2, c3⟩ := hc
                  intro H ls locs st hinv
                  obtain ⟨hl, hs, hH, hF, hS⟩ := hinv
                  obtain ⟨yv, st', rfl, hv, hs'⟩ := hs
                  have e6 := es_t3_ref hv c1
                  subst e6
                  have hsum := (es_cts_ok _ _ hs').2
                  refine W.objInit hx hb hown (hts _ (es_wj_in hcok.1)) (hts _ (es_wj_in hcok.2.1)) (hts _ (es_wj_in hcok.2.2)) rfl (by rw [hml]; exact hl.1) rfl hd2 (by omega) (by show 2 * 0 + _ + 12 ≤ _; omega) ?_
                  exact hgo _ _ h (fun _ h => h) H ls locs _ ⟨hl, hs', hH, hF, hS⟩
            · cases hcok
          · cases h
end Snd
section Snd2
variable {l : Launch} {strs : List (String × Nat × String)} {wx : List Cond} {WS : List Cond} {SL : Nat} {D : va_G} {cI cJ cZ cC cM : ClassId} {n0 : Nat} {b : Nat → Nat} {ρ : Nat → Int32} {ME : Nat → es_M}
end Snd2

end
section
section Fast
variable {ME : Nat → es_M} {strs : List (String × Nat × String)} {SL : Nat}
end Fast
section Run3
variable {ME : Nat → es_M} {strs : List (String × Nat × String)} {CT : Nat → List (Nat × List (Nat × es_C))} {SL : Nat}
variable {l : Launch} {strs : List (String × Nat × String)} {wx : List Cond} {WS : List Cond} {D : va_G} {cI cJ cZ cC cM : ClassId} {n0 : Nat} {b : Nat → Nat}
end Run3

end
