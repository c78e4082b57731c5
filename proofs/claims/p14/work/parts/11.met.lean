/-- a constant text, its parts at their places -/
def es_SS (b : Nat → Nat) (n0 si : Nat) (tx : String) (U : State) (H : Heap) : Prop :=
  va_O "java/lang/String" (b (2 * si + 1)) (es_A n0) U H ∧ va_OF "java/lang/String" "coder" "B" (.int 0) (b (2 * si + 1)) (es_A n0) U H ∧ va_OF "java/lang/String" "value" "[B" (.ref (b (2 * si + 2))) (b (2 * si + 1)) (es_A n0) U H ∧ va_T .byte (b (2 * si + 2)) (es_bs tx).length (fun j => .int (nI ((es_bs tx).getD j 0))) (es_A n0) U H ∧ (es_bs tx).length < 2147483648
theorem es_SS.move {b : Nat → Nat} {n0 si : Nat} {tx : String} {u U : State} {H H1 : Heap} (hvm : u.vm.Alike U.vm) (h : es_SS b n0 si tx u H) (hq : ∀ a : Nat, a < H.size → ¬ es_A n0 a → H1[a]? = H[a]?) : es_SS b n0 si tx U H1 :=
  ⟨va_O.moved hvm (h.1.kept hq), va_OF.moved hvm (h.2.1.kept hq), va_OF.moved hvm (h.2.2.1.kept hq), va_T.moved hvm (h.2.2.2.1.kept hq), h.2.2.2.2⟩
def es_ex (l : Launch) (strs : List (String × Nat × String)) (wx : List Cond) (n0 : Nat) (b : Nat → Nat) (U : State) : Prop :=
  l.stackTraces = false ∧ vx_Zq Bundle.tN "UNASSIGNED_STACK" Bundle.steD (es_A n0) U U.heap ∧ vx_Zq Bundle.tN "SUPPRESSED_SENTINEL" Bundle.listD (es_A n0) U U.heap ∧ (∀ (si : Nat) (q : String × Nat × String), strs[si]? = some q → vk_R q.1 q.2.1 q.2.2 (b (2 * si + 1)) U ∧ es_SS b n0 si q.2.2 U U.heap) ∧ (∀ w ∈ wx, va_Nw w U) ∧ (∀ x y : Nat, x < 5 → y < 5 → x ≠ y → va_Nc (es_exc x) (es_exc y) U) ∧ va_Z "java/lang/String" "COMPACT_STRINGS" "Z" (.int 1) (es_A n0) U U.heap ∧ va_Zq "jdk/internal/util/Preconditions" "SIOOBE_FORMATTER" "Ljava/util/function/BiFunction;" (es_A n0) U U.heap
def es_ev (l : Launch) (strs : List (String × Nat × String)) (wx : List Cond) (SL : Nat) (D : va_G) (cI cJ cZ cC cM : ClassId) (n0 : Nat) (b : Nat → Nat) (ρ : Nat → Int32) (U : State) : Prop :=
  va_K D vwCl (es_TY cI cJ cZ cC cM) U ∧ (b 0 < n0 ∧ n0 ≤ U.heap.size ∧ va_X (b 0) SL ρ U U.heap) ∧ (va_AO RX2 U ∧ va_AO RX7 U) ∧ es_ex l strs wx n0 b U
def es_room (M : es_M) : Room := { frames := es_rf M, cells := es_mc M, slots := es_ms M, locals := es_lo M }
def es_cw (M : es_M) : Cond := match es_hh M with
  | [] => .code (es_y M) (es_code M) (es_mL M) (es_rt M)
  | hh => .codeWith (es_y M) (es_code M) (es_mL M) (es_rt M) hh
section Met
variable {l : Launch} {strs : List (String × Nat × String)} {wx : List Cond} {WS : List Cond} {SL : Nat} {D : va_G} {cI cJ cZ cC cM : ClassId} {n0 : Nat} {b : Nat → Nat} {ρ : Nat → Int32}
/-- words that go along with the tables' warming -/
def es_wxok (wx : List Cond) : Prop := ∀ w ∈ wx, ∀ s U : State, s.WarmedH U.vm → va_Nw w s → va_Nw w U
theorem es_ev_move (hwx : es_wxok wx) {s U : State} (h : es_ev l strs wx SL D cI cJ cZ cC cM n0 b ρ s) (hW : s.WarmedH U.vm) (h1 : s.heap.size ≤ U.heap.size) (h2 : ∀ q : Nat, q < s.heap.size → ¬ es_A n0 q → U.heap[q]? = s.heap[q]?) : es_ev l strs wx SL D cI cJ cZ cC cM n0 b ρ U := by
  obtain ⟨hK, ⟨hb0, hn0, hX⟩, hao, hl, hU, hN, hst, hw, hnc, hZ, hZ2⟩ := h
  exact ⟨va_K.moved hW.alike hK, ⟨hb0, Nat.le_trans hn0 h1, va_X.moved hW.alike (hX.kept (h2 (b 0) (Nat.lt_of_lt_of_le hb0 hn0) (Nat.not_le.mpr hb0)))⟩, ⟨va_AO.moved hW.alike hao.1, va_AO.moved hW.alike hao.2⟩, hl, vx_Zq.moved hW.alike (hU.kept h2), vx_Zq.moved hW.alike (hN.kept h2),
    fun si q hq => ⟨vk_R.warm hW (hst si q hq).1, (hst si q hq).2.move hW.alike h2⟩, fun w hw' => hwx w hw' s U hW (hw w hw'), fun x y h3 h4 h5 => va_Nc.moved hW.alike (hnc x y h3 h4 h5), va_Z.moved hW.alike (hZ.kept h2), va_Zq.moved hW.alike (hZ2.kept h2)⟩
def es_Qc (D : va_G) (tys : List (ClassId × FieldType)) (n0 : Nat) (b : Nat → Nat) (ρ : Nat → Int32) (lfs : List es_Lf) : Array Value → State → Outcome → State → Prop := fun _ st o t =>
  ∃ lf ∈ lfs, es_fr ρ lf.2.2.2 ∧ es_hr D tys n0 b ρ lf.2.2.1 t.heap ∧ va_F (es_A n0) st t ∧ ((lf.1 = 0 ∧ o = .returned none) ∨ (lf.1 = 1 ∧ ∃ x, o = .returned (some x) ∧ es_vr n0 b ρ lf.2.1 x))
def es_XC (D : va_G) (tys : List (ClassId × FieldType)) (n0 : Nat) (b : Nat → Nat) (ρ : Nat → Int32) (lfs : List es_Lf) : String → State → State → Prop := fun E st t =>
  ∃ lf ∈ lfs, ∃ n, lf.1 = n + 2 ∧ es_exc n = E ∧ es_fr ρ lf.2.2.2 ∧ es_hr D tys n0 b ρ lf.2.2.1 t.heap ∧ va_F (es_A n0) st t
/-- an end of a walk, as its method owes it -/
def es_EG (p : Program) (l : Launch) (e : Env) (R : Room) (s : State) (m : MethodId) (args : Array Value) (below : List Frame) (meth : Method) (c : Code) (Q : State → Prop) (D : va_G) (tys : List (ClassId × FieldType)) (n0 : Nat) (b : Nat → Nat) (ρ : Nat → Int32) (nL : Nat) (E : es_E) : Prop := match E.1 with
  | 0 => es_G p l e R s m args below meth c Q D tys n0 b ρ nL E.2
  | n + 1 => ∀ (H : Heap) (ls : Array Slot) (locs : List Loc) (st : List Value) (q : Addr) (ce : Cell), es_inv D tys n0 b ρ nL s E.2 H ls locs st → H[q]? = some ce → ce.vm = .none → s.vm.findClass (es_exc n) = some ce.cls → vx_W p l e R s m args below meth c H locs E.2.2.2.2.2.2.1 E.2.2.2.2.2.2.2 Q (F0 m E.2.1 ls st) q
variable {p : Program} {e : Env} {R : Room} {s : State} {m : MethodId} {args : Array Value} {below : List Frame} {meth : Method} {c : Code} {M : es_M}
theorem es_nar128 : ∀ n, n < 128 → narrow .char (.int (nI n)) = .int (nI n) ∧ narrow .byte (.int (nI n)) = .int (nI n) := by decide +kernel
theorem es_nar_ok {F : es_F} {v : es_V} {x : Value} (hF : es_fr ρ F) (hv : es_vr n0 b ρ v x) (h : es_nar F v = true) : ∃ n, x = .int (nI n) ∧ n < 128 := by
  unfold es_nar at h
  cases hk : es_kn F v with
  | none => rw [hk] at h; cases h
  | some n =>
    rw [hk] at h
    exact ⟨n, es_kn_ok hF hv hk, es_blt.mp h⟩
theorem es_rtv_ok {ret : Option FieldType} {ins : Instr} {S : List es_V} {F : es_F} {q : Nat × es_V} (h : es_rtv ret ins S F = some q) (hF : es_fr ρ F) {st : List Value} (hs : es_sr n0 b ρ S st) {pc : Nat} {cc : ByteArray} (hd : decode cc pc = .ok (ins, es_len ins)) {H : Heap} {ls : Array Slot} {locs : List Loc} {cells slots : Nat} {Qc : Array Value → State → Outcome → State → Prop} {free : Addr → Prop}
    (hx : p.tables.exec = Jvm.exec) (hb : c.code = cc) (hr : meth.sig.returnType = ret) (hlocks : meth.locks = false) (hf : ∀ z ∈ locs, free z.base)
    (hq0 : q.1 = 0 → ∀ t : State, t.heap = H → s.WarmedH t.vm → Qc args s (.returned none) t) (hq1 : q.1 = 1 → ∀ x, es_vr n0 b ρ q.2 x → ∀ t : State, t.heap = H → s.WarmedH t.vm → Qc args s (.returned (some x)) t) :
    W p l e R s m args below meth c H locs cells slots (MQ below Qc args s cells slots free) (F0 m pc ls st) := by
  unfold es_rtv at h
  split at h
  · split at h
    · cases h
      have e1 : st = [] := hs
      subst e1
      exact W.vret hx hb hr (hq0 rfl) hf hd
    · cases h
  · split at h
    · rename_i v
      cases hv : es_ti v
      · rw [hv] at h; cases h
      · rw [hv] at h
        cases h
        obtain ⟨x, st', rfl, hvr, e1⟩ := hs
        have e2 : st' = [] := e1
        subst e2
        obtain ⟨z, rfl⟩ := es_ti_int hvr hv
        exact W.iret hx hb hr (hq1 rfl _ hvr) hf hd
    · rename_i v
      cases hv : es_fitv .boolean F v
      · rw [hv] at h; cases h
      · rw [hv] at h
        cases h
        obtain ⟨x, st', rfl, hvr, e1⟩ := hs
        have e2 : st' = [] := e1
        subst e2
        have e3 := es_fitv_ok hF hvr hv
        have hti : es_ti v = true := by
          have h9 : (match es_kn F v with | some n => Nat.beq n 0 || Nat.beq n 1 | none => false) = true := hv
          cases hk : es_kn F v with
          | none => rw [hk] at h9; cases h9
          | some n => exact es_kn_ti hk
        obtain ⟨z, rfl⟩ := es_ti_int hvr hti
        exact W.zret hx hb hr e3.1 (hq1 rfl _ hvr) hf hd
    · rename_i v
      cases hv : es_nar F v
      · rw [hv] at h; cases h
      · rw [hv] at h
        cases h
        obtain ⟨x, st', rfl, hvr, e1⟩ := hs
        have e2 : st' = [] := e1
        subst e2
        obtain ⟨n, e4, e5⟩ := es_nar_ok hF hvr hv
        subst e4
        exact W.zret hx hb hr (es_nar128 n e5).1 (hq1 rfl _ hvr) hf hd
    · rename_i v
      cases hv : es_nar F v
      · rw [hv] at h; cases h
      · rw [hv] at h
        cases h
        obtain ⟨x, st', rfl, hvr, e1⟩ := hs
        have e2 : st' = [] := e1
        subst e2
        obtain ⟨n, e4, e5⟩ := es_nar_ok hF hvr hv
        subst e4
        exact W.zret hx hb hr (es_nar128 n e5).2 (hq1 rfl _ hvr) hf hd
    · cases h
  · split at h
    · rename_i v
      cases hv : Nat.beq v.1 2
      · rw [hv] at h; cases h
      · rw [hv] at h
        cases h
        obtain ⟨x, st', rfl, hvr, e1⟩ := hs
        have e2 : st' = [] := e1
        subst e2
        have e3 := es_t2_long hvr hv
        subst e3
        exact W.lret hx hb hr (hq1 rfl _ hvr) hf hd
    · cases h
  · split at h
    · rename_i v C
      cases hv : es_tr v
      · rw [hv] at h; cases h
      · rw [hv] at h
        cases h
        obtain ⟨x, st', rfl, hvr, e1⟩ := hs
        have e2 : st' = [] := e1
        subst e2
        exact W.aret hx hb hr (Or.inl ⟨_, rfl⟩) (es_tr_ref hvr hv) (hq1 rfl _ hvr) hf hd
    · rename_i v C
      cases hv : es_tr v
      · rw [hv] at h; cases h
      · rw [hv] at h
        cases h
        obtain ⟨x, st', rfl, hvr, e1⟩ := hs
        have e2 : st' = [] := e1
        subst e2
        exact W.aret hx hb hr (Or.inr ⟨_, rfl⟩) (es_tr_ref hvr hv) (hq1 rfl _ hvr) hf hd
    · cases h
  · cases h
theorem es_vxrun {H : Heap} {locs : List Loc} {cells slots mc ms pc : Nat} {ls : Array Slot} {st0 rest : List Value} {Q : State → Prop} {Qa : State → Outcome → State → Prop} {XC : String → State → State → Prop} {free : Addr → Prop} (hr : vx_Run p l e R s m args below meth c H locs cells slots mc ms (F0 m pc ls st0) rest Qa XC free)
    (kk : ∀ (v : Option Value) (st₀ t : State) (H1 : Heap) (L : List Loc), st₀.heap = H → t.heap = H1 → Qa st₀ (.returned v) t → (∀ q ∈ L, free q.base) → W p l e R s m args below meth c H1 (locs ++ L) (cells + mc) (slots + ms) Q (F0 m (pc + 3) ls (v.toList ++ rest)))
    (kx : ∀ (q : Addr) (st₀ t : State) (H1 : Heap) (L : List Loc) (E : String) (ce : Cell), st₀.heap = H → t.heap = H1 → XC E st₀ t → H1[q]? = some ce → ce.vm = .none → s.vm.findClass E = some ce.cls → (∀ z ∈ L, free z.base) → vx_W p l e R s m args below meth c H1 (locs ++ L) (cells + mc) (slots + ms) Q (F0 m pc ls rest) q) :
    W p l e R s m args below meth c H locs cells slots Q (F0 m pc ls st0) := by
  intro T hT X
  rcases hr T hT X with ⟨v, st₀, t, T', L, h0, X', hL, e1, e2, hq, st⟩ | ⟨q, st₀, t, T', L, E, ce, h0, X', hL, e1, e2, hxc, hce, hcv, hcl, st⟩
  · obtain ⟨t2, a1, b1⟩ := kk v st₀ t T'.heap L h0 e1.symm hq hL T' rfl X'
    exact ⟨t2, st t2 a1, b1⟩
  · obtain ⟨t2, a1, b1⟩ := kx q st₀ t T'.heap L E ce h0 e1.symm hxc (by rw [e1]; exact hce) hcv hcl hL T' rfl X'
    exact ⟨t2, st.trans a1, b1⟩
theorem es_varun {H : Heap} {locs : List Loc} {cells slots mc ms pc : Nat} {ls : Array Slot} {st0 rest : List Value} {Q : State → Prop} {Qa : State → Outcome → State → Prop} {free : Addr → Prop} (hr : va_Run p l e R s m args below meth c H locs cells slots mc ms (F0 m pc ls st0) rest Qa free)
    (kk : ∀ (v : Option Value) (st₀ t : State) (H1 : Heap) (L : List Loc), st₀.heap = H → t.heap = H1 → Qa st₀ (.returned v) t → (∀ q ∈ L, free q.base) → W p l e R s m args below meth c H1 (locs ++ L) (cells + mc) (slots + ms) Q (F0 m (pc + 3) ls (v.toList ++ rest))) :
    W p l e R s m args below meth c H locs cells slots Q (F0 m pc ls st0) := by
  intro T hT X
  obtain ⟨v, st₀, t, T', L, h0, X', hL, e1, e2, hq, st⟩ := hr T hT X
  obtain ⟨t2, a1, b1⟩ := kk v st₀ t T'.heap L h0 e1.symm hq hL T' rfl X'
  exact ⟨t2, st t2 a1, b1⟩
/-- the arguments in their places -/
theorem es_al_ok : ∀ (vs : List es_V) (xs : List Value) (i : Nat), es_sr n0 b ρ vs xs → ∀ j v, es_get (es_al i vs) j = some v → ∃ x, (j, x) ∈ lv_args i xs ∧ es_vr n0 b ρ v x
  | [], xs, i, h, j, v, hv => by cases hv
  | w :: vs, xs, i, h, j, v, hv => by
    obtain ⟨x, xs', rfl, hw, h'⟩ := h
    unfold es_al at hv
    unfold es_get at hv
    cases hb : Nat.beq i j
    · rw [hb] at hv
      have hv' : es_get (es_al (bif Nat.beq w.1 2 then i + 2 else i + 1) vs) j = some v := hv
      obtain ⟨y, h1, h2⟩ := es_al_ok vs xs' _ h' j v hv'
      refine ⟨y, ?_, h2⟩
      unfold lv_args
      refine List.mem_cons_of_mem _ ?_
      cases h2w : Nat.beq w.1 2
      · rw [h2w] at h1
        rw [if_neg (by rw [es_cat1 hw h2w]; decide)]
        exact h1
      · rw [h2w] at h1
        have e1 := es_t2_long hw h2w
        subst e1
        rw [if_pos (show (Value.long (lN w.2)).category = 2 from rfl)]
        exact h1
    · rw [hb] at hv
      cases hv
      have e1 := es_beq.mp hb
      subst e1
      exact ⟨x, List.mem_cons_self, hw⟩
theorem es_cts_ok : ∀ (vs : List es_V) (xs : List Value), es_sr n0 b ρ vs xs → (lg_sl xs).length = es_cts vs ∧ (xs.map fun v => v.category).sum = es_cts vs
  | [], xs, h => by have e : xs = [] := h; subst e; exact ⟨rfl, rfl⟩
  | w :: vs, xs, h => by
    obtain ⟨x, xs', rfl, hw, h'⟩ := h
    obtain ⟨h1, h2⟩ := es_cts_ok vs xs' h'
    unfold es_cts
    cases h2w : Nat.beq w.1 2
    · have hc := es_cat1 hw h2w
      refine ⟨?_, ?_⟩
      · rw [← h1]
        simp only [lg_sl, List.flatMap_cons, hc, List.length_append]
        rfl
      · simp only [List.map_cons, List.sum_cons, hc, h2, cond_false]
    · have e1 := es_t2_long hw h2w
      subst e1
      refine ⟨?_, ?_⟩
      · rw [← h1]
        simp only [lg_sl, List.flatMap_cons, List.length_append]
        rfl
      · simp only [List.map_cons, List.sum_cons, h2, cond_true]
        rfl
theorem es_sr_len : ∀ (vs : List es_V) (xs : List Value), es_sr n0 b ρ vs xs → xs.length = vs.length
  | [], xs, h => by have e : xs = [] := h; subst e; rfl
  | w :: vs, xs, h => by
    obtain ⟨x, xs', rfl, hw, h'⟩ := h
    simp [es_sr_len vs xs' h']
theorem es_sr_app : ∀ (vs ws : List es_V) (st : List Value), es_sr n0 b ρ (vs ++ ws) st → ∃ xs ys, st = xs ++ ys ∧ es_sr n0 b ρ vs xs ∧ es_sr n0 b ρ ws ys
  | [], ws, st, h => ⟨[], st, rfl, rfl, h⟩
  | v :: vs, ws, st, h => by
    obtain ⟨x, st', rfl, hv, h'⟩ := h
    obtain ⟨xs, ys, rfl, h1, h2⟩ := es_sr_app vs ws st' h'
    exact ⟨x :: xs, ys, rfl, ⟨x, xs, rfl, hv, h1⟩, h2⟩
theorem es_sr_cat : ∀ (vs ws : List es_V) (xs ys : List Value), es_sr n0 b ρ vs xs → es_sr n0 b ρ ws ys → es_sr n0 b ρ (vs ++ ws) (xs ++ ys)
  | [], ws, xs, ys, h, h' => by have e : xs = [] := h; subst e; exact h'
  | v :: vs, ws, xs, ys, h, h' => by
    obtain ⟨x, xs', rfl, hv, h1⟩ := h
    exact ⟨x, xs' ++ ys, rfl, hv, es_sr_cat vs ws xs' ys h1 h'⟩
theorem es_sr_rev : ∀ (vs : List es_V) (xs : List Value), es_sr n0 b ρ vs xs → es_sr n0 b ρ vs.reverse xs.reverse
  | [], xs, h => by have e : xs = [] := h; subst e; rfl
  | v :: vs, xs, h => by
    obtain ⟨x, xs', rfl, hv, h1⟩ := h
    rw [List.reverse_cons, List.reverse_cons]
    exact es_sr_cat _ _ _ _ (es_sr_rev vs xs' h1) ⟨x, [], rfl, hv, rfl⟩
end Met
