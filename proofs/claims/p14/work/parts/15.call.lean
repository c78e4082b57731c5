def es_ymok (y : MethodName) (n : Nat) : Bool := decide (y.cls ≠ "java/lang/invoke/MethodHandle") && (decide (y.cls ≠ "java/lang/invoke/VarHandle") && decide ((parseMethodDescriptor y.desc).map (fun d => d.parameters.length) = some n))
theorem es_ymok_ok {y : MethodName} {n : Nat} (h : es_ymok y n = true) : y.cls ≠ "java/lang/invoke/MethodHandle" ∧ y.cls ≠ "java/lang/invoke/VarHandle" ∧ (parseMethodDescriptor y.desc).map (fun d => d.parameters.length) = some n := by
  unfold es_ymok at h
  rw [Bool.and_eq_true, Bool.and_eq_true] at h
  exact ⟨of_decide_eq_true h.1, of_decide_eq_true h.2.1, of_decide_eq_true h.2.2⟩
def es_cok (ME : Nat → es_M) (WS wx : List Cond) (M : Nat) (E : es_I) : Bool := match E.2.1 with
  | .invokevirtual idx => match E.2.2.2 with
    | [1, M', n, ci, j1, j2, j3, j4] => (match vwCl[ci]? with
        | some r => decide (r.1 = (es_y (ME (es_cal M M'))).cls)
        | none => false) && ((es_wj WS j1 (.methodLink (es_own (ME M)) idx (es_y (ME (es_cal M M')))) && es_wj WS j2 (.instanceMethod (es_y (ME (es_cal M M'))))) && ((es_wj WS j3 (.selects (es_y (ME (es_cal M M'))).cls (es_y (ME (es_cal M M'))) (es_y (ME (es_cal M M')))) && es_wj WS j4 (.initialized (es_y (ME (es_cal M M'))).cls)) && (es_ymok (es_y (ME (es_cal M M'))) n && (es_hh (ME (es_cal M M'))).isEmpty)))
    | [3, M', n, j1, j2, j3, j4] => decide ((es_y (ME (es_cal M M'))).cls = "java/lang/String") && ((es_wj WS j1 (.methodLink (es_own (ME M)) idx (es_y (ME (es_cal M M')))) && es_wj WS j2 (.instanceMethod (es_y (ME (es_cal M M'))))) && ((es_wj WS j3 (.selects (es_y (ME (es_cal M M'))).cls (es_y (ME (es_cal M M'))) (es_y (ME (es_cal M M')))) && es_wj WS j4 (.initialized (es_y (ME (es_cal M M'))).cls)) && (es_ymok (es_y (ME (es_cal M M'))) n && (es_hh (ME (es_cal M M'))).isEmpty)))
    | _ => false
  | .invokestatic idx => match E.2.2.2 with
    | [2, M', n, j1, j2, j3] => (es_wj WS j1 (.methodLink (es_own (ME M)) idx (es_y (ME (es_cal M M')))) && es_wj WS j2 (.static (es_y (ME (es_cal M M'))))) && (es_wj WS j3 (.initialized (es_y (ME (es_cal M M'))).cls) && es_ymok (es_y (ME (es_cal M M'))) n)
    | [4, j1, j2, j3, j4] => (es_wj WS j1 (.methodLink (es_own (ME M)) idx arraycopyName) && es_wj WS j2 (.native arraycopyName)) && (es_wj WS j3 (.static arraycopyName) && es_wj WS j4 (.initialized "java/lang/System"))
    | [5, j1, j2, j3, j4] => (es_wj WS j1 (.methodLink (es_own (ME M)) idx Lib.Math.min.name) && es_wj WS j2 (.static Lib.Math.min.name)) && (es_wj WS j3 (.initialized "java/lang/Math") && es_wj WS j4 (.code Lib.Math.min.name Lib.Math.min.code 2 (some .int)))
    | [6, j1, j2, j3, j4] => (es_wj WS j1 (.methodLink (es_own (ME M)) idx Lib.Math.max.name) && es_wj WS j2 (.static Lib.Math.max.name)) && (es_wj WS j3 (.initialized "java/lang/Math") && es_wj WS j4 (.code Lib.Math.max.name Lib.Math.max.code 2 (some .int)))
    | _ => false
  | .invokespecial idx => match E.2.2.2 with
    | [7, M', n, nest, j1, j2, j3] => (bif Nat.beq nest 0 then es_wj WS j1 (.methodLink (es_own (ME M)) idx (es_y (ME (es_cal M M')))) else es_wj wx j1 (.methodLinkNest (es_own (ME M)) idx (es_y (ME (es_cal M M'))) RX11)) && ((es_wj WS j2 (.instanceMethod (es_y (ME (es_cal M M')))) && es_wj WS j3 (.initialized (es_y (ME (es_cal M M'))).cls)) && ((es_ymok (es_y (ME (es_cal M M'))) n && (es_hh (ME (es_cal M M'))).isEmpty) && (decide ((es_y (ME (es_cal M M'))).name = "<init>") && decide (es_rt (ME (es_cal M M')) = none))))
    | [9, j1, j2, j3] => es_wj WS j1 (.methodLink (es_own (ME M)) idx Lib.objectInit) && (es_wj WS j2 (.instanceMethod Lib.objectInit) && es_wj WS j3 (.code Lib.objectInit ⟨#[0xb1]⟩ 1 none))
    | _ => false
  | _ => true
/-- a row that speaks of a constant text -/
def es_sok (strs : List (String × Nat × String)) (WS : List Cond) (M : es_M) (E : es_I) : Bool := match E.2.2.2 with
  | 60 :: f :: a :: tl => match f, E.2.1 with
    | 0, .ldc idx => (match strs[a]? with
      | some q => decide (q.1 = es_own M) && decide (q.2.1 = idx)
      | none => false)
    | 1, .getfield idx => (match tl with
      | [j] => es_wj WS j (.fieldLink (es_own M) idx "java/lang/String" "value" "[B")
      | _ => false)
    | 2, .getfield idx => (match tl with
      | [j] => es_wj WS j (.fieldLink (es_own M) idx "java/lang/String" "coder" "B")
      | _ => false)
    | 3, .arraylength => true
    | 4, .baload => true
    | 5, .getstatic idx => (match tl with
      | [j] => es_wj WS j (.fieldLink (es_own M) idx "java/lang/String" "COMPACT_STRINGS" "Z")
      | _ => false)
    | 6, .getstatic idx => (match tl with
      | [j] => es_wj WS j (.fieldLink (es_own M) idx "jdk/internal/util/Preconditions" "SIOOBE_FORMATTER" "Ljava/util/function/BiFunction;")
      | _ => false)
    | _, _ => false
  | _ => true
/-- a row that speaks of a constant text -/
def es_k60 (E : es_I) : Bool := match E.2.2.2 with
  | 60 :: _ :: _ :: _ => true
  | _ => false
section Call
variable {l : Launch} {strs : List (String × Nat × String)} {wx : List Cond} {WS : List Cond} {SL : Nat} {D : va_G} {cI cJ cZ cC cM : ClassId} {n0 : Nat} {b : Nat → Nat} {ρ : Nat → Int32} {ME : Nat → es_M}
variable {p : Program} {e : Env} {R : Room} {s : State} {m : MethodId} {args : Array Value} {below : List Frame} {meth : Method} {c : Code} {Q : State → Prop}
/-- what holds of all rows -/
def es_GH (strs : List (String × Nat × String)) (wx WS : List Cond) (ME : Nat → es_M) : Prop :=
  (∀ w ∈ WS, goodWord w = true) ∧ (∀ (ci : Nat) (r : vw_C), vwCl[ci]? = some r → ∀ w ∈ u_ws r.1 r.2.1 r.2.2, w ∈ WS) ∧ es_wxok wx ∧ (∀ M, es_MOK strs wx WS (ME M)) ∧ (∀ M, es_cx M = true → es_cw (ME M) ∈ WS) ∧ (∀ M, ∀ q ∈ es_tab (ME M), ∀ E ∈ q.2, ((es_k60 E || es_hok WS (ME M) E) = true ∧ es_cok ME WS wx M E = true) ∧ es_sok strs WS (ME M) E = true) ∧
  (∀ M, ∀ q ∈ es_hh (ME M), q.2.2.2 ≠ 0 ∧ es_ct q.2.2.2 < 5 ∧ Cond.classLink (es_own (ME M)) q.2.2.2 (es_exc (es_ct q.2.2.2)) ∈ WS)
theorem es_good (G : es_GH strs wx WS ME) {M : Nat} (hc : es_cw (ME M) ∈ WS) : GoodIn WS (es_cw (ME M) :: WS) := fun w hw => by
  rcases List.mem_cons.mp hw with rfl | h
  · exact ⟨hc, good_of_word (G.1 _ hc)⟩
  · exact ⟨h, good_of_word (G.1 _ h)⟩
abbrev es_Pc (l : Launch) (strs : List (String × Nat × String)) (wx : List Cond) (SL : Nat) (D : va_G) (cI cJ cZ cC cM : ClassId) (n0 : Nat) (b : Nat → Nat) (ρ : Nat → Int32) (xs : List Value) (AH : List es_O) : Array Value → State → Prop := va_Pc xs (fun U => es_hr D (es_TY cI cJ cZ cC cM) n0 b ρ AH U.heap ∧ es_ev l strs wx SL D cI cJ cZ cC cM n0 b ρ U)
theorem es_blind (hwx : es_wxok wx) {xs : List Value} {AH : List es_O} : FrameBlind (es_Pc l strs wx SL D cI cJ cZ cC cM n0 b ρ xs AH) := by
  intro a U g mk h
  obtain ⟨h1, h2, h3⟩ := h
  exact ⟨h1, h2, es_ev_move hwx h3 (U := U.calling g mk a) (State.WarmedH.refl U) (Nat.le_refl _) (fun _ _ _ => rfl)⟩
theorem es_pcU (hwx : es_wxok wx) (hev : es_ev l strs wx SL D cI cJ cZ cC cM n0 b ρ s) {H : Heap} {locs : List Loc} (hS : va_S (es_A n0) s.heap H locs) {AH : List es_O} (hH : es_hr D (es_TY cI cJ cZ cC cM) n0 b ρ AH H) {xs : List Value} : ∀ U : State, U.heap = H → s.WarmedH U.vm → es_Pc l strs wx SL D cI cJ cZ cC cM n0 b ρ xs AH xs.toArray U := fun U hU hW =>
  ⟨rfl, by rw [hU]; exact hH, es_ev_move hwx hev hW (by rw [hU]; exact hS.1) (fun q h1 h2 => by rw [hU]; exact hS.2.1 q h1 h2)⟩
theorem es_va_join {H H1 : Heap} {locs L : List Loc} {st₀ t : State} (hS : va_S (es_A n0) s.heap H locs) (h0 : st₀.heap = H) (ht : t.heap = H1) (hf : va_F (es_A n0) st₀ t) (hL : ∀ q ∈ L, es_A n0 q.base) : va_S (es_A n0) s.heap H1 (locs ++ L) := by
  obtain ⟨f1, f2⟩ := hf
  rw [h0, ht] at f1
  rw [h0, ht] at f2
  refine ⟨Nat.le_trans hS.1 f1, fun q h1 h2 => (f2 q (Nat.lt_of_lt_of_le h1 hS.1) h2).trans (hS.2.1 q h1 h2), fun z hz => ?_⟩
  rcases List.mem_append.mp hz with h | h
  · exact hS.2.2 z h
  · exact hL z h
/-- what comes behind a call -/
theorem es_aft_ok (G : es_GH strs wx WS ME) {ih : Nat → es_K → Option (List es_E)} (hih : ∀ (M : Nat) (K : es_K) (ends : List es_E), ih M K = some ends → es_RS l strs wx WS SL D cI cJ cZ cC cM n0 b ρ (ME M) K ends) {M : Nat} (fc : es_FC WS SL D cI cJ cZ cC cM n0 b ρ p R s m args meth c (ME M)) (hev : es_ev l strs wx SL D cI cJ cZ cC cM n0 b ρ s) (htab : c.exceptionTable.toList = tableOf (es_hh (ME M))) {ends : List es_E} (hends : ∀ E ∈ ends, es_EG p l e R s m args below meth c Q D (es_TY cI cJ cZ cC cM) n0 b ρ (es_mL (ME M)) E)
    {pc : Nat} {L : es_L} {S' : List es_V} {cs ss mc ms : Nat} {lfs : List es_Lf} (hcat : es_cat (es_aft ME ih M pc L S' (cs + mc) (ss + ms)) lfs = some ends)
    {H : Heap} {ls : Array Slot} {locs : List Loc} {rest st0 : List Value} (hl : es_lr n0 b ρ (es_mL (ME M)) L ls) (hs' : es_sr n0 b ρ S' rest) (hS : va_S (es_A n0) s.heap H locs)
    (hr : vx_Run p l e R s m args below meth c H locs cs ss mc ms (F0 m pc ls st0) rest (es_Qc D (es_TY cI cJ cZ cC cM) n0 b ρ lfs #[]) (es_XC D (es_TY cI cJ cZ cC cM) n0 b ρ lfs) (es_A n0)) :
    W p l e R s m args below meth c H locs cs ss Q (F0 m pc ls st0) := by
  refine es_vxrun hr (fun v st₀ t H1 L1 h0 ht hq hL => ?_) (fun q st₀ t H1 L1 E ce h0 ht hxc hce hcv hcl hL => ?_)
  · obtain ⟨lf, hlf, hF', hH', hf, hcase⟩ := hq
    obtain ⟨x, h1, h2⟩ := es_cat_ok hcat lf hlf
    rw [ht] at hH'
    obtain ⟨kd, w, AH', F'⟩ := lf
    dsimp only at hF' hH' hcase
    rcases hcase with ⟨rfl, hv⟩ | ⟨rfl, y, hv, hy⟩
    · cases hv
      have h1' : ih M (pc + 3, L, S', AH', F', cs + mc, ss + ms) = some x := h1
      exact hih M _ _ h1' p e R s m args below meth c Q fc hev htab (fun E hE => hends E (h2 E hE)) H1 ls _ rest ⟨hl, hs', hH', hF', es_va_join hS h0 ht hf hL⟩
    · cases hv
      have h1' : ih M (pc + 3, L, w :: S', AH', F', cs + mc, ss + ms) = some x := h1
      exact hih M _ _ h1' p e R s m args below meth c Q fc hev htab (fun E hE => hends E (h2 E hE)) H1 ls _ (y :: rest) ⟨hl, ⟨y, rest, rfl, hy, hs'⟩, hH', hF', es_va_join hS h0 ht hf hL⟩
  · obtain ⟨lf, hlf, n, hn, rfl, hF', hH', hf⟩ := hxc
    obtain ⟨x, h1, h2⟩ := es_cat_ok hcat lf hlf
    rw [ht] at hH'
    obtain ⟨kd, w, AH', F'⟩ := lf
    dsimp only at hF' hH' hn
    subst hn
    unfold es_aft at h1
    dsimp only at h1
    split at h1
    · cases h1
      have h3 := hends _ (h2 _ (List.mem_singleton.mpr rfl))
      exact h3 H1 ls _ rest q ce ⟨hl, hs', hH', hF', es_va_join hS h0 ht hf hL⟩ hce hcv hcl
    · split at h1
      · rename_i hd2 hdl
        cases hx5 : Nat.blt n 5
        · rw [hx5] at h1; cases h1
        · rw [hx5] at h1
          have h1' : ih M (hd2, L, [(7, 0)], AH', F', cs + mc, ss + ms) = some x := h1
          refine es_catch fc.2.2.2.1 htab (es_blt.mp hx5) hev.2.2.2.2.2.2.2.2.1 (fun z hz => ?_) hdl hce hcv hcl ?_
          · obtain ⟨g1, g2, g3⟩ := G.2.2.2.2.2.2 M z hz
            exact ⟨g1, g2, fc.2.2.2.2.1 _ g3⟩
          · exact hih M _ _ h1' p e R s m args below meth c Q fc hev htab (fun E hE => hends E (h2 E hE)) H1 ls _ [.ref q] ⟨hl, ⟨_, _, rfl, ⟨q, rfl⟩, rfl⟩, hH', hF', es_va_join hS h0 ht hf hL⟩
      · cases h1
end Call
