section Con
variable {l : Launch} {strs : List (String × Nat × String)} {wx : List Cond} {WS : List Cond} {SL : Nat} {D : va_G} {cI cJ cZ cC cM : ClassId} {n0 : Nat} {b : Nat → Nat} {ρ : Nat → Int32} {M : es_M}
/-- what a run of a method's body gives, in every frame of it -/
def es_RS (l : Launch) (strs : List (String × Nat × String)) (wx : List Cond) (WS : List Cond) (SL : Nat) (D : va_G) (cI cJ cZ cC cM : ClassId) (n0 : Nat) (b : Nat → Nat) (ρ : Nat → Int32) (M : es_M) (K : es_K) (ends : List es_E) : Prop :=
  ∀ (p : Program) (e : Env) (R : Room) (s : State) (m : MethodId) (args : Array Value) (below : List Frame) (meth : Method) (c : Code) (Q : State → Prop), es_FC WS SL D cI cJ cZ cC cM n0 b ρ p R s m args meth c M → es_ev l strs wx SL D cI cJ cZ cC cM n0 b ρ s → c.exceptionTable.toList = tableOf (es_hh M) →
    (∀ E ∈ ends, es_EG p l e R s m args below meth c Q D (es_TY cI cJ cZ cC cM) n0 b ρ (es_mL M) E) → es_G p l e R s m args below meth c Q D (es_TY cI cJ cZ cC cM) n0 b ρ (es_mL M) K
/-- what holds of a method's rows -/
def es_MOK (strs : List (String × Nat × String)) (wx WS : List Cond) (M : es_M) : Prop :=
  (es_own M = (es_y M).cls ∧ plainName (es_y M).cls = true) ∧ (∀ q ∈ es_tab M, ∀ E ∈ q.2, ∀ x is ic wide si j1 j2, E.2.2.2 = [100, x, is, ic, wide, si, j1, j2] → es_thw WS wx (es_own M) ic x) ∧ ∀ q ∈ es_tab M, ∀ E ∈ q.2, es_dok M E = true ∧ es_tok WS wx strs M E = true
theorem es_body (hWS : ∀ w ∈ WS, goodWord w = true) (hMO : es_MOK strs wx WS M) {vs : List es_V} {xs : List Value} {AH : List es_O} {F : es_F} {ends : List es_E} (hrs : es_RS l strs wx WS SL D cI cJ cZ cC cM n0 b ρ M (0, es_al 0 vs, [], AH, F, 0, 0) ends) {lfs : List es_Lf} (hlf : es_cat (fun E => (es_leaf M E).map (fun x => [x])) ends = some lfs) (hvs : es_sr n0 b ρ vs xs) (hct : es_cts vs ≤ es_mL M) (hF : es_fr ρ F)
    {p : Program} {e : Env} {s : State} {m : MethodId} {args : Array Value} {below : List Frame} {meth : Method} {c : Code} {s₁ : State} (B : BodyLoose p l (es_y M) (headSpec (es_cw M :: WS) (es_room M)) (es_code M) (es_mL M) (es_rt M) e s m args below meth c s₁) (hml : c.maxLocals = es_mL M) (htab : c.exceptionTable.toList = tableOf (es_hh M))
    (hP : va_Pc xs (fun U => es_hr D (es_TY cI cJ cZ cC cM) n0 b ρ AH U.heap ∧ es_ev l strs wx SL D cI cJ cZ cC cM n0 b ρ U) args s) :
    W p l e (headSpec (es_cw M :: WS) (es_room M)).room s m args below meth c s.heap [] 0 0 (vx_MQ below (es_Qc D (es_TY cI cJ cZ cC cM) n0 b ρ lfs) (es_XC D (es_TY cI cJ cZ cC cM) n0 b ρ lfs) args s (es_mc M) (es_ms M) (es_A n0)) (entryFrame m args (es_mL M)) := by
  obtain ⟨rfl, hH, hev⟩ := hP
  have hts := atoms_spec (ws := es_cw M :: WS) B.pre
  have hown : s.vm.findClass (es_own M) = some m.cls := by rw [hMO.1.1]; exact findClass_of_methodNamed B.named
  have fc : es_FC WS SL D cI cJ cZ cC cM n0 b ρ p (headSpec (es_cw M :: WS) (es_room M)).room s m xs.toArray meth c M :=
    ⟨B.exec, B.bytes, hml, hown, fun w hw => hts w (List.mem_cons_of_mem _ hw), hev.1, ⟨Nat.le_refl _, Nat.le_refl _, Nat.le_refl _, Nat.le_refl _⟩, fun h => ((name_of_methodNamed B.named B.method).1).trans h, hev.2.1, hev.2.2.1, B.notSynchronized, B.returns⟩
  have hent := lv_entry xs (n := es_mL M) (by rw [(es_cts_ok vs xs hvs).1]; exact hct)
  rw [lg_entry_eq]
  generalize (lg_sl xs ++ List.replicate (es_mL M - (lg_sl xs).length) Slot.unset).toArray = ls at hent ⊢
  refine hrs p e _ s m xs.toArray below meth c _ fc hev htab (fun E hE => ?_) s.heap ls [] [] ⟨⟨hent.1, hent.2.1, fun j v hv => ?_⟩, rfl, hH, hF, va_S.rf⟩
  · obtain ⟨x, h1, h2⟩ := es_cat_ok hlf E hE
    cases hlE : es_leaf M E with
    | none => rw [hlE] at h1; cases h1
    | some lf =>
      rw [hlE] at h1
      cases h1
      exact es_leaf_ok hWS hMO.2.1 hMO.2.2 fc hev htab hlE (h2 lf (List.mem_singleton.mpr rfl))
  · obtain ⟨x, h1, h2⟩ := es_al_ok vs xs 0 hvs j v hv
    exact ⟨x, hent.2.2 _ h1, h2⟩
theorem es_met (hWS : ∀ w ∈ WS, goodWord w = true) (hMO : es_MOK strs wx WS M) {vs : List es_V} {xs : List Value} {AH : List es_O} {F : es_F} {ends : List es_E} (hrs : es_RS l strs wx WS SL D cI cJ cZ cC cM n0 b ρ M (0, es_al 0 vs, [], AH, F, 0, 0) ends) {lfs : List es_Lf} (hlf : es_cat (fun E => (es_leaf M E).map (fun x => [x])) ends = some lfs) (hvs : es_sr n0 b ρ vs xs) (hct : es_cts vs ≤ es_mL M) (hF : es_fr ρ F) :
    vx_Met l (es_y M) (es_cw M :: WS) (es_room M) (va_Pc xs (fun U => es_hr D (es_TY cI cJ cZ cC cM) n0 b ρ AH U.heap ∧ es_ev l strs wx SL D cI cJ cZ cC cM n0 b ρ U)) (es_Qc D (es_TY cI cJ cZ cC cM) n0 b ρ lfs) (es_XC D (es_TY cI cJ cZ cC cM) n0 b ρ lfs) (es_mc M) (es_ms M) (es_A n0) := by
  cases hh : es_hh M with
  | nil =>
    have hcw : es_cw M = .code (es_y M) (es_code M) (es_mL M) (es_rt M) := by unfold es_cw; rw [hh]
    refine vx_ofW (cc := es_code M) (maxL := es_mL M) (ret := es_rt M) hMO.1.2 (by rw [hcw]) ?_
    intro p e s m args below meth c s₁ B hml ht hP
    refine es_body hWS hMO hrs hlf hvs hct hF B hml ?_ hP
    rw [hh]
    exact List.eq_nil_iff_forall_not_mem.mpr ht
  | cons q t =>
    have hcw : es_cw M = .codeWith (es_y M) (es_code M) (es_mL M) (es_rt M) (es_hh M) := by unfold es_cw; rw [hh]
    refine vx_ofWH (cc := es_code M) (maxL := es_mL M) (ret := es_rt M) (hh := es_hh M) hMO.1.2 (by rw [hcw]) ?_
    intro p e s m args below meth c s₁ B hml hP
    refine es_body hWS hMO hrs hlf hvs hct hF B hml ?_ hP
    have hts := atoms_spec (ws := es_cw M :: WS) B.pre
    exact vx_table (x := es_y M) B (by rw [← hcw]; exact hts _ List.mem_cons_self)
/-- .. and where nothing is thrown -/
theorem es_met0 {y : MethodName} {ws : List Cond} {rm : Room} {Pc : Array Value → State → Prop} {lfs : List es_Lf} {mc ms : Nat} {free : Addr → Prop} (h : vx_Met l y ws rm Pc (es_Qc D (es_TY cI cJ cZ cC cM) n0 b ρ lfs) (es_XC D (es_TY cI cJ cZ cC cM) n0 b ρ lfs) mc ms free) (hn : es_nothr lfs = true) : Met l y ws rm Pc (es_Qc D (es_TY cI cJ cZ cC cM) n0 b ρ lfs) mc ms free := by
  unfold vx_Met at h
  unfold Met
  intro p e ha hc hk s m args below hf hfit hheap happ
  obtain ⟨t, o, h1, h2, h3, h4⟩ := h p e ha hc hk s m args below hf hfit hheap happ
  refine ⟨t, o, h1, h2, h3, ?_⟩
  rcases h4 with h4 | ⟨q, rfl, E, ce, L, ⟨lf, hl1, n, hl2, -⟩, -⟩
  · exact h4
  · have h5 := List.all_eq_true.mp hn lf hl1
    have h6 := es_blt.mp h5
    rw [hl2] at h6
    omega
end Con
