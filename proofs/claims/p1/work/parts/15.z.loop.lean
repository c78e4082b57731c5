section Snd
variable {l : Launch} {strs : List (String × Nat × String)} {wx : List Cond} {WS : List Cond} {SL : Nat} {D : va_G} {cI cJ cZ cC cM : ClassId} {n0 b : Nat} {ρ : Nat → Int32} {ME : Nat → es_M}
variable {p : Program} {e : Env} {R : Room} {s : State} {m : MethodId} {args : Array Value} {below : List Frame} {meth : Method} {c : Code} {Q : State → Prop}
theorem es_ifc {cc : ByteArray} (hx : p.tables.exec = Jvm.exec) (hb : c.code = cc) {H : Heap} {locs : List Loc} {cells slots pc tgt : Nat} {ls : Array Slot} {rest : List Value} {x : Int32} {off : Int} (op : es_Op) (hd : decode cc pc = .ok (.ifCond op off, 3)) (ht : (pc : Int) + off = (tgt : Int))
    (kt : es_cmp op (es_zb x) (es_zb 0) = true → W p l e R s m args below meth c H locs cells slots Q (F0 m tgt ls rest)) (kf : es_cmp (es_ng op) (es_zb x) (es_zb 0) = true → W p l e R s m args below meth c H locs cells slots Q (F0 m (pc + 3) ls rest)) : W p l e R s m args below meth c H locs cells slots Q (F0 m pc ls (.int x :: rest)) := by
  have hn : ∀ P : Prop, (es_cmp op (es_zb x) (es_zb 0) = true ↔ P) → ¬ P → es_cmp (es_ng op) (es_zb x) (es_zb 0) = true := fun P h1 h2 => by
    rw [es_cmp_ng]
    cases hc : es_cmp op (es_zb x) (es_zb 0)
    · rfl
    · exact absurd (h1.mp hc) h2
  have hc := es_cmp_eq op x 0
  cases op
  · exact lv_if_eq hx hb hd ht (fun h => kt (hc.mpr h)) (fun h => kf (hn _ hc h))
  · exact lv_if_ne hx hb hd ht (fun h => kt (hc.mpr h)) (fun h => kf (hn _ hc (fun h9 => h9 h)))
  · exact lv_if_lt hx hb hd ht (fun h => kt (hc.mpr h)) (fun h => kf (hn _ hc h))
  · exact lv_if_ge hx hb hd ht (fun h => kt (hc.mpr h)) (fun h => kf (hn _ hc h))
  · exact lv_if_gt hx hb hd ht (fun h => kt (hc.mpr h)) (fun h => kf (hn _ hc h))
  · exact lv_if_le hx hb hd ht (fun h => kt (hc.mpr h)) (fun h => kf (hn _ hc h))
theorem es_icm {cc : ByteArray} (hx : p.tables.exec = Jvm.exec) (hb : c.code = cc) {H : Heap} {locs : List Loc} {cells slots pc tgt : Nat} {ls : Array Slot} {rest : List Value} {x y : Int32} {off : Int} (op : es_Op) (hd : decode cc pc = .ok (.if_icmp op off, 3)) (ht : (pc : Int) + off = (tgt : Int))
    (kt : es_cmp op (es_zb x) (es_zb y) = true → W p l e R s m args below meth c H locs cells slots Q (F0 m tgt ls rest)) (kf : es_cmp (es_ng op) (es_zb x) (es_zb y) = true → W p l e R s m args below meth c H locs cells slots Q (F0 m (pc + 3) ls rest)) : W p l e R s m args below meth c H locs cells slots Q (F0 m pc ls (.int y :: .int x :: rest)) := by
  have hn : ∀ P : Prop, (es_cmp op (es_zb x) (es_zb y) = true ↔ P) → ¬ P → es_cmp (es_ng op) (es_zb x) (es_zb y) = true := fun P h1 h2 => by
    rw [es_cmp_ng]
    cases hc : es_cmp op (es_zb x) (es_zb y)
    · rfl
    · exact absurd (h1.mp hc) h2
  have hc := es_cmp_eq op x y
  cases op
  · exact lv_icmp_eq hx hb hd ht (fun h => kt (hc.mpr h)) (fun h => kf (hn _ hc h))
  · exact lv_icmp_ne hx hb hd ht (fun h => kt (hc.mpr h)) (fun h => kf (hn _ hc (fun h9 => h9 h)))
  · exact lv_icmp_lt hx hb hd ht (fun h => kt (hc.mpr h)) (fun h => kf (hn _ hc h))
  · exact lv_icmp_ge hx hb hd ht (fun h => kt (hc.mpr h)) (fun h => kf (hn _ hc h))
  · exact lv_icmp_gt hx hb hd ht (fun h => kt (hc.mpr h)) (fun h => kf (hn _ hc h))
  · exact lv_icmp_le hx hb hd ht (fun h => kt (hc.mpr h)) (fun h => kf (hn _ hc h))
def es_r6 (ρ : Nat → Int32) (x : Int32) : Nat → Int32 := fun k => if k = 6 then x else ρ k
theorem es_r66 (ρ : Nat → Int32) (x : Int32) : es_r6 ρ x 6 = x := if_pos rfl
theorem es_r6n {ρ : Nat → Int32} {x : Int32} {k : Nat} (h : k ≠ 6) : es_r6 ρ x k = ρ k := if_neg h
section No6
variable {ρ₁ ρ₂ : Nat → Int32} {tys : List (ClassId × FieldType)}
theorem es_vr6 (hr : ∀ k, k ≠ 6 → ρ₁ k = ρ₂ k) {v : es_V} {x : Value} (hn : es_n6 v = true) (h : es_vr n0 b ρ₁ v x) : es_vr n0 b ρ₂ v x := by
  obtain ⟨t, k⟩ := v
  match t, h, hn with
  | 0, h, _ => exact h
  | 1, h, hn =>
    have h' : x = .int (ρ₁ k) := h
    have hk : k ≠ 6 := fun e => by subst e; exact absurd hn (by decide)
    show x = .int (ρ₂ k)
    rw [← hr k hk]
    exact h'
  | 2, h, _ => exact h
  | 3, h, _ => exact h
  | 4, h, _ => exact h
  | 5, h, _ => exact h
  | 6, h, _ => exact h
  | 7, h, _ => exact h
  | t + 8, h, _ => exact h
theorem es_get_mem {α : Type} : ∀ {L : List (Nat × α)} {k : Nat} {v : α}, es_get L k = some v → (k, v) ∈ L
  | [], _, _, h => by cases h
  | q :: t, k, v, h => by
    unfold es_get at h
    cases hb : Nat.beq q.1 k
    · rw [hb] at h
      exact List.mem_cons_of_mem _ (es_get_mem (show es_get t k = some v from h))
    · rw [hb] at h
      cases h
      rw [← es_beq.mp hb]
      exact List.mem_cons_self
theorem es_n6g {L : List (Nat × es_V)} (h : es_n6l L = true) {k : Nat} {v : es_V} (hg : es_get L k = some v) : es_n6 v = true := List.all_eq_true.mp h _ (es_get_mem hg)
theorem es_lr6 (hr : ∀ k, k ≠ 6 → ρ₁ k = ρ₂ k) {nL : Nat} {L : es_L} {ls : Array Slot} (hn : es_n6l L = true) (h : es_lr n0 b ρ₁ nL L ls) : es_lr n0 b ρ₂ nL L ls :=
  ⟨h.1, h.2.1, fun i v hv => by obtain ⟨x, h1, h2⟩ := h.2.2 i v hv; exact ⟨x, h1, es_vr6 hr (es_n6g hn hv) h2⟩⟩
theorem es_or6 (hr : ∀ k, k ≠ 6 → ρ₁ k = ρ₂ k) {a : Nat} {o : es_O} {H : Heap} (hn : es_n6l o.2.2 = true) (h : es_or D tys n0 b ρ₁ a o H) : es_or D tys n0 b ρ₂ a o H := by
  obtain ⟨t, i, c⟩ := o
  match t, h with
  | 0, h =>
    obtain ⟨r, V, h1, h2, h3⟩ := h
    exact ⟨r, V, h1, h2, fun k v hv => ⟨(h3 k v hv).1, es_vr6 hr (es_n6g hn hv) (h3 k v hv).2⟩⟩
  | 1, h => trivial
  | t + 2, h =>
    obtain ⟨q, V, h1, h2, h3⟩ := h
    refine ⟨q, V, h1, h2, fun j hj => es_vr6 hr ?_ (h3 j hj)⟩
    unfold es_ad
    cases hg : es_get c j with
    | some v => exact es_n6g hn hg
    | none =>
      show es_n6 (es_dv t) = true
      unfold es_dv
      split <;> rfl
theorem es_hr6 (hr : ∀ k, k ≠ 6 → ρ₁ k = ρ₂ k) {AH : List es_O} {H : Heap} (hn : es_n6h AH = true) (h : es_hr D tys n0 b ρ₁ AH H) : es_hr D tys n0 b ρ₂ AH H :=
  ⟨h.1, fun i o ho => es_or6 hr (List.all_eq_true.mp hn _ (List.mem_of_getElem? ho)) (h.2 i o ho)⟩
theorem es_fr6 (hr : ∀ k, k ≠ 6 → ρ₁ k = ρ₂ k) {F : es_F} (hn : F.length ≤ 6) (h : es_fr ρ₁ F) : es_fr ρ₂ F := fun k q hq => by
  have hk : k < F.length := (List.getElem?_eq_some_iff.mp hq).1
  rw [← hr k (by omega)]
  exact h k q hq
theorem es_X6 (hr : ∀ k, k ≠ 6 → ρ₁ k = ρ₂ k) (hn : SL ≤ 6) {U : State} {H : Heap} (h : va_X b SL ρ₁ U H) : va_X b SL ρ₂ U H := by
  obtain ⟨scr, h1, h2, h3, h4, h5⟩ := h
  exact ⟨scr, h1, h2, h3, h4, fun j hj => by rw [← hr j (by omega)]; exact h5 j hj⟩
theorem es_ev6 (hr : ∀ k, k ≠ 6 → ρ₁ k = ρ₂ k) (hn : SL ≤ 6) {U : State} (h : es_ev l strs wx SL D cI cJ cZ cC cM n0 b ρ₁ U) : es_ev l strs wx SL D cI cJ cZ cC cM n0 b ρ₂ U :=
  ⟨h.1, ⟨h.2.1.1, h.2.1.2.1, es_X6 hr hn h.2.1.2.2⟩, h.2.2⟩
theorem es_FC6 (hr : ∀ k, k ≠ 6 → ρ₁ k = ρ₂ k) (hn : SL ≤ 6) {T : es_M} (h : es_FC WS SL D cI cJ cZ cC cM n0 b ρ₁ p R s m args meth c T) : es_FC WS SL D cI cJ cZ cC cM n0 b ρ₂ p R s m args meth c T := by
  obtain ⟨h1, h2, h3, h4, h5, h6, h7, h8, ⟨g1, g2, g3⟩, h9⟩ := h
  exact ⟨h1, h2, h3, h4, h5, h6, h7, h8, ⟨g1, g2, es_X6 hr hn g3⟩, h9⟩
end No6
theorem es_fg1_ok {tys : List (ClassId × FieldType)} {AH AH' : List es_O} {a k : Nat} (h : es_fg1 AH a k = some AH') {H : Heap} (hH : es_hr D tys n0 b ρ AH H) : es_hr D tys n0 b ρ AH' H := by
  unfold es_fg1 at h
  split at h
  · rename_i ci c hA
    split at h
    · rename_i v hv
      cases ht : es_ti v
      · rw [ht] at h; cases h
      · rw [ht] at h
        cases h
        refine es_hr_set hH rfl (fun _ _ => rfl) ?_
        obtain ⟨r, V, h1, h2, h3⟩ := hH.2 _ _ hA
        refine ⟨r, V, h1, h2, fun j w hw => ?_⟩
        have hw' : es_get (es_set c k (6, 0)) j = some w := hw
        rw [es_get_set] at hw'
        by_cases hj : j = k
        · rw [if_pos hj] at hw'
          cases hw'
          subst hj
          exact ⟨(h3 j v hv).1, es_ti_int (h3 j v hv).2 ht⟩
        · rw [if_neg hj] at hw'
          exact h3 j w hw'
    · cases h
  · rename_i n c hA
    cases ht : es_ti (es_ad 0 c k)
    · rw [ht] at h; cases h
    · rw [ht] at h
      cases h
      refine es_hr_set hH rfl (fun _ _ => rfl) ?_
      obtain ⟨q, V, h1, h2, h3⟩ := hH.2 _ _ hA
      refine ⟨q, V, h1, h2, fun j hj => ?_⟩
      have h4 := h3 j hj
      dsimp only at h4 ⊢
      by_cases hjk : j = k
      · subst hjk
        have e : es_ad 0 (es_set c j (6, 0)) j = (6, 0) := by unfold es_ad; rw [es_get_set, if_pos rfl]
        rw [e]
        exact es_ti_int h4 ht
      · have e : es_ad 0 (es_set c k (6, 0)) j = es_ad 0 c j := by unfold es_ad; rw [es_get_set, if_neg hjk]
        rw [e]
        exact h4
  · cases h
theorem es_fg_ok {tys : List (ClassId × FieldType)} : ∀ {fl : List (Nat × Nat)} {AH AH' : List es_O}, es_fg AH fl = some AH' → ∀ {H : Heap}, es_hr D tys n0 b ρ AH H → es_hr D tys n0 b ρ AH' H
  | [], AH, AH', h, H, hH => by cases h; exact hH
  | q :: t, AH, AH', h, H, hH => by
    unfold es_fg at h
    cases h1 : es_fg1 AH q.1 q.2 with
    | none => rw [h1] at h; cases h
    | some A1 =>
      rw [h1] at h
      exact es_fg_ok (show es_fg A1 t = some AH' from h) (es_fg1_ok h1 hH)
theorem es_isl_ok {ins : Instr} {i : Nat} (h : es_isl ins i = true) (nL pc : Nat) (L : es_L) (S : List es_V) (F : es_F) : es_pure nL ins pc L S F = es_ld es_ti i (es_len ins) pc L S := by
  unfold es_isl at h
  split at h
  · have e := es_beq.mp h; subst e; rfl
  · have e := es_beq.mp h; subst e; rfl
  · cases h
theorem es_teq_ok {pc : Nat} {off : Int} {t : Nat} (h : es_teq pc off t = true) : (pc : Int) + off = (t : Int) := by
  unfold es_teq at h
  split at h
  · rename_i x hx
    rw [← es_beq.mp h]
    exact es_to_ok hx
  · cases h
theorem es_veq_ok {v w : es_V} (h : es_veq v w = true) : v = w := by
  unfold es_veq at h
  rw [Bool.and_eq_true, es_beq, es_beq] at h
  exact Prod.ext h.1 h.2
theorem es_nl_ok {L : es_L} {i : Nat} (h : es_nl L i = true) (v : es_V) : es_st L i v = es_set L i v := by
  unfold es_nl at h
  unfold es_st
  cases i with
  | zero => rfl
  | succ j =>
    dsimp only at h ⊢
    cases hg : es_get L j with
    | none => rfl
    | some w =>
      rw [hg] at h
      dsimp only at h ⊢
      cases hb : Nat.beq w.1 2
      · rfl
      · rw [hb] at h; cases h
/-- what the rows of the loop say of the code -/
theorem es_rows (G : es_GH strs wx WS ME) {M pc : Nat} {ent : es_I} (hat : es_at (es_tab (ME M)) pc = some ent) (hne : ∀ d1 d2 d3 d4, ent.2.1 ≠ .tableswitch d1 d2 d3 d4) : decode (es_code (ME M)) pc = .ok (ent.2.1, es_len ent.2.1) := by
  obtain ⟨e1, qq, hq1, hq2⟩ := es_at_ok hat
  obtain ⟨hdk, -⟩ := (G.2.2.2.1 M).2.2 qq hq1 ent hq2
  unfold es_dok at hdk
  rw [Bool.and_eq_true] at hdk
  have hd := of_decide_eq_true hdk.1
  rw [e1] at hd
  have h2 := hdk.2
  split at h2
  · rename_i hts2; exact absurd hts2 (hne _ _ _ _)
  · rw [hd, es_beq.mp h2]
theorem es_isl_ts {ins : Instr} {i : Nat} (h : es_isl ins i = true) : ∀ d1 d2 d3 d4, ins ≠ .tableswitch d1 d2 d3 d4 := fun d1 d2 d3 d4 e => by rw [e] at h; cases h
theorem es_lpr (G : es_GH strs wx WS ME) {M : Nat} {nl h h1 h2 i q ex : Nat} (k1 : es_lr1 (ME M) nl h1 h2 = true) (k2 : es_lr2 (ME M) h2 ex = true) (k3 : es_lr3 (ME M) i q = true) (k4 : es_lr4 (ME M) q h = true) :
    (∃ ins1, es_isl ins1 nl = true ∧ h1 + es_len ins1 = h2 ∧ decode (es_code (ME M)) h1 = .ok (ins1, es_len ins1)) ∧ (∃ off, decode (es_code (ME M)) h2 = .ok (.if_icmp .ge off, 3) ∧ (h2 : Int) + off = (ex : Int)) ∧ decode (es_code (ME M)) q = .ok (.iinc i 1, 3) ∧ ∃ off, decode (es_code (ME M)) (q + 3) = .ok (.goto off, 3) ∧ ((q + 3 : Nat) : Int) + off = (h : Int) := by
  refine ⟨?_, ?_, ?_, ?_⟩
  · unfold es_lr1 at k1
    split at k1
    · rename_i e1 hat
      rw [Bool.and_eq_true, es_beq] at k1
      exact ⟨_, k1.1, k1.2, es_rows G hat (es_isl_ts k1.1)⟩
    · cases k1
  · unfold es_lr2 at k2
    split at k2
    · rename_i e1 hat
      split at k2
      · rename_i off hins
        have h5 := es_rows G hat (fun d1 d2 d3 d4 e => by rw [e] at hins; cases hins)
        rw [hins] at h5
        exact ⟨off, h5, es_teq_ok k2⟩
      · cases k2
    · cases k2
  · unfold es_lr3 at k3
    split at k3
    · rename_i e1 hat
      split at k3
      · rename_i k n hins
        rw [Bool.and_eq_true, es_beq, decide_eq_true_eq] at k3
        obtain ⟨rfl, rfl⟩ := k3
        have h5 := es_rows G hat (fun d1 d2 d3 d4 e => by rw [e] at hins; cases hins)
        rw [hins] at h5
        exact h5
      · cases k3
    · cases k3
  · unfold es_lr4 at k4
    split at k4
    · rename_i e1 hat
      split at k4
      · rename_i off hins
        have h5 := es_rows G hat (fun d1 d2 d3 d4 e => by rw [e] at hins; cases hins)
        rw [hins] at h5
        exact ⟨off, h5, es_teq_ok k4⟩
      · cases k4
    · cases k4
theorem es_vn6 {vn : es_V} (h1 : Nat.ble vn.1 1 = true) (h2 : es_n6 vn = true) : ∃ nz : Int32, ∀ (x : Int32) (y : Value), es_vr n0 b (es_r6 ρ x) vn y → y = .int nz := by
  obtain ⟨t, k⟩ := vn
  match t, h1, h2 with
  | 0, _, _ => exact ⟨nI k, fun x y hy => hy⟩
  | 1, _, h2 =>
    have hk : k ≠ 6 := fun e => by subst e; exact absurd h2 (by decide)
    refine ⟨ρ k, fun x y hy => ?_⟩
    have hy' : y = .int (es_r6 ρ x k) := hy
    rw [hy', es_r6n hk]
  | t + 2, h1, _ => exact absurd h1 (by simp)
theorem es_succ6 {x nz : Int32} (h : x.toInt < nz.toInt) : (x + Int32.ofInt 1).toInt = x.toInt + 1 := by
  have h1 := es_rng x
  have h2 := es_rng nz
  rw [Int32.toInt_add]
  have e : (Int32.ofInt 1).toInt = 1 := by decide
  rw [e]
  simp only [Int.bmod]
  split <;> omega
theorem es_lp_ok (G : es_GH strs wx WS ME) {ih : Nat → es_K → Option (List es_E)} (hih : ∀ (ρ : Nat → Int32) (M : Nat) (K : es_K) (ends : List es_E), ih M K = some ends → es_RS l strs wx WS SL D cI cJ cZ cC cM n0 b ρ (ME M) K ends) {M pc : Nat} {ent : es_I} (hat : es_at (es_tab (ME M)) pc = some ent) {i nl h1 h2 q ex : Nat} {fl : List (Nat × Nat)} {L : es_L} {S : List es_V} {AH : List es_O} {F : es_F} {cs ss : Nat} {ends : List es_E}
    (h : es_lp (ME M) SL ih M ent.2.1 pc i nl h1 h2 q ex fl L S AH F cs ss = some ends) : es_RS l strs wx WS SL D cI cJ cZ cC cM n0 b ρ (ME M) (pc, L, S, AH, F, cs, ss) ends := by
  unfold es_lp at h
  cases S with
  | cons v S => cases h
  | nil =>
    dsimp only at h
    cases hvi : es_get L i with
    | none => rw [hvi] at h; cases h
    | some vi =>
      rw [hvi] at h
      dsimp only at h
      cases hvn : es_get L nl with
      | none => rw [hvn] at h; cases h
      | some vn =>
        rw [hvn] at h
        dsimp only at h
        cases hfg : es_fg AH fl with
        | none => rw [hfg] at h; cases h
        | some AHg =>
          rw [hfg] at h
          dsimp only at h
          cases hc : es_lpc (ME M) SL ent.2.1 pc i nl h1 h2 q ex (es_del L i) AHg F vi vn
          · rw [hc] at h; cases h
          · rw [hc] at h
            dsimp only [cond_true] at h
            cases hB : ih M (h2 + 3, es_set (es_del L i) i (1, 6), [], AHg, F, cs, ss) with
            | none => rw [hB] at h; cases h
            | some endsB =>
              rw [hB] at h
              dsimp only at h
              cases hall : endsB.all (es_lpe q i (es_del L i) AHg fl cs ss)
              · rw [hall] at h; cases h
              · rw [hall] at h
                dsimp only [cond_true] at h
                unfold es_lpc at hc
                simp only [Bool.and_eq_true, es_blt, Nat.ble_eq, es_beq] at hc
                obtain ⟨⟨⟨⟨c1, c2⟩, c3, c4⟩, ⟨c5, c6⟩, ⟨c7, c8⟩, c9, c10⟩, ⟨⟨c11, c12⟩, k1⟩, k2, k3, k4⟩ := hc
                obtain ⟨⟨ins1, r1, r2, r3⟩, ⟨off2, r4, r5⟩, r6, off5, r7, r8⟩ := es_lpr G k1 k2 k3 k4
                have hgn : es_get (es_del L i) nl = some vn := by
                  cases hg : es_get (es_del L i) nl with
                  | none => rw [hg] at c11; cases c11
                  | some w => rw [hg] at c11; rw [es_veq_ok c11]
                have hni : nl ≠ i := fun e => by
                  rw [es_beq.mpr e] at c12; cases c12
                obtain ⟨nz, hnz⟩ := es_vn6 (n0 := n0) (b := b) (ρ := ρ) (Nat.ble_eq.mpr c4) (es_n6g c5 hgn)
                intro p e R s m args below meth c Q fc hev htab hends
                have hr1 : ∀ x : Int32, ∀ k, k ≠ 6 → es_r6 ρ x k = ρ k := fun x k hk => es_r6n hk
                have hr2 : ∀ x : Int32, ∀ k, k ≠ 6 → ρ k = es_r6 ρ x k := fun x k hk => (es_r6n hk).symm
                have hr3 : ∀ x y : Int32, ∀ k, k ≠ 6 → es_r6 ρ x k = es_r6 ρ y k := fun x y k hk => (es_r6n hk).trans (es_r6n hk).symm
                have hx := fc.1
                have hb := fc.2.1
                have hL' : es_get (es_set (es_del L i) i (1, 6)) i = some (1, 6) := by rw [es_get_set, if_pos rfl]
                have hLn : es_get (es_set (es_del L i) i (1, 6)) nl = some vn := by rw [es_get_set, if_neg hni]; exact hgn
                have hLx : ∀ {x : Int32} {ls : Array Slot}, es_lr n0 b (es_r6 ρ x) (es_mL (ME M)) (es_set (es_del L i) i (1, 6)) ls → es_lr n0 b (es_r6 ρ x) (es_mL (ME M)) (es_del L i) ls := fun {x ls} hl =>
                  ⟨hl.1, hl.2.1, fun j v hv => hl.2.2 j v (by
                    rw [es_get_set]
                    by_cases hj : j = i
                    · rw [es_get_del, if_pos hj] at hv; cases hv
                    · rw [if_neg hj]; exact hv)⟩
                have hd1 := es_rows G hat (es_isl_ts c1)
                have key : ∀ (d : Nat) (x : Int32) (H : Heap) (ls : Array Slot) (locs : List Loc), (nz.toInt - x.toInt).toNat < d → es_inv D (es_TY cI cJ cZ cC cM) n0 b (es_r6 ρ x) (es_mL (ME M)) s (pc, es_set (es_del L i) i (1, 6), [], AHg, F, cs, ss) H ls locs [] → W p l e R s m args below meth c H locs cs ss Q (F0 m pc ls []) := by
                  intro d
                  induction d with
                  | zero => intro x H ls locs hd0; omega
                  | succ d IH =>
                    intro x H ls locs hdd hinv
                    obtain ⟨hl, hs, hH, hF, hS⟩ := hinv
                    dsimp only at hl hs hH hF hS
                    refine es_pure_ok hx hb hF hl hs hd1 (pc' := h1) (L' := es_set (es_del L i) i (1, 6)) (S' := [(1, 6)]) ?_ (fun ls1 st1 g1 g2 => ?_)
                    · rw [es_isl_ok c1]
                      unfold es_ld
                      rw [hL', ← c2]
                      rfl
                    · refine es_pure_ok hx hb hF g1 g2 r3 (pc' := h2) (L' := es_set (es_del L i) i (1, 6)) (S' := [vn, (1, 6)]) ?_ (fun ls2 st2 g3 g4 => ?_)
                      · rw [es_isl_ok r1]
                        unfold es_ld
                        rw [hLn, ← r2]
                        dsimp only
                        have hti : es_ti vn = true := by
                          obtain ⟨t, k⟩ := vn
                          match t, c4 with
                          | 0, _ => rfl
                          | 1, _ => rfl
                          | t + 2, c4 => exact absurd c4 (by omega)
                        rw [hti]
                        rfl
                      · obtain ⟨yn, st3, rfl, hyn, yx, st4, rfl, hyx, hst4⟩ := g4
                        have e4 : st4 = [] := hst4
                        subst e4
                        have e5 := hnz x yn hyn
                        subst e5
                        have e6 : yx = .int x := by
                          have h9 : yx = .int (es_r6 ρ x 6) := hyx
                          rw [h9, es_r66]
                        subst e6
                        refine es_icm hx hb .ge r4 r5 (fun hge => ?_) (fun hlt => ?_)
                        · exact hih ρ M _ _ h p e R s m args below meth c Q fc hev htab hends H ls2 locs [] ⟨es_lr6 (hr1 x) c5 (hLx g3), rfl, es_hr6 (hr1 x) c6 hH, es_fr6 (hr1 x) c7 hF, hS⟩
                        · have hlt2 : x.toInt < nz.toInt := by
                            have h9 : Nat.blt (es_zb x) (es_zb nz) = true := hlt
                            have h10 := es_zlt.mpr (es_blt.mp h9)
                            exact Int32.lt_iff_toInt_lt.mp h10
                          refine hih (es_r6 ρ x) M _ _ hB p e R s m args below meth c Q (es_FC6 (hr2 x) c8 fc) (es_ev6 (hr2 x) c8 hev) htab (fun E hE => ?_) H ls2 locs [] ⟨g3, rfl, hH, hF, hS⟩
                          have hE2 := List.all_eq_true.mp hall E hE
                          obtain ⟨ek, epc, eL, eS, eA, eF, ec, es⟩ := E
                          unfold es_lpe at hE2
                          simp only [Bool.and_eq_true, es_beq] at hE2
                          obtain ⟨⟨⟨rfl, rfl⟩, m3, m4, m5⟩, ⟨rfl, rfl⟩, m8⟩ := hE2
                          show es_G p l e R s m args below meth c Q D (es_TY cI cJ cZ cC cM) n0 b (es_r6 ρ x) (es_mL (ME M)) (epc, eL, eS, eA, eF, ec, es)
                          intro H3 ls3 locs3 st3 hinv3
                          obtain ⟨hl3, hs3, hH3, hF3, hS3⟩ := hinv3
                          dsimp only at hl3 hs3 hH3 hF3 hS3 ⊢
                          cases eS with
                          | cons _ _ => cases m3
                          | nil =>
                            have e7 : st3 = [] := hs3
                            subst e7
                            have hgi : es_get eL i = some (1, 6) := by
                              cases hg : es_get eL i with
                              | none => rw [hg] at m5; cases m5
                              | some w => rw [hg] at m5; rw [es_veq_ok m5]
                            have hA3 : es_hr D (es_TY cI cJ cZ cC cM) n0 b (es_r6 ρ x) AHg H3 := by
                              cases hf3 : es_fg eA fl with
                              | none => rw [hf3] at m8; cases m8
                              | some A => rw [hf3] at m8; rw [← of_decide_eq_true m8]; exact es_fg_ok hf3 hH3
                            have hl4 : es_lr n0 b (es_r6 ρ (x + Int32.ofInt 1)) (es_mL (ME M)) (es_del L i) ls3 := by
                              refine es_lr6 (hr3 x _) c5 ⟨hl3.1, hl3.2.1, fun j v hv => hl3.2.2 j v ?_⟩
                              have h11 := List.all_eq_true.mp m4 _ (es_get_mem hv)
                              dsimp only at h11
                              cases hg : es_get eL j with
                              | none => rw [hg] at h11; cases h11
                              | some w => rw [hg] at h11; rw [es_veq_ok h11]
                            obtain ⟨y, hy1, hy2⟩ := hl3.2.2 i _ hgi
                            have e8 : y = .int x := by
                              have h9 : y = .int (es_r6 ρ x 6) := hy2
                              rw [h9, es_r66]
                            subst e8
                            obtain ⟨kk, hkk⟩ := List.getElem?_of_mem (es_all_in hl3.1 hy1)
                            refine lv_iinc (k := kk) hx hb r6 (es_all_has hl3) hkk rfl c10 rfl (fun ls' h' => ?_)
                            have hl5 := es_lr_st (v := (1, 6)) hl4 (by show Value.int (x + Int32.ofInt 1) = Value.int (es_r6 ρ (x + Int32.ofInt 1) 6); rw [es_r66]) h'
                            rw [es_nl_ok c9] at hl5
                            refine lv_goto hx hb r7 r8 ?_
                            refine IH (x + Int32.ofInt 1) H3 ls' locs3 ?_ ⟨hl5, rfl, es_hr6 (hr3 x _) c6 hA3, es_fr6 (hr3 x _) c7 hF, hS3⟩
                            have e10 := es_succ6 hlt2
                            omega
                intro H ls locs st hinv
                obtain ⟨hl, hs, hH, hF, hS⟩ := hinv
                dsimp only at hl hs hH hF hS ⊢
                have e0 : st = [] := hs
                subst e0
                obtain ⟨y, hy1, hy2⟩ := hl.2.2 i vi hvi
                obtain ⟨x, rfl⟩ := es_ti_int hy2 c3
                refine key _ x H ls locs (Nat.lt_succ_self _) ⟨⟨hl.1, hl.2.1, fun j v hv => ?_⟩, rfl, es_hr6 (hr2 x) c6 (es_fg_ok hfg hH), es_fr6 (hr2 x) c7 hF, hS⟩
                rw [es_get_set] at hv
                by_cases hj : j = i
                · rw [if_pos hj] at hv
                  cases hv
                  subst hj
                  refine ⟨_, hy1, ?_⟩
                  show Value.int x = Value.int (es_r6 ρ x 6)
                  rw [es_r66]
                · rw [if_neg hj] at hv
                  have hv2 := hv
                  rw [es_get_del, if_neg hj] at hv2
                  obtain ⟨z, h3, h4⟩ := hl.2.2 j v hv2
                  exact ⟨z, h3, es_vr6 (hr2 x) (es_n6g c5 hv) h4⟩
end Snd
