section Snd
variable {l : Launch} {strs : List (String × Nat × String)} {wx : List Cond} {WS : List Cond} {SL : Nat} {D : va_G} {cI cJ cZ cC cM : ClassId} {n0 b : Nat} {ρ : Nat → Int32} {ME : Nat → es_M}
variable {p : Program} {e : Env} {R : Room} {s : State} {m : MethodId} {args : Array Value} {below : List Frame} {meth : Method} {c : Code} {Q : State → Prop}
theorem es_ifc {cc : ByteArray} (hx : p.tables.exec = Jvm.exec) (hb : c.code = cc) {H : Heap} {locs : List Loc} {cells slots pc tgt : Nat} {ls : Array Slot} {rest : List Value} {x : Int32} {off : Int} (op : es_Op) (hd : decode cc pc = .ok (.ifCond op off, 3)) (ht : (pc : Int) + off = (tgt : Int))
    (kt : es_cmp op (es_zb x) (es_zb 0) = true → W p l e R s m args below meth c H locs cells slots Q (F0 m tgt ls rest)) (kf : es_cmp (es_ng op) (es_zb x) (es_zb 0) = true → W p l e R s m args below meth c H locs cells slots Q (F0 m (pc + 3) ls rest)) : W p l e R s m args below meth c H locs cells slots Q (F0 m pc ls (.int x :: rest)) := by
  have hn : ∀ P : Prop, (es_cmp op (es_zb x) (es_zb 0) = true ↔ P) → ¬ P → es_cmp (es_ng op) (es_zb x) (es_zb 0) = true := fun P h1 h2 => by
    rw [es_cmp_ng]
    cases hc : es_cmp op (es_zb x) (es_zb 0)
    · rfl
    · exact absurd (h1.mp hc) h2
  have hc := es_cmp_eq op x 0
  cases op
  · exact lv_if_eq hx hb hd ht (fun h => kt (hc.mpr h)) (fun h => kf (hn _ hc h))
  · exact lv_if_ne hx hb hd ht (fun h => kt (hc.mpr h)) (fun h => kf (hn _ hc (fun h9 => h9 h)))
  · exact lv_if_lt hx hb hd ht (fun h => kt (hc.mpr h)) (fun h => kf (hn _ hc h))
  · exact lv_if_ge hx hb hd ht (fun h => kt (hc.mpr h)) (fun h => kf (hn _ hc h))
  · exact lv_if_gt hx hb hd ht (fun h => kt (hc.mpr h)) (fun h => kf (hn _ hc h))
  · exact lv_if_le hx hb hd ht (fun h => kt (hc.mpr h)) (fun h => kf (hn _ hc h))
theorem es_icm {cc : ByteArray} (hx : p.tables.exec = Jvm.exec) (hb : c.code = cc) {H : Heap} {locs : List Loc} {cells slots pc tgt : Nat} {ls : Array Slot} {rest : List Value} {x y : Int32} {off : Int} (op : es_Op) (hd : decode cc pc = .ok (.if_icmp op off, 3)) (ht : (pc : Int) + off = (tgt : Int))
    (kt : es_cmp op (es_zb x) (es_zb y) = true → W p l e R s m args below meth c H locs cells slots Q (F0 m tgt ls rest)) (kf : es_cmp (es_ng op) (es_zb x) (es_zb y) = true → W p l e R s m args below meth c H locs cells slots Q (F0 m (pc + 3) ls rest)) : W p l e R s m args below meth c H locs cells slots Q (F0 m pc ls (.int y :: .int x :: rest)) := by
  have hn : ∀ P : Prop, (es_cmp op (es_zb x) (es_zb y) = true ↔ P) → ¬ P → es_cmp (es_ng op) (es_zb x) (es_zb y) = true := fun P h1 h2 => by
    rw [es_cmp_ng]
    cases hc : es_cmp op (es_zb x) (es_zb y)
    · rfl
    · exact absurd (h1.mp hc) h2
  have hc := es_cmp_eq op x y
  cases op
  · exact lv_icmp_eq hx hb hd ht (fun h => kt (hc.mpr h)) (fun h => kf (hn _ hc h))
  · exact lv_icmp_ne hx hb hd ht (fun h => kt (hc.mpr h)) (fun h => kf (hn _ hc (fun h9 => h9 h)))
  · exact lv_icmp_lt hx hb hd ht (fun h => kt (hc.mpr h)) (fun h => kf (hn _ hc h))
  · exact lv_icmp_ge hx hb hd ht (fun h => kt (hc.mpr h)) (fun h => kf (hn _ hc h))
  · exact lv_icmp_gt hx hb hd ht (fun h => kt (hc.mpr h)) (fun h => kf (hn _ hc h))
  · exact lv_icmp_le hx hb hd ht (fun h => kt (hc.mpr h)) (fun h => kf (hn _ hc h))
def es_r6 (ρ : Nat → Int32) (x : Int32) : Nat → Int32 := fun k => if k = 6 then x else ρ k
theorem es_r66 (ρ : Nat → Int32) (x : Int32) : es_r6 ρ x 6 = x := if_pos rfl
theorem es_r6n {ρ : Nat → Int32} {x : Int32} {k : Nat} (h : k ≠ 6) : es_r6 ρ x k = ρ k := if_neg h
section No6
variable {ρ₁ ρ₂ : Nat → Int32} {tys : List (ClassId × FieldType)}
theorem es_vr6 (hr : ∀ k, k ≠ 6 → ρ₁ k = ρ₂ k) {v : es_V} {x : Value} (hn : es_n6 v = true) (h : es_vr n0 b ρ₁ v x) : es_vr n0 b ρ₂ v x := by
  obtain ⟨t, k⟩ := v
  match t, h, hn with
  | 0, h, _ => exact h
  | 1, h, hn =>
    have h' : x = .int (ρ₁ k) := h
    have hk : k ≠ 6 := fun e => by subst e; exact absurd hn (by decide)
    show x = .int (ρ₂ k)
    rw [← hr k hk]
    exact h'
  | 2, h, _ => exact h
  | 3, h, _ => exact h
  | 4, h, _ => exact h
  | 5, h, _ => exact h
  | 6, h, _ => exact h
  | 7, h, _ => exact h
  | t + 8, h, _ => exact h
theorem es_get_mem {α : Type} : ∀ {L : List (Nat × α)} {k : Nat} {v : α}, es_get L k = some v → (k, v) ∈ L
  | [], _, _, h => by cases h
  | q :: t, k, v, h => by
    unfold es_get at h
    cases hb : Nat.beq q.1 k
    · rw [hb] at h
      exact List.mem_cons_of_mem _ (es_get_mem (show es_get t k = some v from h))
    · rw [hb] at h
      cases h
      rw [← es_beq.mp hb]
      exact List.mem_cons_self
theorem es_n6g {L : List (Nat × es_V)} (h : es_n6l L = true) {k : Nat} {v : es_V} (hg : es_get L k = some v) : es_n6 v = true := List.all_eq_true.mp h _ (es_get_mem hg)
theorem es_lr6 (hr : ∀ k, k ≠ 6 → ρ₁ k = ρ₂ k) {nL : Nat} {L : es_L} {ls : Array Slot} (hn : es_n6l L = true) (h : es_lr n0 b ρ₁ nL L ls) : es_lr n0 b ρ₂ nL L ls :=
  ⟨h.1, h.2.1, fun i v hv => by obtain ⟨x, h1, h2⟩ := h.2.2 i v hv; exact ⟨x, h1, es_vr6 hr (es_n6g hn hv) h2⟩⟩
theorem es_or6 (hr : ∀ k, k ≠ 6 → ρ₁ k = ρ₂ k) {a : Nat} {o : es_O} {H : Heap} (hn : es_n6l o.2.2 = true) (h : es_or D tys n0 b ρ₁ a o H) : es_or D tys n0 b ρ₂ a o H := by
  obtain ⟨t, i, c⟩ := o
  match t, h with
  | 0, h =>
    obtain ⟨r, V, h1, h2, h3⟩ := h
    exact ⟨r, V, h1, h2, fun k v hv => ⟨(h3 k v hv).1, es_vr6 hr (es_n6g hn hv) (h3 k v hv).2⟩⟩
  | 1, h => trivial
  | t + 2, h =>
    obtain ⟨q, V, h1, h2, h3⟩ := h
    refine ⟨q, V, h1, h2, fun j hj => es_vr6 hr ?_ (h3 j hj)⟩
    unfold es_ad
    cases hg : es_get c j with
    | some v => exact es_n6g hn hg
    | none =>
      show es_n6 (es_dv t) = true
      unfold es_dv
      split <;> rfl
theorem es_hr6 (hr : ∀ k, k ≠ 6 → ρ₁ k = ρ₂ k) {AH : List es_O} {H : Heap} (hn : es_n6h AH = true) (h : es_hr D tys n0 b ρ₁ AH H) : es_hr D tys n0 b ρ₂ AH H :=
  ⟨h.1, fun i o ho => es_or6 hr (List.all_eq_true.mp hn _ (List.mem_of_getElem? ho)) (h.2 i o ho)⟩
theorem es_fr6 (hr : ∀ k, k ≠ 6 → ρ₁ k = ρ₂ k) {F : es_F} (hn : F.length ≤ 6) (h : es_fr ρ₁ F) : es_fr ρ₂ F := fun k q hq => by
  have hk : k < F.length := (List.getElem?_eq_some_iff.mp hq).1
  rw [← hr k (by omega)]
  exact h k q hq
theorem es_X6 (hr : ∀ k, k ≠ 6 → ρ₁ k = ρ₂ k) (hn : SL ≤ 6) {U : State} {H : Heap} (h : va_X b SL ρ₁ U H) : va_X b SL ρ₂ U H := by
  obtain ⟨scr, h1, h2, h3, h4, h5⟩ := h
  exact ⟨scr, h1, h2, h3, h4, fun j hj => by rw [← hr j (by omega)]; exact h5 j hj⟩
theorem es_ev6 (hr : ∀ k, k ≠ 6 → ρ₁ k = ρ₂ k) (hn : SL ≤ 6) {U : State} (h : es_ev l strs wx SL D cI cJ cZ cC cM n0 b ρ₁ U) : es_ev l strs wx SL D cI cJ cZ cC cM n0 b ρ₂ U :=
  ⟨h.1, ⟨h.2.1.1, h.2.1.2.1, es_X6 hr hn h.2.1.2.2⟩, h.2.2⟩
theorem es_FC6 (hr : ∀ k, k ≠ 6 → ρ₁ k = ρ₂ k) (hn : SL ≤ 6) {T : es_M} (h : es_FC WS SL D cI cJ cZ cC cM n0 b ρ₁ p R s m args meth c T) : es_FC WS SL D cI cJ cZ cC cM n0 b ρ₂ p R s m args meth c T := by
  obtain ⟨h1, h2, h3, h4, h5, h6, h7, h8, ⟨g1, g2, g3⟩, h9⟩ := h
  exact ⟨h1, h2, h3, h4, h5, h6, h7, h8, ⟨g1, g2, es_X6 hr hn g3⟩, h9⟩
end No6
theorem es_fg1_ok {tys : List (ClassId × FieldType)} {AH AH' : List es_O} {a k : Nat} (h : es_fg1 AH a k = some AH') {H : Heap} (hH : es_hr D tys n0 b ρ AH H) : es_hr D tys n0 b ρ AH' H := by
  unfold es_fg1 at h
  split at h
  · rename_i ci c hA
    split at h
    · rename_i v hv
      cases ht : es_ti v
      · rw [ht] at h; cases h
      · rw [ht] at h
        cases h
        refine es_hr_set hH rfl (fun _ _ => rfl) ?_
        obtain ⟨r, V, h1, h2, h3⟩ := hH.2 _ _ hA
        refine ⟨r, V, h1, h2, fun j w hw => ?_⟩
        have hw' : es_get (es_set c k (6, 0)) j = some w := hw
        rw [es_get_set] at hw'
        by_cases hj : j = k
        · rw [if_pos hj] at hw'
          cases hw'
          subst hj
          exact ⟨(h3 j v hv).1, es_ti_int (h3 j v hv).2 ht⟩
        · rw [if_neg hj] at hw'
          exact h3 j w hw'
    · cases h
  · rename_i n c hA
    cases ht : es_ti (es_ad 0 c k)
    · rw [ht] at h; cases h
    · rw [ht] at h
      cases h
      refine es_hr_set hH rfl (fun _ _ => rfl) ?_
      obtain ⟨q, V, h1, h2, h3⟩ := hH.2 _ _ hA
      refine ⟨q, V, h1, h2, fun j hj => ?_⟩
      have h4 := h3 j hj
      dsimp only at h4 ⊢
      by_cases hjk : j = k
      · subst hjk
        have e : es_ad 0 (es_set c j (6, 0)) j = (6, 0) := by unfold es_ad; rw [es_get_set, if_pos rfl]
        rw [e]
        exact es_ti_int h4 ht
      · have e : es_ad 0 (es_set c k (6, 0)) j = es_ad 0 c j := by unfold es_ad; rw [es_get_set, if_neg hjk]
        rw [e]
        exact h4
  · cases h
theorem es_fg_ok {tys : List (ClassId × FieldType)} : ∀ {fl : List (Nat × Nat)} {AH AH' : List es_O}, es_fg AH fl = some AH' → ∀ {H : Heap}, es_hr D tys n0 b ρ AH H → es_hr D tys n0 b ρ AH' H
  | [], AH, AH', h, H, hH => by cases h; exact hH
  | q :: t, AH, AH', h, H, hH => by
    unfold es_fg at h
    cases h1 : es_fg1 AH q.1 q.2 with
    | none => rw [h1] at h; cases h
    | some A1 =>
      rw [h1] at h
      exact es_fg_ok (show es_fg A1 t = some AH' from h) (es_fg1_ok h1 hH)
theorem es_isl_ok {ins : Instr} {i : Nat} (h : es_isl ins i = true) (nL pc : Nat) (L : es_L) (S : List es_V) (F : es_F) : es_pure nL ins pc L S F = es_ld es_ti i (es_len ins) pc L S := by
  unfold es_isl at h
  split at h
  · have e := es_beq.mp h; subst e; rfl
  · have e := es_beq.mp h; subst e; rfl
  · cases h
theorem es_teq_ok {pc : Nat} {off : Int} {t : Nat} (h : es_teq pc off t = true) : (pc : Int) + off = (t : Int) := by
  unfold es_teq at h
  split at h
  · rename_i x hx
    rw [← es_beq.mp h]
    exact es_to_ok hx
  · cases h
theorem es_veq_ok {v w : es_V} (h : es_veq v w = true) : v = w := by
  unfold es_veq at h
  rw [Bool.and_eq_true, es_beq, es_beq] at h
  exact Prod.ext h.1 h.2
theorem es_nl_ok {L : es_L} {i : Nat} (h : es_nl L i = true) (v : es_V) : es_st L i v = es_set L i v := by
  unfold es_nl at h
  unfold es_st
  cases i with
  | zero => rfl
  | succ j =>
    dsimp only at h ⊢
    cases hg : es_get L j with
    | none => rfl
    | some w =>
      rw [hg] at h
      dsimp only at h ⊢
      cases hb : Nat.beq w.1 2
      · rfl
      · rw [hb] at h; cases h
/-- what the rows of the loop say of the code -/
theorem es_rows (G : es_GH strs wx WS ME) {M pc : Nat} {ent : es_I} (hat : es_at (es_tab (ME M)) pc = some ent) (hne : ∀ d1 d2 d3 d4, ent.2.1 ≠ .tableswitch d1 d2 d3 d4) : decode (es_code (ME M)) pc = .ok (ent.2.1, es_len ent.2.1) := by
  obtain ⟨e1, qq, hq1, hq2⟩ := es_at_ok hat
  obtain ⟨hdk, -⟩ := (G.2.2.2.1 M).2.2 qq hq1 ent hq2
  unfold es_dok at hdk
  rw [Bool.and_eq_true] at hdk
  have hd := of_decide_eq_true hdk.1
  rw [e1] at hd
  have h2 := hdk.2
  split at h2
  · rename_i hts2; exact absurd hts2 (hne _ _ _ _)
  · rw [hd, es_beq.mp h2]
theorem es_isl_ts {ins : Instr} {i : Nat} (h : es_isl ins i = true) : ∀ d1 d2 d3 d4, ins ≠ .tableswitch d1 d2 d3 d4 := fun d1 d2 d3 d4 e => by rw [e] at h; cases h
theorem es_lpr (G : es_GH strs wx WS ME) {M : Nat} {nl h h1 h2 i q ex : Nat} (k1 : es_lr1 (ME M) nl h1 h2 = true) (k2 : es_lr2 (ME M) h2 ex = true) (k3 : es_lr3 (ME M) i q = true) (k4 : es_lr4 (ME M) q h = true) :
    (∃ ins1, es_isl ins1 nl = true ∧ h1 + es_len ins1 = h2 ∧ decode (es_code (ME M)) h1 = .ok (ins1, es_len ins1)) ∧ (∃ off, decode (es_code (ME M)) h2 = .ok (.if_icmp .ge off, 3) ∧ (h2 : Int) + off = (ex : Int)) ∧ decode (es_code (ME M)) q = .ok (.iinc i 1, 3) ∧ ∃ off, decode (es_code (ME M)) (q + 3) = .ok (.goto off, 3) ∧ ((q + 3 : Nat) : Int) + off = (h : Int) := by
  refine ⟨?_, ?_, ?_, ?_⟩
  · unfold es_lr1 at k1
    split at k1
    · rename_i e1 hat
      rw [Bool.and_eq_true, es_beq] at k1
      exact ⟨_, k1.1, k1.2, es_rows G hat (es_isl_ts k1.1)⟩
    · cases k1
  · unfold es_lr2 at k2
    split at k2
    · rename_i e1 hat
      split at k2
      · rename_i off hins
        have h5 := es_rows G hat (fun d1 d2 d3 d4 e => by rw [e] at hins; cases hins)
        rw [hins] at h5
        exact ⟨off, h5, es_teq_ok k2⟩
      · cases k2
    · cases k2
  · unfold es_lr3 at k3
    split at k3
    · rename_i e1 hat
      split at k3
      · rename_i k n hins
        rw [Bool.and_eq_true, es_beq, decide_eq_true_eq] at k3
        obtain ⟨rfl, rfl⟩ := k3
        have h5 := es_rows G hat (fun d1 d2 d3 d4 e => by rw [e] at hins; cases hins)
        rw [hins] at h5
        exact h5
      · cases k3
    · cases k3
  · unfold es_lr4 at k4
    split at k4
    · rename_i e1 hat
      split at k4
      · rename_i off hins
        have h5 := es_rows G hat (fun d1 d2 d3 d4 e => by rw [e] at hins; cases hins)
        rw [hins] at h5
        exact ⟨off, h5, es_teq_ok k4⟩
      · cases k4
    · cases k4
theorem es_vn6 {vn : es_V} (h1 : Nat.ble vn.1 1 = true) (h2 : es_n6 vn = true) : ∃ nz : Int32, ∀ (x : Int32) (y : Value), es_vr n0 b (es_r6 ρ x) vn y → y = .int nz := by
  obtain ⟨t, k⟩ := vn
  match t, h1, h2 with
  | 0, _, _ => exact ⟨nI k, fun x y hy => hy⟩
  | 1, _, h2 =>
    have hk : k ≠ 6 := fun e => by subst e; exact absurd h2 (by decide)
    refine ⟨ρ k, fun x y hy => ?_⟩
    have hy' : y = .int (es_r6 ρ x k) := hy
    rw [hy', es_r6n hk]
  | t + 2, h1, _ => exact absurd h1 (by simp)
theorem es_succ6 {x nz : Int32} (h : x.toInt < nz.toInt) : (x + Int32.ofInt 1).toInt = x.toInt + 1 := by
  have h1 := es_rng x
  have h2 := es_rng nz
  rw [Int32.toInt_add]
  have e : (Int32.ofInt 1).toInt = 1 := by decide
  rw [e]
  simp only [Int.bmod]
  split <;> omega
end Snd
