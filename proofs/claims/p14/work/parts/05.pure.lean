section St
variable {n0 : Nat} {b : Nat → Nat} {ρ : Nat → Int32}
def es_all (ls : Array Slot) (nL : Nat) : List (Nat × Value) := (List.range nL).filterMap (fun (j : Nat) => match (ls[j]? : Option Slot) with
  | some (Slot.val x) => some (j, x)
  | _ => none)
theorem es_all_has {nL : Nat} {L : es_L} {ls : Array Slot} (h : es_lr n0 b ρ nL L ls) : lv_has ls nL (es_all ls nL) := by
  refine ⟨h.1, h.2.1, fun q hq => ?_⟩
  obtain ⟨j, -, hj⟩ := List.mem_filterMap.mp hq
  split at hj
  · rename_i x hx
    cases hj
    exact hx
  · cases hj
theorem es_all_in {nL j : Nat} {ls : Array Slot} {x : Value} (hs : ls.size = nL) (h : ls[j]? = some (.val x)) : (j, x) ∈ es_all ls nL := by
  have hl : j < nL := by rw [← hs]; exact (Array.getElem?_eq_some_iff.mp h).1
  refine List.mem_filterMap.mpr ⟨j, List.mem_range.mpr hl, ?_⟩
  rw [h]
theorem es_st_get {L : es_L} {i j : Nat} {v w : es_V} (h : es_get (es_st L i v) j = some w) : (j = i ∧ w = v) ∨ (j ≠ i ∧ es_get L j = some w ∧ (j + 1 = i → Nat.beq w.1 2 = false)) := by
  unfold es_st at h
  rw [es_get_set] at h
  by_cases hj : j = i
  · rw [if_pos hj] at h; cases h; exact Or.inl ⟨hj, rfl⟩
  · rw [if_neg hj] at h
    refine Or.inr ⟨hj, ?_⟩
    cases i with
    | zero => exact ⟨h, fun e => by omega⟩
    | succ k =>
      dsimp only at h
      cases hk : es_get L k with
      | none =>
        rw [hk] at h
        refine ⟨h, fun e => ?_⟩
        have : j = k := by omega
        subst this
        rw [hk] at h; cases h
      | some u =>
        rw [hk] at h
        dsimp only at h
        cases hu : Nat.beq u.1 2
        · rw [hu] at h
          dsimp only [cond_false] at h
          refine ⟨h, fun e => ?_⟩
          have : j = k := by omega
          subst this
          rw [hk] at h; cases h; exact hu
        · rw [hu] at h
          dsimp only [cond_true] at h
          rw [es_get_del] at h
          by_cases hjk : j = k
          · rw [if_pos hjk] at h; cases h
          · rw [if_neg hjk] at h
            exact ⟨h, fun e => by omega⟩
theorem es_lr_st {nL i : Nat} {L : es_L} {ls ls' : Array Slot} {v : es_V} {x : Value} (h : es_lr n0 b ρ nL L ls) (hv : es_vr n0 b ρ v x)
    (h' : lv_has ls' nL ((i, x) :: (es_all ls nL).filter (fun q => !(q.1 == i) && !(q.1 + 1 == i && q.2.category == 2)))) : es_lr n0 b ρ nL (es_st L i v) ls' := by
  refine ⟨h'.1, h'.2.1, fun j w hw => ?_⟩
  rcases es_st_get hw with ⟨rfl, rfl⟩ | ⟨hj, hw, h2⟩
  · exact ⟨x, h'.2.2 (j, x) List.mem_cons_self, hv⟩
  · obtain ⟨y, hy, hyr⟩ := h.2.2 j w hw
    refine ⟨y, h'.2.2 (j, y) (List.mem_cons_of_mem _ (List.mem_filter.mpr ⟨es_all_in h.1 hy, ?_⟩)), hyr⟩
    have e1 : (j == i) = false := by simpa using hj
    simp only [e1, Bool.not_false, Bool.true_and]
    by_cases e2 : j + 1 = i
    · have := es_cat1 hyr (h2 e2)
      simp [this]
    · simp [e2]
theorem es_lr_st2 {nL i : Nat} {L : es_L} {ls ls' : Array Slot} {v : es_V} {x : Value} (h : es_lr n0 b ρ nL L ls) (hv : es_vr n0 b ρ v x)
    (h' : lv_has ls' nL ((i, x) :: (es_all ls nL).filter (fun q => !(q.1 == i) && (!(q.1 == i + 1) && !(q.1 + 1 == i && q.2.category == 2))))) : es_lr n0 b ρ nL (es_del (es_st L i v) (i + 1)) ls' := by
  refine ⟨h'.1, h'.2.1, fun j w hw => ?_⟩
  rw [es_get_del] at hw
  by_cases hj1 : j = i + 1
  · rw [if_pos hj1] at hw; cases hw
  · rw [if_neg hj1] at hw
    rcases es_st_get hw with ⟨rfl, rfl⟩ | ⟨hj, hw, h2⟩
    · exact ⟨x, h'.2.2 (j, x) List.mem_cons_self, hv⟩
    · obtain ⟨y, hy, hyr⟩ := h.2.2 j w hw
      refine ⟨y, h'.2.2 (j, y) (List.mem_cons_of_mem _ (List.mem_filter.mpr ⟨es_all_in h.1 hy, ?_⟩)), hyr⟩
      have e1 : (j == i) = false := by simpa using hj
      have e3 : (j == i + 1) = false := by simpa using hj1
      simp only [e1, e3, Bool.not_false, Bool.true_and]
      by_cases e2 : j + 1 = i
      · have := es_cat1 hyr (h2 e2)
        simp [this]
      · simp [e2]
end St
section Pure
variable {p : Program} {l : Launch} {e : Env} {R : Room} {s : State} {m : MethodId} {args : Array Value} {below : List Frame} {meth : Method} {c : Code} {H : Heap} {locs : List Loc} {cells slots : Nat} {Q : State → Prop}
variable {cc : ByteArray} {pc pc' nL len : Nat} {ls : Array Slot} {n0 : Nat} {b : Nat → Nat} {ρ : Nat → Int32} {L L' : es_L} {S S' : List es_V} {F : es_F} {st : List Value} {ins : Instr}
/-- what a step without heap owes -/
def es_PG (p : Program) (l : Launch) (e : Env) (R : Room) (s : State) (m : MethodId) (args : Array Value) (below : List Frame) (meth : Method) (c : Code) (H : Heap) (locs : List Loc) (cells slots : Nat) (Q : State → Prop) (n0 : Nat) (b : Nat → Nat) (ρ : Nat → Int32) (nL : Nat) (pc' : Nat) (L' : es_L) (S' : List es_V) : Prop :=
  ∀ (ls' : Array Slot) (st' : List Value), es_lr n0 b ρ nL L' ls' → es_sr n0 b ρ S' st' → W p l e R s m args below meth c H locs cells slots Q (F0 m pc' ls' st')
theorem es_ld_ok {t : es_V → Bool} {i n : Nat} (h : es_ld t i n pc L S = some (pc', L', S')) (hl : es_lr n0 b ρ nL L ls) : ∃ v x, t v = true ∧ es_vr n0 b ρ v x ∧ ls[i]? = some (.val x) ∧ pc' = pc + n ∧ L' = L ∧ S' = v :: S := by
  unfold es_ld at h
  cases hv : es_get L i with
  | none => rw [hv] at h; cases h
  | some v =>
    rw [hv] at h
    dsimp only at h
    cases ht : t v
    · rw [ht] at h; cases h
    · rw [ht] at h
      obtain ⟨x, hx, hr⟩ := hl.2.2 i v hv
      cases h
      exact ⟨v, x, ht, hr, hx, rfl, rfl, rfl⟩
theorem es_sto_ok {t : es_V → Bool} {i n : Nat} (h : es_sto t nL i n pc L S = some (pc', L', S')) (hs : es_sr n0 b ρ S st) : ∃ v x st', t v = true ∧ es_vr n0 b ρ v x ∧ st = x :: st' ∧ es_sr n0 b ρ S' st' ∧ i < nL ∧ pc' = pc + n ∧ L' = es_st L i v := by
  unfold es_sto at h
  cases S with
  | nil => cases h
  | cons v S1 =>
    obtain ⟨x, st', e, hv, hs'⟩ := hs
    dsimp only at h
    cases ht : (t v && Nat.blt i nL)
    · rw [ht] at h; cases h
    · rw [ht] at h
      rw [Bool.and_eq_true] at ht
      cases h
      exact ⟨v, x, st', ht.1, hv, e, hs', es_blt.mp ht.2, rfl, rfl⟩
theorem es_lst_ok {i n : Nat} (h : es_lst nL i n pc L S = some (pc', L', S')) (hs : es_sr n0 b ρ S st) : ∃ v st', es_vr n0 b ρ v (.long (lN v.2)) ∧ st = .long (lN v.2) :: st' ∧ es_sr n0 b ρ S' st' ∧ i + 1 < nL ∧ pc' = pc + n ∧ L' = es_del (es_st L i v) (i + 1) := by
  unfold es_lst at h
  cases S with
  | nil => cases h
  | cons v S1 =>
    obtain ⟨x, st', e, hv, hs'⟩ := hs
    dsimp only at h
    cases ht : (Nat.beq v.1 2 && Nat.blt (i + 1) nL)
    · rw [ht] at h; cases h
    · rw [ht] at h
      rw [Bool.and_eq_true] at ht
      cases h
      have hx := es_t2_long hv ht.1
      subst hx
      exact ⟨v, st', hv, e, hs', es_blt.mp ht.2, rfl, rfl⟩
theorem es_i2_ok {f : Int32 → Int32 → Int32} (h : es_i2 f pc L S F = some (pc', L', S')) (hF : es_fr ρ F) (hs : es_sr n0 b ρ S st) : ∃ x y st', st = .int y :: .int x :: st' ∧ pc' = pc + 1 ∧ L' = L ∧ es_sr n0 b ρ S' (.int (f x y) :: st') := by
  unfold es_i2 at h
  split at h
  · rename_i vb va S1
    obtain ⟨y, st1, rfl, hvb, xx, st', rfl, hva, hs'⟩ := hs
    cases ht : (es_ti va && es_ti vb)
    · rw [ht] at h; cases h
    · rw [ht] at h
      rw [Bool.and_eq_true] at ht
      cases h
      obtain ⟨x, rfl⟩ := es_ti_int hva ht.1
      obtain ⟨y, rfl⟩ := es_ti_int hvb ht.2
      exact ⟨x, y, st', rfl, rfl, rfl, _, _, rfl, es_bin_ok hF f hva hvb, hs'⟩
  · cases h
theorem es_d2_ok {f : Int32 → Int32 → Int32} (h : es_d2 f pc L S F = some (pc', L', S')) (hF : es_fr ρ F) (hs : es_sr n0 b ρ S st) : ∃ x y st', st = .int y :: .int x :: st' ∧ ¬ y = 0 ∧ pc' = pc + 1 ∧ L' = L ∧ es_sr n0 b ρ S' (.int (f x y) :: st') := by
  unfold es_d2 at h
  split at h
  · rename_i vb va S1
    obtain ⟨y, st1, rfl, hvb, xx, st', rfl, hva, hs'⟩ := hs
    cases hk : es_kn F vb with
    | none => rw [hk] at h; cases h
    | some n =>
      rw [hk] at h
      dsimp only at h
      cases ht : (es_ti va && (es_ti vb && !decide (nI n = 0)))
      · rw [ht] at h; cases h
      · rw [ht] at h
        simp only [Bool.and_eq_true, Bool.not_eq_true', decide_eq_false_iff_not] at ht
        cases h
        obtain ⟨x, rfl⟩ := es_ti_int hva ht.1
        have e := es_kn_ok hF hvb hk
        subst e
        exact ⟨x, nI n, st', rfl, ht.2.2, rfl, rfl, _, _, rfl, es_bin_ok hF f hva hvb, hs'⟩
  · cases h
theorem es_l2_ok {f : Int64 → Int64 → Int64} (h : es_l2 f pc L S = some (pc', L', S')) (hs : es_sr n0 b ρ S st) : ∃ x y st', st = .long y :: .long x :: st' ∧ pc' = pc + 1 ∧ L' = L ∧ es_sr n0 b ρ S' (.long (f x y) :: st') := by
  unfold es_l2 at h
  split at h
  · rename_i vb va S1
    obtain ⟨y, st1, rfl, hvb, xx, st', rfl, hva, hs'⟩ := hs
    cases ht : (Nat.beq va.1 2 && Nat.beq vb.1 2)
    · rw [ht] at h; cases h
    · rw [ht] at h
      rw [Bool.and_eq_true] at ht
      cases h
      have e1 := es_t2_long hva ht.1
      have e2 := es_t2_long hvb ht.2
      subst e1; subst e2
      exact ⟨_, _, st', rfl, rfl, rfl, _, _, rfl, es_vrlc _, hs'⟩
  · cases h
theorem es_lsh_ok {f : Int64 → Int32 → Int64} (h : es_lsh f pc L S F = some (pc', L', S')) (hF : es_fr ρ F) (hs : es_sr n0 b ρ S st) : ∃ x y st', st = .int y :: .long x :: st' ∧ pc' = pc + 1 ∧ L' = L ∧ es_sr n0 b ρ S' (.long (f x y) :: st') := by
  unfold es_lsh at h
  split at h
  · rename_i vb va S1
    obtain ⟨y, st1, rfl, hvb, xx, st', rfl, hva, hs'⟩ := hs
    cases hk : es_kn F vb with
    | none => rw [hk] at h; cases h
    | some n =>
      rw [hk] at h
      dsimp only at h
      cases ht : (Nat.beq va.1 2 && es_ti vb)
      · rw [ht] at h; cases h
      · rw [ht] at h
        rw [Bool.and_eq_true] at ht
        cases h
        have e1 := es_t2_long hva ht.1
        have e2 := es_kn_ok hF hvb hk
        subst e1; subst e2
        exact ⟨_, _, st', rfl, rfl, rfl, _, _, rfl, es_vrlc _, hs'⟩
  · cases h
set_option maxHeartbeats 4000000 in
theorem es_pure_ok (hx : p.tables.exec = Jvm.exec) (hb : c.code = cc) (hF : es_fr ρ F) (hl : es_lr n0 b ρ nL L ls) (hs : es_sr n0 b ρ S st) (hd : decode cc pc = .ok (ins, es_len ins))
    (h : es_pure nL ins pc L S F = some (pc', L', S'))
    (k : es_PG p l e R s m args below meth c H locs cells slots Q n0 b ρ nL pc' L' S') : W p l e R s m args below meth c H locs cells slots Q (F0 m pc ls st) := by
  unfold es_pure at h
  split at h
  · cases h; exact lv_iconst hx hb hd rfl (k _ _ hl ⟨_, _, rfl, es_vrc _, hs⟩)
  · cases h; exact lv_bipush hx hb hd rfl (k _ _ hl ⟨_, _, rfl, es_vrc _, hs⟩)
  · cases h; exact lv_sipush hx hb hd rfl (k _ _ hl ⟨_, _, rfl, es_vrc _, hs⟩)
  · cases h; exact lv_lconst hx hb hd rfl (k _ _ hl ⟨_, _, rfl, es_vrlc _, hs⟩)
  -- loads
  · obtain ⟨v, x, ht, hr, hi, rfl, rfl, rfl⟩ := es_ld_ok h hl
    obtain ⟨z, rfl⟩ := es_ti_int hr ht
    exact lv_iload_n hx hb hd rfl hi (k _ _ hl ⟨_, _, rfl, hr, hs⟩)
  · obtain ⟨v, x, ht, hr, hi, rfl, rfl, rfl⟩ := es_ld_ok h hl
    obtain ⟨z, rfl⟩ := es_ti_int hr ht
    exact lv_iload hx hb hd hi (k _ _ hl ⟨_, _, rfl, hr, hs⟩)
  · obtain ⟨v, x, ht, hr, hi, rfl, rfl, rfl⟩ := es_ld_ok h hl
    have e := es_t2_long hr ht
    subst e
    exact lv_lload_n hx hb hd rfl hi (k _ _ hl ⟨_, _, rfl, hr, hs⟩)
  · obtain ⟨v, x, ht, hr, hi, rfl, rfl, rfl⟩ := es_ld_ok h hl
    have e := es_t2_long hr ht
    subst e
    exact lv_lload hx hb hd hi (k _ _ hl ⟨_, _, rfl, hr, hs⟩)
  · obtain ⟨v, x, ht, hr, hi, rfl, rfl, rfl⟩ := es_ld_ok h hl
    rcases es_tr_ref hr ht with rfl | ⟨a, rfl⟩
    · exact lv_aload_nN hx hb hd rfl hi (k _ _ hl ⟨_, _, rfl, hr, hs⟩)
    · exact lv_aload_n hx hb hd rfl hi (k _ _ hl ⟨_, _, rfl, hr, hs⟩)
  · obtain ⟨v, x, ht, hr, hi, rfl, rfl, rfl⟩ := es_ld_ok h hl
    rcases es_tr_ref hr ht with rfl | ⟨a, rfl⟩
    · exact lv_aloadN hx hb hd hi (k _ _ hl ⟨_, _, rfl, hr, hs⟩)
    · exact lv_aload hx hb hd hi (k _ _ hl ⟨_, _, rfl, hr, hs⟩)
  -- stores
  · obtain ⟨v, x, st', ht, hr, rfl, hs', hi, rfl, rfl⟩ := es_sto_ok h hs
    obtain ⟨z, rfl⟩ := es_ti_int hr ht
    exact lv_istore_n hx hb hd rfl (es_all_has hl) hi rfl (fun ls' h' => k _ _ (es_lr_st hl hr h') hs')
  · obtain ⟨v, x, st', ht, hr, rfl, hs', hi, rfl, rfl⟩ := es_sto_ok h hs
    obtain ⟨z, rfl⟩ := es_ti_int hr ht
    exact lv_istore hx hb hd (es_all_has hl) hi rfl (fun ls' h' => k _ _ (es_lr_st hl hr h') hs')
  · obtain ⟨v, st', hr, rfl, hs', hi, rfl, rfl⟩ := es_lst_ok h hs
    exact lv_lstore_n hx hb hd rfl (es_all_has hl) hi rfl (fun ls' h' => k _ _ (es_lr_st2 hl hr h') hs')
  · obtain ⟨v, st', hr, rfl, hs', hi, rfl, rfl⟩ := es_lst_ok h hs
    exact lv_lstore hx hb hd (es_all_has hl) hi rfl (fun ls' h' => k _ _ (es_lr_st2 hl hr h') hs')
  · obtain ⟨v, x, st', ht, hr, rfl, hs', hi, rfl, rfl⟩ := es_sto_ok h hs
    rcases es_t7_ref hr ht with rfl | ⟨a, rfl⟩
    · exact lv_astore_nN hx hb hd rfl (es_all_has hl) hi rfl (fun ls' h' => k _ _ (es_lr_st hl hr h') hs')
    · exact lv_astore_n hx hb hd rfl (es_all_has hl) hi rfl (fun ls' h' => k _ _ (es_lr_st hl hr h') hs')
  · obtain ⟨v, x, st', ht, hr, rfl, hs', hi, rfl, rfl⟩ := es_sto_ok h hs
    rcases es_t7_ref hr ht with rfl | ⟨a, rfl⟩
    · exact lv_astoreN hx hb hd (es_all_has hl) hi rfl (fun ls' h' => k _ _ (es_lr_st hl hr h') hs')
    · exact lv_astore hx hb hd (es_all_has hl) hi rfl (fun ls' h' => k _ _ (es_lr_st hl hr h') hs')
  -- iinc
  · rename_i i n
    cases hv : es_get L i with
    | none => rw [hv] at h; cases h
    | some v =>
      rw [hv] at h
      dsimp only at h
      cases ht : (es_ti v && Nat.blt i nL)
      · rw [ht] at h; cases h
      · rw [ht] at h
        rw [Bool.and_eq_true] at ht
        cases h
        obtain ⟨x, hi, hr⟩ := hl.2.2 i v hv
        obtain ⟨z, rfl⟩ := es_ti_int hr ht.1
        obtain ⟨kk, hkk⟩ := List.getElem?_of_mem (es_all_in hl.1 hi)
        exact lv_iinc (k := kk) hx hb hd (es_all_has hl) hkk rfl (es_blt.mp ht.2) rfl (fun ls' h' => k _ _ (es_lr_st hl (es_un_ok hF _ hr) h') hs)
  -- int arithmetic
  · obtain ⟨x, y, st', rfl, rfl, rfl, hs'⟩ := es_i2_ok h hF hs; exact lv_iadd hx hb hd (k _ _ hl hs')
  · obtain ⟨x, y, st', rfl, rfl, rfl, hs'⟩ := es_i2_ok h hF hs; exact lv_isub hx hb hd (k _ _ hl hs')
  · obtain ⟨x, y, st', rfl, rfl, rfl, hs'⟩ := es_i2_ok h hF hs; exact lv_imul hx hb hd (k _ _ hl hs')
  · obtain ⟨x, y, st', rfl, rfl, rfl, hs'⟩ := es_i2_ok h hF hs; exact lv_iand hx hb hd (k _ _ hl hs')
  · obtain ⟨x, y, st', rfl, rfl, rfl, hs'⟩ := es_i2_ok h hF hs; exact lv_ior hx hb hd (k _ _ hl hs')
  · obtain ⟨x, y, st', rfl, rfl, rfl, hs'⟩ := es_i2_ok h hF hs; exact lv_ixor hx hb hd (k _ _ hl hs')
  · obtain ⟨x, y, st', rfl, rfl, rfl, hs'⟩ := es_i2_ok h hF hs; exact lv_ishl hx hb hd (k _ _ hl hs')
  · obtain ⟨x, y, st', rfl, rfl, rfl, hs'⟩ := es_i2_ok h hF hs; exact lv_ishr hx hb hd (k _ _ hl hs')
  · obtain ⟨x, y, st', rfl, rfl, rfl, hs'⟩ := es_i2_ok h hF hs; exact lv_iushr hx hb hd rfl (k _ _ hl hs')
  · obtain ⟨x, y, st', rfl, hy, rfl, rfl, hs'⟩ := es_d2_ok h hF hs; exact lv_idiv hx hb hd hy (k _ _ hl hs')
  · obtain ⟨x, y, st', rfl, hy, rfl, rfl, hs'⟩ := es_d2_ok h hF hs; exact lv_irem hx hb hd hy (k _ _ hl hs')
  · obtain ⟨x, y, st', rfl, rfl, rfl, hs'⟩ := es_l2_ok h hs; exact lv_ladd hx hb hd (k _ _ hl hs')
  · obtain ⟨x, y, st', rfl, rfl, rfl, hs'⟩ := es_l2_ok h hs; exact lv_lsub hx hb hd (k _ _ hl hs')
  · obtain ⟨x, y, st', rfl, rfl, rfl, hs'⟩ := es_l2_ok h hs; exact lv_lmul hx hb hd (k _ _ hl hs')
  · obtain ⟨x, y, st', rfl, rfl, rfl, hs'⟩ := es_l2_ok h hs; exact lv_land hx hb hd (k _ _ hl hs')
  · obtain ⟨x, y, st', rfl, rfl, rfl, hs'⟩ := es_l2_ok h hs; exact lv_lor hx hb hd (k _ _ hl hs')
  -- ldiv
  · split at h
    · rename_i vb va S1
      obtain ⟨y, st1, rfl, hvb, xx, st', rfl, hva, hs'⟩ := hs
      cases ht : ((Nat.beq va.1 2 && Nat.beq vb.1 2) && !decide (lN vb.2 = 0))
      · rw [ht] at h; cases h
      · rw [ht] at h
        simp only [Bool.and_eq_true, Bool.not_eq_true', decide_eq_false_iff_not] at ht
        cases h
        have e1 := es_t2_long hva ht.1.1
        have e2 := es_t2_long hvb ht.1.2
        subst e1; subst e2
        exact lv_ldiv hx hb hd ht.2 (k _ _ hl ⟨_, _, rfl, es_vrlc _, hs'⟩)
    · cases h
  · obtain ⟨x, y, st', rfl, rfl, rfl, hs'⟩ := es_lsh_ok h hF hs; exact lv_lshl hx hb hd rfl (k _ _ hl hs')
  · obtain ⟨x, y, st', rfl, rfl, rfl, hs'⟩ := es_lsh_ok h hF hs; exact lv_lshr hx hb hd rfl (k _ _ hl hs')
  · obtain ⟨x, y, st', rfl, rfl, rfl, hs'⟩ := es_lsh_ok h hF hs; exact lv_lushr hx hb hd rfl (k _ _ hl hs')
  -- i2l
  · split at h
    · rename_i va S1
      obtain ⟨xx, st', rfl, hva, hs'⟩ := hs
      cases hk : es_kn F va with
      | none => rw [hk] at h; cases h
      | some n =>
        rw [hk] at h
        cases h
        have e := es_kn_ok hF hva hk
        subst e
        exact lv_i2l hx hb hd rfl (k _ _ hl ⟨_, _, rfl, es_vrlc _, hs'⟩)
    · cases h
  -- l2i
  · split at h
    · rename_i va S1
      obtain ⟨xx, st', rfl, hva, hs'⟩ := hs
      cases ht : Nat.beq va.1 2
      · rw [ht] at h; cases h
      · rw [ht] at h
        cases h
        have e := es_t2_long hva ht
        subst e
        exact lv_l2i hx hb hd rfl (k _ _ hl ⟨_, _, rfl, es_vrc _, hs'⟩)
    · cases h
  -- lcmp
  · split at h
    · rename_i vb va S1
      obtain ⟨y, st1, rfl, hvb, xx, st', rfl, hva, hs'⟩ := hs
      cases ht : (Nat.beq va.1 2 && Nat.beq vb.1 2)
      · rw [ht] at h; cases h
      · rw [ht] at h
        rw [Bool.and_eq_true] at ht
        cases h
        have e1 := es_t2_long hva ht.1
        have e2 := es_t2_long hvb ht.2
        subst e1; subst e2
        exact W.lcmp hx hb hd (k _ _ hl ⟨_, _, rfl, es_vrc _, hs'⟩)
    · cases h
  -- aconst_null
  · cases h
    exact lv_null hx hb hd (k _ _ hl ⟨_, _, rfl, rfl, hs⟩)
  -- ineg
  · split at h
    · rename_i va S1
      obtain ⟨xx, st', rfl, hva, hs'⟩ := hs
      cases ht : es_ti va
      · rw [ht] at h; cases h
      · rw [ht] at h
        cases h
        obtain ⟨z, rfl⟩ := es_ti_int hva ht
        exact lv_ineg hx hb hd (k _ _ hl ⟨_, _, rfl, es_un_ok hF _ hva, hs'⟩)
    · cases h
  -- i2c
  · split at h
    · rename_i va S1
      obtain ⟨xx, st', rfl, hva, hs'⟩ := hs
      cases ht : es_ti va
      · rw [ht] at h; cases h
      · rw [ht] at h
        cases h
        obtain ⟨z, rfl⟩ := es_ti_int hva ht
        exact lv_i2c hx hb hd rfl (k _ _ hl ⟨_, _, rfl, es_un_ok hF _ hva, hs'⟩)
    · cases h
  -- dup
  · split at h
    · rename_i va S1
      obtain ⟨xx, st', rfl, hva, hs'⟩ := hs
      cases ht : es_t2 va
      · rw [ht] at h
        cases h
        exact lv_dup hx hb hd (es_cat1 hva ht) (k _ _ hl ⟨_, _, rfl, hva, _, _, rfl, hva, hs'⟩)
      · rw [ht] at h; cases h
    · cases h
  -- pop
  · split at h
    · rename_i va S1
      obtain ⟨xx, st', rfl, hva, hs'⟩ := hs
      cases ht : es_t2 va
      · rw [ht] at h
        cases h
        exact lv_pop hx hb hd (es_cat1 hva ht) (k _ _ hl hs')
      · rw [ht] at h; cases h
    · cases h
  -- dup2
  · split at h
    · rename_i vb va S1
      obtain ⟨y, st1, rfl, hvb, xx, st', rfl, hva, hs'⟩ := hs
      cases ht : (es_t2 va || es_t2 vb)
      · rw [ht] at h
        rw [Bool.or_eq_false_iff] at ht
        cases h
        exact lv_dup2_11 hx hb hd (es_cat1 hvb ht.2) (es_cat1 hva ht.1) (k _ _ hl ⟨_, _, rfl, hvb, _, _, rfl, hva, _, _, rfl, hvb, _, _, rfl, hva, hs'⟩)
      · rw [ht] at h; cases h
    · cases h
  -- goto
  · rename_i off
    cases ht : es_to pc off with
    | none => rw [ht] at h; cases h
    | some t =>
      rw [ht] at h
      cases h
      exact lv_goto hx hb hd (es_to_ok ht) (k _ _ hl hs)
  -- ifnull
  · rename_i off
    split at h
    · rename_i va S1
      obtain ⟨xx, st', rfl, hva, hs'⟩ := hs
      cases h4 : Nat.beq va.1 4
      · rw [h4] at h
        dsimp only [cond_false] at h
        cases h3 : Nat.beq va.1 3
        · rw [h3] at h; cases h
        · rw [h3] at h
          cases h
          have e := es_t3_ref hva h3
          subst e
          exact lv_ifnull hx hb hd (k _ _ hl hs')
      · rw [h4] at h
        dsimp only [cond_true] at h
        cases ht : es_to pc off with
        | none => rw [ht] at h; cases h
        | some t =>
          rw [ht] at h
          cases h
          have e := es_t4_null hva h4
          subst e
          exact lv_ifnullN hx hb hd (es_to_ok ht) (k _ _ hl hs')
    · cases h
  -- ifnonnull
  · rename_i off
    split at h
    · rename_i va S1
      obtain ⟨xx, st', rfl, hva, hs'⟩ := hs
      cases h3 : Nat.beq va.1 3
      · rw [h3] at h
        dsimp only [cond_false] at h
        cases h4 : Nat.beq va.1 4
        · rw [h4] at h; cases h
        · rw [h4] at h
          cases h
          have e := es_t4_null hva h4
          subst e
          exact lv_ifnonnullN hx hb hd (k _ _ hl hs')
      · rw [h3] at h
        dsimp only [cond_true] at h
        cases ht : es_to pc off with
        | none => rw [ht] at h; cases h
        | some t =>
          rw [ht] at h
          cases h
          have e := es_t3_ref hva h3
          subst e
          exact lv_ifnonnull hx hb hd (es_to_ok ht) (k _ _ hl hs')
    · cases h
  · cases h
end Pure
