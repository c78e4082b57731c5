def es_aset (t : Nat) (c : List (Nat × es_V)) (j : Nat) (v : es_V) : List (Nat × es_V) := match es_get c j with
  | some _ => es_set c j v
  | none => bif Nat.beq v.1 (es_dv t).1 && Nat.beq v.2 (es_dv t).2 then c else es_set c j v
theorem es_ad_set (t : Nat) (c : List (Nat × es_V)) (j i : Nat) (v : es_V) : es_ad t (es_aset t c j v) i = if i = j then v else es_ad t c i := by
  have hs : es_ad t (es_set c j v) i = if i = j then v else es_ad t c i := by
    unfold es_ad
    rw [es_get_set]
    by_cases h : i = j
    · simp [h]
    · simp [h]
  unfold es_aset
  split
  · exact hs
  · rename_i hn
    cases hb : (Nat.beq v.1 (es_dv t).1 && Nat.beq v.2 (es_dv t).2)
    · exact hs
    · rw [Bool.and_eq_true, es_beq, es_beq] at hb
      have e : v = es_dv t := Prod.ext hb.1 hb.2
      dsimp only [cond_true]
      by_cases h : i = j
      · subst h
        rw [if_pos rfl, e]
        unfold es_ad
        rw [hn]
      · rw [if_neg h]
section Ar
variable {p : Program} {l : Launch} {e : Env} {R : Room} {s : State} {m : MethodId} {args : Array Value} {below : List Frame} {meth : Method} {c : Code} {H : Heap} {locs : List Loc} {cells slots : Nat} {Q : State → Prop}
variable {cc : ByteArray} {pc nL : Nat} {ls : Array Slot} {n0 : Nat} {b : Nat → Nat} {ρ : Nat → Int32} {D : va_G} {tys : List (ClassId × FieldType)} {A : Nat → Prop} {H0 : Heap} {rest : List Value} {Ts : List Cond} {own : String}
def es_lop (t : Nat) : Instr := match t with
  | 0 => .iaload
  | 1 => .laload
  | 2 => .baload
  | _ => .aaload
def es_sop (t : Nat) : Instr := match t with
  | 0 => .iastore
  | 1 => .lastore
  | 2 => .bastore
  | _ => .aastore
def es_tyq (t : Nat) : FieldType := match t with
  | 0 => .int
  | 1 => .long
  | 2 => .boolean
  | 3 => .object RX2
  | _ => .object RX7
abbrev es_TY (cI cJ cZ cC cM : ClassId) : List (ClassId × FieldType) := [(cI, .int), (cJ, .long), (cZ, .boolean), (cC, .object RX2), (cM, .object RX7)]
variable {cI cJ cZ cC cM : ClassId}
theorem es_TY_at {t : Nat} {q : ClassId × FieldType} (h : (es_TY cI cJ cZ cC cM)[t]? = some q) : q.2 = es_tyq t ∧ t < 5 := by
  match t, h with
  | 0, h => cases h; exact ⟨rfl, by decide⟩
  | 1, h => cases h; exact ⟨rfl, by decide⟩
  | 2, h => cases h; exact ⟨rfl, by decide⟩
  | 3, h => cases h; exact ⟨rfl, by decide⟩
  | 4, h => cases h; exact ⟨rfl, by decide⟩
  | t + 5, h => simp at h
theorem es_ald (hx : p.tables.exec = Jvm.exec) (hb : c.code = cc) (hK : va_K D vwCl (es_TY cI cJ cZ cC cM) s) {t n j a : Nat} {cs : List (Nat × es_V)} (ho : es_or D (es_TY cI cJ cZ cC cM) n0 b ρ a (t + 2, n, cs) H) (hj : j < n) (hn : n < 2147483648) (hd : decode cc pc = .ok (es_lop t, 1))
    (kk : ∀ x, es_vr n0 b ρ (es_ad t cs j) x → W p l e R s m args below meth c H locs cells slots Q (F0 m (pc + 1) ls (x :: rest))) : W p l e R s m args below meth c H locs cells slots Q (F0 m pc ls (.int (nI j) :: .ref a :: rest)) := by
  obtain ⟨⟨cA, ty⟩, V, h1, h2, h3⟩ := ho
  obtain ⟨e1, ht⟩ := es_TY_at h1
  dsimp only at e1 h2 h3
  subst e1
  have hA := (hK.2 t _ h1).1
  have hin : ¬ (nI j < 0 ∨ (arrV cA n V).slots.size ≤ (nI j).toNatClampNeg) := by rw [arrV_size]; exact nI_in hj hn
  have hrd : (arrV cA n V).slots[(nI j).toNatClampNeg]? = some (V j) := by rw [nI_clamp (by omega), arrV_read _ _ hj]
  have hkn : (arrV cA n V).vm ≠ .unknown := fun q => by cases q
  match t, ht, hA, hd, h3 with
  | 0, _, hA, hd, h3 => exact W.iald hx hb h2 (hA n V) hkn hin hrd rfl rfl hd (kk _ (h3 j hj))
  | 1, _, hA, hd, h3 => exact W.lald hx hb h2 (hA n V) hkn hin hrd rfl rfl hd (kk _ (h3 j hj))
  | 2, _, hA, hd, h3 => exact W.zald hx hb h2 (hA n V) hkn hin hrd rfl rfl hd (kk _ (h3 j hj))
  | 3, _, hA, hd, h3 => exact W.aald hx hb h2 (hA n V) rfl hkn hin hrd rfl rfl hd (kk _ (h3 j hj))
  | 4, _, hA, hd, h3 => exact W.aald hx hb h2 (hA n V) rfl hkn hin hrd rfl rfl hd (kk _ (h3 j hj))
  | t + 5, ht, _, _, _ => exact absurd ht (by omega)
theorem es_aln (hx : p.tables.exec = Jvm.exec) (hb : c.code = cc) (hK : va_K D vwCl (es_TY cI cJ cZ cC cM) s) {t n a : Nat} {cs : List (Nat × es_V)} (ho : es_or D (es_TY cI cJ cZ cC cM) n0 b ρ a (t + 2, n, cs) H) (hd : decode cc pc = .ok (.arraylength, 1))
    (kk : W p l e R s m args below meth c H locs cells slots Q (F0 m (pc + 1) ls (.int (nI n) :: rest))) : W p l e R s m args below meth c H locs cells slots Q (F0 m pc ls (.ref a :: rest)) := by
  obtain ⟨⟨cA, ty⟩, V, h1, h2, h3⟩ := ho
  exact W.alen (n := nI n) hx hb h2 ((hK.2 t _ h1).1 n V) (by rw [arrV_size]; rfl) rfl rfl hd kk
/-- what may be stored: an int, a long, a truth, a reference to an object of the row's own kind -/
def es_sfit (AH : List es_O) (F : es_F) (t : Nat) (v : es_V) : Bool := match t with
  | 0 => es_ti v
  | 1 => Nat.beq v.1 2
  | 2 => es_fitv .boolean F v
  | t + 3 => bif Nat.beq v.1 3 then (match AH[v.2]? with
      | some o => Nat.beq o.1 0 && Nat.beq o.2.1 (bif Nat.beq t 0 then 2 else 7)
      | none => false) else false
theorem es_ast (hx : p.tables.exec = Jvm.exec) (hb : c.code = cc) (hK : va_K D vwCl (es_TY cI cJ cZ cC cM) s) {AH : List es_O} {F : es_F} (hF : es_fr ρ F) (hH : es_hr D (es_TY cI cJ cZ cC cM) n0 b ρ AH H) {t n j a : Nat} {cs : List (Nat × es_V)} (ho : es_or D (es_TY cI cJ cZ cC cM) n0 b ρ a (t + 2, n, cs) H) (hj : j < n) (hn : n < 2147483648) {v : es_V} {x : Value} (hv : es_vr n0 b ρ v x) (hfit : es_sfit AH F t v = true) (hd : decode cc pc = .ok (es_sop t, 1))
    (kk : ∀ (H1 : Heap) (i : Nat), es_or D (es_TY cI cJ cZ cC cM) n0 b ρ a (t + 2, n, es_aset t cs j v) H1 → H1.size = H.size → (∀ q : Nat, q ≠ a → H1[q]? = H[q]?) → W p l e R s m args below meth c H1 (locs ++ [⟨a, i⟩]) cells slots Q (F0 m (pc + 1) ls rest)) : W p l e R s m args below meth c H locs cells slots Q (F0 m pc ls (x :: .int (nI j) :: .ref a :: rest)) := by
  obtain ⟨⟨cA, ty⟩, V, h1, h2, h3⟩ := ho
  obtain ⟨e1, ht⟩ := es_TY_at h1
  dsimp only at e1 h2 h3
  subst e1
  have hA := (hK.2 t _ h1).1
  have hin : ¬ (nI j < 0 ∨ (arrV cA n V).slots.size ≤ (nI j).toNatClampNeg) := by rw [arrV_size]; exact nI_in hj hn
  have hkn : (arrV cA n V).vm ≠ .unknown := fun q => by cases q
  have hcl : (nI j).toNatClampNeg = j := nI_clamp (by omega)
  have hend : ∀ H1 : Heap, H1[a]? = some ((arrV cA n V).setSlot (nI j).toNatClampNeg x) → es_or D (es_TY cI cJ cZ cC cM) n0 b ρ a (t + 2, n, es_aset t cs j v) H1 := by
    intro H1 g1
    rw [hcl, arrV_store] at g1
    refine ⟨(cA, es_tyq t), updV V j x, h1, g1, fun i hi => ?_⟩
    rw [es_ad_set]
    by_cases hij : i = j
    · simp only [updV, if_pos hij]; exact hv
    · simp only [updV, if_neg hij]; exact h3 i hi
  match t, ht, hA, hd, hfit, hend, h1 with
  | 0, _, hA, hd, hfit, hend, _ =>
    obtain ⟨z, rfl⟩ := es_ti_int hv hfit
    exact W.iast hx hb h2 (hA n V) hkn hin rfl rfl hd fun H1 g1 g2 g3 => kk H1 _ (hend H1 g1) g2 g3
  | 1, _, hA, hd, hfit, hend, _ =>
    have e2 := es_t2_long hv hfit
    subst e2
    exact W.last hx hb h2 (hA n V) hkn hin rfl rfl hd fun H1 g1 g2 g3 => kk H1 _ (hend H1 g1) g2 g3
  | 2, _, hA, hd, hfit, hend, _ =>
    have e2 := es_fitv_ok hF hv (ty := .boolean) hfit
    have hti : es_ti v = true := by
      have h9 : (match es_kn F v with | some n => Nat.beq n 0 || Nat.beq n 1 | none => false) = true := hfit
      cases hk : es_kn F v with
      | none => rw [hk] at h9; cases h9
      | some n => exact es_kn_ti hk
    obtain ⟨z, rfl⟩ := es_ti_int hv hti
    refine W.zast hx hb h2 (hA n V) hkn hin rfl rfl hd fun H1 g1 g2 g3 => kk H1 _ (hend H1 ?_) g2 g3
    rw [e2.1] at g1
    exact g1
  | t + 3, ht, hA, hd, hfit, hend, h1 =>
    unfold es_sfit at hfit
    dsimp only at hfit
    cases h3v : Nat.beq v.1 3
    · rw [h3v] at hfit; cases hfit
    · rw [h3v] at hfit
      dsimp only [cond_true] at hfit
      have e2 := es_t3_ref hv h3v
      subst e2
      cases hav : AH[v.2]? with
      | none => rw [hav] at hfit; cases hfit
      | some o =>
        rw [hav] at hfit
        dsimp only at hfit
        obtain ⟨ok, oi, oc⟩ := o
        rw [Bool.and_eq_true, es_beq, es_beq] at hfit
        obtain ⟨hf1, hf2⟩ := hfit
        dsimp only at hf1 hf2
        subst hf1
        obtain ⟨r, V', k1, ⟨cellV, g1, g2, g3, -⟩, -⟩ := hH.2 _ _ hav
        dsimp only at k1 g2
        have hcls := (hK.1 oi r k1).2
        have hr1 : es_tyq (t + 3) = .object r.1 := by
          match t, ht, hf2 with
          | 0, _, hf2 => have e3 : oi = 2 := hf2; subst e3; cases k1; rfl
          | 1, _, hf2 => have e3 : oi = 7 := hf2; subst e3; cases k1; rfl
          | t + 2, ht, _ => exact absurd ht (by omega)
        have hRA := (hK.2 (t + 3) _ h1).2
        dsimp only at hRA
        rw [hr1] at hRA
        obtain ⟨kA, comp, j1, j2, j3, -⟩ := hRA
        have hcomp : comp = D.1 oi := Option.some.inj (j3.symm.trans hcls.1)
        subst hcomp
        obtain ⟨kC, hkC, -⟩ := id hcls.2
        have hd2 : decode cc pc = .ok (.aastore, 1) := hd
        exact W.aast hx hb h2 (fun q h => by cases h) hkn j1 j2 rfl hkC ⟨fun q => hin (Or.inl q), by rw [arrV_size, hcl]; exact hj⟩ g1 (fun q h => by rw [g3] at h; cases h) (by rw [g2]; exact hkC) (by rw [g2]; exact va_assign hcls) rfl rfl hd2 fun H1 w1 w2 w3 => kk H1 _ (hend H1 w1) w2 w3
/-- a new row of a plain type -/
def es_nat (t : Nat) : ArrayType := match t with
  | 0 => .int
  | 1 => .long
  | _ => .boolean
theorem es_newa (hx : p.tables.exec = Jvm.exec) (hb : c.code = cc) (hK : va_K D vwCl (es_TY cI cJ cZ cC cM) s) {AH : List es_O} (hH : es_hr D (es_TY cI cJ cZ cC cM) n0 b ρ AH H) {t n : Nat} (ht : t < 3) (hn : n < 1000000) (hw : (Cond.arrayClass (newarray.typeOf (es_nat t))).before args s = true) (hcells : cells + 1 ≤ R.cells) (hslots : slots + n ≤ R.slots) (hd : decode cc pc = .ok (.newarray (es_nat t), 2))
    (kk : ∀ H1 : Heap, es_hr D (es_TY cI cJ cZ cC cM) n0 b ρ (AH ++ [(t + 2, n, [])]) H1 → H1.size = H.size + 1 → (∀ q : Nat, q < H.size → H1[q]? = H[q]?) → W p l e R s m args below meth c H1 locs (cells + 1) (slots + n) Q (F0 m (pc + 2) ls (.ref H.size :: rest))) : W p l e R s m args below meth c H locs cells slots Q (F0 m pc ls (.int (nI n) :: rest)) := by
  have hcl : (nI n).toNatClampNeg = n := nI_clamp (by omega)
  have hnn : ¬ nI n < 0 := nI_pos (by omega)
  have hby : (nI n).toNatClampNeg * componentBytes (newarray.typeOf (es_nat t)) ≤ 536870912 := by
    rw [hcl]
    match t, ht with
    | 0, _ => show n * 4 ≤ _; omega
    | 1, _ => show n * 8 ≤ _; omega
    | 2, _ => show n * 1 ≤ _; omega
  refine W.newa hx hb hw rfl hd rfl hnn hby hcells (by rw [hcl]; exact hslots) fun cA kA comp f1 f2 f3 => ?_
  generalize hH1 : H.push ({ cls := cA, slots := Array.replicate (nI n).toNatClampNeg (defaultValue (newarray.typeOf (es_nat t))), vm := .none } : Cell) = H1
  have z1 : H1.size = H.size + 1 := by rw [← hH1, Array.size_push]
  have g1 : H1[H.size]? = some (arrV cA n (fun _ => defaultValue (newarray.typeOf (es_nat t)))) := by rw [← hH1, Array.getElem?_push_size, ← arrV_new, hcl]
  have o1 : ∀ q : Nat, q < H.size → H1[q]? = H[q]? := fun q hq => by rw [← hH1, Array.getElem?_push, if_neg (Nat.ne_of_lt hq)]
  rw [hcl]
  refine kk H1 (es_hr_push hH z1 o1 ?_) z1 o1
  match t, ht, f1, g1 with
  | 0, _, f1, g1 =>
    have e1 : cA = cI := Option.some.inj (f1.symm.trans (hK.2 0 _ rfl).2)
    subst e1
    exact ⟨(cA, .int), _, rfl, g1, fun j _ => by show Value.int 0 = Value.int (nI 0); rw [nI_0]⟩
  | 1, _, f1, g1 =>
    have e1 : cA = cJ := Option.some.inj (f1.symm.trans (hK.2 1 _ rfl).2)
    subst e1
    exact ⟨(cA, .long), _, rfl, g1, fun j _ => by show _ = _; rfl⟩
  | 2, _, f1, g1 =>
    have e1 : cA = cZ := Option.some.inj (f1.symm.trans (hK.2 2 _ rfl).2)
    subst e1
    exact ⟨(cA, .boolean), _, rfl, g1, fun j _ => by show Value.int 0 = Value.int (nI 0); rw [nI_0]⟩
/-- a new row of references -/
theorem es_anew (hx : p.tables.exec = Jvm.exec) (hb : c.code = cc) (hown : s.vm.findClass own = some m.cls) (hK : va_K D vwCl (es_TY cI cJ cZ cC cM) s) {AH : List es_O} (hH : es_hr D (es_TY cI cJ cZ cC cM) n0 b ρ AH H) {t n index : Nat} {C : String} (hC : es_tyq (t + 3) = .object C) (ht : t < 2) (hn : n < 1000000) (hw : (Cond.classLink own index C).before args s = true) (ho : (Cond.arrayOver (.object C)).before args s = true) (hcells : cells + 1 ≤ R.cells) (hslots : slots + n ≤ R.slots) (hd : decode cc pc = .ok (.anewarray index, 3))
    (kk : ∀ H1 : Heap, es_hr D (es_TY cI cJ cZ cC cM) n0 b ρ (AH ++ [(t + 3 + 2, n, [])]) H1 → H1.size = H.size + 1 → (∀ q : Nat, q < H.size → H1[q]? = H[q]?) → W p l e R s m args below meth c H1 locs (cells + 1) (slots + n) Q (F0 m (pc + 3) ls (.ref H.size :: rest))) : W p l e R s m args below meth c H locs cells slots Q (F0 m pc ls (.int (nI n) :: rest)) := by
  have hcl : (nI n).toNatClampNeg = n := nI_clamp (by omega)
  have hnn : ¬ nI n < 0 := nI_pos (by omega)
  refine W.anew hx hb hown hw ho rfl hd rfl hnn (by rw [hcl]; omega) hcells (by rw [hcl]; exact hslots) fun cA kA comp f1 f2 f3 f4 => ?_
  generalize hH1 : H.push ({ cls := cA, slots := Array.replicate (nI n).toNatClampNeg .null, vm := .none } : Cell) = H1
  have z1 : H1.size = H.size + 1 := by rw [← hH1, Array.size_push]
  have g1 : H1[H.size]? = some (arrV cA n (fun _ => .null)) := by rw [← hH1, Array.getElem?_push_size, ← arrV_new, hcl]
  have o1 : ∀ q : Nat, q < H.size → H1[q]? = H[q]? := fun q hq => by rw [← hH1, Array.getElem?_push, if_neg (Nat.ne_of_lt hq)]
  rw [hcl]
  refine kk H1 (es_hr_push hH z1 o1 ?_) z1 o1
  match t, ht, hC with
  | 0, _, hC =>
    cases hC
    obtain ⟨_, _, _, _, _, e2⟩ := (hK.2 3 _ rfl).2
    have e1 : cA = cC := Option.some.inj (f1.symm.trans e2)
    subst e1
    exact ⟨(cA, .object RX2), _, rfl, g1, fun j _ => rfl⟩
  | 1, _, hC =>
    cases hC
    obtain ⟨_, _, _, _, _, e2⟩ := (hK.2 4 _ rfl).2
    have e1 : cA = cM := Option.some.inj (f1.symm.trans e2)
    subst e1
    exact ⟨(cA, .object RX7), _, rfl, g1, fun j _ => rfl⟩
/-- a new object -/
def es_fs (N : Nat) (ty : Nat → FieldType) : List (Nat × es_V) := (List.range N).map (fun k => (k, match ty k with
  | .int => ((0, 0) : es_V)
  | .boolean => (0, 0)
  | _ => (4, 0)))
theorem es_get_map {α : Type} (f : Nat → α) : ∀ (l : List Nat) (k : Nat) (v : α), es_get (l.map (fun k => (k, f k))) k = some v → k ∈ l ∧ v = f k
  | [], k, v, h => by cases h
  | a :: t, k, v, h => by
    simp only [List.map_cons, es_get] at h
    cases hb : Nat.beq a k
    · rw [hb] at h
      obtain ⟨h1, h2⟩ := es_get_map f t k v h
      exact ⟨List.mem_cons_of_mem _ h1, h2⟩
    · rw [hb] at h
      have e := es_beq.mp hb
      subst e
      cases h
      exact ⟨List.mem_cons_self, rfl⟩
theorem es_newo (hx : p.tables.exec = Jvm.exec) (hb : c.code = cc) (hown : s.vm.findClass own = some m.cls) (hts : ∀ w ∈ Ts, w.before args s = true) {tys : List (ClassId × FieldType)} (hK : va_K D vwCl tys s) {AH : List es_O} (hH : es_hr D tys n0 b ρ AH H) {C : String} {T : u_T} {N ci index : Nat} (hc : vwCl[ci]? = some (C, T, N)) (hin : ∀ w ∈ u_ws C T N, w ∈ Ts)
    (ty0 : Nat → FieldType) (hty : ∀ k, k < N → parseFieldDescriptor (T k).2.2.1 = some (ty0 k)) (hpl : ∀ k, k < N → ty0 k = .int ∨ ty0 k = .boolean ∨ (∃ C, ty0 k = .object C) ∨ ∃ t, ty0 k = .array t)
    (hw1 : Cond.classLink own index C ∈ Ts) (hw2 : Cond.instantiable C N ∈ Ts) (hw3 : Cond.initialized C ∈ Ts) (hcells : cells + 1 ≤ R.cells) (hslots : slots + N ≤ R.slots) (hd : decode cc pc = .ok (.new index, 3))
    (kk : ∀ H1 : Heap, es_hr D tys n0 b ρ (AH ++ [(0, ci, es_fs N ty0)]) H1 → H1.size = H.size + 1 → (∀ q : Nat, q < H.size → H1[q]? = H[q]?) → W p l e R s m args below meth c H1 locs (cells + 1) (slots + N) Q (F0 m (pc + 3) ls (.ref H.size :: rest))) : W p l e R s m args below meth c H locs cells slots Q (F0 m pc ls rest) := by
  have hKn := hK.1 ci _ hc
  refine W.newcK hx hb hown (hts _ hw1) (hts _ hw2) (hts _ hw3) rfl hd hcells hslots hKn.2.1 rfl fun H1 kC hkC e1 z1 o1 => ?_
  refine kk H1 (es_hr_push hH z1 o1 ?_) z1 o1
  refine ⟨(C, T, N), _, hc, u_born ty0 hts hin hKn hkC e1 hty, fun k v hv => ?_⟩
  obtain ⟨h1, h2⟩ := es_get_map _ _ _ _ hv
  have hk : k < N := List.mem_range.mp h1
  refine ⟨hk, ?_⟩
  subst h2
  rcases hpl k hk with h | h | ⟨C', h⟩ | ⟨t, h⟩
  · rw [h]; show _ = _; rw [nI_0]; rfl
  · rw [h]; show _ = _; rw [nI_0]; rfl
  · rw [h]; rfl
  · rw [h]; rfl
end Ar
