def es_dv (t : Nat) : es_V := match t with
  | 1 => (2, 0)
  | 3 => (4, 0)
  | 4 => (4, 0)
  | _ => (0, 0)
def es_ad (t : Nat) (c : List (Nat × es_V)) (j : Nat) : es_V := match es_get c j with
  | some v => v
  | none => es_dv t
section Hp
variable (D : va_G) (tys : List (ClassId × FieldType)) (n0 : Nat) (b : Nat → Nat) (ρ : Nat → Int32)
def es_or (a : Nat) (o : es_O) (H : Heap) : Prop := match o.1 with
  | 0 => ∃ (r : vw_C) (V : Nat → Value), vwCl[o.2.1]? = some r ∧ t_OB a (D.1 o.2.1) r.2.2 (D.2 o.2.1) H V ∧ ∀ k v, es_get o.2.2 k = some v → k < r.2.2 ∧ es_vr n0 b ρ v (V k)
  | 1 => True
  | t + 2 => ∃ (q : ClassId × FieldType) (V : Nat → Value), tys[t]? = some q ∧ H[a]? = some (arrV q.1 o.2.1 V) ∧ ∀ j, j < o.2.1 → es_vr n0 b ρ (es_ad t o.2.2 j) (V j)
def es_hr (AH : List es_O) (H : Heap) : Prop := H.size = n0 + AH.length ∧ ∀ i o, AH[i]? = some o → es_or D tys n0 b ρ (n0 + i) o H
end Hp
section HpL
variable {D : va_G} {tys : List (ClassId × FieldType)} {n0 : Nat} {b : Nat → Nat} {ρ : Nat → Int32}
theorem es_or_kept {a : Nat} {o : es_O} {H H1 : Heap} (h : es_or D tys n0 b ρ a o H) (hq : H1[a]? = H[a]?) : es_or D tys n0 b ρ a o H1 := by
  obtain ⟨t, i, c⟩ := o
  match t, h with
  | 0, h =>
    obtain ⟨r, V, h1, h2, h3⟩ := h
    exact ⟨r, V, h1, h2.kept hq, h3⟩
  | 1, h => trivial
  | t + 2, h =>
    obtain ⟨q, V, h1, h2, h3⟩ := h
    exact ⟨q, V, h1, hq.trans h2, h3⟩
theorem es_hr_set {AH : List es_O} {H H1 : Heap} {i : Nat} {o : es_O} (h : es_hr D tys n0 b ρ AH H) (hz : H1.size = H.size) (ho : ∀ q : Nat, q ≠ n0 + i → H1[q]? = H[q]?) (hn : es_or D tys n0 b ρ (n0 + i) o H1) : es_hr D tys n0 b ρ (AH.set i o) H1 := by
  refine ⟨by rw [hz, h.1, List.length_set], fun j q hq => ?_⟩
  by_cases hj : i = j
  · subst hj
    rw [List.getElem?_set] at hq
    simp only [if_true] at hq
    by_cases hl : i < AH.length
    · rw [if_pos hl] at hq; cases hq; exact hn
    · rw [if_neg hl] at hq; cases hq
  · rw [List.getElem?_set_ne hj] at hq
    exact es_or_kept (h.2 j q hq) (ho _ (by omega))
theorem es_hr_push {AH : List es_O} {H H1 : Heap} {o : es_O} (h : es_hr D tys n0 b ρ AH H) (hz : H1.size = H.size + 1) (ho : ∀ q : Nat, q < H.size → H1[q]? = H[q]?) (hn : es_or D tys n0 b ρ H.size o H1) : es_hr D tys n0 b ρ (AH ++ [o]) H1 := by
  refine ⟨by rw [hz, h.1, List.length_append]; rfl, fun j q hq => ?_⟩
  by_cases hj : j < AH.length
  · rw [List.getElem?_append_left hj] at hq
    exact es_or_kept (h.2 j q hq) (ho _ (by rw [h.1]; omega))
  · have hl : j < (AH ++ [o]).length := (List.getElem?_eq_some_iff.mp hq).1
    rw [List.length_append] at hl
    have hl2 : j < AH.length + 1 := hl
    have e : j = AH.length := by omega
    subst e
    rw [List.getElem?_append_right (Nat.le_refl _), Nat.sub_self] at hq
    cases hq
    rw [← h.1]
    exact hn
end HpL
def es_fitv (ty : FieldType) (F : es_F) (v : es_V) : Bool := match ty with
  | .int => es_ti v
  | .boolean => match es_kn F v with
    | some n => Nat.beq n 0 || Nat.beq n 1
    | none => false
  | .object _ => es_tr v
  | .array _ => es_tr v
  | _ => false
theorem es_fitv_ok {n0 : Nat} {b : Nat → Nat} {ρ : Nat → Int32} {ty : FieldType} {F : es_F} {v : es_V} {x : Value} (hF : es_fr ρ F) (hv : es_vr n0 b ρ v x) (h : es_fitv ty F v = true) : narrow ty x = x ∧ fits ty x = true := by
  unfold es_fitv at h
  split at h
  · obtain ⟨z, rfl⟩ := es_ti_int hv h
    exact ⟨rfl, rfl⟩
  · cases hk : es_kn F v with
    | none => rw [hk] at h; cases h
    | some n =>
      rw [hk] at h
      dsimp only at h
      rw [Bool.or_eq_true, es_beq, es_beq] at h
      have e := es_kn_ok hF hv hk
      subst e
      rcases h with rfl | rfl
      · exact ⟨by decide +kernel, by decide +kernel⟩
      · exact ⟨by decide +kernel, by decide +kernel⟩
  · rcases es_tr_ref hv h with rfl | ⟨a, rfl⟩
    · exact ⟨rfl, rfl⟩
    · exact ⟨rfl, rfl⟩
  · rcases es_tr_ref hv h with rfl | ⟨a, rfl⟩
    · exact ⟨rfl, rfl⟩
    · exact ⟨rfl, rfl⟩
  · cases h
section Rd
variable {p : Program} {l : Launch} {e : Env} {R : Room} {s : State} {m : MethodId} {args : Array Value} {below : List Frame} {meth : Method} {c : Code} {H : Heap} {locs : List Loc} {cells slots : Nat} {Q : State → Prop}
variable {cc : ByteArray} {pc nL : Nat} {ls : Array Slot} {n0 : Nat} {b : Nat → Nat} {ρ : Nat → Int32} {D : va_G} {tys : List (ClassId × FieldType)} {A : Nat → Prop} {H0 : Heap} {rest : List Value} {Ts : List Cond} {own : String}
theorem es_getf (hx : p.tables.exec = Jvm.exec) (hb : c.code = cc) (hown : s.vm.findClass own = some m.cls) (hts : ∀ w ∈ Ts, w.before args s = true) (hK : va_K D vwCl tys s) {C : String} {T : u_T} {N ci k index a : Nat} (hc : vwCl[ci]? = some (C, T, N)) (hin : ∀ w ∈ u_ws C T N, w ∈ Ts)
    (hlink : Cond.fieldLink own index (T k).1 (T k).2.1 (T k).2.2.1 ∈ Ts) {cs : List (Nat × es_V)} (ho : es_or D tys n0 b ρ a (0, ci, cs) H) {v : es_V} (hv : es_get cs k = some v) (hd : decode cc pc = .ok (.getfield index, 3))
    (kk : ∀ x, es_vr n0 b ρ v x → W p l e R s m args below meth c H locs cells slots Q (F0 m (pc + 3) ls (x :: rest))) : W p l e R s m args below meth c H locs cells slots Q (F0 m pc ls (.ref a :: rest)) := by
  obtain ⟨r, V, h1, ⟨cell, q1, q2, q3, q4⟩, h3⟩ := ho
  have hr : r = (C, T, N) := Option.some.inj (h1.symm.trans hc)
  subst hr
  obtain ⟨hk, hvr⟩ := h3 k v hv
  obtain ⟨hS, hfc, kC, hkC, hkind⟩ := hK.1 ci _ hc
  obtain ⟨cf, kf, fi, f, hi, hsl⟩ := hS k hk
  refine W.getf hx hb hown (hts _ hlink) hi (u_facts hfc hkC (u_lays hts hin hk) hi).1 q1 (by rw [q3]; exact fun h => by cases h) (v := V k) ?_ rfl rfl hd (kk _ hvr)
  rw [hsl, q4 k hk]
theorem es_putf (hx : p.tables.exec = Jvm.exec) (hb : c.code = cc) (hown : s.vm.findClass own = some m.cls) (hts : ∀ w ∈ Ts, w.before args s = true) (hK : va_K D vwCl tys s) {C : String} {T : u_T} {N ci k index a : Nat} (hc : vwCl[ci]? = some (C, T, N)) (hin : ∀ w ∈ u_ws C T N, w ∈ Ts)
    (ty0 : Nat → FieldType) (hty : ∀ k, k < N → parseFieldDescriptor (T k).2.2.1 = some (ty0 k)) (hnm : ∀ a, a < N → ∀ b, b < N → a ≠ b → (T a).2.1 ≠ (T b).2.1)
    (hlink : Cond.fieldLink own index (T k).1 (T k).2.1 (T k).2.2.1 ∈ Ts) (hfin : (T k).2.2.2 = false ∨ (meth.name = "<init>" ∧ (T k).1 = own)) {cs : List (Nat × es_V)} (ho : es_or D tys n0 b ρ a (0, ci, cs) H) {v w : es_V} (hw : es_get cs k = some w) {x : Value} (hv : es_vr n0 b ρ v x) (hn : narrow (ty0 k) x = x) (hft : fits (ty0 k) x = true) (hd : decode cc pc = .ok (.putfield index, 3))
    (kk : ∀ (H1 : Heap) (i : Nat), es_or D tys n0 b ρ a (0, ci, es_set cs k v) H1 → H1.size = H.size → (∀ q : Nat, q ≠ a → H1[q]? = H[q]?) → W p l e R s m args below meth c H1 (locs ++ [⟨a, i⟩]) cells slots Q (F0 m (pc + 3) ls rest)) : W p l e R s m args below meth c H locs cells slots Q (F0 m pc ls (x :: .ref a :: rest)) := by
  have hap := va_apart (own := own) hts hin ty0 hty hnm hK hc
  obtain ⟨r, V, h1, ⟨cell, q1, q2, q3, q4⟩, h3⟩ := ho
  have hr : r = (C, T, N) := Option.some.inj (h1.symm.trans hc)
  subst hr
  obtain ⟨hk, -⟩ := h3 k w hw
  obtain ⟨hS, hfc, kC, hkC, hkind⟩ := hK.1 ci _ hc
  obtain ⟨cf, kf, fi, f, hi, hsl⟩ := hS k hk
  have hst := (u_facts hfc hkC (u_lays hts hin hk) hi).1
  have hend : ∀ H1 : Heap, H1[a]? = some (cell.setSlot (D.2 ci k) x) → es_or D tys n0 b ρ a (0, ci, es_set cs k v) H1 := by
    intro H1 e1
    refine ⟨(C, T, N), updV V k x, hc, ⟨_, e1, q2, q3, t_set q4 hap hk x⟩, fun j u hu => ?_⟩
    rw [es_get_set] at hu
    by_cases hj : j = k
    · rw [if_pos hj] at hu
      cases hu
      subst hj
      refine ⟨hk, ?_⟩
      simp only [updV, if_true]
      exact hv
    · rw [if_neg hj] at hu
      obtain ⟨g1, g2⟩ := h3 j u hu
      refine ⟨g1, ?_⟩
      simp only [updV, if_neg hj]
      exact g2
  by_cases hf : (T k).2.2.2 = false
  · have hlay := hts _ (hin _ (u_in_lay hk))
    unfold u_lay at hlay
    rw [if_neg (by rw [hf]; decide)] at hlay
    have h6 := u_store hfc hkC hkind hlay hi (hty k hk) hn hft
    refine W.putK hx hb (f := f) ⟨hown, hts _ hlink, ⟨_, _, _, hi⟩, hst⟩ (by rw [q2]; exact h6) q1 q3 (by rw [hsl]; exact k2_hasslot (q4 k hk)) rfl rfl hd fun H' e1 e2 e3 => ?_
    rw [hsl] at e1 ⊢
    exact kk H' _ (hend H' e1) e2 e3
  · rcases hfin with h | ⟨hin2, hdecl⟩
    · exact absurd h hf
    · have hlay := hts _ (hin _ (u_in_lay hk))
      unfold u_lay at hlay
      rw [if_pos (show (T k).2.2.2 = true by cases hz : (T k).2.2.2 <;> simp_all)] at hlay
      have hcf : m.cls = cf := by
        obtain ⟨_, _, c', _, _, _, -, -, hf', -, -, -, hown2, -⟩ := Cond.laysFinal_spec hlay
        have e1 : c' = cf := by have := hi.symm.trans hf'; simp at this; exact this.1.symm
        rw [hdecl] at hown2
        rw [← e1]; exact Option.some.inj (hown.symm.trans hown2)
      have h6 := u_fits hfc hkC hkind (u_lays hts hin hk) hi (hty k hk) hn hft
      refine W.putFinK hx hb hown (hts _ hlink) hi hst hcf hin2 (by rw [q2]; exact h6) q1 q3 (by rw [hsl]; exact k2_hasslot (q4 k hk)) rfl rfl hd fun H' e1 e2 e3 => ?_
      rw [hsl] at e1 ⊢
      exact kk H' _ (hend H' e1) e2 e3
end Rd
