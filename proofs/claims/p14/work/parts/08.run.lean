abbrev es_K : Type := Nat × es_L × List es_V × List es_O × es_F × Nat × Nat
abbrev es_E : Type := Nat × es_K
abbrev es_M : Type := MethodName × String × ByteArray × Nat × Option FieldType × List (Nat × Nat × Nat × Nat) × List (Nat × List es_I) × Nat × Nat × Nat × Nat
abbrev es_Lf : Type := Nat × es_V × List es_O × es_F
def es_y (M : es_M) : MethodName := M.1
def es_own (M : es_M) : String := M.2.1
def es_code (M : es_M) : ByteArray := M.2.2.1
def es_mL (M : es_M) : Nat := M.2.2.2.1
def es_rt (M : es_M) : Option FieldType := M.2.2.2.2.1
def es_hh (M : es_M) : List (Nat × Nat × Nat × Nat) := M.2.2.2.2.2.1
def es_tab (M : es_M) : List (Nat × List es_I) := M.2.2.2.2.2.2.1
def es_rf (M : es_M) : Nat := M.2.2.2.2.2.2.2.1
def es_mc (M : es_M) : Nat := M.2.2.2.2.2.2.2.2.1
def es_ms (M : es_M) : Nat := M.2.2.2.2.2.2.2.2.2.1
def es_lo (M : es_M) : Nat := M.2.2.2.2.2.2.2.2.2.2
def es_fi : List es_I → Nat → Option es_I
  | [], _ => none
  | q :: t, pc => bif Nat.beq q.1 pc then some q else es_fi t pc
def es_at : List (Nat × List es_I) → Nat → Option es_I
  | [], _ => none
  | q :: t, pc => bif Nat.blt pc q.1 then es_fi q.2 pc else es_at t pc
theorem es_fi_ok : ∀ {l : List es_I} {pc : Nat} {e : es_I}, es_fi l pc = some e → e.1 = pc ∧ e ∈ l
  | [], _, _, h => by cases h
  | q :: t, pc, e, h => by
    unfold es_fi at h
    cases hb : Nat.beq q.1 pc
    · rw [hb] at h
      obtain ⟨h1, h2⟩ := es_fi_ok (show es_fi t pc = some e from h)
      exact ⟨h1, List.mem_cons_of_mem _ h2⟩
    · rw [hb] at h
      cases h
      exact ⟨es_beq.mp hb, List.mem_cons_self⟩
theorem es_at_ok : ∀ {l : List (Nat × List es_I)} {pc : Nat} {e : es_I}, es_at l pc = some e → e.1 = pc ∧ ∃ q ∈ l, e ∈ q.2
  | [], _, _, h => by cases h
  | q :: t, pc, e, h => by
    unfold es_at at h
    cases hb : Nat.blt pc q.1
    · rw [hb] at h
      obtain ⟨h1, r, h2, h3⟩ := es_at_ok (show es_at t pc = some e from h)
      exact ⟨h1, r, List.mem_cons_of_mem _ h2, h3⟩
    · rw [hb] at h
      obtain ⟨h1, h2⟩ := es_fi_ok (show es_fi q.2 pc = some e from h)
      exact ⟨h1, q, List.mem_cons_self, h2⟩
def es_cat {α β : Type} (f : α → Option (List β)) : List α → Option (List β)
  | [] => some []
  | a :: t => match f a with
    | none => none
    | some x => match es_cat f t with
      | none => none
      | some y => some (x ++ y)
theorem es_cat_ok {α β : Type} {f : α → Option (List β)} : ∀ {l : List α} {r : List β}, es_cat f l = some r → ∀ a ∈ l, ∃ x, f a = some x ∧ ∀ z ∈ x, z ∈ r
  | [], _, _, a, ha => by cases ha
  | b :: t, r, h, a, ha => by
    unfold es_cat at h
    cases hb : f b with
    | none => rw [hb] at h; cases h
    | some x =>
      rw [hb] at h
      dsimp only at h
      cases ht : es_cat f t with
      | none => rw [ht] at h; cases h
      | some y =>
        rw [ht] at h
        cases h
        rcases List.mem_cons.mp ha with rfl | ha
        · exact ⟨x, hb, fun z hz => List.mem_append_left _ hz⟩
        · obtain ⟨x', h1, h2⟩ := es_cat_ok ht a ha
          exact ⟨x', h1, fun z hz => List.mem_append_right _ (h2 z hz)⟩
def es_nar (F : es_F) (v : es_V) : Bool := match es_kn F v with
  | some n => Nat.blt n 128
  | none => false
def es_rtv (ret : Option FieldType) (ins : Instr) (S : List es_V) (F : es_F) : Option (Nat × es_V) := match ins with
  | .return_ => match S, ret with
    | [], none => some (0, 0, 0)
    | _, _ => none
  | .ireturn => match S, ret with
    | [v], some .int => bif es_ti v then some (1, v) else none
    | [v], some .boolean => bif es_fitv .boolean F v then some (1, v) else none
    | [v], some .char => bif es_nar F v then some (1, v) else none
    | [v], some .byte => bif es_nar F v then some (1, v) else none
    | _, _ => none
  | .lreturn => match S, ret with
    | [v], some .long => bif Nat.beq v.1 2 then some (1, v) else none
    | _, _ => none
  | .areturn => match S, ret with
    | [v], some (.object _) => bif es_tr v then some (1, v) else none
    | [v], some (.array _) => bif es_tr v then some (1, v) else none
    | _, _ => none
  | _ => none
def es_cts (S : List es_V) : Nat := match S with
  | [] => 0
  | v :: t => (bif Nat.beq v.1 2 then 2 else 1) + es_cts t
/-- the end of a method, as its caller sees it: 0 nothing, 1 a value, 2 and on a thrown one -/
def es_leaf (M : es_M) (E : es_E) : Option es_Lf := match E with
  | (n + 1, _, _, _, AH, F, cs, ss) => match es_hh M with
    | [] => bif Nat.ble cs (es_mc M) && Nat.ble ss (es_ms M) then some (n + 2, (0, 0), AH, F) else none
    | _ => none
  | (0, pc, _, S, AH, F, cs, ss) => match es_at (es_tab M) pc with
    | some e => match e.2.2.2 with
      | 100 :: x :: _ => match es_hh M with
        | [] => bif (Nat.blt cs (es_mc M) && Nat.ble (ss + 6) (es_ms M)) && (Nat.blt 5 (es_rf M) && Nat.ble 100 (es_lo M)) && Nat.ble (es_cts S) 8 then some (x + 2, (0, 0), AH ++ [(1, 0, [])], F) else none
        | _ => none
      | _ => match es_rtv (es_rt M) e.2.1 S F with
        | some q => bif Nat.ble cs (es_mc M) && Nat.ble ss (es_ms M) then some (q.1, q.2, AH, F) else none
        | none => none
    | none => none
def es_al : Nat → List es_V → es_L
  | _, [] => []
  | i, v :: vs => (i, v) :: es_al (bif Nat.beq v.1 2 then i + 2 else i + 1) vs
def es_isr (ins : Instr) : Bool := match ins with
  | .return_ | .ireturn | .lreturn | .areturn => true
  | _ => false
def es_ary (AH : List es_O) (v : es_V) : Option (Nat × Nat × List (Nat × es_V)) := bif Nat.beq v.1 3 then (match AH[v.2]? with
  | some (t + 2, n, c) => bif Nat.blt n 2147483648 then some (t, n, c) else none
  | _ => none) else none
def es_obj (AH : List es_O) (ci : Nat) (v : es_V) : Option (List (Nat × es_V)) := bif Nat.beq v.1 3 then (match AH[v.2]? with
  | some (0, i, c) => bif Nat.beq i ci then some c else none
  | _ => none) else none
/-- which kind of row an instruction reads or writes -/
def es_lt (ins : Instr) (t : Nat) : Bool := match ins with
  | .iaload => Nat.beq t 0
  | .laload => Nat.beq t 1
  | .baload => Nat.beq t 2
  | .aaload => Nat.blt 2 t && Nat.blt t 5
  | _ => false
def es_sti (ins : Instr) (t : Nat) : Bool := match ins with
  | .iastore => Nat.beq t 0
  | .lastore => Nat.beq t 1
  | .bastore => Nat.beq t 2
  | .aastore => Nat.blt 2 t && Nat.blt t 5
  | _ => false
def es_tyf (ci : Nat) : Nat → FieldType := match ci with
  | 0 => tyX0
  | 1 => tyX1
  | 2 => tyX2
  | 3 => tyX3
  | 4 => tyX4
  | 5 => tyX5
  | 6 => tyX6
  | 7 => tyX7
  | 8 => tyX8
  | 9 => tyX9
  | 10 => tyX10
  | 11 => tyX11
  | _ => tyX12
def es_hset (AH : List es_O) (a t n : Nat) (c : List (Nat × es_V)) (j : Nat) (v : es_V) : List es_O := match es_get c j with
  | some _ => AH.set a (t + 2, n, es_set c j v)
  | none => bif Nat.beq v.1 (es_dv t).1 && Nat.beq v.2 (es_dv t).2 then AH else AH.set a (t + 2, n, es_set c j v)
theorem es_hset_eq {AH : List es_O} {a t n : Nat} {c : List (Nat × es_V)} (h : AH[a]? = some (t + 2, n, c)) (j : Nat) (v : es_V) : es_hset AH a t n c j v = AH.set a (t + 2, n, es_aset t c j v) := by
  unfold es_hset es_aset
  cases hg : es_get c j with
  | some w => rfl
  | none =>
    dsimp only
    cases hb : (Nat.beq v.1 (es_dv t).1 && Nat.beq v.2 (es_dv t).2)
    · rfl
    · dsimp only [cond_true]
      obtain ⟨hl, he⟩ := List.getElem?_eq_some_iff.mp h
      rw [← he, List.set_getElem_self]
def es_nrm (F : es_F) (j : Nat) : es_V := match es_kn F (1, j) with
  | some n => (0, n)
  | none => (1, j)
/-- a step that reads or writes the heap and calls nothing -/
def es_hs (SL : Nat) (M : es_M) (e : es_I) (K : es_K) : Option es_K := match K with
  | (pc, L, S, AH, F, cs, ss) => match e.2.1 with
    | .getfield _ => match e.2.2.2, S with
      | ci :: k :: _, v :: S' => match es_obj AH ci v with
        | some c => match es_get c k with
          | some w => some (pc + 3, L, w :: S', AH, F, cs, ss)
          | none => none
        | none => none
      | _, _ => none
    | .putfield _ => match e.2.2.2, S with
      | ci :: k :: _, v :: o :: S' => match es_obj AH ci o with
        | some c => match es_get c k with
          | some _ => bif es_fitv (es_tyf ci k) F v then some (pc + 3, L, S', AH.set o.2 (0, ci, es_set c k v), F, cs, ss) else none
          | none => none
        | none => none
      | _, _ => none
    | .new _ => match e.2.2.2 with
      | 1 :: ci :: _ => match vwCl[ci]? with
        | some r => bif Nat.blt cs (es_mc M) && Nat.ble (ss + r.2.2) (es_ms M) then some (pc + 3, L, (3, AH.length) :: S, AH ++ [(0, ci, es_fs r.2.2 (es_tyf ci))], F, cs + 1, ss + r.2.2) else none
        | none => none
      | _ => none
    | .newarray _ => match e.2.2.2, S with
      | t :: _, v :: S' => match es_kn F v with
        | some n => bif (Nat.blt t 3 && Nat.blt n 1000000) && (Nat.blt cs (es_mc M) && Nat.ble (ss + n) (es_ms M)) then some (pc + 2, L, (3, AH.length) :: S', AH ++ [(t + 2, n, [])], F, cs + 1, ss + n) else none
        | none => none
      | _, _ => none
    | .anewarray _ => match e.2.2.2, S with
      | t :: _, v :: S' => match es_kn F v with
        | some n => bif (Nat.blt t 2 && Nat.blt n 1000000) && (Nat.blt cs (es_mc M) && Nat.ble (ss + n) (es_ms M)) then some (pc + 3, L, (3, AH.length) :: S', AH ++ [(t + 3 + 2, n, [])], F, cs + 1, ss + n) else none
        | none => none
      | _, _ => none
    | .arraylength => match S with
      | v :: S' => bif Nat.beq v.1 5 then some (pc + 1, L, (0, SL) :: S', AH, F, cs, ss) else match es_ary AH v with
        | some (_, n, _) => some (pc + 1, L, (0, n) :: S', AH, F, cs, ss)
        | none => none
      | _ => none
    | .iastore | .lastore | .bastore | .aastore => match S with
      | v :: j :: a :: S' => match es_ary AH a, es_kn F j with
        | some (t, n, c), some jn => bif (es_sti e.2.1 t && Nat.blt jn n) && es_sfit AH F t v then some (pc + 1, L, S', es_hset AH a.2 t n c jn v, F, cs, ss) else none
        | _, _ => none
      | _ => none
    | .iaload | .laload | .baload | .aaload => match S with
      | j :: a :: S' => match es_kn F j with
        | some jn => bif Nat.beq a.1 5 then (match e.2.1 with
            | .iaload => bif Nat.blt jn SL && Nat.blt SL 2147483648 then some (pc + 1, L, es_nrm F jn :: S', AH, F, cs, ss) else none
            | _ => none) else match es_ary AH a with
          | some (t, n, c) => bif es_lt e.2.1 t && Nat.blt jn n then some (pc + 1, L, es_ad t c jn :: S', AH, F, cs, ss) else none
          | none => none
        | none => none
      | _ => none
    | .ldc _ => match e.2.2.2 with
      | _ :: n :: _ => some (pc + 2, L, (0, n) :: S, AH, F, cs, ss)
      | _ => none
    | .ldc_w _ => match e.2.2.2 with
      | _ :: n :: _ => some (pc + 3, L, (0, n) :: S, AH, F, cs, ss)
      | _ => none
    | .ldc2_w _ => match e.2.2.2 with
      | _ :: n :: _ => some (pc + 3, L, (2, n) :: S, AH, F, cs, ss)
      | _ => none
    | _ => none
