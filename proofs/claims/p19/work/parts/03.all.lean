section
abbrev es_V : Type := Nat × Nat
abbrev es_O : Type := Nat × Nat × List (Nat × es_V)
abbrev es_F : Type := List (Nat × Nat)
abbrev es_I : Type := Nat × Instr × Nat × List Nat
abbrev es_L : Type := List (Nat × es_V)
abbrev es_Op : Type := _root_.Jvm.ClassFile.Cond
noncomputable def es_get {α : Type} : List (Nat × α) → Nat → Option α
  | [], _ => none
  | q :: t, k => bif Nat.beq q.1 k then some q.2 else es_get t k
noncomputable def es_set {α : Type} : List (Nat × α) → Nat → α → List (Nat × α)
  | [], k, v => [(k, v)]
  | q :: t, k, v => bif Nat.beq q.1 k then (k, v) :: t else q :: es_set t k v
noncomputable def es_del {α : Type} : List (Nat × α) → Nat → List (Nat × α)
  | [], _ => []
  | q :: t, k => bif Nat.beq q.1 k then es_del t k else q :: es_del t k
theorem es_beq {a b : Nat} : Nat.beq a b = true ↔ a = b := ⟨Nat.eq_of_beq_eq_true, fun h => by subst h; exact Nat.beq_refl a⟩
theorem es_beqf {a b : Nat} : Nat.beq a b = false ↔ a ≠ b := by
  constructor
  · intro h e; subst e; rw [Nat.beq_refl] at h; cases h
  · intro h
    cases hb : Nat.beq a b
    · rfl
    · exact absurd (es_beq.mp hb) h
theorem es_get_set {α : Type} (l : List (Nat × α)) (k j : Nat) (v : α) : es_get (es_set l k v) j = if j = k then some v else es_get l j := by
  induction l with
  | nil =>
    by_cases h : j = k
    · subst h; simp [es_set, es_get, es_beq.mpr rfl]
    · simp [es_set, es_get, es_beqf.mpr (Ne.symm h), h]
  | cons q t ih =>
    cases hq : Nat.beq q.1 k
    · simp only [es_set, hq, cond_false, es_get]
      cases hj : Nat.beq q.1 j
      · simp only [cond_false]; exact ih
      · have e1 := es_beq.mp hj
        have e2 := es_beqf.mp hq
        have e3 : ¬ j = k := fun e => e2 (e1.trans e)
        simp [e3]
    · have e1 := es_beq.mp hq
      simp only [es_set, hq, cond_true, es_get]
      by_cases h : j = k
      · subst h; simp [es_beq.mpr rfl]
      · have e3 : Nat.beq q.1 j = false := es_beqf.mpr (fun e => h (e.symm.trans e1))
        simp [es_beqf.mpr (Ne.symm h), h, e3]
theorem es_get_del {α : Type} (l : List (Nat × α)) (k j : Nat) : es_get (es_del l k) j = if j = k then none else es_get l j := by
  induction l with
  | nil => simp [es_del, es_get]
  | cons q t ih =>
    cases hq : Nat.beq q.1 k
    · simp only [es_del, hq, cond_false, es_get]
      cases hj : Nat.beq q.1 j
      · simp only [cond_false]; exact ih
      · have e1 := es_beq.mp hj
        have e2 := es_beqf.mp hq
        have e3 : ¬ j = k := fun e => e2 (e1.trans e)
        simp [e3]
    · have e1 := es_beq.mp hq
      simp only [es_del, hq, cond_true, es_get]
      rw [ih]
      by_cases h : j = k
      · simp [h]
      · have e3 : Nat.beq q.1 j = false := es_beqf.mpr (fun e => h (e.symm.trans e1))
        simp [h, e3]
noncomputable def es_force {β : Type} (n : Nat) (k : Nat → β) : β := @Nat.rec (fun _ => β) (k 0) (fun m _ => k (m + 1)) n
theorem es_force_eq {β : Type} (n : Nat) (k : Nat → β) : es_force n k = k n := by cases n <;> rfl
noncomputable def es_kn (F : es_F) (v : es_V) : Option Nat := match v.1 with
  | 0 => some v.2
  | 1 => match F[v.2]? with
    | some q => bif Nat.beq q.1 q.2 then some ((q.1 + 2147483648) % 4294967296) else none
    | none => none
  | _ => none
noncomputable def es_ti (v : es_V) : Bool := Nat.beq v.1 0 || (Nat.beq v.1 1 || Nat.beq v.1 6)
noncomputable def es_tr (v : es_V) : Bool := Nat.beq v.1 3 || (Nat.beq v.1 4 || (Nat.beq v.1 5 || (Nat.beq v.1 8 || Nat.beq v.1 9)))
noncomputable def es_ta (v : es_V) : Bool := es_tr v || Nat.beq v.1 7
noncomputable def es_c (z : Int32) : es_V := es_force z.toBitVec.toNat (fun n => (0, n))
noncomputable def es_lc (z : Int64) : es_V := es_force z.toBitVec.toNat (fun n => (2, n))
noncomputable def es_bz (n : Nat) : Nat := (n + 2147483648) % 4294967296
noncomputable def es_cmp (op : es_Op) (x y : Nat) : Bool := match op with
  | .eq => Nat.beq x y
  | .ne => !Nat.beq x y
  | .lt => Nat.blt x y
  | .ge => Nat.ble y x
  | .gt => Nat.blt y x
  | .le => Nat.ble x y
noncomputable def es_sw (op : es_Op) : es_Op := match op with
  | .eq => .eq
  | .ne => .ne
  | .lt => .gt
  | .ge => .le
  | .gt => .lt
  | .le => .ge
noncomputable def es_ng (op : es_Op) : es_Op := match op with
  | .eq => .ne
  | .ne => .eq
  | .lt => .ge
  | .ge => .lt
  | .gt => .le
  | .le => .gt
noncomputable def es_iv (op : es_Op) (c : Nat) (q : Nat × Nat) : List (Nat × Nat) := match op with
  | .eq => bif Nat.ble q.1 c && Nat.ble c q.2 then [(c, c)] else []
  | .ne => bif Nat.beq q.1 c then (bif Nat.beq q.2 c then [] else [(c + 1, q.2)]) else bif Nat.beq q.2 c then [(q.1, c - 1)] else [q]
  | .lt => bif Nat.blt q.1 c then [(q.1, bif Nat.blt q.2 c then q.2 else c - 1)] else []
  | .ge => bif Nat.ble c q.2 then [(bif Nat.ble c q.1 then q.1 else c, q.2)] else []
  | .gt => bif Nat.blt c q.2 then [(bif Nat.blt c q.1 then q.1 else c + 1, q.2)] else []
  | .le => bif Nat.ble q.1 c then [(q.1, bif Nat.ble q.2 c then q.2 else c)] else []
noncomputable def es_br (F : es_F) (op : es_Op) (a b : es_V) : List es_F := match es_kn F a, es_kn F b with
  | some x, some y => bif es_cmp op (es_bz x) (es_bz y) then [F] else []
  | none, some y => bif Nat.beq a.1 1 then (match F[a.2]? with
      | some q => (es_iv op (es_bz y) q).map (fun r => F.set a.2 r)
      | none => [F]) else [F]
  | some x, none => bif Nat.beq b.1 1 then (match F[b.2]? with
      | some q => (es_iv (es_sw op) (es_bz x) q).map (fun r => F.set b.2 r)
      | none => [F]) else [F]
  | none, none => [F]
noncomputable def es_st (L : es_L) (i : Nat) (v : es_V) : es_L := es_set (match i with
  | 0 => L
  | j + 1 => match es_get L j with
    | some w => bif Nat.beq w.1 2 then es_del L j else L
    | none => L) i v
noncomputable def es_bin (f : Int32 → Int32 → Int32) (F : es_F) (a b : es_V) : es_V := match es_kn F a, es_kn F b with
  | some x, some y => es_c (f (nI x) (nI y))
  | _, _ => (6, 0)
noncomputable def es_lbin (f : Int64 → Int64 → Int64) (a b : es_V) : es_V := es_lc (f (lN a.2) (lN b.2))
noncomputable def es_un (f : Int32 → Int32) (F : es_F) (a : es_V) : es_V := match es_kn F a with
  | some x => es_c (f (nI x))
  | none => (6, 0)
noncomputable def es_to (pc : Nat) (off : Int) : Option Nat := match (pc : Int) + off with
  | .ofNat t => some t
  | .negSucc _ => none
noncomputable def es_i2 (f : Int32 → Int32 → Int32) (pc : Nat) (L : es_L) (S : List es_V) (F : es_F) : Option (Nat × es_L × List es_V) := match S with
  | b :: a :: S' => bif es_ti a && es_ti b then some (pc + 1, L, es_bin f F a b :: S') else none
  | _ => none
noncomputable def es_d2 (f : Int32 → Int32 → Int32) (pc : Nat) (L : es_L) (S : List es_V) (F : es_F) : Option (Nat × es_L × List es_V) := match S with
  | b :: a :: S' => match es_kn F b with
    | some y => bif es_ti a && (es_ti b && !decide (nI y = 0)) then some (pc + 1, L, es_bin f F a b :: S') else none
    | none => none
  | _ => none
noncomputable def es_l2 (f : Int64 → Int64 → Int64) (pc : Nat) (L : es_L) (S : List es_V) : Option (Nat × es_L × List es_V) := match S with
  | b :: a :: S' => bif Nat.beq a.1 2 && Nat.beq b.1 2 then some (pc + 1, L, es_lbin f a b :: S') else none
  | _ => none
noncomputable def es_lsh (f : Int64 → Int32 → Int64) (pc : Nat) (L : es_L) (S : List es_V) (F : es_F) : Option (Nat × es_L × List es_V) := match S with
  | b :: a :: S' => match es_kn F b with
    | some y => bif Nat.beq a.1 2 && es_ti b then some (pc + 1, L, es_lc (f (lN a.2) (nI y)) :: S') else none
    | none => none
  | _ => none
noncomputable def es_ld (t : es_V → Bool) (i n pc : Nat) (L : es_L) (S : List es_V) : Option (Nat × es_L × List es_V) := match es_get L i with
  | some v => bif t v then some (pc + n, L, v :: S) else none
  | none => none
noncomputable def es_sto (t : es_V → Bool) (nL i n pc : Nat) (L : es_L) (S : List es_V) : Option (Nat × es_L × List es_V) := match S with
  | v :: S' => bif t v && Nat.blt i nL then some (pc + n, es_st L i v, S') else none
  | _ => none
noncomputable def es_lst (nL i n pc : Nat) (L : es_L) (S : List es_V) : Option (Nat × es_L × List es_V) := match S with
  | v :: S' => bif Nat.beq v.1 2 && Nat.blt (i + 1) nL then some (pc + n, es_del (es_st L i v) (i + 1), S') else none
  | _ => none
noncomputable def es_t2 (v : es_V) : Bool := Nat.beq v.1 2
noncomputable def es_pure (nL : Nat) (ins : Instr) (pc : Nat) (L : es_L) (S : List es_V) (F : es_F) : Option (Nat × es_L × List es_V) := match ins with
  | .iconst n => some (pc + 1, L, es_c (Int32.ofInt n) :: S)
  | .bipush n => some (pc + 2, L, es_c ((Int8.ofInt n).toInt32) :: S)
  | .sipush n => some (pc + 3, L, es_c ((Int16.ofInt n).toInt32) :: S)
  | .lconst n => some (pc + 1, L, es_lc (Int64.ofNat (n : Nat)) :: S)
  | .iload_n k => es_ld es_ti k 1 pc L S
  | .iload k => es_ld es_ti k 2 pc L S
  | .lload_n k => es_ld es_t2 k 1 pc L S
  | .lload k => es_ld es_t2 k 2 pc L S
  | .aload_n k => es_ld es_tr k 1 pc L S
  | .aload k => es_ld es_tr k 2 pc L S
  | .istore_n k => es_sto es_ti nL k 1 pc L S
  | .istore k => es_sto es_ti nL k 2 pc L S
  | .lstore_n k => es_lst nL k 1 pc L S
  | .lstore k => es_lst nL k 2 pc L S
  | .astore_n k => es_sto es_ta nL k 1 pc L S
  | .astore k => es_sto es_ta nL k 2 pc L S
  | .iinc k n => match es_get L k with
    | some v => bif es_ti v && Nat.blt k nL then some (pc + 3, es_st L k (es_un (fun x => x + Int32.ofInt n) F v), S) else none
    | none => none
  | .iadd => es_i2 (fun x y => x + y) pc L S F
  | .isub => es_i2 (fun x y => x - y) pc L S F
  | .imul => es_i2 (fun x y => x * y) pc L S F
  | .iand => es_i2 (fun x y => x &&& y) pc L S F
  | .ior => es_i2 (fun x y => x ||| y) pc L S F
  | .ixor => es_i2 (fun x y => x ^^^ y) pc L S F
  | .ishl => es_i2 (fun x y => x <<< (y &&& 31)) pc L S F
  | .ishr => es_i2 (fun x y => x >>> (y &&& 31)) pc L S F
  | .iushr => es_i2 (fun x y => (x.toUInt32 >>> (y.toUInt32 &&& Int32.toUInt32 31)).toInt32) pc L S F
  | .idiv => es_d2 (fun x y => x / y) pc L S F
  | .irem => es_d2 (fun x y => x - x / y * y) pc L S F
  | .ladd => es_l2 (fun x y => x + y) pc L S
  | .lsub => es_l2 (fun x y => x - y) pc L S
  | .lmul => es_l2 (fun x y => x * y) pc L S
  | .land => es_l2 (fun x y => x &&& y) pc L S
  | .lor => es_l2 (fun x y => x ||| y) pc L S
  | .ldiv => match S with
    | b :: a :: S' => bif (Nat.beq a.1 2 && Nat.beq b.1 2) && !decide (lN b.2 = 0) then some (pc + 1, L, es_lbin (fun x y => x / y) a b :: S') else none
    | _ => none
  | .lshl => es_lsh (fun x y => x <<< (y.toInt64 &&& 63)) pc L S F
  | .lshr => es_lsh (fun x y => x >>> (y.toInt64 &&& 63)) pc L S F
  | .lushr => es_lsh (fun x y => (x.toUInt64 >>> (y.toInt64.toUInt64 &&& Int64.toUInt64 63)).toInt64) pc L S F
  | .i2l => match S with
    | a :: S' => match es_kn F a with
      | some x => some (pc + 1, L, es_lc (nI x).toInt64 :: S')
      | none => none
    | _ => none
  | .l2i => match S with
    | a :: S' => bif Nat.beq a.1 2 then some (pc + 1, L, es_c (lN a.2).toInt32 :: S') else none
    | _ => none
  | .lcmp => match S with
    | b :: a :: S' => bif Nat.beq a.1 2 && Nat.beq b.1 2 then some (pc + 1, L, es_c (lg_cmp (lN a.2) (lN b.2)) :: S') else none
    | _ => none
  | .aconst_null => some (pc + 1, L, (4, 0) :: S)
  | .ineg => match S with
    | a :: S' => bif es_ti a then some (pc + 1, L, es_un (fun x => -x) F a :: S') else none
    | _ => none
  | .i2c => match S with
    | a :: S' => bif es_ti a then some (pc + 1, L, es_un (fun x => (x.toUInt32 % 65536).toInt32) F a :: S') else none
    | _ => none
  | .dup => match S with
    | a :: S' => bif es_t2 a then none else some (pc + 1, L, a :: a :: S')
    | _ => none
  | .pop => match S with
    | a :: S' => bif es_t2 a then none else some (pc + 1, L, S')
    | _ => none
  | .dup2 => match S with
    | b :: a :: S' => bif es_t2 a || es_t2 b then none else some (pc + 1, L, b :: a :: b :: a :: S')
    | _ => none
  | .goto off => match es_to pc off with
    | some t => some (t, L, S)
    | none => none
  | .ifnull off => match S with
    | a :: S' => bif Nat.beq a.1 4 then (match es_to pc off with
        | some t => some (t, L, S')
        | none => none) else bif Nat.beq a.1 3 then some (pc + 3, L, S') else none
    | _ => none
  | .ifnonnull off => match S with
    | a :: S' => bif Nat.beq a.1 3 then (match es_to pc off with
        | some t => some (t, L, S')
        | none => none) else bif Nat.beq a.1 4 then some (pc + 3, L, S') else none
    | _ => none
  | _ => none
noncomputable def es_len (ins : Instr) : Nat := match ins with
  | .bipush _ | .iload _ | .lload _ | .aload _ | .istore _ | .lstore _ | .astore _ | .ldc _ | .newarray _ => 2
  | .sipush _ | .iinc _ _ | .goto _ | .ifnull _ | .ifnonnull _ | .ifCond _ _ | .if_icmp _ _ | .getfield _ | .putfield _ | .getstatic _ | .new _ | .anewarray _ | .invokevirtual _ | .invokespecial _ | .invokestatic _ | .ldc_w _ | .ldc2_w _ => 3
  | _ => 1

end
section
noncomputable def es_zb (x : Int32) : Nat := (x.toInt + 2147483648).toNat
theorem es_rng (x : Int32) : -2147483648 ≤ x.toInt ∧ x.toInt < 2147483648 := ⟨Int32.le_toInt x, Int32.toInt_lt x⟩
theorem es_nb (x : Int32) : nI x.toBitVec.toNat = x := by
  apply Int32.toBitVec_inj.mp
  show BitVec.ofNat 32 x.toBitVec.toNat = x.toBitVec
  simp
theorem es_lb (x : Int64) : lN x.toBitVec.toNat = x := by
  apply Int64.toBitVec_inj.mp
  show BitVec.ofNat 64 x.toBitVec.toNat = x.toBitVec
  simp
theorem es_nIt (n : Nat) : (nI n).toInt = Int.bmod n 4294967296 := by
  show (Int32.ofNat n).toInt = _
  simp
theorem es_zbn (n : Nat) : es_zb (nI n) = es_bz n := by
  unfold es_zb es_bz
  rw [es_nIt]
  simp only [Int.bmod]
  split <;> omega
theorem es_zinj {x y : Int32} (h : es_zb x = es_zb y) : x = y := by
  have h1 := es_rng x
  have h2 := es_rng y
  unfold es_zb at h
  apply Int32.toInt_inj.mp
  omega
theorem es_zlt {x y : Int32} : x < y ↔ es_zb x < es_zb y := by
  have h1 := es_rng x
  have h2 := es_rng y
  unfold es_zb
  rw [Int32.lt_iff_toInt_lt]
  omega
theorem es_zle {x y : Int32} : x ≤ y ↔ es_zb x ≤ es_zb y := by
  have h1 := es_rng x
  have h2 := es_rng y
  unfold es_zb
  rw [Int32.le_iff_toInt_le]
  omega
theorem es_bzt (x : Int32) : nI ((es_zb x + 2147483648) % 4294967296) = x := by
  apply es_zinj
  rw [es_zbn]
  have h1 := es_rng x
  unfold es_zb es_bz
  omega
theorem es_blt {a b : Nat} : Nat.blt a b = true ↔ a < b := by
  show Nat.ble (a + 1) b = true ↔ a < b
  rw [Nat.ble_eq]; omega
theorem es_c_eq (z : Int32) : es_c z = (0, z.toBitVec.toNat) := es_force_eq _ _
theorem es_lc_eq (z : Int64) : es_lc z = (2, z.toBitVec.toNat) := es_force_eq _ _
section Rel
variable (n0 : Nat) (b : Nat → Nat) (ρ : Nat → Int32)
noncomputable def es_vr (v : es_V) (x : Value) : Prop := match v.1 with
  | 0 => x = .int (nI v.2)
  | 1 => x = .int (ρ v.2)
  | 2 => x = .long (lN v.2)
  | 3 => x = .ref (n0 + v.2)
  | 4 => x = .null
  | 5 => x = .ref (b 0)
  | 7 => ∃ a : Nat, x = .ref a
  | 8 => x = .ref (b (2 * v.2 + 1))
  | 9 => x = .ref (b (2 * v.2 + 2))
  | 10 => x = .null ∨ ∃ a : Nat, x = .ref a
  | _ => ∃ z : Int32, x = .int z
noncomputable def es_sr : List es_V → List Value → Prop
  | [], st => st = []
  | v :: S, st => ∃ x st', st = x :: st' ∧ es_vr n0 b ρ v x ∧ es_sr S st'
noncomputable def es_lr (nL : Nat) (L : es_L) (ls : Array Slot) : Prop := ls.size = nL ∧ lv_wf ls ∧ ∀ i v, es_get L i = some v → ∃ x, ls[i]? = some (.val x) ∧ es_vr n0 b ρ v x
noncomputable def es_fr (F : es_F) : Prop := ∀ (k : Nat) (q : Nat × Nat), F[k]? = some q → q.1 ≤ es_zb (ρ k) ∧ es_zb (ρ k) ≤ q.2
end Rel
section RelLaws
variable {n0 : Nat} {b : Nat → Nat} {ρ : Nat → Int32}
theorem es_vrc (z : Int32) : es_vr n0 b ρ (es_c z) (.int z) := by
  rw [es_c_eq]
  show Value.int z = Value.int (nI z.toBitVec.toNat)
  rw [es_nb]
theorem es_vrlc (z : Int64) : es_vr n0 b ρ (es_lc z) (.long z) := by
  rw [es_lc_eq]
  show Value.long z = Value.long (lN z.toBitVec.toNat)
  rw [es_lb]
theorem es_ti_int {v : es_V} {x : Value} (h : es_vr n0 b ρ v x) (ht : es_ti v = true) : ∃ z, x = .int z := by
  obtain ⟨t, n⟩ := v
  simp only [es_ti, Bool.or_eq_true, es_beq] at ht
  rcases ht with rfl | rfl | rfl
  · exact ⟨_, h⟩
  · exact ⟨_, h⟩
  · exact h
theorem es_t2_long {v : es_V} {x : Value} (h : es_vr n0 b ρ v x) (ht : Nat.beq v.1 2 = true) : x = .long (lN v.2) := by
  obtain ⟨t, n⟩ := v
  have e := es_beq.mp ht
  dsimp only at e
  subst e
  exact h
theorem es_t3_ref {v : es_V} {x : Value} (h : es_vr n0 b ρ v x) (ht : Nat.beq v.1 3 = true) : x = .ref (n0 + v.2) := by
  obtain ⟨t, n⟩ := v
  have e := es_beq.mp ht
  dsimp only at e
  subst e
  exact h
theorem es_t4_null {v : es_V} {x : Value} (h : es_vr n0 b ρ v x) (ht : Nat.beq v.1 4 = true) : x = .null := by
  obtain ⟨t, n⟩ := v
  have e := es_beq.mp ht
  dsimp only at e
  subst e
  exact h
theorem es_tr_ref {v : es_V} {x : Value} (h : es_vr n0 b ρ v x) (ht : es_tr v = true) : x = .null ∨ ∃ a, x = .ref a := by
  obtain ⟨t, n⟩ := v
  simp only [es_tr, Bool.or_eq_true, es_beq] at ht
  rcases ht with rfl | rfl | rfl | rfl | rfl
  · exact Or.inr ⟨_, h⟩
  · exact Or.inl h
  · exact Or.inr ⟨_, h⟩
  · exact Or.inr ⟨_, h⟩
  · exact Or.inr ⟨_, h⟩
theorem es_t7_ref {v : es_V} {x : Value} (h : es_vr n0 b ρ v x) (ht : es_ta v = true) : x = .null ∨ ∃ a, x = .ref a := by
  unfold es_ta at ht
  rw [Bool.or_eq_true, es_beq] at ht
  rcases ht with h1 | h1
  · exact es_tr_ref h h1
  · obtain ⟨t, n⟩ := v
    dsimp only at h1
    subst h1
    exact Or.inr h
theorem es_cat1 {v : es_V} {x : Value} (h : es_vr n0 b ρ v x) (ht : Nat.beq v.1 2 = false) : x.category = 1 := by
  obtain ⟨t, n⟩ := v
  have e := es_beqf.mp ht
  dsimp only at e
  match t, h with
  | 0, h => have h' : x = .int (nI n) := h; rw [h']; rfl
  | 1, h => have h' : x = .int (ρ n) := h; rw [h']; rfl
  | 2, h => exact absurd rfl e
  | 3, h => have h' : x = .ref (n0 + n) := h; rw [h']; rfl
  | 4, h => have h' : x = .null := h; rw [h']; rfl
  | 5, h => have h' : x = .ref (b 0) := h; rw [h']; rfl
  | 6, h => obtain ⟨z, hz⟩ : ∃ z : Int32, x = .int z := h; rw [hz]; rfl
  | 7, h => obtain ⟨z, hz⟩ : ∃ a : Nat, x = .ref a := h; rw [hz]; rfl
  | 8, h => have h' : x = .ref (b (2 * n + 1)) := h; rw [h']; rfl
  | 9, h => have h' : x = .ref (b (2 * n + 2)) := h; rw [h']; rfl
  | 10, h =>
    have h' : x = .null ∨ ∃ a : Nat, x = .ref a := h
    rcases h' with h' | ⟨a, h'⟩
    · rw [h']; rfl
    · rw [h']; rfl
  | t + 11, h => obtain ⟨z, hz⟩ : ∃ z : Int32, x = .int z := h; rw [hz]; rfl
theorem es_kn_ok {F : es_F} {v : es_V} {x : Value} {n : Nat} (hF : es_fr ρ F) (h : es_vr n0 b ρ v x) (hk : es_kn F v = some n) : x = .int (nI n) := by
  obtain ⟨t, m⟩ := v
  match t, h, hk with
  | 0, h, hk => have e : some m = some n := hk; cases e; exact h
  | 1, h, hk =>
    have h' : x = .int (ρ m) := h
    have hk' : (match F[m]? with | some q => bif Nat.beq q.1 q.2 then some ((q.1 + 2147483648) % 4294967296) else none | none => none) = some n := hk
    cases hq : F[m]? with
    | none => rw [hq] at hk'; cases hk'
    | some q =>
      rw [hq] at hk'
      dsimp only at hk'
      cases hb : Nat.beq q.1 q.2
      · rw [hb] at hk'; cases hk'
      · rw [hb] at hk'
        have e := es_beq.mp hb
        have e2 := hF m q hq
        have e3 : q.1 = es_zb (ρ m) := by omega
        have e4 : some ((q.1 + 2147483648) % 4294967296) = some n := hk'
        rw [h', ← Option.some.inj e4, e3, es_bzt]
  | 2, h, hk => cases hk
  | 3, h, hk => cases hk
  | 4, h, hk => cases hk
  | 5, h, hk => cases hk
  | t + 6, h, hk => cases hk
theorem es_kn_ti {F : es_F} {v : es_V} {n : Nat} (hk : es_kn F v = some n) : es_ti v = true := by
  obtain ⟨t, m⟩ := v
  match t, hk with
  | 0, hk => rfl
  | 1, hk => rfl
  | 2, hk => cases hk
  | 3, hk => cases hk
  | 4, hk => cases hk
  | 5, hk => cases hk
  | t + 6, hk => cases hk
theorem es_bin_ok {F : es_F} (hF : es_fr ρ F) (f : Int32 → Int32 → Int32) {va vb : es_V} {x y : Int32} (ha : es_vr n0 b ρ va (.int x)) (hb : es_vr n0 b ρ vb (.int y)) : es_vr n0 b ρ (es_bin f F va vb) (.int (f x y)) := by
  unfold es_bin
  split
  · rename_i p q hp hq
    have e1 := es_kn_ok hF ha hp
    have e2 := es_kn_ok hF hb hq
    cases e1; cases e2
    exact es_vrc _
  · exact ⟨_, rfl⟩
theorem es_un_ok {F : es_F} (hF : es_fr ρ F) (f : Int32 → Int32) {va : es_V} {x : Int32} (ha : es_vr n0 b ρ va (.int x)) : es_vr n0 b ρ (es_un f F va) (.int (f x)) := by
  unfold es_un
  split
  · rename_i p hp
    have e1 := es_kn_ok hF ha hp
    cases e1
    exact es_vrc _
  · exact ⟨_, rfl⟩
theorem es_cmp_eq (op : es_Op) (x y : Int32) : es_cmp op (es_zb x) (es_zb y) = true ↔ (match op with
  | .eq => x = y
  | .ne => ¬ x = y
  | .lt => x < y
  | .ge => y ≤ x
  | .gt => y < x
  | .le => x ≤ y) := by
  cases op
  · exact ⟨fun h => es_zinj (es_beq.mp h), fun h => es_beq.mpr (by rw [show x = y from h])⟩
  · show (!Nat.beq (es_zb x) (es_zb y)) = true ↔ ¬ x = y
    rw [Bool.not_eq_true', es_beqf]
    exact ⟨fun h e => h (by rw [e]), fun h e => h (es_zinj e)⟩
  · show Nat.blt _ _ = true ↔ x < y
    rw [es_blt, es_zlt]
  · show Nat.ble _ _ = true ↔ y ≤ x
    rw [Nat.ble_eq, es_zle]
  · show Nat.blt _ _ = true ↔ y < x
    rw [es_blt, es_zlt]
  · show Nat.ble _ _ = true ↔ x ≤ y
    rw [Nat.ble_eq, es_zle]
theorem es_cmp_ng (op : es_Op) (x y : Nat) : es_cmp (es_ng op) x y = !es_cmp op x y := by
  have hlt : ∀ a c : Nat, Nat.ble a c = !Nat.blt c a := fun a c => by
    cases h : Nat.blt c a
    · have : ¬ c < a := fun e => by rw [es_blt.mpr e] at h; cases h
      exact Nat.ble_eq.mpr (by omega)
    · have := es_blt.mp h
      cases h2 : Nat.ble a c
      · rfl
      · have := Nat.ble_eq.mp h2; omega
  cases op <;> simp only [es_ng, es_cmp, Bool.not_not]
  · exact hlt _ _
  · rw [hlt, Bool.not_not]
  · exact hlt _ _
  · rw [hlt, Bool.not_not]
theorem es_cmp_sw (op : es_Op) (x y : Nat) : es_cmp (es_sw op) y x = es_cmp op x y := by
  have hb : Nat.beq y x = Nat.beq x y := by
    cases h : Nat.beq x y
    · exact es_beqf.mpr (Ne.symm (es_beqf.mp h))
    · exact es_beq.mpr (es_beq.mp h).symm
  cases op <;> simp only [es_sw, es_cmp, hb]
theorem es_iv_ok (op : es_Op) (c : Nat) (q : Nat × Nat) (z : Nat) (h1 : q.1 ≤ z) (h2 : z ≤ q.2) (h : es_cmp op z c = true) : ∃ r ∈ es_iv op c q, r.1 ≤ z ∧ z ≤ r.2 := by
  cases op
  · have e := es_beq.mp (show Nat.beq z c = true from h)
    subst e
    simp [es_iv, Nat.ble_eq.mpr h1, Nat.ble_eq.mpr h2]
  · have e : z ≠ c := es_beqf.mp (by simpa [es_cmp] using h)
    simp only [es_iv]
    cases ha : Nat.beq q.1 c
    · cases hb : Nat.beq q.2 c
      · exact ⟨q, List.mem_singleton.mpr rfl, h1, h2⟩
      · have := es_beq.mp hb
        exact ⟨(q.1, c - 1), List.mem_singleton.mpr rfl, h1, by show z ≤ c - 1; omega⟩
    · have := es_beq.mp ha
      cases hb : Nat.beq q.2 c
      · exact ⟨(c + 1, q.2), List.mem_singleton.mpr rfl, by show c + 1 ≤ z; omega, h2⟩
      · have := es_beq.mp hb; omega
  · have e : z < c := es_blt.mp h
    simp only [es_iv, es_blt.mpr (show q.1 < c by omega), cond_true]
    refine ⟨_, List.mem_singleton.mpr rfl, h1, ?_⟩
    cases hb : Nat.blt q.2 c
    · show z ≤ c - 1; omega
    · exact h2
  · have e : c ≤ z := Nat.ble_eq.mp h
    simp only [es_iv, Nat.ble_eq.mpr (show c ≤ q.2 by omega), cond_true]
    refine ⟨_, List.mem_singleton.mpr rfl, ?_, h2⟩
    cases hb : Nat.ble c q.1
    · exact e
    · exact h1
  · have e : c < z := es_blt.mp h
    simp only [es_iv, es_blt.mpr (show c < q.2 by omega), cond_true]
    refine ⟨_, List.mem_singleton.mpr rfl, ?_, h2⟩
    cases hb : Nat.blt c q.1
    · exact e
    · exact h1
  · have e : z ≤ c := Nat.ble_eq.mp h
    simp only [es_iv, Nat.ble_eq.mpr (show q.1 ≤ c by omega), cond_true]
    refine ⟨_, List.mem_singleton.mpr rfl, h1, ?_⟩
    cases hb : Nat.ble q.2 c
    · exact e
    · exact h2
theorem es_fr_set {F : es_F} (hF : es_fr ρ F) {k : Nat} {r : Nat × Nat} (h1 : r.1 ≤ es_zb (ρ k)) (h2 : es_zb (ρ k) ≤ r.2) : es_fr ρ (F.set k r) := by
  intro j q hq
  by_cases hj : k = j
  · subst hj
    rw [List.getElem?_set] at hq
    simp only [if_true] at hq
    by_cases hl : k < F.length
    · rw [if_pos hl] at hq; cases hq; exact ⟨h1, h2⟩
    · rw [if_neg hl] at hq; cases hq
  · rw [List.getElem?_set_ne hj] at hq
    exact hF j q hq
theorem es_br_ok {F : es_F} (hF : es_fr ρ F) (op : es_Op) {va vb : es_V} {x y : Int32} (ha : es_vr n0 b ρ va (.int x)) (hb : es_vr n0 b ρ vb (.int y)) (h : es_cmp op (es_zb x) (es_zb y) = true) : ∃ f ∈ es_br F op va vb, es_fr ρ f := by
  unfold es_br
  split
  · rename_i p q hp hq
    have e1 := es_kn_ok hF ha hp
    have e2 := es_kn_ok hF hb hq
    cases e1; cases e2
    rw [es_zbn, es_zbn] at h
    rw [h]
    exact ⟨F, List.mem_singleton.mpr rfl, hF⟩
  · rename_i q hp hq
    have e2 := es_kn_ok hF hb hq
    cases e2
    cases h1 : Nat.beq va.1 1
    · exact ⟨F, List.mem_singleton.mpr rfl, hF⟩
    · obtain ⟨t, k⟩ := va
      have e := es_beq.mp h1
      dsimp only at e
      subst e
      have hx : Value.int x = .int (ρ k) := ha
      cases hx
      dsimp only [cond_true]
      cases hk : F[k]? with
      | none => exact ⟨F, List.mem_singleton.mpr rfl, hF⟩
      | some r =>
        have hr := hF k r hk
        obtain ⟨r', hr', g1, g2⟩ := es_iv_ok op (es_bz q) r (es_zb (ρ k)) hr.1 hr.2 (by rw [← es_zbn]; exact h)
        exact ⟨_, List.mem_map.mpr ⟨r', hr', rfl⟩, es_fr_set hF g1 g2⟩
  · rename_i p hp hq
    have e1 := es_kn_ok hF ha hp
    cases e1
    cases h1 : Nat.beq vb.1 1
    · exact ⟨F, List.mem_singleton.mpr rfl, hF⟩
    · obtain ⟨t, k⟩ := vb
      have e := es_beq.mp h1
      dsimp only at e
      subst e
      have hx : Value.int y = .int (ρ k) := hb
      cases hx
      dsimp only [cond_true]
      cases hk : F[k]? with
      | none => exact ⟨F, List.mem_singleton.mpr rfl, hF⟩
      | some r =>
        have hr := hF k r hk
        obtain ⟨r', hr', g1, g2⟩ := es_iv_ok (es_sw op) (es_bz p) r (es_zb (ρ k)) hr.1 hr.2 (by rw [es_cmp_sw, ← es_zbn]; exact h)
        exact ⟨_, List.mem_map.mpr ⟨r', hr', rfl⟩, es_fr_set hF g1 g2⟩
  · exact ⟨F, List.mem_singleton.mpr rfl, hF⟩
theorem es_to_ok {pc : Nat} {off : Int} {t : Nat} (h : es_to pc off = some t) : (pc : Int) + off = (t : Int) := by
  unfold es_to at h
  split at h
  · rename_i u hu
    cases h
    exact hu
  · cases h
end RelLaws

end
section
section St
variable {n0 : Nat} {b : Nat → Nat} {ρ : Nat → Int32}
noncomputable def es_all (ls : Array Slot) (nL : Nat) : List (Nat × Value) := (List.range nL).filterMap (fun (j : Nat) => match (ls[j]? : Option Slot) with
  | some (Slot.val x) => some (j, x)
  | _ => none)
theorem es_all_has {nL : Nat} {L : es_L} {ls : Array Slot} (h : es_lr n0 b ρ nL L ls) : lv_has ls nL (es_all ls nL) := by
  refine ⟨h.1, h.2.1, fun q hq => ?_⟩
  obtain ⟨j, -, hj⟩ := List.mem_filterMap.mp hq
  split at hj
  · rename_i x hx
    cases hj
    exact hx
  · cases hj
theorem es_all_in {nL j : Nat} {ls : Array Slot} {x : Value} (hs : ls.size = nL) (h : ls[j]? = some (.val x)) : (j, x) ∈ es_all ls nL := by
  have hl : j < nL := by rw [← hs]; exact (Array.getElem?_eq_some_iff.mp h).1
  refine List.mem_filterMap.mpr ⟨j, List.mem_range.mpr hl, ?_⟩
  rw [h]
theorem es_st_get {L : es_L} {i j : Nat} {v w : es_V} (h : es_get (es_st L i v) j = some w) : (j = i ∧ w = v) ∨ (j ≠ i ∧ es_get L j = some w ∧ (j + 1 = i → Nat.beq w.1 2 = false)) := by
  unfold es_st at h
  rw [es_get_set] at h
  by_cases hj : j = i
  · rw [if_pos hj] at h; cases h; exact Or.inl ⟨hj, rfl⟩
  · rw [if_neg hj] at h
    refine Or.inr ⟨hj, ?_⟩
    cases i with
    | zero => exact ⟨h, fun e => by omega⟩
    | succ k =>
      dsimp only at h
      cases hk : es_get L k with
      | none =>
        rw [hk] at h
        refine ⟨h, fun e => ?_⟩
        have : j = k := by omega
        subst this
        rw [hk] at h; cases h
      | some u =>
        rw [hk] at h
        dsimp only at h
        cases hu : Nat.beq u.1 2
        · rw [hu] at h
          dsimp only [cond_false] at h
          refine ⟨h, fun e => ?_⟩
          have : j = k := by omega
          subst this
          rw [hk] at h; cases h; exact hu
        · rw [hu] at h
          dsimp only [cond_true] at h
          rw [es_get_del] at h
          by_cases hjk : j = k
          · rw [if_pos hjk] at h; cases h
          · rw [if_neg hjk] at h
            exact ⟨h, fun e => by omega⟩
theorem es_lr_st {nL i : Nat} {L : es_L} {ls ls' : Array Slot} {v : es_V} {x : Value} (h : es_lr n0 b ρ nL L ls) (hv : es_vr n0 b ρ v x)
    (h' : lv_has ls' nL ((i, x) :: (es_all ls nL).filter (fun q => !(q.1 == i) && !(q.1 + 1 == i && q.2.category == 2)))) : es_lr n0 b ρ nL (es_st L i v) ls' := by
  refine ⟨h'.1, h'.2.1, fun j w hw => ?_⟩
  rcases es_st_get hw with ⟨rfl, rfl⟩ | ⟨hj, hw, h2⟩
  · exact ⟨x, h'.2.2 (j, x) List.mem_cons_self, hv⟩
  · obtain ⟨y, hy, hyr⟩ := h.2.2 j w hw
    refine ⟨y, h'.2.2 (j, y) (List.mem_cons_of_mem _ (List.mem_filter.mpr ⟨es_all_in h.1 hy, ?_⟩)), hyr⟩
    have e1 : (j == i) = false := by simpa using hj
    simp only [e1, Bool.not_false, Bool.true_and]
    by_cases e2 : j + 1 = i
    · have := es_cat1 hyr (h2 e2)
      simp [this]
    · simp [e2]
theorem es_lr_st2 {nL i : Nat} {L : es_L} {ls ls' : Array Slot} {v : es_V} {x : Value} (h : es_lr n0 b ρ nL L ls) (hv : es_vr n0 b ρ v x)
    (h' : lv_has ls' nL ((i, x) :: (es_all ls nL).filter (fun q => !(q.1 == i) && (!(q.1 == i + 1) && !(q.1 + 1 == i && q.2.category == 2))))) : es_lr n0 b ρ nL (es_del (es_st L i v) (i + 1)) ls' := by
  refine ⟨h'.1, h'.2.1, fun j w hw => ?_⟩
  rw [es_get_del] at hw
  by_cases hj1 : j = i + 1
  · rw [if_pos hj1] at hw; cases hw
  · rw [if_neg hj1] at hw
    rcases es_st_get hw with ⟨rfl, rfl⟩ | ⟨hj, hw, h2⟩
    · exact ⟨x, h'.2.2 (j, x) List.mem_cons_self, hv⟩
    · obtain ⟨y, hy, hyr⟩ := h.2.2 j w hw
      refine ⟨y, h'.2.2 (j, y) (List.mem_cons_of_mem _ (List.mem_filter.mpr ⟨es_all_in h.1 hy, ?_⟩)), hyr⟩
      have e1 : (j == i) = false := by simpa using hj
      have e3 : (j == i + 1) = false := by simpa using hj1
      simp only [e1, e3, Bool.not_false, Bool.true_and]
      by_cases e2 : j + 1 = i
      · have := es_cat1 hyr (h2 e2)
        simp [this]
      · simp [e2]
end St
section Pure
variable {p : Program} {l : Launch} {e : Env} {R : Room} {s : State} {m : MethodId} {args : Array Value} {below : List Frame} {meth : Method} {c : Code} {H : Heap} {locs : List Loc} {cells slots : Nat} {Q : State → Prop}
variable {cc : ByteArray} {pc pc' nL len : Nat} {ls : Array Slot} {n0 : Nat} {b : Nat → Nat} {ρ : Nat → Int32} {L L' : es_L} {S S' : List es_V} {F : es_F} {st : List Value} {ins : Instr}
/-- what a step without heap owes -/
noncomputable def es_PG (p : Program) (l : Launch) (e : Env) (R : Room) (s : State) (m : MethodId) (args : Array Value) (below : List Frame) (meth : Method) (c : Code) (H : Heap) (locs : List Loc) (cells slots : Nat) (Q : State → Prop) (n0 : Nat) (b : Nat → Nat) (ρ : Nat → Int32) (nL : Nat) (pc' : Nat) (L' : es_L) (S' : List es_V) : Prop :=
  ∀ (ls' : Array Slot) (st' : List Value), es_lr n0 b ρ nL L' ls' → es_sr n0 b ρ S' st' → W p l e R s m args below meth c H locs cells slots Q (F0 m pc' ls' st')
theorem es_ld_ok {t : es_V → Bool} {i n : Nat} (h : es_ld t i n pc L S = some (pc', L', S')) (hl : es_lr n0 b ρ nL L ls) : ∃ v x, t v = true ∧ es_vr n0 b ρ v x ∧ ls[i]? = some (.val x) ∧ pc' = pc + n ∧ L' = L ∧ S' = v :: S := by
  unfold es_ld at h
  cases hv : es_get L i with
  | none => rw [hv] at h; cases h
  | some v =>
    rw [hv] at h
    dsimp only at h
    cases ht : t v
    · rw [ht] at h; cases h
    · rw [ht] at h
      obtain ⟨x, hx, hr⟩ := hl.2.2 i v hv
      cases h
      exact ⟨v, x, ht, hr, hx, rfl, rfl, rfl⟩
theorem es_sto_ok {t : es_V → Bool} {i n : Nat} (h : es_sto t nL i n pc L S = some (pc', L', S')) (hs : es_sr n0 b ρ S st) : ∃ v x st', t v = true ∧ es_vr n0 b ρ v x ∧ st = x :: st' ∧ es_sr n0 b ρ S' st' ∧ i < nL ∧ pc' = pc + n ∧ L' = es_st L i v := by
  unfold es_sto at h
  cases S with
  | nil => cases h
  | cons v S1 =>
    obtain ⟨x, st', e, hv, hs'⟩ := hs
    dsimp only at h
    cases ht : (t v && Nat.blt i nL)
    · rw [ht] at h; cases h
    · rw [ht] at h
      rw [Bool.and_eq_true] at ht
      cases h
      exact ⟨v, x, st', ht.1, hv, e, hs', es_blt.mp ht.2, rfl, rfl⟩
theorem es_lst_ok {i n : Nat} (h : es_lst nL i n pc L S = some (pc', L', S')) (hs : es_sr n0 b ρ S st) : ∃ v st', es_vr n0 b ρ v (.long (lN v.2)) ∧ st = .long (lN v.2) :: st' ∧ es_sr n0 b ρ S' st' ∧ i + 1 < nL ∧ pc' = pc + n ∧ L' = es_del (es_st L i v) (i + 1) := by
  unfold es_lst at h
  cases S with
  | nil => cases h
  | cons v S1 =>
    obtain ⟨x, st', e, hv, hs'⟩ := hs
    dsimp only at h
    cases ht : (Nat.beq v.1 2 && Nat.blt (i + 1) nL)
    · rw [ht] at h; cases h
    · rw [ht] at h
      rw [Bool.and_eq_true] at ht
      cases h
      have hx := es_t2_long hv ht.1
      subst hx
      exact ⟨v, st', hv, e, hs', es_blt.mp ht.2, rfl, rfl⟩
theorem es_i2_ok {f : Int32 → Int32 → Int32} (h : es_i2 f pc L S F = some (pc', L', S')) (hF : es_fr ρ F) (hs : es_sr n0 b ρ S st) : ∃ x y st', st = .int y :: .int x :: st' ∧ pc' = pc + 1 ∧ L' = L ∧ es_sr n0 b ρ S' (.int (f x y) :: st') := by
  unfold es_i2 at h
  split at h
  · rename_i vb va S1
    obtain ⟨y, st1, rfl, hvb, xx, st', rfl, hva, hs'⟩ := hs
    cases ht : (es_ti va && es_ti vb)
    · rw [ht] at h; cases h
    · rw [ht] at h
      rw [Bool.and_eq_true] at ht
      cases h
      obtain ⟨x, rfl⟩ := es_ti_int hva ht.1
      obtain ⟨y, rfl⟩ := es_ti_int hvb ht.2
      exact ⟨x, y, st', rfl, rfl, rfl, _, _, rfl, es_bin_ok hF f hva hvb, hs'⟩
  · cases h
theorem es_d2_ok {f : Int32 → Int32 → Int32} (h : es_d2 f pc L S F = some (pc', L', S')) (hF : es_fr ρ F) (hs : es_sr n0 b ρ S st) : ∃ x y st', st = .int y :: .int x :: st' ∧ ¬ y = 0 ∧ pc' = pc + 1 ∧ L' = L ∧ es_sr n0 b ρ S' (.int (f x y) :: st') := by
  unfold es_d2 at h
  split at h
  · rename_i vb va S1
    obtain ⟨y, st1, rfl, hvb, xx, st', rfl, hva, hs'⟩ := hs
    cases hk : es_kn F vb with
    | none => rw [hk] at h; cases h
    | some n =>
      rw [hk] at h
      dsimp only at h
      cases ht : (es_ti va && (es_ti vb && !decide (nI n = 0)))
      · rw [ht] at h; cases h
      · rw [ht] at h
        simp only [Bool.and_eq_true, Bool.not_eq_true', decide_eq_false_iff_not] at ht
        cases h
        obtain ⟨x, rfl⟩ := es_ti_int hva ht.1
        have e := es_kn_ok hF hvb hk
        subst e
        exact ⟨x, nI n, st', rfl, ht.2.2, rfl, rfl, _, _, rfl, es_bin_ok hF f hva hvb, hs'⟩
  · cases h
theorem es_l2_ok {f : Int64 → Int64 → Int64} (h : es_l2 f pc L S = some (pc', L', S')) (hs : es_sr n0 b ρ S st) : ∃ x y st', st = .long y :: .long x :: st' ∧ pc' = pc + 1 ∧ L' = L ∧ es_sr n0 b ρ S' (.long (f x y) :: st') := by
  unfold es_l2 at h
  split at h
  · rename_i vb va S1
    obtain ⟨y, st1, rfl, hvb, xx, st', rfl, hva, hs'⟩ := hs
    cases ht : (Nat.beq va.1 2 && Nat.beq vb.1 2)
    · rw [ht] at h; cases h
    · rw [ht] at h
      rw [Bool.and_eq_true] at ht
      cases h
      have e1 := es_t2_long hva ht.1
      have e2 := es_t2_long hvb ht.2
      subst e1; subst e2
      exact ⟨_, _, st', rfl, rfl, rfl, _, _, rfl, es_vrlc _, hs'⟩
  · cases h
theorem es_lsh_ok {f : Int64 → Int32 → Int64} (h : es_lsh f pc L S F = some (pc', L', S')) (hF : es_fr ρ F) (hs : es_sr n0 b ρ S st) : ∃ x y st', st = .int y :: .long x :: st' ∧ pc' = pc + 1 ∧ L' = L ∧ es_sr n0 b ρ S' (.long (f x y) :: st') := by
  unfold es_lsh at h
  split at h
  · rename_i vb va S1
    obtain ⟨y, st1, rfl, hvb, xx, st', rfl, hva, hs'⟩ := hs
    cases hk : es_kn F vb with
    | none => rw [hk] at h; cases h
    | some n =>
      rw [hk] at h
      dsimp only at h
      cases ht : (Nat.beq va.1 2 && es_ti vb)
      · rw [ht] at h; cases h
      · rw [ht] at h
        rw [Bool.and_eq_true] at ht
        cases h
        have e1 := es_t2_long hva ht.1
        have e2 := es_kn_ok hF hvb hk
        subst e1; subst e2
        exact ⟨_, _, st', rfl, rfl, rfl, _, _, rfl, es_vrlc _, hs'⟩
  · cases h
set_option maxHeartbeats 4000000 in
theorem es_pure_ok (hx : p.tables.exec = Jvm.exec) (hb : c.code = cc) (hF : es_fr ρ F) (hl : es_lr n0 b ρ nL L ls) (hs : es_sr n0 b ρ S st) (hd : decode cc pc = .ok (ins, es_len ins))
    (h : es_pure nL ins pc L S F = some (pc', L', S'))
    (k : es_PG p l e R s m args below meth c H locs cells slots Q n0 b ρ nL pc' L' S') : W p l e R s m args below meth c H locs cells slots Q (F0 m pc ls st) := by
  unfold es_pure at h
  split at h
  · cases h; exact lv_iconst hx hb hd rfl (k _ _ hl ⟨_, _, rfl, es_vrc _, hs⟩)
  · cases h; exact lv_bipush hx hb hd rfl (k _ _ hl ⟨_, _, rfl, es_vrc _, hs⟩)
  · cases h; exact lv_sipush hx hb hd rfl (k _ _ hl ⟨_, _, rfl, es_vrc _, hs⟩)
  · cases h; exact lv_lconst hx hb hd rfl (k _ _ hl ⟨_, _, rfl, es_vrlc _, hs⟩)
  -- loads
  · obtain ⟨v, x, ht, hr, hi, rfl, rfl, rfl⟩ := es_ld_ok h hl
    obtain ⟨z, rfl⟩ := es_ti_int hr ht
    exact lv_iload_n hx hb hd rfl hi (k _ _ hl ⟨_, _, rfl, hr, hs⟩)
  · obtain ⟨v, x, ht, hr, hi, rfl, rfl, rfl⟩ := es_ld_ok h hl
    obtain ⟨z, rfl⟩ := es_ti_int hr ht
    exact lv_iload hx hb hd hi (k _ _ hl ⟨_, _, rfl, hr, hs⟩)
  · obtain ⟨v, x, ht, hr, hi, rfl, rfl, rfl⟩ := es_ld_ok h hl
    have e := es_t2_long hr ht
    subst e
    exact lv_lload_n hx hb hd rfl hi (k _ _ hl ⟨_, _, rfl, hr, hs⟩)
  · obtain ⟨v, x, ht, hr, hi, rfl, rfl, rfl⟩ := es_ld_ok h hl
    have e := es_t2_long hr ht
    subst e
    exact lv_lload hx hb hd hi (k _ _ hl ⟨_, _, rfl, hr, hs⟩)
  · obtain ⟨v, x, ht, hr, hi, rfl, rfl, rfl⟩ := es_ld_ok h hl
    rcases es_tr_ref hr ht with rfl | ⟨a, rfl⟩
    · exact lv_aload_nN hx hb hd rfl hi (k _ _ hl ⟨_, _, rfl, hr, hs⟩)
    · exact lv_aload_n hx hb hd rfl hi (k _ _ hl ⟨_, _, rfl, hr, hs⟩)
  · obtain ⟨v, x, ht, hr, hi, rfl, rfl, rfl⟩ := es_ld_ok h hl
    rcases es_tr_ref hr ht with rfl | ⟨a, rfl⟩
    · exact lv_aloadN hx hb hd hi (k _ _ hl ⟨_, _, rfl, hr, hs⟩)
    · exact lv_aload hx hb hd hi (k _ _ hl ⟨_, _, rfl, hr, hs⟩)
  -- stores
  · obtain ⟨v, x, st', ht, hr, rfl, hs', hi, rfl, rfl⟩ := es_sto_ok h hs
    obtain ⟨z, rfl⟩ := es_ti_int hr ht
    exact lv_istore_n hx hb hd rfl (es_all_has hl) hi rfl (fun ls' h' => k _ _ (es_lr_st hl hr h') hs')
  · obtain ⟨v, x, st', ht, hr, rfl, hs', hi, rfl, rfl⟩ := es_sto_ok h hs
    obtain ⟨z, rfl⟩ := es_ti_int hr ht
    exact lv_istore hx hb hd (es_all_has hl) hi rfl (fun ls' h' => k _ _ (es_lr_st hl hr h') hs')
  · obtain ⟨v, st', hr, rfl, hs', hi, rfl, rfl⟩ := es_lst_ok h hs
    exact lv_lstore_n hx hb hd rfl (es_all_has hl) hi rfl (fun ls' h' => k _ _ (es_lr_st2 hl hr h') hs')
  · obtain ⟨v, st', hr, rfl, hs', hi, rfl, rfl⟩ := es_lst_ok h hs
    exact lv_lstore hx hb hd (es_all_has hl) hi rfl (fun ls' h' => k _ _ (es_lr_st2 hl hr h') hs')
  · obtain ⟨v, x, st', ht, hr, rfl, hs', hi, rfl, rfl⟩ := es_sto_ok h hs
    rcases es_t7_ref hr ht with rfl | ⟨a, rfl⟩
    · exact lv_astore_nN hx hb hd rfl (es_all_has hl) hi rfl (fun ls' h' => k _ _ (es_lr_st hl hr h') hs')
    · exact lv_astore_n hx hb hd rfl (es_all_has hl) hi rfl (fun ls' h' => k _ _ (es_lr_st hl hr h') hs')
  · obtain ⟨v, x, st', ht, hr, rfl, hs', hi, rfl, rfl⟩ := es_sto_ok h hs
    rcases es_t7_ref hr ht with rfl | ⟨a, rfl⟩
    · exact lv_astoreN hx hb hd (es_all_has hl) hi rfl (fun ls' h' => k _ _ (es_lr_st hl hr h') hs')
    · exact lv_astore hx hb hd (es_all_has hl) hi rfl (fun ls' h' => k _ _ (es_lr_st hl hr h') hs')
  -- iinc
  · rename_i i n
    cases hv : es_get L i with
    | none => rw [hv] at h; cases h
    | some v =>
      rw [hv] at h
      dsimp only at h
      cases ht : (es_ti v && Nat.blt i nL)
      · rw [ht] at h; cases h
      · rw [ht] at h
        rw [Bool.and_eq_true] at ht
        cases h
        obtain ⟨x, hi, hr⟩ := hl.2.2 i v hv
        obtain ⟨z, rfl⟩ := es_ti_int hr ht.1
        obtain ⟨kk, hkk⟩ := List.getElem?_of_mem (es_all_in hl.1 hi)
        exact lv_iinc (k := kk) hx hb hd (es_all_has hl) hkk rfl (es_blt.mp ht.2) rfl (fun ls' h' => k _ _ (es_lr_st hl (es_un_ok hF _ hr) h') hs)
  -- int arithmetic
  · obtain ⟨x, y, st', rfl, rfl, rfl, hs'⟩ := es_i2_ok h hF hs; exact lv_iadd hx hb hd (k _ _ hl hs')
  · obtain ⟨x, y, st', rfl, rfl, rfl, hs'⟩ := es_i2_ok h hF hs; exact lv_isub hx hb hd (k _ _ hl hs')
  · obtain ⟨x, y, st', rfl, rfl, rfl, hs'⟩ := es_i2_ok h hF hs; exact lv_imul hx hb hd (k _ _ hl hs')
  · obtain ⟨x, y, st', rfl, rfl, rfl, hs'⟩ := es_i2_ok h hF hs; exact lv_iand hx hb hd (k _ _ hl hs')
  · obtain ⟨x, y, st', rfl, rfl, rfl, hs'⟩ := es_i2_ok h hF hs; exact lv_ior hx hb hd (k _ _ hl hs')
  · obtain ⟨x, y, st', rfl, rfl, rfl, hs'⟩ := es_i2_ok h hF hs; exact lv_ixor hx hb hd (k _ _ hl hs')
  · obtain ⟨x, y, st', rfl, rfl, rfl, hs'⟩ := es_i2_ok h hF hs; exact lv_ishl hx hb hd (k _ _ hl hs')
  · obtain ⟨x, y, st', rfl, rfl, rfl, hs'⟩ := es_i2_ok h hF hs; exact lv_ishr hx hb hd (k _ _ hl hs')
  · obtain ⟨x, y, st', rfl, rfl, rfl, hs'⟩ := es_i2_ok h hF hs; exact lv_iushr hx hb hd rfl (k _ _ hl hs')
  · obtain ⟨x, y, st', rfl, hy, rfl, rfl, hs'⟩ := es_d2_ok h hF hs; exact lv_idiv hx hb hd hy (k _ _ hl hs')
  · obtain ⟨x, y, st', rfl, hy, rfl, rfl, hs'⟩ := es_d2_ok h hF hs; exact lv_irem hx hb hd hy (k _ _ hl hs')
  · obtain ⟨x, y, st', rfl, rfl, rfl, hs'⟩ := es_l2_ok h hs; exact lv_ladd hx hb hd (k _ _ hl hs')
  · obtain ⟨x, y, st', rfl, rfl, rfl, hs'⟩ := es_l2_ok h hs; exact lv_lsub hx hb hd (k _ _ hl hs')
  · obtain ⟨x, y, st', rfl, rfl, rfl, hs'⟩ := es_l2_ok h hs; exact lv_lmul hx hb hd (k _ _ hl hs')
  · obtain ⟨x, y, st', rfl, rfl, rfl, hs'⟩ := es_l2_ok h hs; exact lv_land hx hb hd (k _ _ hl hs')
  · obtain ⟨x, y, st', rfl, rfl, rfl, hs'⟩ := es_l2_ok h hs; exact lv_lor hx hb hd (k _ _ hl hs')
  -- ldiv
  · split at h
    · rename_i vb va S1
      obtain ⟨y, st1, rfl, hvb, xx, st', rfl, hva, hs'⟩ := hs
      cases ht : ((Nat.beq va.1 2 && Nat.beq vb.1 2) && !decide (lN vb.2 = 0))
      · rw [ht] at h; cases h
      · rw [ht] at h
        simp only [Bool.and_eq_true, Bool.not_eq_true', decide_eq_false_iff_not] at ht
        cases h
        have e1 := es_t2_long hva ht.1.1
        have e2 := es_t2_long hvb ht.1.2
        subst e1; subst e2
        exact lv_ldiv hx hb hd ht.2 (k _ _ hl ⟨_, _, rfl, es_vrlc _, hs'⟩)
    · cases h
  · obtain ⟨x, y, st', rfl, rfl, rfl, hs'⟩ := es_lsh_ok h hF hs; exact lv_lshl hx hb hd rfl (k _ _ hl hs')
  · obtain ⟨x, y, st', rfl, rfl, rfl, hs'⟩ := es_lsh_ok h hF hs; exact lv_lshr hx hb hd rfl (k _ _ hl hs')
  · obtain ⟨x, y, st', rfl, rfl, rfl, hs'⟩ := es_lsh_ok h hF hs; exact lv_lushr hx hb hd rfl (k _ _ hl hs')
  -- i2l
  · split at h
    · rename_i va S1
      obtain ⟨xx, st', rfl, hva, hs'⟩ := hs
      cases hk : es_kn F va with
      | none => rw [hk] at h; cases h
      | some n =>
        rw [hk] at h
        cases h
        have e := es_kn_ok hF hva hk
        subst e
        exact lv_i2l hx hb hd rfl (k _ _ hl ⟨_, _, rfl, es_vrlc _, hs'⟩)
    · cases h
  -- l2i
  · split at h
    · rename_i va S1
      obtain ⟨xx, st', rfl, hva, hs'⟩ := hs
      cases ht : Nat.beq va.1 2
      · rw [ht] at h; cases h
      · rw [ht] at h
        cases h
        have e := es_t2_long hva ht
        subst e
        exact lv_l2i hx hb hd rfl (k _ _ hl ⟨_, _, rfl, es_vrc _, hs'⟩)
    · cases h
  -- lcmp
  · split at h
    · rename_i vb va S1
      obtain ⟨y, st1, rfl, hvb, xx, st', rfl, hva, hs'⟩ := hs
      cases ht : (Nat.beq va.1 2 && Nat.beq vb.1 2)
      · rw [ht] at h; cases h
      · rw [ht] at h
        rw [Bool.and_eq_true] at ht
        cases h
        have e1 := es_t2_long hva ht.1
        have e2 := es_t2_long hvb ht.2
        subst e1; subst e2
        exact W.lcmp hx hb hd (k _ _ hl ⟨_, _, rfl, es_vrc _, hs'⟩)
    · cases h
  -- aconst_null
  · cases h
    exact lv_null hx hb hd (k _ _ hl ⟨_, _, rfl, rfl, hs⟩)
  -- ineg
  · split at h
    · rename_i va S1
      obtain ⟨xx, st', rfl, hva, hs'⟩ := hs
      cases ht : es_ti va
      · rw [ht] at h; cases h
      · rw [ht] at h
        cases h
        obtain ⟨z, rfl⟩ := es_ti_int hva ht
        exact lv_ineg hx hb hd (k _ _ hl ⟨_, _, rfl, es_un_ok hF _ hva, hs'⟩)
    · cases h
  -- i2c
  · split at h
    · rename_i va S1
      obtain ⟨xx, st', rfl, hva, hs'⟩ := hs
      cases ht : es_ti va
      · rw [ht] at h; cases h
      · rw [ht] at h
        cases h
        obtain ⟨z, rfl⟩ := es_ti_int hva ht
        exact lv_i2c hx hb hd rfl (k _ _ hl ⟨_, _, rfl, es_un_ok hF _ hva, hs'⟩)
    · cases h
  -- dup
  · split at h
    · rename_i va S1
      obtain ⟨xx, st', rfl, hva, hs'⟩ := hs
      cases ht : es_t2 va
      · rw [ht] at h
        cases h
        exact lv_dup hx hb hd (es_cat1 hva ht) (k _ _ hl ⟨_, _, rfl, hva, _, _, rfl, hva, hs'⟩)
      · rw [ht] at h; cases h
    · cases h
  -- pop
  · split at h
    · rename_i va S1
      obtain ⟨xx, st', rfl, hva, hs'⟩ := hs
      cases ht : es_t2 va
      · rw [ht] at h
        cases h
        exact lv_pop hx hb hd (es_cat1 hva ht) (k _ _ hl hs')
      · rw [ht] at h; cases h
    · cases h
  -- dup2
  · split at h
    · rename_i vb va S1
      obtain ⟨y, st1, rfl, hvb, xx, st', rfl, hva, hs'⟩ := hs
      cases ht : (es_t2 va || es_t2 vb)
      · rw [ht] at h
        rw [Bool.or_eq_false_iff] at ht
        cases h
        exact lv_dup2_11 hx hb hd (es_cat1 hvb ht.2) (es_cat1 hva ht.1) (k _ _ hl ⟨_, _, rfl, hvb, _, _, rfl, hva, _, _, rfl, hvb, _, _, rfl, hva, hs'⟩)
      · rw [ht] at h; cases h
    · cases h
  -- goto
  · rename_i off
    cases ht : es_to pc off with
    | none => rw [ht] at h; cases h
    | some t =>
      rw [ht] at h
      cases h
      exact lv_goto hx hb hd (es_to_ok ht) (k _ _ hl hs)
  -- ifnull
  · rename_i off
    split at h
    · rename_i va S1
      obtain ⟨xx, st', rfl, hva, hs'⟩ := hs
      cases h4 : Nat.beq va.1 4
      · rw [h4] at h
        dsimp only [cond_false] at h
        cases h3 : Nat.beq va.1 3
        · rw [h3] at h; cases h
        · rw [h3] at h
          cases h
          have e := es_t3_ref hva h3
          subst e
          exact lv_ifnull hx hb hd (k _ _ hl hs')
      · rw [h4] at h
        dsimp only [cond_true] at h
        cases ht : es_to pc off with
        | none => rw [ht] at h; cases h
        | some t =>
          rw [ht] at h
          cases h
          have e := es_t4_null hva h4
          subst e
          exact lv_ifnullN hx hb hd (es_to_ok ht) (k _ _ hl hs')
    · cases h
  -- ifnonnull
  · rename_i off
    split at h
    · rename_i va S1
      obtain ⟨xx, st', rfl, hva, hs'⟩ := hs
      cases h3 : Nat.beq va.1 3
      · rw [h3] at h
        dsimp only [cond_false] at h
        cases h4 : Nat.beq va.1 4
        · rw [h4] at h; cases h
        · rw [h4] at h
          cases h
          have e := es_t4_null hva h4
          subst e
          exact lv_ifnonnullN hx hb hd (k _ _ hl hs')
      · rw [h3] at h
        dsimp only [cond_true] at h
        cases ht : es_to pc off with
        | none => rw [ht] at h; cases h
        | some t =>
          rw [ht] at h
          cases h
          have e := es_t3_ref hva h3
          subst e
          exact lv_ifnonnull hx hb hd (es_to_ok ht) (k _ _ hl hs')
    · cases h
  · cases h
end Pure

end
section
noncomputable def es_dv (t : Nat) : es_V := match t with
  | 1 => (2, 0)
  | 3 => (4, 0)
  | 4 => (4, 0)
  | _ => (0, 0)
noncomputable def es_ad (t : Nat) (c : List (Nat × es_V)) (j : Nat) : es_V := match es_get c j with
  | some v => v
  | none => es_dv t
section Hp
variable (D : va_G) (tys : List (ClassId × FieldType)) (n0 : Nat) (b : Nat → Nat) (ρ : Nat → Int32)
noncomputable def es_or (a : Nat) (o : es_O) (H : Heap) : Prop := match o.1 with
  | 0 => ∃ (r : vw_C) (V : Nat → Value), vwCl[o.2.1]? = some r ∧ t_OB a (D.1 o.2.1) r.2.2 (D.2 o.2.1) H V ∧ ∀ k v, es_get o.2.2 k = some v → k < r.2.2 ∧ es_vr n0 b ρ v (V k)
  | 1 => True
  | t + 2 => ∃ (q : ClassId × FieldType) (V : Nat → Value), tys[t]? = some q ∧ H[a]? = some (arrV q.1 o.2.1 V) ∧ ∀ j, j < o.2.1 → es_vr n0 b ρ (es_ad t o.2.2 j) (V j)
noncomputable def es_hr (AH : List es_O) (H : Heap) : Prop := H.size = n0 + AH.length ∧ ∀ i o, AH[i]? = some o → es_or D tys n0 b ρ (n0 + i) o H
end Hp
section HpL
variable {D : va_G} {tys : List (ClassId × FieldType)} {n0 : Nat} {b : Nat → Nat} {ρ : Nat → Int32}
theorem es_or_kept {a : Nat} {o : es_O} {H H1 : Heap} (h : es_or D tys n0 b ρ a o H) (hq : H1[a]? = H[a]?) : es_or D tys n0 b ρ a o H1 := by
  obtain ⟨t, i, c⟩ := o
  match t, h with
  | 0, h =>
    obtain ⟨r, V, h1, h2, h3⟩ := h
    exact ⟨r, V, h1, h2.kept hq, h3⟩
  | 1, h => trivial
  | t + 2, h =>
    obtain ⟨q, V, h1, h2, h3⟩ := h
    exact ⟨q, V, h1, hq.trans h2, h3⟩
theorem es_hr_set {AH : List es_O} {H H1 : Heap} {i : Nat} {o : es_O} (h : es_hr D tys n0 b ρ AH H) (hz : H1.size = H.size) (ho : ∀ q : Nat, q ≠ n0 + i → H1[q]? = H[q]?) (hn : es_or D tys n0 b ρ (n0 + i) o H1) : es_hr D tys n0 b ρ (AH.set i o) H1 := by
  refine ⟨by rw [hz, h.1, List.length_set], fun j q hq => ?_⟩
  by_cases hj : i = j
  · subst hj
    rw [List.getElem?_set] at hq
    simp only [if_true] at hq
    by_cases hl : i < AH.length
    · rw [if_pos hl] at hq; cases hq; exact hn
    · rw [if_neg hl] at hq; cases hq
  · rw [List.getElem?_set_ne hj] at hq
    exact es_or_kept (h.2 j q hq) (ho _ (by omega))
theorem es_hr_push {AH : List es_O} {H H1 : Heap} {o : es_O} (h : es_hr D tys n0 b ρ AH H) (hz : H1.size = H.size + 1) (ho : ∀ q : Nat, q < H.size → H1[q]? = H[q]?) (hn : es_or D tys n0 b ρ H.size o H1) : es_hr D tys n0 b ρ (AH ++ [o]) H1 := by
  refine ⟨by rw [hz, h.1, List.length_append]; rfl, fun j q hq => ?_⟩
  by_cases hj : j < AH.length
  · rw [List.getElem?_append_left hj] at hq
    exact es_or_kept (h.2 j q hq) (ho _ (by rw [h.1]; omega))
  · have hl : j < (AH ++ [o]).length := (List.getElem?_eq_some_iff.mp hq).1
    rw [List.length_append] at hl
    have hl2 : j < AH.length + 1 := hl
    have e : j = AH.length := by omega
    subst e
    rw [List.getElem?_append_right (Nat.le_refl _), Nat.sub_self] at hq
    cases hq
    rw [← h.1]
    exact hn
end HpL
noncomputable def es_fitv (ty : FieldType) (F : es_F) (v : es_V) : Bool := match ty with
  | .int => es_ti v
  | .boolean => match es_kn F v with
    | some n => Nat.beq n 0 || Nat.beq n 1
    | none => false
  | .object _ => es_tr v
  | .array _ => es_tr v
  | _ => false
theorem es_fitv_ok {n0 : Nat} {b : Nat → Nat} {ρ : Nat → Int32} {ty : FieldType} {F : es_F} {v : es_V} {x : Value} (hF : es_fr ρ F) (hv : es_vr n0 b ρ v x) (h : es_fitv ty F v = true) : narrow ty x = x ∧ fits ty x = true := by
  unfold es_fitv at h
  split at h
  · obtain ⟨z, rfl⟩ := es_ti_int hv h
    exact ⟨rfl, rfl⟩
  · cases hk : es_kn F v with
    | none => rw [hk] at h; cases h
    | some n =>
      rw [hk] at h
      dsimp only at h
      rw [Bool.or_eq_true, es_beq, es_beq] at h
      have e := es_kn_ok hF hv hk
      subst e
      rcases h with rfl | rfl
      · exact ⟨by decide +kernel, by decide +kernel⟩
      · exact ⟨by decide +kernel, by decide +kernel⟩
  · rcases es_tr_ref hv h with rfl | ⟨a, rfl⟩
    · exact ⟨rfl, rfl⟩
    · exact ⟨rfl, rfl⟩
  · rcases es_tr_ref hv h with rfl | ⟨a, rfl⟩
    · exact ⟨rfl, rfl⟩
    · exact ⟨rfl, rfl⟩
  · cases h
section Rd
variable {p : Program} {l : Launch} {e : Env} {R : Room} {s : State} {m : MethodId} {args : Array Value} {below : List Frame} {meth : Method} {c : Code} {H : Heap} {locs : List Loc} {cells slots : Nat} {Q : State → Prop}
variable {cc : ByteArray} {pc nL : Nat} {ls : Array Slot} {n0 : Nat} {b : Nat → Nat} {ρ : Nat → Int32} {D : va_G} {tys : List (ClassId × FieldType)} {A : Nat → Prop} {H0 : Heap} {rest : List Value} {Ts : List Cond} {own : String}
theorem es_getf (hx : p.tables.exec = Jvm.exec) (hb : c.code = cc) (hown : s.vm.findClass own = some m.cls) (hts : ∀ w ∈ Ts, w.before args s = true) (hK : va_K D vwCl tys s) {C : String} {T : u_T} {N ci k index a : Nat} (hc : vwCl[ci]? = some (C, T, N)) (hin : ∀ w ∈ u_ws C T N, w ∈ Ts)
    (hlink : Cond.fieldLink own index (T k).1 (T k).2.1 (T k).2.2.1 ∈ Ts) {cs : List (Nat × es_V)} (ho : es_or D tys n0 b ρ a (0, ci, cs) H) {v : es_V} (hv : es_get cs k = some v) (hd : decode cc pc = .ok (.getfield index, 3))
    (kk : ∀ x, es_vr n0 b ρ v x → W p l e R s m args below meth c H locs cells slots Q (F0 m (pc + 3) ls (x :: rest))) : W p l e R s m args below meth c H locs cells slots Q (F0 m pc ls (.ref a :: rest)) := by
  obtain ⟨r, V, h1, ⟨cell, q1, q2, q3, q4⟩, h3⟩ := ho
  have hr : r = (C, T, N) := Option.some.inj (h1.symm.trans hc)
  subst hr
  obtain ⟨hk, hvr⟩ := h3 k v hv
  obtain ⟨hS, hfc, kC, hkC, hkind⟩ := hK.1 ci _ hc
  obtain ⟨cf, kf, fi, f, hi, hsl⟩ := hS k hk
  refine W.getf hx hb hown (hts _ hlink) hi (u_facts hfc hkC (u_lays hts hin hk) hi).1 q1 (by rw [q3]; exact fun h => by cases h) (v := V k) ?_ rfl rfl hd (kk _ hvr)
  rw [hsl, q4 k hk]
theorem es_putf (hx : p.tables.exec = Jvm.exec) (hb : c.code = cc) (hown : s.vm.findClass own = some m.cls) (hts : ∀ w ∈ Ts, w.before args s = true) (hK : va_K D vwCl tys s) {C : String} {T : u_T} {N ci k index a : Nat} (hc : vwCl[ci]? = some (C, T, N)) (hin : ∀ w ∈ u_ws C T N, w ∈ Ts)
    (ty0 : Nat → FieldType) (hty : ∀ k, k < N → parseFieldDescriptor (T k).2.2.1 = some (ty0 k)) (hnm : ∀ a, a < N → ∀ b, b < N → a ≠ b → (T a).2.1 ≠ (T b).2.1)
    (hlink : Cond.fieldLink own index (T k).1 (T k).2.1 (T k).2.2.1 ∈ Ts) (hfin : (T k).2.2.2 = false ∨ (meth.name = "<init>" ∧ (T k).1 = own)) {cs : List (Nat × es_V)} (ho : es_or D tys n0 b ρ a (0, ci, cs) H) {v w : es_V} (hw : es_get cs k = some w) {x : Value} (hv : es_vr n0 b ρ v x) (hn : narrow (ty0 k) x = x) (hft : fits (ty0 k) x = true) (hd : decode cc pc = .ok (.putfield index, 3))
    (kk : ∀ (H1 : Heap) (i : Nat), es_or D tys n0 b ρ a (0, ci, es_set cs k v) H1 → H1.size = H.size → (∀ q : Nat, q ≠ a → H1[q]? = H[q]?) → W p l e R s m args below meth c H1 (locs ++ [⟨a, i⟩]) cells slots Q (F0 m (pc + 3) ls rest)) : W p l e R s m args below meth c H locs cells slots Q (F0 m pc ls (x :: .ref a :: rest)) := by
  have hap := va_apart (own := own) hts hin ty0 hty hnm hK hc
  obtain ⟨r, V, h1, ⟨cell, q1, q2, q3, q4⟩, h3⟩ := ho
  have hr : r = (C, T, N) := Option.some.inj (h1.symm.trans hc)
  subst hr
  obtain ⟨hk, -⟩ := h3 k w hw
  obtain ⟨hS, hfc, kC, hkC, hkind⟩ := hK.1 ci _ hc
  obtain ⟨cf, kf, fi, f, hi, hsl⟩ := hS k hk
  have hst := (u_facts hfc hkC (u_lays hts hin hk) hi).1
  have hend : ∀ H1 : Heap, H1[a]? = some (cell.setSlot (D.2 ci k) x) → es_or D tys n0 b ρ a (0, ci, es_set cs k v) H1 := by
    intro H1 e1
    refine ⟨(C, T, N), updV V k x, hc, ⟨_, e1, q2, q3, t_set q4 hap hk x⟩, fun j u hu => ?_⟩
    rw [es_get_set] at hu
    by_cases hj : j = k
    · rw [if_pos hj] at hu
      cases hu
      subst hj
      refine ⟨hk, ?_⟩
      simp only [updV, if_true]
      exact hv
    · rw [if_neg hj] at hu
      obtain ⟨g1, g2⟩ := h3 j u hu
      refine ⟨g1, ?_⟩
      simp only [updV, if_neg hj]
      exact g2
  by_cases hf : (T k).2.2.2 = false
  · have hlay := hts _ (hin _ (u_in_lay hk))
    unfold u_lay at hlay
    rw [if_neg (by rw [hf]; decide)] at hlay
    have h6 := u_store hfc hkC hkind hlay hi (hty k hk) hn hft
    refine W.putK hx hb (f := f) ⟨hown, hts _ hlink, ⟨_, _, _, hi⟩, hst⟩ (by rw [q2]; exact h6) q1 q3 (by rw [hsl]; exact k2_hasslot (q4 k hk)) rfl rfl hd fun H' e1 e2 e3 => ?_
    rw [hsl] at e1 ⊢
    exact kk H' _ (hend H' e1) e2 e3
  · rcases hfin with h | ⟨hin2, hdecl⟩
    · exact absurd h hf
    · have hlay := hts _ (hin _ (u_in_lay hk))
      unfold u_lay at hlay
      rw [if_pos (show (T k).2.2.2 = true by cases hz : (T k).2.2.2 <;> simp_all)] at hlay
      have hcf : m.cls = cf := by
        obtain ⟨_, _, c', _, _, _, -, -, hf', -, -, -, hown2, -⟩ := Cond.laysFinal_spec hlay
        have e1 : c' = cf := by have := hi.symm.trans hf'; simp at this; exact this.1.symm
        rw [hdecl] at hown2
        rw [← e1]; exact Option.some.inj (hown.symm.trans hown2)
      have h6 := u_fits hfc hkC hkind (u_lays hts hin hk) hi (hty k hk) hn hft
      refine W.putFinK hx hb hown (hts _ hlink) hi hst hcf hin2 (by rw [q2]; exact h6) q1 q3 (by rw [hsl]; exact k2_hasslot (q4 k hk)) rfl rfl hd fun H' e1 e2 e3 => ?_
      rw [hsl] at e1 ⊢
      exact kk H' _ (hend H' e1) e2 e3
end Rd

end
section
noncomputable def es_aset (t : Nat) (c : List (Nat × es_V)) (j : Nat) (v : es_V) : List (Nat × es_V) := match es_get c j with
  | some _ => es_set c j v
  | none => bif Nat.beq v.1 (es_dv t).1 && Nat.beq v.2 (es_dv t).2 then c else es_set c j v
theorem es_ad_set (t : Nat) (c : List (Nat × es_V)) (j i : Nat) (v : es_V) : es_ad t (es_aset t c j v) i = if i = j then v else es_ad t c i := by
  have hs : es_ad t (es_set c j v) i = if i = j then v else es_ad t c i := by
    unfold es_ad
    rw [es_get_set]
    by_cases h : i = j
    · simp [h]
    · simp [h]
  unfold es_aset
  split
  · exact hs
  · rename_i hn
    cases hb : (Nat.beq v.1 (es_dv t).1 && Nat.beq v.2 (es_dv t).2)
    · exact hs
    · rw [Bool.and_eq_true, es_beq, es_beq] at hb
      have e : v = es_dv t := Prod.ext hb.1 hb.2
      dsimp only [cond_true]
      by_cases h : i = j
      · subst h
        rw [if_pos rfl, e]
        unfold es_ad
        rw [hn]
      · rw [if_neg h]
section Ar
variable {p : Program} {l : Launch} {e : Env} {R : Room} {s : State} {m : MethodId} {args : Array Value} {below : List Frame} {meth : Method} {c : Code} {H : Heap} {locs : List Loc} {cells slots : Nat} {Q : State → Prop}
variable {cc : ByteArray} {pc nL : Nat} {ls : Array Slot} {n0 : Nat} {b : Nat → Nat} {ρ : Nat → Int32} {D : va_G} {tys : List (ClassId × FieldType)} {A : Nat → Prop} {H0 : Heap} {rest : List Value} {Ts : List Cond} {own : String}
noncomputable def es_lop (t : Nat) : Instr := match t with
  | 0 => .iaload
  | 1 => .laload
  | 2 => .baload
  | _ => .aaload
noncomputable def es_sop (t : Nat) : Instr := match t with
  | 0 => .iastore
  | 1 => .lastore
  | 2 => .bastore
  | _ => .aastore
noncomputable def es_tyq (t : Nat) : FieldType := match t with
  | 0 => .int
  | 1 => .long
  | 2 => .boolean
  | 3 => .object RX2
  | _ => .object RX7
noncomputable abbrev es_TY (cI cJ cZ cC cM : ClassId) : List (ClassId × FieldType) := [(cI, .int), (cJ, .long), (cZ, .boolean), (cC, .object RX2), (cM, .object RX7)]
variable {cI cJ cZ cC cM : ClassId}
theorem es_TY_at {t : Nat} {q : ClassId × FieldType} (h : (es_TY cI cJ cZ cC cM)[t]? = some q) : q.2 = es_tyq t ∧ t < 5 := by
  match t, h with
  | 0, h => cases h; exact ⟨rfl, by decide⟩
  | 1, h => cases h; exact ⟨rfl, by decide⟩
  | 2, h => cases h; exact ⟨rfl, by decide⟩
  | 3, h => cases h; exact ⟨rfl, by decide⟩
  | 4, h => cases h; exact ⟨rfl, by decide⟩
  | t + 5, h => simp at h
theorem es_ald (hx : p.tables.exec = Jvm.exec) (hb : c.code = cc) (hK : va_K D vwCl (es_TY cI cJ cZ cC cM) s) {t n j a : Nat} {cs : List (Nat × es_V)} (ho : es_or D (es_TY cI cJ cZ cC cM) n0 b ρ a (t + 2, n, cs) H) (hj : j < n) (hn : n < 2147483648) (hd : decode cc pc = .ok (es_lop t, 1))
    (kk : ∀ x, es_vr n0 b ρ (es_ad t cs j) x → W p l e R s m args below meth c H locs cells slots Q (F0 m (pc + 1) ls (x :: rest))) : W p l e R s m args below meth c H locs cells slots Q (F0 m pc ls (.int (nI j) :: .ref a :: rest)) := by
  obtain ⟨⟨cA, ty⟩, V, h1, h2, h3⟩ := ho
  obtain ⟨e1, ht⟩ := es_TY_at h1
  dsimp only at e1 h2 h3
  subst e1
  have hA := (hK.2 t _ h1).1
  have hin : ¬ (nI j < 0 ∨ (arrV cA n V).slots.size ≤ (nI j).toNatClampNeg) := by rw [arrV_size]; exact nI_in hj hn
  have hrd : (arrV cA n V).slots[(nI j).toNatClampNeg]? = some (V j) := by rw [nI_clamp (by omega), arrV_read _ _ hj]
  have hkn : (arrV cA n V).vm ≠ .unknown := fun q => by cases q
  match t, ht, hA, hd, h3 with
  | 0, _, hA, hd, h3 => exact W.iald hx hb h2 (hA n V) hkn hin hrd rfl rfl hd (kk _ (h3 j hj))
  | 1, _, hA, hd, h3 => exact W.lald hx hb h2 (hA n V) hkn hin hrd rfl rfl hd (kk _ (h3 j hj))
  | 2, _, hA, hd, h3 => exact W.zald hx hb h2 (hA n V) hkn hin hrd rfl rfl hd (kk _ (h3 j hj))
  | 3, _, hA, hd, h3 => exact W.aald hx hb h2 (hA n V) rfl hkn hin hrd rfl rfl hd (kk _ (h3 j hj))
  | 4, _, hA, hd, h3 => exact W.aald hx hb h2 (hA n V) rfl hkn hin hrd rfl rfl hd (kk _ (h3 j hj))
  | t + 5, ht, _, _, _ => exact absurd ht (by omega)
theorem es_aln (hx : p.tables.exec = Jvm.exec) (hb : c.code = cc) (hK : va_K D vwCl (es_TY cI cJ cZ cC cM) s) {t n a : Nat} {cs : List (Nat × es_V)} (ho : es_or D (es_TY cI cJ cZ cC cM) n0 b ρ a (t + 2, n, cs) H) (hd : decode cc pc = .ok (.arraylength, 1))
    (kk : W p l e R s m args below meth c H locs cells slots Q (F0 m (pc + 1) ls (.int (nI n) :: rest))) : W p l e R s m args below meth c H locs cells slots Q (F0 m pc ls (.ref a :: rest)) := by
  obtain ⟨⟨cA, ty⟩, V, h1, h2, h3⟩ := ho
  exact W.alen (n := nI n) hx hb h2 ((hK.2 t _ h1).1 n V) (by rw [arrV_size]; rfl) rfl rfl hd kk
/-- what may be stored: an int, a long, a truth, a reference to an object of the row's own kind -/
noncomputable def es_sfit (AH : List es_O) (F : es_F) (t : Nat) (v : es_V) : Bool := match t with
  | 0 => es_ti v
  | 1 => Nat.beq v.1 2
  | 2 => es_fitv .boolean F v
  | t + 3 => bif Nat.beq v.1 3 then (match AH[v.2]? with
      | some o => Nat.beq o.1 0 && Nat.beq o.2.1 (bif Nat.beq t 0 then 2 else 7)
      | none => false) else false
theorem es_ast (hx : p.tables.exec = Jvm.exec) (hb : c.code = cc) (hK : va_K D vwCl (es_TY cI cJ cZ cC cM) s) {AH : List es_O} {F : es_F} (hF : es_fr ρ F) (hH : es_hr D (es_TY cI cJ cZ cC cM) n0 b ρ AH H) {t n j a : Nat} {cs : List (Nat × es_V)} (ho : es_or D (es_TY cI cJ cZ cC cM) n0 b ρ a (t + 2, n, cs) H) (hj : j < n) (hn : n < 2147483648) {v : es_V} {x : Value} (hv : es_vr n0 b ρ v x) (hfit : es_sfit AH F t v = true) (hd : decode cc pc = .ok (es_sop t, 1))
    (kk : ∀ (H1 : Heap) (i : Nat), es_or D (es_TY cI cJ cZ cC cM) n0 b ρ a (t + 2, n, es_aset t cs j v) H1 → H1.size = H.size → (∀ q : Nat, q ≠ a → H1[q]? = H[q]?) → W p l e R s m args below meth c H1 (locs ++ [⟨a, i⟩]) cells slots Q (F0 m (pc + 1) ls rest)) : W p l e R s m args below meth c H locs cells slots Q (F0 m pc ls (x :: .int (nI j) :: .ref a :: rest)) := by
  obtain ⟨⟨cA, ty⟩, V, h1, h2, h3⟩ := ho
  obtain ⟨e1, ht⟩ := es_TY_at h1
  dsimp only at e1 h2 h3
  subst e1
  have hA := (hK.2 t _ h1).1
  have hin : ¬ (nI j < 0 ∨ (arrV cA n V).slots.size ≤ (nI j).toNatClampNeg) := by rw [arrV_size]; exact nI_in hj hn
  have hkn : (arrV cA n V).vm ≠ .unknown := fun q => by cases q
  have hcl : (nI j).toNatClampNeg = j := nI_clamp (by omega)
  have hend : ∀ H1 : Heap, H1[a]? = some ((arrV cA n V).setSlot (nI j).toNatClampNeg x) → es_or D (es_TY cI cJ cZ cC cM) n0 b ρ a (t + 2, n, es_aset t cs j v) H1 := by
    intro H1 g1
    rw [hcl, arrV_store] at g1
    refine ⟨(cA, es_tyq t), updV V j x, h1, g1, fun i hi => ?_⟩
    rw [es_ad_set]
    by_cases hij : i = j
    · simp only [updV, if_pos hij]; exact hv
    · simp only [updV, if_neg hij]; exact h3 i hi
  match t, ht, hA, hd, hfit, hend, h1 with
  | 0, _, hA, hd, hfit, hend, _ =>
    obtain ⟨z, rfl⟩ := es_ti_int hv hfit
    exact W.iast hx hb h2 (hA n V) hkn hin rfl rfl hd fun H1 g1 g2 g3 => kk H1 _ (hend H1 g1) g2 g3
  | 1, _, hA, hd, hfit, hend, _ =>
    have e2 := es_t2_long hv hfit
    subst e2
    exact W.last hx hb h2 (hA n V) hkn hin rfl rfl hd fun H1 g1 g2 g3 => kk H1 _ (hend H1 g1) g2 g3
  | 2, _, hA, hd, hfit, hend, _ =>
    have e2 := es_fitv_ok hF hv (ty := .boolean) hfit
    have hti : es_ti v = true := by
      have h9 : (match es_kn F v with | some n => Nat.beq n 0 || Nat.beq n 1 | none => false) = true := hfit
      cases hk : es_kn F v with
      | none => rw [hk] at h9; cases h9
      | some n => exact es_kn_ti hk
    obtain ⟨z, rfl⟩ := es_ti_int hv hti
    refine W.zast hx hb h2 (hA n V) hkn hin rfl rfl hd fun H1 g1 g2 g3 => kk H1 _ (hend H1 ?_) g2 g3
    rw [e2.1] at g1
    exact g1
  | t + 3, ht, hA, hd, hfit, hend, h1 =>
    unfold es_sfit at hfit
    dsimp only at hfit
    cases h3v : Nat.beq v.1 3
    · rw [h3v] at hfit; cases hfit
    · rw [h3v] at hfit
      dsimp only [cond_true] at hfit
      have e2 := es_t3_ref hv h3v
      subst e2
      cases hav : AH[v.2]? with
      | none => rw [hav] at hfit; cases hfit
      | some o =>
        rw [hav] at hfit
        dsimp only at hfit
        obtain ⟨ok, oi, oc⟩ := o
        rw [Bool.and_eq_true, es_beq, es_beq] at hfit
        obtain ⟨hf1, hf2⟩ := hfit
        dsimp only at hf1 hf2
        subst hf1
        obtain ⟨r, V', k1, ⟨cellV, g1, g2, g3, -⟩, -⟩ := hH.2 _ _ hav
        dsimp only at k1 g2
        have hcls := (hK.1 oi r k1).2
        have hr1 : es_tyq (t + 3) = .object r.1 := by
          match t, ht, hf2 with
          | 0, _, hf2 => have e3 : oi = 2 := hf2; subst e3; cases k1; rfl
          | 1, _, hf2 => have e3 : oi = 7 := hf2; subst e3; cases k1; rfl
          | t + 2, ht, _ => exact absurd ht (by omega)
        have hRA := (hK.2 (t + 3) _ h1).2
        dsimp only at hRA
        rw [hr1] at hRA
        obtain ⟨kA, comp, j1, j2, j3, -⟩ := hRA
        have hcomp : comp = D.1 oi := Option.some.inj (j3.symm.trans hcls.1)
        subst hcomp
        obtain ⟨kC, hkC, -⟩ := id hcls.2
        have hd2 : decode cc pc = .ok (.aastore, 1) := hd
        exact W.aast hx hb h2 (fun q h => by cases h) hkn j1 j2 rfl hkC ⟨fun q => hin (Or.inl q), by rw [arrV_size, hcl]; exact hj⟩ g1 (fun q h => by rw [g3] at h; cases h) (by rw [g2]; exact hkC) (by rw [g2]; exact va_assign hcls) rfl rfl hd2 fun H1 w1 w2 w3 => kk H1 _ (hend H1 w1) w2 w3
/-- a new row of a plain type -/
noncomputable def es_nat (t : Nat) : ArrayType := match t with
  | 0 => .int
  | 1 => .long
  | _ => .boolean
theorem es_newa (hx : p.tables.exec = Jvm.exec) (hb : c.code = cc) (hK : va_K D vwCl (es_TY cI cJ cZ cC cM) s) {AH : List es_O} (hH : es_hr D (es_TY cI cJ cZ cC cM) n0 b ρ AH H) {t n : Nat} (ht : t < 3) (hn : n < 1000000) (hw : (Cond.arrayClass (newarray.typeOf (es_nat t))).before args s = true) (hcells : cells + 1 ≤ R.cells) (hslots : slots + n ≤ R.slots) (hd : decode cc pc = .ok (.newarray (es_nat t), 2))
    (kk : ∀ H1 : Heap, es_hr D (es_TY cI cJ cZ cC cM) n0 b ρ (AH ++ [(t + 2, n, [])]) H1 → H1.size = H.size + 1 → (∀ q : Nat, q < H.size → H1[q]? = H[q]?) → W p l e R s m args below meth c H1 locs (cells + 1) (slots + n) Q (F0 m (pc + 2) ls (.ref H.size :: rest))) : W p l e R s m args below meth c H locs cells slots Q (F0 m pc ls (.int (nI n) :: rest)) := by
  have hcl : (nI n).toNatClampNeg = n := nI_clamp (by omega)
  have hnn : ¬ nI n < 0 := nI_pos (by omega)
  have hby : (nI n).toNatClampNeg * componentBytes (newarray.typeOf (es_nat t)) ≤ 536870912 := by
    rw [hcl]
    match t, ht with
    | 0, _ => show n * 4 ≤ _; omega
    | 1, _ => show n * 8 ≤ _; omega
    | 2, _ => show n * 1 ≤ _; omega
  refine W.newa hx hb hw rfl hd rfl hnn hby hcells (by rw [hcl]; exact hslots) fun cA kA comp f1 f2 f3 => ?_
  generalize hH1 : H.push ({ cls := cA, slots := Array.replicate (nI n).toNatClampNeg (defaultValue (newarray.typeOf (es_nat t))), vm := .none } : Cell) = H1
  have z1 : H1.size = H.size + 1 := by rw [← hH1, Array.size_push]
  have g1 : H1[H.size]? = some (arrV cA n (fun _ => defaultValue (newarray.typeOf (es_nat t)))) := by rw [← hH1, Array.getElem?_push_size, ← arrV_new, hcl]
  have o1 : ∀ q : Nat, q < H.size → H1[q]? = H[q]? := fun q hq => by rw [← hH1, Array.getElem?_push, if_neg (Nat.ne_of_lt hq)]
  rw [hcl]
  refine kk H1 (es_hr_push hH z1 o1 ?_) z1 o1
  match t, ht, f1, g1 with
  | 0, _, f1, g1 =>
    have e1 : cA = cI := Option.some.inj (f1.symm.trans (hK.2 0 _ rfl).2)
    subst e1
    exact ⟨(cA, .int), _, rfl, g1, fun j _ => by show Value.int 0 = Value.int (nI 0); rw [nI_0]⟩
  | 1, _, f1, g1 =>
    have e1 : cA = cJ := Option.some.inj (f1.symm.trans (hK.2 1 _ rfl).2)
    subst e1
    exact ⟨(cA, .long), _, rfl, g1, fun j _ => by show _ = _; rfl⟩
  | 2, _, f1, g1 =>
    have e1 : cA = cZ := Option.some.inj (f1.symm.trans (hK.2 2 _ rfl).2)
    subst e1
    exact ⟨(cA, .boolean), _, rfl, g1, fun j _ => by show Value.int 0 = Value.int (nI 0); rw [nI_0]⟩
/-- a new row of references -/
theorem es_anew (hx : p.tables.exec = Jvm.exec) (hb : c.code = cc) (hown : s.vm.findClass own = some m.cls) (hK : va_K D vwCl (es_TY cI cJ cZ cC cM) s) {AH : List es_O} (hH : es_hr D (es_TY cI cJ cZ cC cM) n0 b ρ AH H) {t n index : Nat} {C : String} (hC : es_tyq (t + 3) = .object C) (ht : t < 2) (hn : n < 1000000) (hw : (Cond.classLink own index C).before args s = true) (ho : (Cond.arrayOver (.object C)).before args s = true) (hcells : cells + 1 ≤ R.cells) (hslots : slots + n ≤ R.slots) (hd : decode cc pc = .ok (.anewarray index, 3))
    (kk : ∀ H1 : Heap, es_hr D (es_TY cI cJ cZ cC cM) n0 b ρ (AH ++ [(t + 3 + 2, n, [])]) H1 → H1.size = H.size + 1 → (∀ q : Nat, q < H.size → H1[q]? = H[q]?) → W p l e R s m args below meth c H1 locs (cells + 1) (slots + n) Q (F0 m (pc + 3) ls (.ref H.size :: rest))) : W p l e R s m args below meth c H locs cells slots Q (F0 m pc ls (.int (nI n) :: rest)) := by
  have hcl : (nI n).toNatClampNeg = n := nI_clamp (by omega)
  have hnn : ¬ nI n < 0 := nI_pos (by omega)
  refine W.anew hx hb hown hw ho rfl hd rfl hnn (by rw [hcl]; omega) hcells (by rw [hcl]; exact hslots) fun cA kA comp f1 f2 f3 f4 => ?_
  generalize hH1 : H.push ({ cls := cA, slots := Array.replicate (nI n).toNatClampNeg .null, vm := .none } : Cell) = H1
  have z1 : H1.size = H.size + 1 := by rw [← hH1, Array.size_push]
  have g1 : H1[H.size]? = some (arrV cA n (fun _ => .null)) := by rw [← hH1, Array.getElem?_push_size, ← arrV_new, hcl]
  have o1 : ∀ q : Nat, q < H.size → H1[q]? = H[q]? := fun q hq => by rw [← hH1, Array.getElem?_push, if_neg (Nat.ne_of_lt hq)]
  rw [hcl]
  refine kk H1 (es_hr_push hH z1 o1 ?_) z1 o1
  match t, ht, hC with
  | 0, _, hC =>
    cases hC
    obtain ⟨_, _, _, _, _, e2⟩ := (hK.2 3 _ rfl).2
    have e1 : cA = cC := Option.some.inj (f1.symm.trans e2)
    subst e1
    exact ⟨(cA, .object RX2), _, rfl, g1, fun j _ => rfl⟩
  | 1, _, hC =>
    cases hC
    obtain ⟨_, _, _, _, _, e2⟩ := (hK.2 4 _ rfl).2
    have e1 : cA = cM := Option.some.inj (f1.symm.trans e2)
    subst e1
    exact ⟨(cA, .object RX7), _, rfl, g1, fun j _ => rfl⟩
/-- a new object -/
noncomputable def es_fs (N : Nat) (ty : Nat → FieldType) : List (Nat × es_V) := (List.range N).map (fun k => (k, match ty k with
  | .int => ((0, 0) : es_V)
  | .boolean => (0, 0)
  | _ => (4, 0)))
theorem es_get_map {α : Type} (f : Nat → α) : ∀ (l : List Nat) (k : Nat) (v : α), es_get (l.map (fun k => (k, f k))) k = some v → k ∈ l ∧ v = f k
  | [], k, v, h => by cases h
  | a :: t, k, v, h => by
    simp only [List.map_cons, es_get] at h
    cases hb : Nat.beq a k
    · rw [hb] at h
      obtain ⟨h1, h2⟩ := es_get_map f t k v h
      exact ⟨List.mem_cons_of_mem _ h1, h2⟩
    · rw [hb] at h
      have e := es_beq.mp hb
      subst e
      cases h
      exact ⟨List.mem_cons_self, rfl⟩
theorem es_newo (hx : p.tables.exec = Jvm.exec) (hb : c.code = cc) (hown : s.vm.findClass own = some m.cls) (hts : ∀ w ∈ Ts, w.before args s = true) {tys : List (ClassId × FieldType)} (hK : va_K D vwCl tys s) {AH : List es_O} (hH : es_hr D tys n0 b ρ AH H) {C : String} {T : u_T} {N ci index : Nat} (hc : vwCl[ci]? = some (C, T, N)) (hin : ∀ w ∈ u_ws C T N, w ∈ Ts)
    (ty0 : Nat → FieldType) (hty : ∀ k, k < N → parseFieldDescriptor (T k).2.2.1 = some (ty0 k)) (hpl : ∀ k, k < N → ty0 k = .int ∨ ty0 k = .boolean ∨ (∃ C, ty0 k = .object C) ∨ ∃ t, ty0 k = .array t)
    (hw1 : Cond.classLink own index C ∈ Ts) (hw2 : Cond.instantiable C N ∈ Ts) (hw3 : Cond.initialized C ∈ Ts) (hcells : cells + 1 ≤ R.cells) (hslots : slots + N ≤ R.slots) (hd : decode cc pc = .ok (.new index, 3))
    (kk : ∀ H1 : Heap, es_hr D tys n0 b ρ (AH ++ [(0, ci, es_fs N ty0)]) H1 → H1.size = H.size + 1 → (∀ q : Nat, q < H.size → H1[q]? = H[q]?) → W p l e R s m args below meth c H1 locs (cells + 1) (slots + N) Q (F0 m (pc + 3) ls (.ref H.size :: rest))) : W p l e R s m args below meth c H locs cells slots Q (F0 m pc ls rest) := by
  have hKn := hK.1 ci _ hc
  refine W.newcK hx hb hown (hts _ hw1) (hts _ hw2) (hts _ hw3) rfl hd hcells hslots hKn.2.1 rfl fun H1 kC hkC e1 z1 o1 => ?_
  refine kk H1 (es_hr_push hH z1 o1 ?_) z1 o1
  refine ⟨(C, T, N), _, hc, u_born ty0 hts hin hKn hkC e1 hty, fun k v hv => ?_⟩
  obtain ⟨h1, h2⟩ := es_get_map _ _ _ _ hv
  have hk : k < N := List.mem_range.mp h1
  refine ⟨hk, ?_⟩
  subst h2
  rcases hpl k hk with h | h | ⟨C', h⟩ | ⟨t, h⟩
  · rw [h]; show _ = _; rw [nI_0]; rfl
  · rw [h]; show _ = _; rw [nI_0]; rfl
  · rw [h]; rfl
  · rw [h]; rfl
end Ar

end
section
abbrev es_K : Type := Nat × es_L × List es_V × List es_O × es_F × Nat × Nat
abbrev es_E : Type := Nat × es_K
abbrev es_M : Type := MethodName × String × ByteArray × Nat × Option FieldType × List (Nat × Nat × Nat × Nat) × List (Nat × List es_I) × Nat × Nat × Nat × Nat
abbrev es_Lf : Type := Nat × es_V × List es_O × es_F
noncomputable def es_y (M : es_M) : MethodName := M.1
noncomputable def es_own (M : es_M) : String := M.2.1
noncomputable def es_code (M : es_M) : ByteArray := M.2.2.1
noncomputable def es_mL (M : es_M) : Nat := M.2.2.2.1
noncomputable def es_rt (M : es_M) : Option FieldType := M.2.2.2.2.1
noncomputable def es_hh (M : es_M) : List (Nat × Nat × Nat × Nat) := M.2.2.2.2.2.1
noncomputable def es_tab (M : es_M) : List (Nat × List es_I) := M.2.2.2.2.2.2.1
noncomputable def es_rf (M : es_M) : Nat := M.2.2.2.2.2.2.2.1
noncomputable def es_mc (M : es_M) : Nat := M.2.2.2.2.2.2.2.2.1
noncomputable def es_ms (M : es_M) : Nat := M.2.2.2.2.2.2.2.2.2.1
noncomputable def es_lo (M : es_M) : Nat := M.2.2.2.2.2.2.2.2.2.2
noncomputable def es_fi : List es_I → Nat → Option es_I
  | [], _ => none
  | q :: t, pc => bif Nat.beq q.1 pc then some q else es_fi t pc
noncomputable def es_at : List (Nat × List es_I) → Nat → Option es_I
  | [], _ => none
  | q :: t, pc => bif Nat.blt pc q.1 then es_fi q.2 pc else es_at t pc
theorem es_fi_ok : ∀ {l : List es_I} {pc : Nat} {e : es_I}, es_fi l pc = some e → e.1 = pc ∧ e ∈ l
  | [], _, _, h => by cases h
  | q :: t, pc, e, h => by
    unfold es_fi at h
    cases hb : Nat.beq q.1 pc
    · rw [hb] at h
      obtain ⟨h1, h2⟩ := es_fi_ok (show es_fi t pc = some e from h)
      exact ⟨h1, List.mem_cons_of_mem _ h2⟩
    · rw [hb] at h
      cases h
      exact ⟨es_beq.mp hb, List.mem_cons_self⟩
theorem es_at_ok : ∀ {l : List (Nat × List es_I)} {pc : Nat} {e : es_I}, es_at l pc = some e → e.1 = pc ∧ ∃ q ∈ l, e ∈ q.2
  | [], _, _, h => by cases h
  | q :: t, pc, e, h => by
    unfold es_at at h
    cases hb : Nat.blt pc q.1
    · rw [hb] at h
      obtain ⟨h1, r, h2, h3⟩ := es_at_ok (show es_at t pc = some e from h)
      exact ⟨h1, r, List.mem_cons_of_mem _ h2, h3⟩
    · rw [hb] at h
      obtain ⟨h1, h2⟩ := es_fi_ok (show es_fi q.2 pc = some e from h)
      exact ⟨h1, q, List.mem_cons_self, h2⟩
noncomputable def es_cat {α β : Type} (f : α → Option (List β)) : List α → Option (List β)
  | [] => some []
  | a :: t => match f a with
    | none => none
    | some x => match es_cat f t with
      | none => none
      | some y => some (x ++ y)
theorem es_cat_ok {α β : Type} {f : α → Option (List β)} : ∀ {l : List α} {r : List β}, es_cat f l = some r → ∀ a ∈ l, ∃ x, f a = some x ∧ ∀ z ∈ x, z ∈ r
  | [], _, _, a, ha => by cases ha
  | b :: t, r, h, a, ha => by
    unfold es_cat at h
    cases hb : f b with
    | none => rw [hb] at h; cases h
    | some x =>
      rw [hb] at h
      dsimp only at h
      cases ht : es_cat f t with
      | none => rw [ht] at h; cases h
      | some y =>
        rw [ht] at h
        cases h
        rcases List.mem_cons.mp ha with rfl | ha
        · exact ⟨x, hb, fun z hz => List.mem_append_left _ hz⟩
        · obtain ⟨x', h1, h2⟩ := es_cat_ok ht a ha
          exact ⟨x', h1, fun z hz => List.mem_append_right _ (h2 z hz)⟩
noncomputable def es_nar (F : es_F) (v : es_V) : Bool := match es_kn F v with
  | some n => Nat.blt n 128
  | none => false
noncomputable def es_rtv (ret : Option FieldType) (ins : Instr) (S : List es_V) (F : es_F) : Option (Nat × es_V) := match ins with
  | .return_ => match S, ret with
    | [], none => some (0, 0, 0)
    | _, _ => none
  | .ireturn => match S, ret with
    | [v], some .int => bif es_ti v then some (1, v) else none
    | [v], some .boolean => bif es_fitv .boolean F v then some (1, v) else none
    | [v], some .char => bif es_nar F v then some (1, v) else none
    | [v], some .byte => bif es_nar F v then some (1, v) else none
    | _, _ => none
  | .lreturn => match S, ret with
    | [v], some .long => bif Nat.beq v.1 2 then some (1, v) else none
    | _, _ => none
  | .areturn => match S, ret with
    | [v], some (.object _) => bif es_tr v then some (1, v) else none
    | [v], some (.array _) => bif es_tr v then some (1, v) else none
    | _, _ => none
  | _ => none
noncomputable def es_cts (S : List es_V) : Nat := match S with
  | [] => 0
  | v :: t => (bif Nat.beq v.1 2 then 2 else 1) + es_cts t
/-- the end of a method, as its caller sees it: 0 nothing, 1 a value, 2 and on a thrown one -/
noncomputable def es_leaf (M : es_M) (E : es_E) : Option es_Lf := match E with
  | (n + 1, _, _, _, AH, F, cs, ss) => match es_hh M with
    | [] => bif Nat.ble cs (es_mc M) && Nat.ble ss (es_ms M) then some (n + 2, (0, 0), AH, F) else none
    | _ => none
  | (0, pc, _, S, AH, F, cs, ss) => match es_at (es_tab M) pc with
    | some e => match e.2.2.2 with
      | 100 :: x :: _ => match es_hh M with
        | [] => bif (Nat.blt cs (es_mc M) && Nat.ble (ss + 6) (es_ms M)) && (Nat.blt 5 (es_rf M) && Nat.ble 100 (es_lo M)) && Nat.ble (es_cts S) 8 then some (x + 2, (0, 0), AH ++ [(1, 0, [])], F) else none
        | _ => none
      | _ => match es_rtv (es_rt M) e.2.1 S F with
        | some q => bif Nat.ble cs (es_mc M) && Nat.ble ss (es_ms M) then some (q.1, q.2, AH, F) else none
        | none => none
    | none => none
noncomputable def es_al : Nat → List es_V → es_L
  | _, [] => []
  | i, v :: vs => (i, v) :: es_al (bif Nat.beq v.1 2 then i + 2 else i + 1) vs
noncomputable def es_ary (AH : List es_O) (v : es_V) : Option (Nat × Nat × List (Nat × es_V)) := bif Nat.beq v.1 3 then (match AH[v.2]? with
  | some (t + 2, n, c) => bif Nat.blt n 2147483648 then some (t, n, c) else none
  | _ => none) else none
noncomputable def es_obj (AH : List es_O) (ci : Nat) (v : es_V) : Option (List (Nat × es_V)) := bif Nat.beq v.1 3 then (match AH[v.2]? with
  | some (0, i, c) => bif Nat.beq i ci then some c else none
  | _ => none) else none
/-- which kind of row an instruction reads or writes -/
noncomputable def es_lt (ins : Instr) (t : Nat) : Bool := match ins with
  | .iaload => Nat.beq t 0
  | .laload => Nat.beq t 1
  | .baload => Nat.beq t 2
  | .aaload => Nat.blt 2 t && Nat.blt t 5
  | _ => false
noncomputable def es_sti (ins : Instr) (t : Nat) : Bool := match ins with
  | .iastore => Nat.beq t 0
  | .lastore => Nat.beq t 1
  | .bastore => Nat.beq t 2
  | .aastore => Nat.blt 2 t && Nat.blt t 5
  | _ => false
noncomputable def es_tyf (ci : Nat) : Nat → FieldType := match ci with
  | 0 => tyX0
  | 1 => tyX1
  | 2 => tyX2
  | 3 => tyX3
  | 4 => tyX4
  | 5 => tyX5
  | 6 => tyX6
  | 7 => tyX7
  | 8 => tyX8
  | 9 => tyX9
  | 10 => tyX10
  | 11 => tyX11
  | _ => tyX12
noncomputable def es_hset (AH : List es_O) (a t n : Nat) (c : List (Nat × es_V)) (j : Nat) (v : es_V) : List es_O := match es_get c j with
  | some _ => AH.set a (t + 2, n, es_set c j v)
  | none => bif Nat.beq v.1 (es_dv t).1 && Nat.beq v.2 (es_dv t).2 then AH else AH.set a (t + 2, n, es_set c j v)
theorem es_hset_eq {AH : List es_O} {a t n : Nat} {c : List (Nat × es_V)} (h : AH[a]? = some (t + 2, n, c)) (j : Nat) (v : es_V) : es_hset AH a t n c j v = AH.set a (t + 2, n, es_aset t c j v) := by
  unfold es_hset es_aset
  cases hg : es_get c j with
  | some w => rfl
  | none =>
    dsimp only
    cases hb : (Nat.beq v.1 (es_dv t).1 && Nat.beq v.2 (es_dv t).2)
    · rfl
    · dsimp only [cond_true]
      obtain ⟨hl, he⟩ := List.getElem?_eq_some_iff.mp h
      rw [← he, List.set_getElem_self]
noncomputable def es_nrm (F : es_F) (j : Nat) : es_V := match es_kn F (1, j) with
  | some n => (0, n)
  | none => (1, j)
/-- a step that reads or writes the heap and calls nothing -/
noncomputable def es_hs (SL : Nat) (M : es_M) (e : es_I) (K : es_K) : Option es_K := match K with
  | (pc, L, S, AH, F, cs, ss) => match e.2.1 with
    | .getfield _ => match e.2.2.2, S with
      | ci :: k :: _, v :: S' => match es_obj AH ci v with
        | some c => match es_get c k with
          | some w => some (pc + 3, L, w :: S', AH, F, cs, ss)
          | none => none
        | none => none
      | _, _ => none
    | .putfield _ => match e.2.2.2, S with
      | ci :: k :: _, v :: o :: S' => match es_obj AH ci o with
        | some c => match es_get c k with
          | some _ => bif es_fitv (es_tyf ci k) F v then some (pc + 3, L, S', AH.set o.2 (0, ci, es_set c k v), F, cs, ss) else none
          | none => none
        | none => none
      | _, _ => none
    | .new _ => match e.2.2.2 with
      | 1 :: ci :: _ => match vwCl[ci]? with
        | some r => bif Nat.blt cs (es_mc M) && Nat.ble (ss + r.2.2) (es_ms M) then some (pc + 3, L, (3, AH.length) :: S, AH ++ [(0, ci, es_fs r.2.2 (es_tyf ci))], F, cs + 1, ss + r.2.2) else none
        | none => none
      | _ => none
    | .newarray _ => match e.2.2.2, S with
      | t :: _, v :: S' => match es_kn F v with
        | some n => bif (Nat.blt t 3 && Nat.blt n 1000000) && (Nat.blt cs (es_mc M) && Nat.ble (ss + n) (es_ms M)) then some (pc + 2, L, (3, AH.length) :: S', AH ++ [(t + 2, n, [])], F, cs + 1, ss + n) else none
        | none => none
      | _, _ => none
    | .anewarray _ => match e.2.2.2, S with
      | t :: _, v :: S' => match es_kn F v with
        | some n => bif (Nat.blt t 2 && Nat.blt n 1000000) && (Nat.blt cs (es_mc M) && Nat.ble (ss + n) (es_ms M)) then some (pc + 3, L, (3, AH.length) :: S', AH ++ [(t + 3 + 2, n, [])], F, cs + 1, ss + n) else none
        | none => none
      | _, _ => none
    | .arraylength => match S with
      | v :: S' => bif Nat.beq v.1 5 then some (pc + 1, L, (0, SL) :: S', AH, F, cs, ss) else match es_ary AH v with
        | some (_, n, _) => some (pc + 1, L, (0, n) :: S', AH, F, cs, ss)
        | none => none
      | _ => none
    | .iastore | .lastore | .bastore | .aastore => match S with
      | v :: j :: a :: S' => match es_ary AH a, es_kn F j with
        | some (t, n, c), some jn => bif (es_sti e.2.1 t && Nat.blt jn n) && es_sfit AH F t v then some (pc + 1, L, S', es_hset AH a.2 t n c jn v, F, cs, ss) else none
        | _, _ => none
      | _ => none
    | .iaload | .laload | .baload | .aaload => match S with
      | j :: a :: S' => match es_kn F j with
        | some jn => bif Nat.beq a.1 5 then (match e.2.1 with
            | .iaload => bif Nat.blt jn SL && Nat.blt SL 2147483648 then some (pc + 1, L, es_nrm F jn :: S', AH, F, cs, ss) else none
            | _ => none) else match es_ary AH a with
          | some (t, n, c) => bif es_lt e.2.1 t && Nat.blt jn n then some (pc + 1, L, es_ad t c jn :: S', AH, F, cs, ss) else none
          | none => none
        | none => none
      | _ => none
    | .ldc _ => match e.2.2.2 with
      | _ :: n :: _ => some (pc + 2, L, (0, n) :: S, AH, F, cs, ss)
      | _ => none
    | .ldc_w _ => match e.2.2.2 with
      | _ :: n :: _ => some (pc + 3, L, (0, n) :: S, AH, F, cs, ss)
      | _ => none
    | .ldc2_w _ => match e.2.2.2 with
      | _ :: n :: _ => some (pc + 3, L, (2, n) :: S, AH, F, cs, ss)
      | _ => none
    | _ => none

end
section
noncomputable def es_wj (WS : List Cond) (j : Nat) (w : Cond) : Bool := decide (WS[j]? = some w)
theorem es_wj_in {WS : List Cond} {j : Nat} {w : Cond} (h : es_wj WS j w = true) : w ∈ WS := List.mem_of_getElem? (of_decide_eq_true h)
noncomputable def es_hok (WS : List Cond) (M : es_M) (e : es_I) : Bool := match e.2.1 with
  | .getfield idx => match e.2.2.2 with
    | [ci, k, j] => match vwCl[ci]? with
      | some r => es_wj WS j (.fieldLink (es_own M) idx (r.2.1 k).1 (r.2.1 k).2.1 (r.2.1 k).2.2.1)
      | none => false
    | _ => false
  | .putfield idx => match e.2.2.2 with
    | [ci, k, j] => match vwCl[ci]? with
      | some r => es_wj WS j (.fieldLink (es_own M) idx (r.2.1 k).1 (r.2.1 k).2.1 (r.2.1 k).2.2.1) && (!(r.2.1 k).2.2.2 || (decide ((es_y M).name = "<init>") && decide ((r.2.1 k).1 = es_own M)))
      | none => false
    | _ => false
  | .new idx => match e.2.2.2 with
    | [1, ci, j1, j2, j3] => match vwCl[ci]? with
      | some r => es_wj WS j1 (.classLink (es_own M) idx r.1) && (es_wj WS j2 (.instantiable r.1 r.2.2) && es_wj WS j3 (.initialized r.1))
      | none => false
    | 1 :: _ => false
    | _ => true
  | .newarray ty => match e.2.2.2 with
    | [t, j] => decide (ty = es_nat t) && es_wj WS j (.arrayClass (newarray.typeOf (es_nat t)))
    | _ => false
  | .anewarray idx => match e.2.2.2 with
    | [t, j1] => match es_tyq (t + 3) with
      | .object C => es_wj WS j1 (.classLink (es_own M) idx C)
      | _ => false
    | _ => false
  | .ldc idx => match e.2.2.2 with
    | [j, n] => es_wj WS j (.constant (es_own M) idx (nI n))
    | _ => false
  | .ldc_w idx => match e.2.2.2 with
    | [j, n] => es_wj WS j (.constant (es_own M) idx (nI n))
    | _ => false
  | .ldc2_w idx => match e.2.2.2 with
    | [j, n] => es_wj WS j (.constantLong (es_own M) idx (lN n))
    | _ => false
  | _ => true
theorem es_pl (x : FieldType) (h : (match x with | .int => true | .boolean => true | .object _ => true | .array _ => true | _ => false) = true) : x = .int ∨ x = .boolean ∨ (∃ C, x = .object C) ∨ ∃ t, x = .array t := by
  cases x <;> simp at h <;> simp
noncomputable def es_plb (x : FieldType) : Bool := match x with
  | .int => true
  | .boolean => true
  | .object _ => true
  | .array _ => true
  | _ => false
theorem es_cl {ci : Nat} {r : vw_C} (h : vwCl[ci]? = some r) : (∀ k, k < r.2.2 → parseFieldDescriptor (r.2.1 k).2.2.1 = some (es_tyf ci k)) ∧ (∀ a, a < r.2.2 → ∀ b, b < r.2.2 → a ≠ b → (r.2.1 a).2.1 ≠ (r.2.1 b).2.1) ∧ ∀ k, k < r.2.2 → es_plb (es_tyf ci k) = true := by
  match ci, h with
  | 0, h => cases h; exact ⟨tyX0_ok, nmX0, by decide +kernel⟩
  | 1, h => cases h; exact ⟨tyX1_ok, nmX1, by decide +kernel⟩
  | 2, h => cases h; exact ⟨tyX2_ok, nmX2, by decide +kernel⟩
  | 3, h => cases h; exact ⟨tyX3_ok, nmX3, by decide +kernel⟩
  | 4, h => cases h; exact ⟨tyX4_ok, nmX4, by decide +kernel⟩
  | 5, h => cases h; exact ⟨tyX5_ok, nmX5, by decide +kernel⟩
  | 6, h => cases h; exact ⟨tyX6_ok, nmX6, by decide +kernel⟩
  | 7, h => cases h; exact ⟨tyX7_ok, nmX7, by decide +kernel⟩
  | 8, h => cases h; exact ⟨tyX8_ok, nmX8, by decide +kernel⟩
  | 9, h => cases h; exact ⟨tyX9_ok, nmX9, by decide +kernel⟩
  | 10, h => cases h; exact ⟨tyX10_ok, nmX10, by decide +kernel⟩
  | 11, h => cases h; exact ⟨tyX11_ok, nmX11, by decide +kernel⟩
  | 12, h => cases h; exact ⟨tyX12_ok, nmX12, by decide +kernel⟩
  | t + 13, h => simp at h
noncomputable abbrev es_A (n0 : Nat) : Nat → Prop := fun q => n0 ≤ q
noncomputable def es_inv (D : va_G) (tys : List (ClassId × FieldType)) (n0 : Nat) (b : Nat → Nat) (ρ : Nat → Int32) (nL : Nat) (s : State) (K : es_K) (H : Heap) (ls : Array Slot) (locs : List Loc) (st : List Value) : Prop :=
  es_lr n0 b ρ nL K.2.1 ls ∧ es_sr n0 b ρ K.2.2.1 st ∧ es_hr D tys n0 b ρ K.2.2.2.1 H ∧ es_fr ρ K.2.2.2.2.1 ∧ va_S (es_A n0) s.heap H locs
noncomputable def es_G (p : Program) (l : Launch) (e : Env) (R : Room) (s : State) (m : MethodId) (args : Array Value) (below : List Frame) (meth : Method) (c : Code) (Q : State → Prop) (D : va_G) (tys : List (ClassId × FieldType)) (n0 : Nat) (b : Nat → Nat) (ρ : Nat → Int32) (nL : Nat) (K : es_K) : Prop :=
  ∀ (H : Heap) (ls : Array Slot) (locs : List Loc) (st : List Value), es_inv D tys n0 b ρ nL s K H ls locs st → W p l e R s m args below meth c H locs K.2.2.2.2.2.1 K.2.2.2.2.2.2 Q (F0 m K.1 ls st)
/-- what holds of a frame of the method M -/
noncomputable def es_FC (WS : List Cond) (SL : Nat) (D : va_G) (cI cJ cZ cC cM : ClassId) (n0 : Nat) (b : Nat → Nat) (ρ : Nat → Int32) (p : Program) (R : Room) (s : State) (m : MethodId) (args : Array Value) (meth : Method) (c : Code) (M : es_M) : Prop :=
  p.tables.exec = Jvm.exec ∧ c.code = es_code M ∧ c.maxLocals = es_mL M ∧ s.vm.findClass (es_own M) = some m.cls ∧ (∀ w ∈ WS, w.before args s = true) ∧ va_K D vwCl (es_TY cI cJ cZ cC cM) s ∧ (es_mc M ≤ R.cells ∧ es_ms M ≤ R.slots ∧ es_rf M ≤ R.frames ∧ es_lo M ≤ R.locals) ∧
  ((es_y M).name = "<init>" → meth.name = "<init>") ∧ (b 0 < n0 ∧ n0 ≤ s.heap.size ∧ va_X (b 0) SL ρ s s.heap) ∧ (va_AO RX2 s ∧ va_AO RX7 s) ∧ meth.locks = false ∧ meth.sig.returnType = es_rt M
section Hs
variable {p : Program} {l : Launch} {e : Env} {R : Room} {s : State} {m : MethodId} {args : Array Value} {below : List Frame} {meth : Method} {c : Code} {Q : State → Prop}
variable {WS : List Cond} {SL : Nat} {D : va_G} {cI cJ cZ cC cM : ClassId} {n0 : Nat} {b : Nat → Nat} {ρ : Nat → Int32} {M : es_M}
theorem es_va_put {H0 H H1 : Heap} {locs : List Loc} {i j : Nat} (h : va_S (es_A n0) H0 H locs) (z : H1.size = H.size) (o : ∀ q : Nat, q ≠ n0 + i → H1[q]? = H[q]?) : va_S (es_A n0) H0 H1 (locs ++ [⟨n0 + i, j⟩]) := h.put z o (Nat.le_add_right _ _)
theorem es_va_push {H0 H H1 : Heap} {locs : List Loc} (h : va_S (es_A n0) H0 H locs) (z : H1.size = H.size + 1) (o : ∀ q : Nat, q < H.size → H1[q]? = H[q]?) : va_S (es_A n0) H0 H1 locs :=
  ⟨Nat.le_trans h.1 (by omega), fun x h1 h2 => (o x (Nat.lt_of_lt_of_le h1 h.1)).trans (h.2.1 x h1 h2), h.2.2⟩
theorem es_obj_ok {AH : List es_O} {ci : Nat} {v : es_V} {cs : List (Nat × es_V)} {x : Value} (h : es_obj AH ci v = some cs) (hv : es_vr n0 b ρ v x) : x = .ref (n0 + v.2) ∧ AH[v.2]? = some (0, ci, cs) := by
  unfold es_obj at h
  cases h3 : Nat.beq v.1 3
  · rw [h3] at h; cases h
  · rw [h3] at h
    dsimp only [cond_true] at h
    refine ⟨es_t3_ref hv h3, ?_⟩
    split at h
    · rename_i i c0 hA
      cases hi : Nat.beq i ci
      · rw [hi] at h; cases h
      · rw [hi] at h
        cases h
        rw [hA, es_beq.mp hi]
    · cases h
theorem es_ary_ok {AH : List es_O} {v : es_V} {t n : Nat} {cs : List (Nat × es_V)} {x : Value} (h : es_ary AH v = some (t, n, cs)) (hv : es_vr n0 b ρ v x) : x = .ref (n0 + v.2) ∧ AH[v.2]? = some (t + 2, n, cs) ∧ n < 2147483648 := by
  unfold es_ary at h
  cases h3 : Nat.beq v.1 3
  · rw [h3] at h; cases h
  · rw [h3] at h
    dsimp only [cond_true] at h
    refine ⟨es_t3_ref hv h3, ?_⟩
    split at h
    · rename_i t' n' c0 hA
      cases hi : Nat.blt n' 2147483648
      · rw [hi] at h; cases h
      · rw [hi] at h
        cases h
        exact ⟨hA, es_blt.mp hi⟩
    · cases h
theorem es_sti_eq {ins : Instr} {t : Nat} (h : es_sti ins t = true) : ins = es_sop t ∧ es_len ins = 1 := by
  unfold es_sti at h
  split at h
  · rw [es_beq.mp h]; exact ⟨rfl, rfl⟩
  · rw [es_beq.mp h]; exact ⟨rfl, rfl⟩
  · rw [es_beq.mp h]; exact ⟨rfl, rfl⟩
  · rw [Bool.and_eq_true] at h
    have := es_blt.mp h.1
    match t, this with
    | t + 3, _ => exact ⟨rfl, rfl⟩
  · cases h
theorem es_lt_eq {ins : Instr} {t : Nat} (h : es_lt ins t = true) : ins = es_lop t ∧ es_len ins = 1 := by
  unfold es_lt at h
  split at h
  · rw [es_beq.mp h]; exact ⟨rfl, rfl⟩
  · rw [es_beq.mp h]; exact ⟨rfl, rfl⟩
  · rw [es_beq.mp h]; exact ⟨rfl, rfl⟩
  · rw [Bool.and_eq_true] at h
    have := es_blt.mp h.1
    match t, this with
    | t + 3, _ => exact ⟨rfl, rfl⟩
  · cases h
theorem es_stw (fc : es_FC WS SL D cI cJ cZ cC cM n0 b ρ p R s m args meth c M) {H : Heap} {ls : Array Slot} {locs : List Loc} {st : List Value} {ins : Instr} {pc : Nat} {L : es_L} {v j a : es_V} {S' : List es_V} {AH : List es_O} {F : es_F} {cs ss : Nat} {K' : es_K} (hd : decode (es_code M) pc = .ok (ins, es_len ins))
    (hs : es_sr n0 b ρ (v :: j :: a :: S') st) (hl : es_lr n0 b ρ (es_mL M) L ls) (hH : es_hr D (es_TY cI cJ cZ cC cM) n0 b ρ AH H) (hF : es_fr ρ F) (hS : va_S (es_A n0) s.heap H locs) {t n jn : Nat} {cf : List (Nat × es_V)} (hA : es_ary AH a = some (t, n, cf)) (hj : es_kn F j = some jn)
    (h : (bif (es_sti ins t && Nat.blt jn n) && es_sfit AH F t v then some (pc + 1, L, S', es_hset AH a.2 t n cf jn v, F, cs, ss) else none) = some K')
    (k : es_G p l e R s m args below meth c Q D (es_TY cI cJ cZ cC cM) n0 b ρ (es_mL M) K') : W p l e R s m args below meth c H locs cs ss Q (F0 m pc ls st) := by
  obtain ⟨hx, hb, hml, hown, hts, hK, hR, hin, hscr, hao, -⟩ := fc
  cases hc : ((es_sti ins t && Nat.blt jn n) && es_sfit AH F t v)
  · rw [hc] at h; cases h
  · rw [hc] at h
    simp only [Bool.and_eq_true, es_blt] at hc
    obtain ⟨⟨h1, h2⟩, h3⟩ := hc
    obtain ⟨e1, e2⟩ := es_sti_eq h1
    rw [e2, e1] at hd
    obtain ⟨x, st1, rfl, hv, y, st2, rfl, hvj, z, st', rfl, hva, hs'⟩ := hs
    obtain ⟨rfl, hA', hn⟩ := es_ary_ok hA hva
    rw [es_hset_eq hA'] at h
    cases h
    have e3 := es_kn_ok hF hvj hj
    subst e3
    exact es_ast hx hb hK hF hH (hH.2 _ _ hA') h2 hn hv h3 hd (fun H1 i g1 g2 g3 => k H1 ls _ _ ⟨hl, hs', es_hr_set hH g2 g3 g1, hF, es_va_put hS g2 g3⟩)
theorem es_ldw (fc : es_FC WS SL D cI cJ cZ cC cM n0 b ρ p R s m args meth c M) {H : Heap} {ls : Array Slot} {locs : List Loc} {st : List Value} {ins : Instr} {pc : Nat} {L : es_L} {j a : es_V} {S' : List es_V} {AH : List es_O} {F : es_F} {cs ss : Nat} {K' : es_K} (hd : decode (es_code M) pc = .ok (ins, es_len ins))
    (hs : es_sr n0 b ρ (j :: a :: S') st) (hl : es_lr n0 b ρ (es_mL M) L ls) (hH : es_hr D (es_TY cI cJ cZ cC cM) n0 b ρ AH H) (hF : es_fr ρ F) (hS : va_S (es_A n0) s.heap H locs) {jn : Nat} (hj : es_kn F j = some jn)
    (h : (bif Nat.beq a.1 5 then (match ins with
            | .iaload => bif Nat.blt jn SL && Nat.blt SL 2147483648 then some (pc + 1, L, es_nrm F jn :: S', AH, F, cs, ss) else none
            | _ => none) else match es_ary AH a with
          | some (t, n, c) => bif es_lt ins t && Nat.blt jn n then some (pc + 1, L, es_ad t c jn :: S', AH, F, cs, ss) else none
          | none => none) = some K')
    (k : es_G p l e R s m args below meth c Q D (es_TY cI cJ cZ cC cM) n0 b ρ (es_mL M) K') : W p l e R s m args below meth c H locs cs ss Q (F0 m pc ls st) := by
  obtain ⟨hx, hb, hml, hown, hts, hK, hR, hin, hscr, hao, -⟩ := fc
  obtain ⟨y, st2, rfl, hvj, z, st', rfl, hva, hs'⟩ := hs
  have e3 := es_kn_ok hF hvj hj
  subst e3
  cases h5 : Nat.beq a.1 5
  · rw [h5] at h
    dsimp only [cond_false] at h
    split at h
    · rename_i t n cf hA
      obtain ⟨rfl, hA', hn⟩ := es_ary_ok hA hva
      cases hc : (es_lt ins t && Nat.blt jn n)
      · rw [hc] at h; cases h
      · rw [hc] at h
        cases h
        rw [Bool.and_eq_true, es_blt] at hc
        obtain ⟨e1, e2⟩ := es_lt_eq hc.1
        rw [e2, e1] at hd
        exact es_ald hx hb hK (hH.2 _ _ hA') hc.2 hn hd (fun x hx2 => k H ls locs _ ⟨hl, ⟨_, _, rfl, hx2, hs'⟩, hH, hF, hS⟩)
    · cases h
  · rw [h5] at h
    dsimp only [cond_true] at h
    split at h
    · cases hc : (Nat.blt jn SL && Nat.blt SL 2147483648)
      · rw [hc] at h; cases h
      · rw [hc] at h
        cases h
        simp only [Bool.and_eq_true, es_blt] at hc
        obtain ⟨t, q⟩ := a
        have e := es_beq.mp h5
        dsimp only at e
        subst e
        have e2 : z = .ref (b 0) := hva
        subst e2
        refine va_sld hx hb hscr.2.2 (Nat.lt_of_lt_of_le hscr.1 hscr.2.1) (Nat.not_le.mpr hscr.1) hS (vp_in_nI hc.1 hc.2) (by assumption) (k H ls locs _ ⟨hl, ⟨_, _, rfl, ?_, hs'⟩, hH, hF, hS⟩)
        rw [nI_clamp (by omega)]
        unfold es_nrm
        have h1 : es_vr n0 b ρ (1, jn) (.int (ρ jn)) := rfl
        cases hkn : es_kn F (1, jn) with
        | none => exact h1
        | some nn => exact es_kn_ok hF h1 hkn
    · cases h
set_option maxHeartbeats 4000000 in
theorem es_hs_ok (hU : ∀ (ci : Nat) (r : vw_C), vwCl[ci]? = some r → ∀ w ∈ u_ws r.1 r.2.1 r.2.2, w ∈ WS) (fc : es_FC WS SL D cI cJ cZ cC cM n0 b ρ p R s m args meth c M) {E : es_I} {K K' : es_K} (hd : decode (es_code M) K.1 = .ok (E.2.1, es_len E.2.1)) (hok : es_hok WS M E = true) (h : es_hs SL M E K = some K')
    (k : es_G p l e R s m args below meth c Q D (es_TY cI cJ cZ cC cM) n0 b ρ (es_mL M) K') : es_G p l e R s m args below meth c Q D (es_TY cI cJ cZ cC cM) n0 b ρ (es_mL M) K := by
  intro H ls locs st hinv
  obtain ⟨pc, L, S, AH, F, cs, ss⟩ := K
  obtain ⟨hl, hs, hH, hF, hS⟩ := hinv
  obtain ⟨hx, hb, hml, hown, hts, hK, hR, hin, hscr, hao, -⟩ := id fc
  obtain ⟨epc, ins, len, aux⟩ := E
  dsimp only at hl hs hH hF hd ⊢
  unfold es_hs at h
  unfold es_hok at hok
  dsimp only at h hok
  split at h
  -- getfield
  · rename_i idx
    split at h
    · rename_i ci kf tl v S'
      cases ho : es_obj AH ci v with
      | none => rw [ho] at h; cases h
      | some cf =>
        rw [ho] at h
        dsimp only at h
        cases hg : es_get cf kf with
        | none => rw [hg] at h; cases h
        | some w =>
          rw [hg] at h
          cases h
          obtain ⟨x, st', rfl, hv, hs'⟩ := hs
          obtain ⟨rfl, hA⟩ := es_obj_ok ho hv
          dsimp only at hok
          split at hok
          · rename_i ci' k' j heq
            cases heq
            split at hok
            · rename_i r hr
              obtain ⟨C, T, N⟩ := r
              exact es_getf hx hb hown hts hK hr (hU ci _ hr) (es_wj_in hok) (hH.2 _ _ hA) hg hd (fun y hy => k H ls locs _ ⟨hl, ⟨_, _, rfl, hy, hs'⟩, hH, hF, hS⟩)
            · cases hok
          · cases hok
    · cases h
  -- putfield
  · rename_i idx
    split at h
    · rename_i ci kf tl v o S'
      cases ho : es_obj AH ci o with
      | none => rw [ho] at h; cases h
      | some cf =>
        rw [ho] at h
        dsimp only at h
        cases hg : es_get cf kf with
        | none => rw [hg] at h; cases h
        | some w =>
          rw [hg] at h
          dsimp only at h
          cases hft : es_fitv (es_tyf ci kf) F v
          · rw [hft] at h; cases h
          · rw [hft] at h
            cases h
            obtain ⟨x, st1, rfl, hv, y, st', rfl, hvo, hs'⟩ := hs
            obtain ⟨rfl, hA⟩ := es_obj_ok ho hvo
            dsimp only at hok
            split at hok
            · rename_i ci' k' j heq
              cases heq
              split at hok
              · rename_i r hr
                obtain ⟨C, T, N⟩ := r
                rw [Bool.and_eq_true] at hok
                obtain ⟨c1, c2, -⟩ := es_cl hr
                obtain ⟨f1, f2⟩ := es_fitv_ok hF hv hft
                have hfin : (T kf).2.2.2 = false ∨ (meth.name = "<init>" ∧ (T kf).1 = es_own M) := by
                  have h2 := hok.2
                  rw [Bool.or_eq_true] at h2
                  rcases h2 with h2 | h2
                  · left; simpa using h2
                  · right
                    rw [Bool.and_eq_true] at h2
                    exact ⟨hin (of_decide_eq_true h2.1), of_decide_eq_true h2.2⟩
                exact es_putf hx hb hown hts hK hr (hU ci _ hr) (es_tyf ci) c1 c2 (es_wj_in hok.1) hfin (hH.2 _ _ hA) hg hv f1 f2 hd (fun H1 i g1 g2 g3 => k H1 ls _ _ ⟨hl, hs', es_hr_set hH g2 g3 g1, hF, es_va_put hS g2 g3⟩)
              · cases hok
            · cases hok
    · cases h
  -- new
  · rename_i idx
    split at h
    · rename_i ci tl
      dsimp only at hok
      split at hok
      · rename_i ci' j1 j2 j3 heq
        cases heq
        split at h
        · rename_i r hr
          rw [hr] at hok
          dsimp only at hok
          cases hcap : (Nat.blt cs (es_mc M) && Nat.ble (ss + r.2.2) (es_ms M))
          · rw [hcap] at h; cases h
          · rw [hcap] at h
            cases h
            rw [Bool.and_eq_true] at hcap
            have e1 := es_blt.mp hcap.1
            have e2 := Nat.ble_eq.mp hcap.2
            obtain ⟨C, T, N⟩ := r
            simp only [Bool.and_eq_true] at hok
            obtain ⟨c1, c2, c3⟩ := es_cl hr
            refine es_newo hx hb hown hts hK hH hr (hU ci _ hr) (es_tyf ci) c1 (fun q hq => es_pl _ (c3 q hq)) (es_wj_in hok.1) (es_wj_in hok.2.1) (es_wj_in hok.2.2) (by have := hR.1; omega) (by have := hR.2.1; dsimp only at e2; omega) hd (fun H1 g1 g2 g3 => k H1 ls _ _ ⟨hl, ⟨_, _, rfl, ?_, hs⟩, g1, hF, es_va_push hS g2 g3⟩)
            show Value.ref H.size = Value.ref (n0 + AH.length)
            rw [hH.1]
        · cases h
      · cases hok
      · rename_i hne1 hne2
        exact absurd rfl (hne2 _)
    · cases h
  -- newarray
  · rename_i ty
    split at h
    · rename_i t tl v S'
      cases hk : es_kn F v with
      | none => rw [hk] at h; cases h
      | some n =>
        rw [hk] at h
        dsimp only at h
        cases hcap : ((Nat.blt t 3 && Nat.blt n 1000000) && (Nat.blt cs (es_mc M) && Nat.ble (ss + n) (es_ms M)))
        · rw [hcap] at h; cases h
        · rw [hcap] at h
          cases h
          simp only [Bool.and_eq_true, es_blt, Nat.ble_eq] at hcap
          obtain ⟨⟨t3, n6⟩, e1, e2⟩ := hcap
          obtain ⟨x, st', rfl, hv, hs'⟩ := hs
          have e3 := es_kn_ok hF hv hk
          subst e3
          dsimp only at hok
          split at hok
          · rename_i t' j heq
            cases heq
            rw [Bool.and_eq_true] at hok
            have e4 := of_decide_eq_true hok.1
            subst e4
            refine es_newa hx hb hK hH t3 n6 (hts _ (es_wj_in hok.2)) (by have := hR.1; omega) (by have := hR.2.1; omega) hd (fun H1 g1 g2 g3 => k H1 ls _ _ ⟨hl, ⟨_, _, rfl, ?_, hs'⟩, g1, hF, es_va_push hS g2 g3⟩)
            show Value.ref H.size = Value.ref (n0 + AH.length)
            rw [hH.1]
          · cases hok
    · cases h
  -- anewarray
  · rename_i idx
    split at h
    · rename_i t tl v S'
      cases hk : es_kn F v with
      | none => rw [hk] at h; cases h
      | some n =>
        rw [hk] at h
        dsimp only at h
        cases hcap : ((Nat.blt t 2 && Nat.blt n 1000000) && (Nat.blt cs (es_mc M) && Nat.ble (ss + n) (es_ms M)))
        · rw [hcap] at h; cases h
        · rw [hcap] at h
          cases h
          simp only [Bool.and_eq_true, es_blt, Nat.ble_eq] at hcap
          obtain ⟨⟨t2, n6⟩, e1, e2⟩ := hcap
          obtain ⟨x, st', rfl, hv, hs'⟩ := hs
          have e3 := es_kn_ok hF hv hk
          subst e3
          dsimp only at hok
          split at hok
          · rename_i t' j heq
            cases heq
            split at hok
            · rename_i C hC
              have hover : va_AO C s := by
                match t, t2, hC with
                | 0, _, hC => cases hC; exact hao.1
                | 1, _, hC => cases hC; exact hao.2
              refine es_anew hx hb hown hK hH hC t2 n6 (hts _ (es_wj_in hok)) (va_AO.use hover) (by have := hR.1; omega) (by have := hR.2.1; omega) hd (fun H1 g1 g2 g3 => k H1 ls _ _ ⟨hl, ⟨_, _, rfl, ?_, hs'⟩, g1, hF, es_va_push hS g2 g3⟩)
              show Value.ref H.size = Value.ref (n0 + AH.length)
              rw [hH.1]
            · cases hok
          · cases hok
    · cases h
  -- arraylength
  · split at h
    · rename_i v S'
      obtain ⟨x, st', rfl, hv, hs'⟩ := hs
      cases h5 : Nat.beq v.1 5
      · rw [h5] at h
        dsimp only [cond_false] at h
        split at h
        · rename_i t n cf hA
          cases h
          obtain ⟨rfl, hA', -⟩ := es_ary_ok hA hv
          exact es_aln hx hb hK (hH.2 _ _ hA') hd (k H ls locs _ ⟨hl, ⟨_, _, rfl, rfl, hs'⟩, hH, hF, hS⟩)
        · cases h
      · rw [h5] at h
        cases h
        obtain ⟨t, q⟩ := v
        have e := es_beq.mp h5
        dsimp only at e
        subst e
        have e2 : x = .ref (b 0) := hv
        subst e2
        exact va_slen hx hb hscr.2.2 (Nat.lt_of_lt_of_le hscr.1 hscr.2.1) (Nat.not_le.mpr hscr.1) hS hd (k H ls locs _ ⟨hl, ⟨_, _, rfl, rfl, hs'⟩, hH, hF, hS⟩)
    · cases h
  · split at h
    · rename_i v j a S'
      split at h
      · rename_i t n cf jn hA hj
        exact es_stw fc hd hs hl hH hF hS hA hj h k
      · cases h
    · cases h
  · split at h
    · rename_i v j a S'
      split at h
      · rename_i t n cf jn hA hj
        exact es_stw fc hd hs hl hH hF hS hA hj h k
      · cases h
    · cases h
  · split at h
    · rename_i v j a S'
      split at h
      · rename_i t n cf jn hA hj
        exact es_stw fc hd hs hl hH hF hS hA hj h k
      · cases h
    · cases h
  · split at h
    · rename_i v j a S'
      split at h
      · rename_i t n cf jn hA hj
        exact es_stw fc hd hs hl hH hF hS hA hj h k
      · cases h
    · cases h
  · split at h
    · rename_i j a S'
      split at h
      · rename_i jn hj
        exact es_ldw fc hd hs hl hH hF hS hj h k
      · cases h
    · cases h
  · split at h
    · rename_i j a S'
      split at h
      · rename_i jn hj
        exact es_ldw fc hd hs hl hH hF hS hj h k
      · cases h
    · cases h
  · split at h
    · rename_i j a S'
      split at h
      · rename_i jn hj
        exact es_ldw fc hd hs hl hH hF hS hj h k
      · cases h
    · cases h
  · split at h
    · rename_i j a S'
      split at h
      · rename_i jn hj
        exact es_ldw fc hd hs hl hH hF hS hj h k
      · cases h
    · cases h
  · rename_i idx
    split at h
    · rename_i n tl
      cases h
      dsimp only at hok
      split at hok
      · rename_i n' j heq
        cases heq
        exact lv_ldc hx hb hown (hts _ (es_wj_in hok)) hd (k H ls locs _ ⟨hl, ⟨_, _, rfl, rfl, hs⟩, hH, hF, hS⟩)
      · cases hok
    · cases h
  · rename_i idx
    split at h
    · rename_i n tl
      cases h
      dsimp only at hok
      split at hok
      · rename_i n' j heq
        cases heq
        exact lv_ldcw hx hb hown (hts _ (es_wj_in hok)) hd (k H ls locs _ ⟨hl, ⟨_, _, rfl, rfl, hs⟩, hH, hF, hS⟩)
      · cases hok
    · cases h
  · rename_i idx
    split at h
    · rename_i n tl
      cases h
      dsimp only at hok
      split at hok
      · rename_i n' j heq
        cases heq
        exact lv_ldc2 hx hb hown (hts _ (es_wj_in hok)) hd (k H ls locs _ ⟨hl, ⟨_, _, rfl, rfl, hs⟩, hH, hF, hS⟩)
      · cases hok
    · cases h
  · cases h
end Hs

end
section
noncomputable def es_exc (n : Nat) : String := match n with
  | 0 => "java/lang/IllegalArgumentException"
  | 1 => "java/lang/UnsupportedOperationException"
  | 2 => "java/util/NoSuchElementException"
  | 3 => "java/lang/IndexOutOfBoundsException"
  | _ => "java/lang/IllegalStateException"
/-- the row of a table that takes a thrown one: the class of a row by its number -/
noncomputable def es_hdl (ct : Nat → Nat) : List (Nat × Nat × Nat × Nat) → Nat → Nat → Option Nat
  | [], _, _ => none
  | q :: t, pc, x => bif Nat.ble q.1 pc && Nat.blt pc q.2.1 then (bif Nat.beq (ct q.2.2.2) x then some q.2.2.1 else es_hdl ct t pc x) else es_hdl ct t pc x
noncomputable def es_cal (M M' : Nat) : Nat := M' % 512 + 512 * (M / 512 - 1)
noncomputable def es_bs (tx : String) : List Nat := tx.toList.map Char.toNat
noncomputable def es_q1 (strs : List (String × Nat × String)) (pc : Nat) (L : es_L) (S : List es_V) (AH : List es_O) (F : es_F) (cs ss : Nat) : Option es_K := match S with
  | v :: S' => bif Nat.beq v.1 8 && Nat.blt v.2 strs.length then some (pc + 3, L, (9, v.2) :: S', AH, F, cs, ss) else none
  | _ => none
noncomputable def es_q2 (strs : List (String × Nat × String)) (pc : Nat) (L : es_L) (S : List es_V) (AH : List es_O) (F : es_F) (cs ss : Nat) : Option es_K := match S with
  | v :: S' => bif Nat.beq v.1 8 && Nat.blt v.2 strs.length then some (pc + 3, L, (0, 0) :: S', AH, F, cs, ss) else none
  | _ => none
noncomputable def es_q3 (strs : List (String × Nat × String)) (pc : Nat) (L : es_L) (S : List es_V) (AH : List es_O) (F : es_F) (cs ss : Nat) : Option es_K := match S with
  | v :: S' => match strs[v.2]? with
    | some q => bif Nat.beq v.1 9 then some (pc + 1, L, (0, (es_bs q.2.2).length) :: S', AH, F, cs, ss) else none
    | none => none
  | _ => none
noncomputable def es_q4 (strs : List (String × Nat × String)) (pc : Nat) (L : es_L) (S : List es_V) (AH : List es_O) (F : es_F) (cs ss : Nat) : Option es_K := match S with
  | j :: v :: S' => match strs[v.2]?, es_kn F j with
    | some q, some jn => bif Nat.beq v.1 9 && Nat.blt jn (es_bs q.2.2).length then some (pc + 1, L, (0, (es_bs q.2.2).getD jn 0) :: S', AH, F, cs, ss) else none
    | _, _ => none
  | _ => none
/-- a step that speaks of a constant text -/
noncomputable def es_str (strs : List (String × Nat × String)) (f a len : Nat) (K : es_K) : Option es_K := match K with
  | (pc, L, S, AH, F, cs, ss) => match f with
    | 0 => some (pc + len, L, (8, a) :: S, AH, F, cs, ss)
    | 1 => es_q1 strs pc L S AH F cs ss
    | 2 => es_q2 strs pc L S AH F cs ss
    | 3 => es_q3 strs pc L S AH F cs ss
    | 4 => es_q4 strs pc L S AH F cs ss
    | 5 => some (pc + 3, L, (0, 1) :: S, AH, F, cs, ss)
    | 6 => some (pc + 3, L, (10, 0) :: S, AH, F, cs, ss)
    | _ => none
section Step
variable (ME : Nat → es_M) (strs : List (String × Nat × String)) (SL : Nat)
/-- behind a call: what each end of the callee leads to -/
noncomputable def es_aft (ih : Nat → es_K → Option (List es_E)) (M : Nat) (pc : Nat) (L : es_L) (S : List es_V) (cs ss : Nat) (lf : es_Lf) : Option (List es_E) := match lf with
  | (0, _, AH, F) => ih M (pc + 3, L, S, AH, F, cs, ss)
  | (1, v, AH, F) => ih M (pc + 3, L, v :: S, AH, F, cs, ss)
  | (x + 2, _, AH, F) => match es_hh (ME M) with
    | [] => some [(x + 1, pc, L, S, AH, F, cs, ss)]
    | hh => match es_hdl es_ct hh pc x with
      | some h => bif Nat.blt x 5 then ih M (h, L, [(7, 0)], AH, F, cs, ss) else none
      | none => none
/-- a call of the method M' with the arguments vs: its ends -/
noncomputable def es_inv1 (w : Nat) (ih : Nat → es_K → Option (List es_E)) (M M' : Nat) (vs : List es_V) (rest : List es_V) (AH : List es_O) (F : es_F) (cs ss : Nat) : Option (List es_Lf) :=
  bif (Nat.ble (es_cts vs) (es_mL (ME M')) && (Nat.ble (es_cts rest) w && es_cx M')) && ((Nat.blt (es_rf (ME M')) (es_rf (ME M)) && Nat.ble (27 + es_mL (ME M') + es_lo (ME M')) (es_lo (ME M))) && (Nat.ble (cs + es_mc (ME M')) (es_mc (ME M)) && Nat.ble (ss + es_ms (ME M')) (es_ms (ME M)))) then
    (match ih M' (0, es_al 0 vs, [], AH, F, 0, 0) with
    | some ends => match es_cat (fun E => (es_leaf (ME M') E).map (fun x => [x])) ends with
      | some lfs => some lfs
      | none => none
    | none => none) else none
noncomputable def es_nothr (l : List es_Lf) : Bool := l.all (fun x => Nat.blt x.1 2)
noncomputable def es_copy (t : Nat) (cs cd : List (Nat × es_V)) (sp dp : Nat) : Nat → List (Nat × es_V)
  | 0 => cd
  | n + 1 => es_aset t (es_copy t cs cd sp dp n) (dp + n) (es_ad t cs (sp + n))
noncomputable def es_tn (ih : Nat → es_K → Option (List es_E)) (M pc : Nat) (L : es_L) (S' : List es_V) (AH : List es_O) (F : es_F) (cs ss : Nat) (dflt lo hi : Int) (q : Nat × Nat) : Option (List es_E) := match es_to pc dflt with
  | some t => bif decide ((q.2 : Int) - 2147483648 < lo) || decide (hi < (q.1 : Int) - 2147483648) then ih M (t, L, S', AH, F, cs, ss) else none
  | none => none
noncomputable def es_sv (ih : Nat → es_K → Option (List es_E)) (M M' n ci pc : Nat) (L : es_L) (S : List es_V) (AH : List es_O) (F : es_F) (cs ss : Nat) : Option (List es_E) := match S.drop n with
  | o :: S' => match es_obj AH ci o with
    | some _ => match es_inv1 ME 8 ih M M' (o :: (S.take n).reverse) S' AH F cs ss with
      | some lfs => es_cat (es_aft ME ih M pc L S' (cs + es_mc (ME M')) (ss + es_ms (ME M'))) lfs
      | none => none
    | none => none
  | _ => none
noncomputable def es_sq (ih : Nat → es_K → Option (List es_E)) (M M' n pc : Nat) (L : es_L) (S : List es_V) (AH : List es_O) (F : es_F) (cs ss : Nat) : Option (List es_E) := match S.drop n with
  | o :: S' => bif Nat.beq o.1 8 && Nat.blt o.2 strs.length then (match es_inv1 ME 8 ih M M' (o :: (S.take n).reverse) S' AH F cs ss with
    | some lfs => es_cat (es_aft ME ih M pc L S' (cs + es_mc (ME M')) (ss + es_ms (ME M'))) lfs
    | none => none) else none
  | _ => none
noncomputable def es_ss (ih : Nat → es_K → Option (List es_E)) (M M' n pc : Nat) (L : es_L) (S : List es_V) (AH : List es_O) (F : es_F) (cs ss : Nat) : Option (List es_E) := bif Nat.ble n S.length then (match es_inv1 ME (bif (es_hh (ME M')).isEmpty then 16 else 8) ih M M' (S.take n).reverse (S.drop n) AH F cs ss with
  | some lfs => es_cat (es_aft ME ih M pc L (S.drop n) (cs + es_mc (ME M')) (ss + es_ms (ME M'))) lfs
  | none => none) else none
noncomputable def es_sc (ih : Nat → es_K → Option (List es_E)) (M pc : Nat) (L : es_L) (S : List es_V) (AH : List es_O) (F : es_F) (cs ss : Nat) : Option (List es_E) := match S with
  | vn :: vd :: d :: vs :: s :: S' => match es_ary AH s, es_ary AH d with
    | some (ts, ns, c1), some (td, nd, c2) => match es_kn F vs, es_kn F vd, es_kn F vn with
      | some sp, some dp, some n => bif ((Nat.beq ts 0 && Nat.beq td 0) && ((Nat.ble (sp + n) ns && Nat.ble (dp + n) nd) && (Nat.blt 0 (es_rf (ME M)) && Nat.ble 200 (es_lo (ME M))))) && (c1.all (fun x => es_ti x.2) && Nat.ble (es_cts S') 8) then ih M (pc + 3, L, S', AH.set d.2 (2, nd, es_copy 0 c1 c2 sp dp n), F, cs, ss) else none
      | _, _, _ => none
    | _, _ => none
  | _ => none
noncomputable def es_smm (f : Int32 → Int32 → Int32) (ih : Nat → es_K → Option (List es_E)) (M pc : Nat) (L : es_L) (S : List es_V) (AH : List es_O) (F : es_F) (cs ss : Nat) : Option (List es_E) := match S with
  | w :: v :: S' => bif (es_ti v && es_ti w) && (((Nat.blt 0 (es_rf (ME M)) && Nat.ble 200 (es_lo (ME M))) && Nat.ble (es_cts S') 8) && (Nat.ble cs (es_mc (ME M)) && Nat.ble ss (es_ms (ME M)))) then ih M (pc + 3, L, es_bin f F v w :: S', AH, F, cs, ss) else none
  | _ => none
noncomputable def es_si (ih : Nat → es_K → Option (List es_E)) (M M' n pc : Nat) (L : es_L) (S : List es_V) (AH : List es_O) (F : es_F) (cs ss : Nat) : Option (List es_E) := match S.drop n with
  | o :: S' => bif Nat.beq o.1 3 then (match es_inv1 ME 8 ih M M' (o :: (S.take n).reverse) S' AH F cs ss with
      | some lfs => bif es_nothr lfs then es_cat (es_aft ME ih M pc L S' (cs + es_mc (ME M')) (ss + es_ms (ME M'))) lfs else none
      | none => none) else none
  | _ => none
noncomputable def es_so (ih : Nat → es_K → Option (List es_E)) (M pc : Nat) (L : es_L) (S : List es_V) (AH : List es_O) (F : es_F) (cs ss : Nat) : Option (List es_E) := match S with
  | o :: S' => bif Nat.beq o.1 3 && (Nat.blt 0 (es_rf (ME M)) && Nat.ble (es_cts S' + 12) (es_lo (ME M))) then ih M (pc + 3, L, S', AH, F, cs, ss) else none
  | _ => none
noncomputable def es_step (ih : Nat → es_K → Option (List es_E)) (M : Nat) (K : es_K) : Option (List es_E) := match K with
  | (pc, L, S, AH, F, cs, ss) => match es_at (es_tab (ME M)) pc with
    | none => none
    | some e => match e.2.2.2 with
      | 200 :: _ => some [(0, K)]
      | 100 :: _ => some [(0, K)]
      | 60 :: f :: a :: _ => match es_str strs f a (es_len e.2.1) K with
        | some K' => ih M K'
        | none => none
      | _ => match es_pure (es_mL (ME M)) e.2.1 pc L S F with
        | some (pc', L', S') => ih M (pc', L', S', AH, F, cs, ss)
        | none => match es_hs SL (ME M) e K with
          | some K' => ih M K'
          | none => match e.2.1 with
            | .return_ | .ireturn | .lreturn | .areturn => some [(0, K)]
            | .ifCond op off => match S, es_to pc off with
              | v :: S', some t => bif es_ti v then (match es_cat (fun f => ih M (t, L, S', AH, f, cs, ss)) (es_br F op v (0, 0)) with
                  | some x => match es_cat (fun f => ih M (pc + 3, L, S', AH, f, cs, ss)) (es_br F (es_ng op) v (0, 0)) with
                    | some y => some (x ++ y)
                    | none => none
                  | none => none) else none
              | _, _ => none
            | .if_icmp op off => match S, es_to pc off with
              | w :: v :: S', some t => bif es_ti v && es_ti w then (match es_cat (fun f => ih M (t, L, S', AH, f, cs, ss)) (es_br F op v w) with
                  | some x => match es_cat (fun f => ih M (pc + 3, L, S', AH, f, cs, ss)) (es_br F (es_ng op) v w) with
                    | some y => some (x ++ y)
                    | none => none
                  | none => none) else none
              | _, _ => none
            | .tableswitch dflt lo hi offs => match S with
              | v :: S' => match es_kn F v with
                | some n => match es_to pc (bif decide ((nI n).toInt < lo) || decide (hi < (nI n).toInt) then dflt else (offs[((nI n).toInt - lo).toNat]?).getD 0) with
                  | some t => bif (decide ((nI n).toInt < lo) || decide (hi < (nI n).toInt)) || decide (((nI n).toInt - lo).toNat < offs.size) then ih M (t, L, S', AH, F, cs, ss) else none
                  | none => none
                | none => match v.1, F[v.2]? with
                  | 1, some q => es_tn ih M pc L S' AH F cs ss dflt lo hi q
                  | _, _ => none
              | _ => none
            | .invokevirtual _ => match e.2.2.2 with
              | 1 :: M' :: n :: ci :: _ => es_sv ME ih M (es_cal M M') n ci pc L S AH F cs ss
              | 3 :: M' :: n :: _ => es_sq ME strs ih M (es_cal M M') n pc L S AH F cs ss
              | _ => none
            | .invokestatic _ => match e.2.2.2 with
              | 2 :: M' :: n :: _ => es_ss ME ih M (es_cal M M') n pc L S AH F cs ss
              | 4 :: _ => es_sc ME ih M pc L S AH F cs ss
              | 5 :: _ => es_smm ME (fun x y => if y < x then y else x) ih M pc L S AH F cs ss
              | 6 :: _ => es_smm ME (fun x y => if x < y then y else x) ih M pc L S AH F cs ss
              | _ => none
            | .invokespecial _ => match e.2.2.2 with
              | 7 :: M' :: n :: _ => es_si ME ih M (es_cal M M') n pc L S AH F cs ss
              | 9 :: _ => es_so ME ih M pc L S AH F cs ss
              | _ => none
            | _ => none
end Step

end
section
abbrev es_C : Type := Nat × Nat × Nat
section Run2
variable (ME : Nat → es_M) (strs : List (String × Nat × String)) (CT : Nat → List (Nat × List (Nat × es_C))) (SL : Nat)
end Run2

end
