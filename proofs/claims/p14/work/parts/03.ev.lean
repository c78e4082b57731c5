abbrev es_V : Type := Nat × Nat
abbrev es_O : Type := Nat × Nat × List (Nat × es_V)
abbrev es_F : Type := List (Nat × Nat)
abbrev es_I : Type := Nat × Instr × Nat × List Nat
abbrev es_L : Type := List (Nat × es_V)
abbrev es_Op : Type := _root_.Jvm.ClassFile.Cond
def es_get {α : Type} : List (Nat × α) → Nat → Option α
  | [], _ => none
  | q :: t, k => bif Nat.beq q.1 k then some q.2 else es_get t k
def es_set {α : Type} : List (Nat × α) → Nat → α → List (Nat × α)
  | [], k, v => [(k, v)]
  | q :: t, k, v => bif Nat.beq q.1 k then (k, v) :: t else q :: es_set t k v
def es_del {α : Type} : List (Nat × α) → Nat → List (Nat × α)
  | [], _ => []
  | q :: t, k => bif Nat.beq q.1 k then es_del t k else q :: es_del t k
theorem es_beq {a b : Nat} : Nat.beq a b = true ↔ a = b := ⟨Nat.eq_of_beq_eq_true, fun h => by subst h; exact Nat.beq_refl a⟩
theorem es_beqf {a b : Nat} : Nat.beq a b = false ↔ a ≠ b := by
  constructor
  · intro h e; subst e; rw [Nat.beq_refl] at h; cases h
  · intro h
    cases hb : Nat.beq a b
    · rfl
    · exact absurd (es_beq.mp hb) h
theorem es_get_set {α : Type} (l : List (Nat × α)) (k j : Nat) (v : α) : es_get (es_set l k v) j = if j = k then some v else es_get l j := by
  induction l with
  | nil =>
    by_cases h : j = k
    · subst h; simp [es_set, es_get, es_beq.mpr rfl]
    · simp [es_set, es_get, es_beqf.mpr (Ne.symm h), h]
  | cons q t ih =>
    cases hq : Nat.beq q.1 k
    · simp only [es_set, hq, cond_false, es_get]
      cases hj : Nat.beq q.1 j
      · simp only [cond_false]; exact ih
      · have e1 := es_beq.mp hj
        have e2 := es_beqf.mp hq
        have e3 : ¬ j = k := fun e => e2 (e1.trans e)
        simp [e3]
    · have e1 := es_beq.mp hq
      simp only [es_set, hq, cond_true, es_get]
      by_cases h : j = k
      · subst h; simp [es_beq.mpr rfl]
      · have e3 : Nat.beq q.1 j = false := es_beqf.mpr (fun e => h (e.symm.trans e1))
        simp [es_beqf.mpr (Ne.symm h), h, e3]
theorem es_get_del {α : Type} (l : List (Nat × α)) (k j : Nat) : es_get (es_del l k) j = if j = k then none else es_get l j := by
  induction l with
  | nil => simp [es_del, es_get]
  | cons q t ih =>
    cases hq : Nat.beq q.1 k
    · simp only [es_del, hq, cond_false, es_get]
      cases hj : Nat.beq q.1 j
      · simp only [cond_false]; exact ih
      · have e1 := es_beq.mp hj
        have e2 := es_beqf.mp hq
        have e3 : ¬ j = k := fun e => e2 (e1.trans e)
        simp [e3]
    · have e1 := es_beq.mp hq
      simp only [es_del, hq, cond_true, es_get]
      rw [ih]
      by_cases h : j = k
      · simp [h]
      · have e3 : Nat.beq q.1 j = false := es_beqf.mpr (fun e => h (e.symm.trans e1))
        simp [h, e3]
def es_force {β : Type} (n : Nat) (k : Nat → β) : β := @Nat.rec (fun _ => β) (k 0) (fun m _ => k (m + 1)) n
theorem es_force_eq {β : Type} (n : Nat) (k : Nat → β) : es_force n k = k n := by cases n <;> rfl
def es_kn (F : es_F) (v : es_V) : Option Nat := match v.1 with
  | 0 => some v.2
  | 1 => match F[v.2]? with
    | some q => bif Nat.beq q.1 q.2 then some ((q.1 + 2147483648) % 4294967296) else none
    | none => none
  | _ => none
def es_ti (v : es_V) : Bool := Nat.beq v.1 0 || (Nat.beq v.1 1 || Nat.beq v.1 6)
def es_tr (v : es_V) : Bool := Nat.beq v.1 3 || (Nat.beq v.1 4 || (Nat.beq v.1 5 || (Nat.beq v.1 8 || Nat.beq v.1 9)))
def es_ta (v : es_V) : Bool := es_tr v || Nat.beq v.1 7
def es_c (z : Int32) : es_V := es_force z.toBitVec.toNat (fun n => (0, n))
def es_lc (z : Int64) : es_V := es_force z.toBitVec.toNat (fun n => (2, n))
def es_bz (n : Nat) : Nat := (n + 2147483648) % 4294967296
def es_cmp (op : es_Op) (x y : Nat) : Bool := match op with
  | .eq => Nat.beq x y
  | .ne => !Nat.beq x y
  | .lt => Nat.blt x y
  | .ge => Nat.ble y x
  | .gt => Nat.blt y x
  | .le => Nat.ble x y
def es_sw (op : es_Op) : es_Op := match op with
  | .eq => .eq
  | .ne => .ne
  | .lt => .gt
  | .ge => .le
  | .gt => .lt
  | .le => .ge
def es_ng (op : es_Op) : es_Op := match op with
  | .eq => .ne
  | .ne => .eq
  | .lt => .ge
  | .ge => .lt
  | .gt => .le
  | .le => .gt
def es_iv (op : es_Op) (c : Nat) (q : Nat × Nat) : List (Nat × Nat) := match op with
  | .eq => bif Nat.ble q.1 c && Nat.ble c q.2 then [(c, c)] else []
  | .ne => bif Nat.beq q.1 c then (bif Nat.beq q.2 c then [] else [(c + 1, q.2)]) else bif Nat.beq q.2 c then [(q.1, c - 1)] else [q]
  | .lt => bif Nat.blt q.1 c then [(q.1, bif Nat.blt q.2 c then q.2 else c - 1)] else []
  | .ge => bif Nat.ble c q.2 then [(bif Nat.ble c q.1 then q.1 else c, q.2)] else []
  | .gt => bif Nat.blt c q.2 then [(bif Nat.blt c q.1 then q.1 else c + 1, q.2)] else []
  | .le => bif Nat.ble q.1 c then [(q.1, bif Nat.ble q.2 c then q.2 else c)] else []
def es_br (F : es_F) (op : es_Op) (a b : es_V) : List es_F := match es_kn F a, es_kn F b with
  | some x, some y => bif es_cmp op (es_bz x) (es_bz y) then [F] else []
  | none, some y => bif Nat.beq a.1 1 then (match F[a.2]? with
      | some q => (es_iv op (es_bz y) q).map (fun r => F.set a.2 r)
      | none => [F]) else [F]
  | some x, none => bif Nat.beq b.1 1 then (match F[b.2]? with
      | some q => (es_iv (es_sw op) (es_bz x) q).map (fun r => F.set b.2 r)
      | none => [F]) else [F]
  | none, none => [F]
def es_st (L : es_L) (i : Nat) (v : es_V) : es_L := es_set (match i with
  | 0 => L
  | j + 1 => match es_get L j with
    | some w => bif Nat.beq w.1 2 then es_del L j else L
    | none => L) i v
def es_bin (f : Int32 → Int32 → Int32) (F : es_F) (a b : es_V) : es_V := match es_kn F a, es_kn F b with
  | some x, some y => es_c (f (nI x) (nI y))
  | _, _ => (6, 0)
def es_lbin (f : Int64 → Int64 → Int64) (a b : es_V) : es_V := es_lc (f (lN a.2) (lN b.2))
def es_un (f : Int32 → Int32) (F : es_F) (a : es_V) : es_V := match es_kn F a with
  | some x => es_c (f (nI x))
  | none => (6, 0)
def es_to (pc : Nat) (off : Int) : Option Nat := match (pc : Int) + off with
  | .ofNat t => some t
  | .negSucc _ => none
def es_i2 (f : Int32 → Int32 → Int32) (pc : Nat) (L : es_L) (S : List es_V) (F : es_F) : Option (Nat × es_L × List es_V) := match S with
  | b :: a :: S' => bif es_ti a && es_ti b then some (pc + 1, L, es_bin f F a b :: S') else none
  | _ => none
def es_d2 (f : Int32 → Int32 → Int32) (pc : Nat) (L : es_L) (S : List es_V) (F : es_F) : Option (Nat × es_L × List es_V) := match S with
  | b :: a :: S' => match es_kn F b with
    | some y => bif es_ti a && (es_ti b && !decide (nI y = 0)) then some (pc + 1, L, es_bin f F a b :: S') else none
    | none => none
  | _ => none
def es_l2 (f : Int64 → Int64 → Int64) (pc : Nat) (L : es_L) (S : List es_V) : Option (Nat × es_L × List es_V) := match S with
  | b :: a :: S' => bif Nat.beq a.1 2 && Nat.beq b.1 2 then some (pc + 1, L, es_lbin f a b :: S') else none
  | _ => none
def es_lsh (f : Int64 → Int32 → Int64) (pc : Nat) (L : es_L) (S : List es_V) (F : es_F) : Option (Nat × es_L × List es_V) := match S with
  | b :: a :: S' => match es_kn F b with
    | some y => bif Nat.beq a.1 2 && es_ti b then some (pc + 1, L, es_lc (f (lN a.2) (nI y)) :: S') else none
    | none => none
  | _ => none
def es_ld (t : es_V → Bool) (i n pc : Nat) (L : es_L) (S : List es_V) : Option (Nat × es_L × List es_V) := match es_get L i with
  | some v => bif t v then some (pc + n, L, v :: S) else none
  | none => none
def es_sto (t : es_V → Bool) (nL i n pc : Nat) (L : es_L) (S : List es_V) : Option (Nat × es_L × List es_V) := match S with
  | v :: S' => bif t v && Nat.blt i nL then some (pc + n, es_st L i v, S') else none
  | _ => none
def es_lst (nL i n pc : Nat) (L : es_L) (S : List es_V) : Option (Nat × es_L × List es_V) := match S with
  | v :: S' => bif Nat.beq v.1 2 && Nat.blt (i + 1) nL then some (pc + n, es_del (es_st L i v) (i + 1), S') else none
  | _ => none
def es_t2 (v : es_V) : Bool := Nat.beq v.1 2
def es_pure (nL : Nat) (ins : Instr) (pc : Nat) (L : es_L) (S : List es_V) (F : es_F) : Option (Nat × es_L × List es_V) := match ins with
  | .iconst n => some (pc + 1, L, es_c (Int32.ofInt n) :: S)
  | .bipush n => some (pc + 2, L, es_c ((Int8.ofInt n).toInt32) :: S)
  | .sipush n => some (pc + 3, L, es_c ((Int16.ofInt n).toInt32) :: S)
  | .lconst n => some (pc + 1, L, es_lc (Int64.ofNat (n : Nat)) :: S)
  | .iload_n k => es_ld es_ti k 1 pc L S
  | .iload k => es_ld es_ti k 2 pc L S
  | .lload_n k => es_ld es_t2 k 1 pc L S
  | .lload k => es_ld es_t2 k 2 pc L S
  | .aload_n k => es_ld es_tr k 1 pc L S
  | .aload k => es_ld es_tr k 2 pc L S
  | .istore_n k => es_sto es_ti nL k 1 pc L S
  | .istore k => es_sto es_ti nL k 2 pc L S
  | .lstore_n k => es_lst nL k 1 pc L S
  | .lstore k => es_lst nL k 2 pc L S
  | .astore_n k => es_sto es_ta nL k 1 pc L S
  | .astore k => es_sto es_ta nL k 2 pc L S
  | .iinc k n => match es_get L k with
    | some v => bif es_ti v && Nat.blt k nL then some (pc + 3, es_st L k (es_un (fun x => x + Int32.ofInt n) F v), S) else none
    | none => none
  | .iadd => es_i2 (fun x y => x + y) pc L S F
  | .isub => es_i2 (fun x y => x - y) pc L S F
  | .imul => es_i2 (fun x y => x * y) pc L S F
  | .iand => es_i2 (fun x y => x &&& y) pc L S F
  | .ior => es_i2 (fun x y => x ||| y) pc L S F
  | .ixor => es_i2 (fun x y => x ^^^ y) pc L S F
  | .ishl => es_i2 (fun x y => x <<< (y &&& 31)) pc L S F
  | .ishr => es_i2 (fun x y => x >>> (y &&& 31)) pc L S F
  | .iushr => es_i2 (fun x y => (x.toUInt32 >>> (y.toUInt32 &&& Int32.toUInt32 31)).toInt32) pc L S F
  | .idiv => es_d2 (fun x y => x / y) pc L S F
  | .irem => es_d2 (fun x y => x - x / y * y) pc L S F
  | .ladd => es_l2 (fun x y => x + y) pc L S
  | .lsub => es_l2 (fun x y => x - y) pc L S
  | .lmul => es_l2 (fun x y => x * y) pc L S
  | .land => es_l2 (fun x y => x &&& y) pc L S
  | .lor => es_l2 (fun x y => x ||| y) pc L S
  | .ldiv => match S with
    | b :: a :: S' => bif (Nat.beq a.1 2 && Nat.beq b.1 2) && !decide (lN b.2 = 0) then some (pc + 1, L, es_lbin (fun x y => x / y) a b :: S') else none
    | _ => none
  | .lshl => es_lsh (fun x y => x <<< (y.toInt64 &&& 63)) pc L S F
  | .lshr => es_lsh (fun x y => x >>> (y.toInt64 &&& 63)) pc L S F
  | .lushr => es_lsh (fun x y => (x.toUInt64 >>> (y.toInt64.toUInt64 &&& Int64.toUInt64 63)).toInt64) pc L S F
  | .i2l => match S with
    | a :: S' => match es_kn F a with
      | some x => some (pc + 1, L, es_lc (nI x).toInt64 :: S')
      | none => none
    | _ => none
  | .l2i => match S with
    | a :: S' => bif Nat.beq a.1 2 then some (pc + 1, L, es_c (lN a.2).toInt32 :: S') else none
    | _ => none
  | .lcmp => match S with
    | b :: a :: S' => bif Nat.beq a.1 2 && Nat.beq b.1 2 then some (pc + 1, L, es_c (lg_cmp (lN a.2) (lN b.2)) :: S') else none
    | _ => none
  | .aconst_null => some (pc + 1, L, (4, 0) :: S)
  | .ineg => match S with
    | a :: S' => bif es_ti a then some (pc + 1, L, es_un (fun x => -x) F a :: S') else none
    | _ => none
  | .i2c => match S with
    | a :: S' => bif es_ti a then some (pc + 1, L, es_un (fun x => (x.toUInt32 % 65536).toInt32) F a :: S') else none
    | _ => none
  | .dup => match S with
    | a :: S' => bif es_t2 a then none else some (pc + 1, L, a :: a :: S')
    | _ => none
  | .pop => match S with
    | a :: S' => bif es_t2 a then none else some (pc + 1, L, S')
    | _ => none
  | .dup2 => match S with
    | b :: a :: S' => bif es_t2 a || es_t2 b then none else some (pc + 1, L, b :: a :: b :: a :: S')
    | _ => none
  | .goto off => match es_to pc off with
    | some t => some (t, L, S)
    | none => none
  | .ifnull off => match S with
    | a :: S' => bif Nat.beq a.1 4 then (match es_to pc off with
        | some t => some (t, L, S')
        | none => none) else bif Nat.beq a.1 3 then some (pc + 3, L, S') else none
    | _ => none
  | .ifnonnull off => match S with
    | a :: S' => bif Nat.beq a.1 3 then (match es_to pc off with
        | some t => some (t, L, S')
        | none => none) else bif Nat.beq a.1 4 then some (pc + 3, L, S') else none
    | _ => none
  | _ => none
def es_len (ins : Instr) : Nat := match ins with
  | .bipush _ | .iload _ | .lload _ | .aload _ | .istore _ | .lstore _ | .astore _ | .ldc _ | .newarray _ => 2
  | .sipush _ | .iinc _ _ | .goto _ | .ifnull _ | .ifnonnull _ | .ifCond _ _ | .if_icmp _ _ | .getfield _ | .putfield _ | .getstatic _ | .new _ | .anewarray _ | .invokevirtual _ | .invokespecial _ | .invokestatic _ | .ldc_w _ | .ldc2_w _ => 3
  | _ => 1
