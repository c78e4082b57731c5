noncomputable def ez_at (code : ByteArray) (p b : Nat) : Prop := ∃ h : p < code.size, (code[p]'h).toNat = b
theorem ez_u1 {code : ByteArray} {p b : Nat} (h : ez_at code p b) : (ClassFile.Reader.u1 : ClassFile.Decoder Nat).runAt code p = .ok (b, p + 1) := by
  obtain ⟨h1, rfl⟩ := h
  show (dite (p < code.size) (fun h => (_ : ClassFile.Decoder Nat)) (fun h => (_ : ClassFile.Decoder Nat)) : ClassFile.Decoder Nat) code p = _
  rw [dif_pos h1]
  rfl
theorem ez_bind {α β : Type} {r : ClassFile.Decoder α} {f : α → ClassFile.Decoder β} {code : ByteArray} {p p' : Nat} {a : α} (h : r.runAt code p = .ok (a, p')) : (r >>= f).runAt code p = (f a).runAt code p' := by
  show (r code p >>= fun q => f q.1 code q.2) = f a code p'
  have h2 : r code p = .ok (a, p') := h
  rw [h2]
  rfl
noncomputable def ez_Ks : {K : Nat → Nat → ClassFile.Decoder Instr // ∀ pc, ClassFile.Decoder.instr pc = ClassFile.Reader.u1 >>= K pc} := ⟨_, fun _ => rfl⟩
noncomputable def ez_K (pc b : Nat) : ClassFile.Decoder Instr := ez_Ks.1 pc b
theorem ez_go {code : ByteArray} {pc b n : Nat} {ins : Instr} (h : ez_at code pc b) (hK : (ez_K pc b).runAt code (pc + 1) = .ok (ins, pc + 1 + n)) : decode code pc = .ok (ins, n + 1) := by
  have h1 : (ClassFile.Decoder.instr pc).runAt code pc = .ok (ins, pc + 1 + n) := by
    rw [ez_Ks.2 pc, ez_bind (ez_u1 h)]
    exact hK
  unfold decode
  rw [h1]
  show Except.ok (ins, pc + 1 + n - pc) = _
  rw [show pc + 1 + n - pc = n + 1 by omega]
theorem ez_s0 {code : ByteArray} {pc b : Nat} {ins : Instr} (h : ez_at code pc b) (hK : ez_K pc b = Pure.pure ins) : decode code pc = .ok (ins, 1) := ez_go (n := 0) h (by rw [hK]; rfl)
theorem ez_su1 {code : ByteArray} {pc b x : Nat} {f : Nat → Instr} (h : ez_at code pc b) (h1 : ez_at code (pc + 1) x) (hK : ez_K pc b = (ClassFile.Reader.u1 >>= fun i => Pure.pure (f i))) : decode code pc = .ok (f x, 2) := ez_go (n := 1) h (by
  rw [hK, ez_bind (ez_u1 h1)]
  rfl)
theorem ez_u2 {code : ByteArray} {p x y : Nat} (h1 : ez_at code p x) (h2 : ez_at code (p + 1) y) : (ClassFile.Reader.u2 : ClassFile.Decoder Nat).runAt code p = .ok (x * 256 + y, p + 2) := by
  unfold ClassFile.Reader.u2
  rw [ez_bind (ez_u1 h1), ez_bind (ez_u1 h2)]
  rfl
theorem ez_su2 {code : ByteArray} {pc b x y : Nat} {f : Nat → Instr} (h : ez_at code pc b) (h1 : ez_at code (pc + 1) x) (h2 : ez_at code (pc + 2) y) (hK : ez_K pc b = (ClassFile.Reader.u2 >>= fun i => Pure.pure (f i))) : decode code pc = .ok (f (x * 256 + y), 3) := ez_go (n := 2) h (by
  rw [hK, ez_bind (ez_u2 h1 h2)]
  rfl)
theorem ez_s1 {code : ByteArray} {p x : Nat} (h1 : ez_at code p x) : (ClassFile.Reader.s1 : ClassFile.Decoder Int).runAt code p = .ok (ClassFile.Reader.signed 8 x, p + 1) := by
  show (ClassFile.Reader.u1 >>= fun i => pure (ClassFile.Reader.signed 8 i) : ClassFile.Decoder Int).runAt code p = _
  rw [ez_bind (ez_u1 h1)]
  rfl
theorem ez_s2 {code : ByteArray} {p x y : Nat} (h1 : ez_at code p x) (h2 : ez_at code (p + 1) y) : (ClassFile.Reader.s2 : ClassFile.Decoder Int).runAt code p = .ok (ClassFile.Reader.signed 16 (x * 256 + y), p + 2) := by
  show (ClassFile.Reader.u2 >>= fun i => pure (ClassFile.Reader.signed 16 i) : ClassFile.Decoder Int).runAt code p = _
  rw [ez_bind (ez_u2 h1 h2)]
  rfl
theorem ez_ss1 {code : ByteArray} {pc b x : Nat} {f : Int → Instr} (h : ez_at code pc b) (h1 : ez_at code (pc + 1) x) (hK : ez_K pc b = (ClassFile.Reader.s1 >>= fun i => Pure.pure (f i))) : decode code pc = .ok (f (ClassFile.Reader.signed 8 x), 2) := ez_go (n := 1) h (by
  rw [hK, ez_bind (ez_s1 h1)]
  rfl)
theorem ez_ss2 {code : ByteArray} {pc b x y : Nat} {f : Int → Instr} (h : ez_at code pc b) (h1 : ez_at code (pc + 1) x) (h2 : ez_at code (pc + 2) y) (hK : ez_K pc b = (ClassFile.Reader.s2 >>= fun i => Pure.pure (f i))) : decode code pc = .ok (f (ClassFile.Reader.signed 16 (x * 256 + y)), 3) := ez_go (n := 2) h (by
  rw [hK, ez_bind (ez_s2 h1 h2)]
  rfl)
theorem ez_inc {code : ByteArray} {pc x y : Nat} (h : ez_at code pc 132) (h1 : ez_at code (pc + 1) x) (h2 : ez_at code (pc + 2) y) : decode code pc = .ok (.iinc x (ClassFile.Reader.signed 8 y), 3) := ez_go (n := 2) h (by
  rw [show ez_K pc 132 = (ClassFile.Reader.u1 >>= fun i => ClassFile.Reader.s1 >>= fun j => Pure.pure (.iinc i j)) from rfl, ez_bind (ez_u1 h1), ez_bind (ez_s1 h2)]
  rfl)
noncomputable def ez_o1 (t : List UInt8) (f : Nat → Instr) : Option (Instr × Nat) := match t with
  | x :: _ => some (f x.toNat, 2)
  | _ => none
noncomputable def ez_o2 (t : List UInt8) (f : Nat → Instr) : Option (Instr × Nat) := match t with
  | x :: y :: _ => some (f (x.toNat * 256 + y.toNat), 3)
  | _ => none
noncomputable def ez_p1 (t : List UInt8) (f : Int → Instr) : Option (Instr × Nat) := match t with
  | x :: _ => some (f (ClassFile.Reader.signed 8 x.toNat), 2)
  | _ => none
noncomputable def ez_p2 (t : List UInt8) (f : Int → Instr) : Option (Instr × Nat) := match t with
  | x :: y :: _ => some (f (ClassFile.Reader.signed 16 (x.toNat * 256 + y.toNat)), 3)
  | _ => none
noncomputable def ez_pi (t : List UInt8) : Option (Instr × Nat) := match t with
  | x :: y :: _ => some (.iinc x.toNat (ClassFile.Reader.signed 8 y.toNat), 3)
  | _ => none
theorem ez_get {code : ByteArray} {p : Nat} {x : UInt8} (h : code.data.toList[p]? = some x) : ez_at code p x.toNat := by
  obtain ⟨h1, h2⟩ := List.getElem?_eq_some_iff.mp h
  refine ⟨h1, ?_⟩
  rw [← h2]
  rfl
theorem ez_ch {α : Type} {c : Bool} {x y : Option α} {q : α} {P : Prop} (h : (bif c then x else y) = some q) (h1 : c = true → x = some q → P) (h2 : y = some q → P) : P := by
  cases c
  · exact h2 h
  · exact h1 rfl h
section Dec
variable {code : ByteArray} {pre : List UInt8} {b0 : UInt8} {t : List UInt8} {q : Instr × Nat}
theorem ez_h0 (H : code.data.toList = pre ++ b0 :: t) {v : Nat} (e : Nat.beq b0.toNat v = true) : ez_at code pre.length v := by
  rw [← es_beq.mp e]
  exact ez_get (by rw [H]; simp)
theorem ez_f0 {v : Nat} {ins : Instr} (H : code.data.toList = pre ++ b0 :: t) (hK : ez_K pre.length v = Pure.pure ins) (e : Nat.beq b0.toNat v = true) (hx : some (ins, 1) = some q) : decode code pre.length = .ok q := by
  rw [← Option.some.inj hx]
  exact ez_s0 (ez_h0 H e) hK
theorem ez_f1 {v : Nat} {f : Nat → Instr} (H : code.data.toList = pre ++ b0 :: t) (hK : ez_K pre.length v = (ClassFile.Reader.u1 >>= fun i => Pure.pure (f i))) (e : Nat.beq b0.toNat v = true) (hx : ez_o1 t f = some q) : decode code pre.length = .ok q := by
  match t, H, hx with
  | [], _, hx => cases hx
  | x :: t', H, hx =>
    rw [← Option.some.inj (show some (f x.toNat, 2) = some q from hx)]
    exact ez_su1 (ez_h0 H e) (ez_get (by rw [H]; simp)) hK
theorem ez_f2 {v : Nat} {f : Nat → Instr} (H : code.data.toList = pre ++ b0 :: t) (hK : ez_K pre.length v = (ClassFile.Reader.u2 >>= fun i => Pure.pure (f i))) (e : Nat.beq b0.toNat v = true) (hx : ez_o2 t f = some q) : decode code pre.length = .ok q := by
  match t, H, hx with
  | [], _, hx => cases hx
  | [_], _, hx => cases hx
  | x :: y :: t', H, hx =>
    rw [← Option.some.inj (show some (f (x.toNat * 256 + y.toNat), 3) = some q from hx)]
    exact ez_su2 (ez_h0 H e) (ez_get (by rw [H]; simp)) (ez_get (by rw [H]; simp)) hK
theorem ez_g1 {v : Nat} {f : Int → Instr} (H : code.data.toList = pre ++ b0 :: t) (hK : ez_K pre.length v = (ClassFile.Reader.s1 >>= fun i => Pure.pure (f i))) (e : Nat.beq b0.toNat v = true) (hx : ez_p1 t f = some q) : decode code pre.length = .ok q := by
  match t, H, hx with
  | [], _, hx => cases hx
  | x :: t', H, hx =>
    rw [← Option.some.inj (show some (f (ClassFile.Reader.signed 8 x.toNat), 2) = some q from hx)]
    exact ez_ss1 (ez_h0 H e) (ez_get (by rw [H]; simp)) hK
theorem ez_g2 {v : Nat} {f : Int → Instr} (H : code.data.toList = pre ++ b0 :: t) (hK : ez_K pre.length v = (ClassFile.Reader.s2 >>= fun i => Pure.pure (f i))) (e : Nat.beq b0.toNat v = true) (hx : ez_p2 t f = some q) : decode code pre.length = .ok q := by
  match t, H, hx with
  | [], _, hx => cases hx
  | [_], _, hx => cases hx
  | x :: y :: t', H, hx =>
    rw [← Option.some.inj (show some (f (ClassFile.Reader.signed 16 (x.toNat * 256 + y.toNat)), 3) = some q from hx)]
    exact ez_ss2 (ez_h0 H e) (ez_get (by rw [H]; simp)) (ez_get (by rw [H]; simp)) hK
theorem ez_gi (H : code.data.toList = pre ++ b0 :: t) (e : Nat.beq b0.toNat 132 = true) (hx : ez_pi t = some q) : decode code pre.length = .ok q := by
  match t, H, hx with
  | [], _, hx => cases hx
  | [_], _, hx => cases hx
  | x :: y :: t', H, hx =>
    rw [← Option.some.inj (show some (.iinc x.toNat (ClassFile.Reader.signed 8 y.toNat), 3) = some q from hx)]
    exact ez_inc (ez_h0 H e) (ez_get (by rw [H]; simp)) (ez_get (by rw [H]; simp))
noncomputable def ez_d0 (b : Nat) (t : List UInt8) : Option (Instr × Nat) :=
  bif Nat.beq b 1 then some (.aconst_null, 1) else
  bif Nat.beq b 2 then some (.iconst (-1), 1) else
  bif Nat.beq b 3 then some (.iconst 0, 1) else
  bif Nat.beq b 4 then some (.iconst 1, 1) else
  bif Nat.beq b 5 then some (.iconst 2, 1) else
  bif Nat.beq b 6 then some (.iconst 3, 1) else
  bif Nat.beq b 7 then some (.iconst 4, 1) else
  bif Nat.beq b 8 then some (.iconst 5, 1) else
  bif Nat.beq b 9 then some (.lconst 0, 1) else
  none
theorem ez_d0_ok (H : code.data.toList = pre ++ b0 :: t) (h : ez_d0 b0.toNat t = some q) : decode code pre.length = .ok q := by
  unfold ez_d0 at h
  refine ez_ch h (fun e hx => ez_f0 H rfl e hx) (fun h => ?_)
  refine ez_ch h (fun e hx => ez_f0 H rfl e hx) (fun h => ?_)
  refine ez_ch h (fun e hx => ez_f0 H rfl e hx) (fun h => ?_)
  refine ez_ch h (fun e hx => ez_f0 H rfl e hx) (fun h => ?_)
  refine ez_ch h (fun e hx => ez_f0 H rfl e hx) (fun h => ?_)
  refine ez_ch h (fun e hx => ez_f0 H rfl e hx) (fun h => ?_)
  refine ez_ch h (fun e hx => ez_f0 H rfl e hx) (fun h => ?_)
  refine ez_ch h (fun e hx => ez_f0 H rfl e hx) (fun h => ?_)
  refine ez_ch h (fun e hx => ez_f0 H rfl e hx) (fun h => ?_)
  cases h
noncomputable def ez_d1 (b : Nat) (t : List UInt8) : Option (Instr × Nat) :=
  bif Nat.beq b 10 then some (.lconst 1, 1) else
  bif Nat.beq b 16 then ez_p1 t (fun i => .bipush i) else
  bif Nat.beq b 17 then ez_p2 t (fun i => .sipush i) else
  bif Nat.beq b 18 then ez_o1 t (fun i => .ldc i) else
  bif Nat.beq b 19 then ez_o2 t (fun i => .ldc_w i) else
  bif Nat.beq b 20 then ez_o2 t (fun i => .ldc2_w i) else
  bif Nat.beq b 21 then ez_o1 t (fun i => .iload i) else
  bif Nat.beq b 22 then ez_o1 t (fun i => .lload i) else
  bif Nat.beq b 25 then ez_o1 t (fun i => .aload i) else
  none
theorem ez_d1_ok (H : code.data.toList = pre ++ b0 :: t) (h : ez_d1 b0.toNat t = some q) : decode code pre.length = .ok q := by
  unfold ez_d1 at h
  refine ez_ch h (fun e hx => ez_f0 H rfl e hx) (fun h => ?_)
  refine ez_ch h (fun e hx => ez_g1 H rfl e hx) (fun h => ?_)
  refine ez_ch h (fun e hx => ez_g2 H rfl e hx) (fun h => ?_)
  refine ez_ch h (fun e hx => ez_f1 H rfl e hx) (fun h => ?_)
  refine ez_ch h (fun e hx => ez_f2 H rfl e hx) (fun h => ?_)
  refine ez_ch h (fun e hx => ez_f2 H rfl e hx) (fun h => ?_)
  refine ez_ch h (fun e hx => ez_f1 H rfl e hx) (fun h => ?_)
  refine ez_ch h (fun e hx => ez_f1 H rfl e hx) (fun h => ?_)
  refine ez_ch h (fun e hx => ez_f1 H rfl e hx) (fun h => ?_)
  cases h
noncomputable def ez_d2 (b : Nat) (t : List UInt8) : Option (Instr × Nat) :=
  bif Nat.beq b 26 then some (.iload_n 0, 1) else
  bif Nat.beq b 27 then some (.iload_n 1, 1) else
  bif Nat.beq b 28 then some (.iload_n 2, 1) else
  bif Nat.beq b 29 then some (.iload_n 3, 1) else
  bif Nat.beq b 30 then some (.lload_n 0, 1) else
  bif Nat.beq b 31 then some (.lload_n 1, 1) else
  bif Nat.beq b 32 then some (.lload_n 2, 1) else
  bif Nat.beq b 33 then some (.lload_n 3, 1) else
  bif Nat.beq b 42 then some (.aload_n 0, 1) else
  none
theorem ez_d2_ok (H : code.data.toList = pre ++ b0 :: t) (h : ez_d2 b0.toNat t = some q) : decode code pre.length = .ok q := by
  unfold ez_d2 at h
  refine ez_ch h (fun e hx => ez_f0 H rfl e hx) (fun h => ?_)
  refine ez_ch h (fun e hx => ez_f0 H rfl e hx) (fun h => ?_)
  refine ez_ch h (fun e hx => ez_f0 H rfl e hx) (fun h => ?_)
  refine ez_ch h (fun e hx => ez_f0 H rfl e hx) (fun h => ?_)
  refine ez_ch h (fun e hx => ez_f0 H rfl e hx) (fun h => ?_)
  refine ez_ch h (fun e hx => ez_f0 H rfl e hx) (fun h => ?_)
  refine ez_ch h (fun e hx => ez_f0 H rfl e hx) (fun h => ?_)
  refine ez_ch h (fun e hx => ez_f0 H rfl e hx) (fun h => ?_)
  refine ez_ch h (fun e hx => ez_f0 H rfl e hx) (fun h => ?_)
  cases h
noncomputable def ez_d3 (b : Nat) (t : List UInt8) : Option (Instr × Nat) :=
  bif Nat.beq b 43 then some (.aload_n 1, 1) else
  bif Nat.beq b 44 then some (.aload_n 2, 1) else
  bif Nat.beq b 45 then some (.aload_n 3, 1) else
  bif Nat.beq b 46 then some (.iaload, 1) else
  bif Nat.beq b 47 then some (.laload, 1) else
  bif Nat.beq b 50 then some (.aaload, 1) else
  bif Nat.beq b 51 then some (.baload, 1) else
  bif Nat.beq b 54 then ez_o1 t (fun i => .istore i) else
  bif Nat.beq b 55 then ez_o1 t (fun i => .lstore i) else
  none
theorem ez_d3_ok (H : code.data.toList = pre ++ b0 :: t) (h : ez_d3 b0.toNat t = some q) : decode code pre.length = .ok q := by
  unfold ez_d3 at h
  refine ez_ch h (fun e hx => ez_f0 H rfl e hx) (fun h => ?_)
  refine ez_ch h (fun e hx => ez_f0 H rfl e hx) (fun h => ?_)
  refine ez_ch h (fun e hx => ez_f0 H rfl e hx) (fun h => ?_)
  refine ez_ch h (fun e hx => ez_f0 H rfl e hx) (fun h => ?_)
  refine ez_ch h (fun e hx => ez_f0 H rfl e hx) (fun h => ?_)
  refine ez_ch h (fun e hx => ez_f0 H rfl e hx) (fun h => ?_)
  refine ez_ch h (fun e hx => ez_f0 H rfl e hx) (fun h => ?_)
  refine ez_ch h (fun e hx => ez_f1 H rfl e hx) (fun h => ?_)
  refine ez_ch h (fun e hx => ez_f1 H rfl e hx) (fun h => ?_)
  cases h
noncomputable def ez_d4 (b : Nat) (t : List UInt8) : Option (Instr × Nat) :=
  bif Nat.beq b 58 then ez_o1 t (fun i => .astore i) else
  bif Nat.beq b 59 then some (.istore_n 0, 1) else
  bif Nat.beq b 60 then some (.istore_n 1, 1) else
  bif Nat.beq b 61 then some (.istore_n 2, 1) else
  bif Nat.beq b 62 then some (.istore_n 3, 1) else
  bif Nat.beq b 63 then some (.lstore_n 0, 1) else
  bif Nat.beq b 64 then some (.lstore_n 1, 1) else
  bif Nat.beq b 65 then some (.lstore_n 2, 1) else
  bif Nat.beq b 66 then some (.lstore_n 3, 1) else
  none
theorem ez_d4_ok (H : code.data.toList = pre ++ b0 :: t) (h : ez_d4 b0.toNat t = some q) : decode code pre.length = .ok q := by
  unfold ez_d4 at h
  refine ez_ch h (fun e hx => ez_f1 H rfl e hx) (fun h => ?_)
  refine ez_ch h (fun e hx => ez_f0 H rfl e hx) (fun h => ?_)
  refine ez_ch h (fun e hx => ez_f0 H rfl e hx) (fun h => ?_)
  refine ez_ch h (fun e hx => ez_f0 H rfl e hx) (fun h => ?_)
  refine ez_ch h (fun e hx => ez_f0 H rfl e hx) (fun h => ?_)
  refine ez_ch h (fun e hx => ez_f0 H rfl e hx) (fun h => ?_)
  refine ez_ch h (fun e hx => ez_f0 H rfl e hx) (fun h => ?_)
  refine ez_ch h (fun e hx => ez_f0 H rfl e hx) (fun h => ?_)
  refine ez_ch h (fun e hx => ez_f0 H rfl e hx) (fun h => ?_)
  cases h
noncomputable def ez_d5 (b : Nat) (t : List UInt8) : Option (Instr × Nat) :=
  bif Nat.beq b 75 then some (.astore_n 0, 1) else
  bif Nat.beq b 76 then some (.astore_n 1, 1) else
  bif Nat.beq b 77 then some (.astore_n 2, 1) else
  bif Nat.beq b 78 then some (.astore_n 3, 1) else
  bif Nat.beq b 79 then some (.iastore, 1) else
  bif Nat.beq b 80 then some (.lastore, 1) else
  bif Nat.beq b 83 then some (.aastore, 1) else
  bif Nat.beq b 84 then some (.bastore, 1) else
  bif Nat.beq b 87 then some (.pop, 1) else
  none
theorem ez_d5_ok (H : code.data.toList = pre ++ b0 :: t) (h : ez_d5 b0.toNat t = some q) : decode code pre.length = .ok q := by
  unfold ez_d5 at h
  refine ez_ch h (fun e hx => ez_f0 H rfl e hx) (fun h => ?_)
  refine ez_ch h (fun e hx => ez_f0 H rfl e hx) (fun h => ?_)
  refine ez_ch h (fun e hx => ez_f0 H rfl e hx) (fun h => ?_)
  refine ez_ch h (fun e hx => ez_f0 H rfl e hx) (fun h => ?_)
  refine ez_ch h (fun e hx => ez_f0 H rfl e hx) (fun h => ?_)
  refine ez_ch h (fun e hx => ez_f0 H rfl e hx) (fun h => ?_)
  refine ez_ch h (fun e hx => ez_f0 H rfl e hx) (fun h => ?_)
  refine ez_ch h (fun e hx => ez_f0 H rfl e hx) (fun h => ?_)
  refine ez_ch h (fun e hx => ez_f0 H rfl e hx) (fun h => ?_)
  cases h
noncomputable def ez_d6 (b : Nat) (t : List UInt8) : Option (Instr × Nat) :=
  bif Nat.beq b 89 then some (.dup, 1) else
  bif Nat.beq b 92 then some (.dup2, 1) else
  bif Nat.beq b 96 then some (.iadd, 1) else
  bif Nat.beq b 97 then some (.ladd, 1) else
  bif Nat.beq b 100 then some (.isub, 1) else
  bif Nat.beq b 101 then some (.lsub, 1) else
  bif Nat.beq b 104 then some (.imul, 1) else
  bif Nat.beq b 105 then some (.lmul, 1) else
  bif Nat.beq b 108 then some (.idiv, 1) else
  none
theorem ez_d6_ok (H : code.data.toList = pre ++ b0 :: t) (h : ez_d6 b0.toNat t = some q) : decode code pre.length = .ok q := by
  unfold ez_d6 at h
  refine ez_ch h (fun e hx => ez_f0 H rfl e hx) (fun h => ?_)
  refine ez_ch h (fun e hx => ez_f0 H rfl e hx) (fun h => ?_)
  refine ez_ch h (fun e hx => ez_f0 H rfl e hx) (fun h => ?_)
  refine ez_ch h (fun e hx => ez_f0 H rfl e hx) (fun h => ?_)
  refine ez_ch h (fun e hx => ez_f0 H rfl e hx) (fun h => ?_)
  refine ez_ch h (fun e hx => ez_f0 H rfl e hx) (fun h => ?_)
  refine ez_ch h (fun e hx => ez_f0 H rfl e hx) (fun h => ?_)
  refine ez_ch h (fun e hx => ez_f0 H rfl e hx) (fun h => ?_)
  refine ez_ch h (fun e hx => ez_f0 H rfl e hx) (fun h => ?_)
  cases h
noncomputable def ez_d7 (b : Nat) (t : List UInt8) : Option (Instr × Nat) :=
  bif Nat.beq b 109 then some (.ldiv, 1) else
  bif Nat.beq b 112 then some (.irem, 1) else
  bif Nat.beq b 116 then some (.ineg, 1) else
  bif Nat.beq b 120 then some (.ishl, 1) else
  bif Nat.beq b 121 then some (.lshl, 1) else
  bif Nat.beq b 122 then some (.ishr, 1) else
  bif Nat.beq b 123 then some (.lshr, 1) else
  bif Nat.beq b 124 then some (.iushr, 1) else
  bif Nat.beq b 125 then some (.lushr, 1) else
  none
theorem ez_d7_ok (H : code.data.toList = pre ++ b0 :: t) (h : ez_d7 b0.toNat t = some q) : decode code pre.length = .ok q := by
  unfold ez_d7 at h
  refine ez_ch h (fun e hx => ez_f0 H rfl e hx) (fun h => ?_)
  refine ez_ch h (fun e hx => ez_f0 H rfl e hx) (fun h => ?_)
  refine ez_ch h (fun e hx => ez_f0 H rfl e hx) (fun h => ?_)
  refine ez_ch h (fun e hx => ez_f0 H rfl e hx) (fun h => ?_)
  refine ez_ch h (fun e hx => ez_f0 H rfl e hx) (fun h => ?_)
  refine ez_ch h (fun e hx => ez_f0 H rfl e hx) (fun h => ?_)
  refine ez_ch h (fun e hx => ez_f0 H rfl e hx) (fun h => ?_)
  refine ez_ch h (fun e hx => ez_f0 H rfl e hx) (fun h => ?_)
  refine ez_ch h (fun e hx => ez_f0 H rfl e hx) (fun h => ?_)
  cases h
noncomputable def ez_d8 (b : Nat) (t : List UInt8) : Option (Instr × Nat) :=
  bif Nat.beq b 126 then some (.iand, 1) else
  bif Nat.beq b 127 then some (.land, 1) else
  bif Nat.beq b 128 then some (.ior, 1) else
  bif Nat.beq b 129 then some (.lor, 1) else
  bif Nat.beq b 130 then some (.ixor, 1) else
  bif Nat.beq b 132 then ez_pi t else
  bif Nat.beq b 133 then some (.i2l, 1) else
  bif Nat.beq b 136 then some (.l2i, 1) else
  bif Nat.beq b 146 then some (.i2c, 1) else
  none
theorem ez_d8_ok (H : code.data.toList = pre ++ b0 :: t) (h : ez_d8 b0.toNat t = some q) : decode code pre.length = .ok q := by
  unfold ez_d8 at h
  refine ez_ch h (fun e hx => ez_f0 H rfl e hx) (fun h => ?_)
  refine ez_ch h (fun e hx => ez_f0 H rfl e hx) (fun h => ?_)
  refine ez_ch h (fun e hx => ez_f0 H rfl e hx) (fun h => ?_)
  refine ez_ch h (fun e hx => ez_f0 H rfl e hx) (fun h => ?_)
  refine ez_ch h (fun e hx => ez_f0 H rfl e hx) (fun h => ?_)
  refine ez_ch h (fun e hx => ez_gi H e hx) (fun h => ?_)
  refine ez_ch h (fun e hx => ez_f0 H rfl e hx) (fun h => ?_)
  refine ez_ch h (fun e hx => ez_f0 H rfl e hx) (fun h => ?_)
  refine ez_ch h (fun e hx => ez_f0 H rfl e hx) (fun h => ?_)
  cases h
noncomputable def ez_d9 (b : Nat) (t : List UInt8) : Option (Instr × Nat) :=
  bif Nat.beq b 148 then some (.lcmp, 1) else
  bif Nat.beq b 153 then ez_p2 t (fun i => .ifCond .eq i) else
  bif Nat.beq b 154 then ez_p2 t (fun i => .ifCond .ne i) else
  bif Nat.beq b 155 then ez_p2 t (fun i => .ifCond .lt i) else
  bif Nat.beq b 156 then ez_p2 t (fun i => .ifCond .ge i) else
  bif Nat.beq b 157 then ez_p2 t (fun i => .ifCond .gt i) else
  bif Nat.beq b 158 then ez_p2 t (fun i => .ifCond .le i) else
  bif Nat.beq b 159 then ez_p2 t (fun i => .if_icmp .eq i) else
  bif Nat.beq b 160 then ez_p2 t (fun i => .if_icmp .ne i) else
  none
theorem ez_d9_ok (H : code.data.toList = pre ++ b0 :: t) (h : ez_d9 b0.toNat t = some q) : decode code pre.length = .ok q := by
  unfold ez_d9 at h
  refine ez_ch h (fun e hx => ez_f0 H rfl e hx) (fun h => ?_)
  refine ez_ch h (fun e hx => ez_g2 H rfl e hx) (fun h => ?_)
  refine ez_ch h (fun e hx => ez_g2 H rfl e hx) (fun h => ?_)
  refine ez_ch h (fun e hx => ez_g2 H rfl e hx) (fun h => ?_)
  refine ez_ch h (fun e hx => ez_g2 H rfl e hx) (fun h => ?_)
  refine ez_ch h (fun e hx => ez_g2 H rfl e hx) (fun h => ?_)
  refine ez_ch h (fun e hx => ez_g2 H rfl e hx) (fun h => ?_)
  refine ez_ch h (fun e hx => ez_g2 H rfl e hx) (fun h => ?_)
  refine ez_ch h (fun e hx => ez_g2 H rfl e hx) (fun h => ?_)
  cases h
noncomputable def ez_d10 (b : Nat) (t : List UInt8) : Option (Instr × Nat) :=
  bif Nat.beq b 161 then ez_p2 t (fun i => .if_icmp .lt i) else
  bif Nat.beq b 162 then ez_p2 t (fun i => .if_icmp .ge i) else
  bif Nat.beq b 163 then ez_p2 t (fun i => .if_icmp .gt i) else
  bif Nat.beq b 164 then ez_p2 t (fun i => .if_icmp .le i) else
  bif Nat.beq b 167 then ez_p2 t (fun i => .goto i) else
  bif Nat.beq b 172 then some (.ireturn, 1) else
  bif Nat.beq b 173 then some (.lreturn, 1) else
  bif Nat.beq b 176 then some (.areturn, 1) else
  bif Nat.beq b 177 then some (.return_, 1) else
  none
theorem ez_d10_ok (H : code.data.toList = pre ++ b0 :: t) (h : ez_d10 b0.toNat t = some q) : decode code pre.length = .ok q := by
  unfold ez_d10 at h
  refine ez_ch h (fun e hx => ez_g2 H rfl e hx) (fun h => ?_)
  refine ez_ch h (fun e hx => ez_g2 H rfl e hx) (fun h => ?_)
  refine ez_ch h (fun e hx => ez_g2 H rfl e hx) (fun h => ?_)
  refine ez_ch h (fun e hx => ez_g2 H rfl e hx) (fun h => ?_)
  refine ez_ch h (fun e hx => ez_g2 H rfl e hx) (fun h => ?_)
  refine ez_ch h (fun e hx => ez_f0 H rfl e hx) (fun h => ?_)
  refine ez_ch h (fun e hx => ez_f0 H rfl e hx) (fun h => ?_)
  refine ez_ch h (fun e hx => ez_f0 H rfl e hx) (fun h => ?_)
  refine ez_ch h (fun e hx => ez_f0 H rfl e hx) (fun h => ?_)
  cases h
noncomputable def ez_d11 (b : Nat) (t : List UInt8) : Option (Instr × Nat) :=
  bif Nat.beq b 178 then ez_o2 t (fun i => .getstatic i) else
  bif Nat.beq b 180 then ez_o2 t (fun i => .getfield i) else
  bif Nat.beq b 181 then ez_o2 t (fun i => .putfield i) else
  bif Nat.beq b 182 then ez_o2 t (fun i => .invokevirtual i) else
  bif Nat.beq b 183 then ez_o2 t (fun i => .invokespecial i) else
  bif Nat.beq b 184 then ez_o2 t (fun i => .invokestatic i) else
  bif Nat.beq b 187 then ez_o2 t (fun i => .new i) else
  bif Nat.beq b 189 then ez_o2 t (fun i => .anewarray i) else
  bif Nat.beq b 190 then some (.arraylength, 1) else
  none
theorem ez_d11_ok (H : code.data.toList = pre ++ b0 :: t) (h : ez_d11 b0.toNat t = some q) : decode code pre.length = .ok q := by
  unfold ez_d11 at h
  refine ez_ch h (fun e hx => ez_f2 H rfl e hx) (fun h => ?_)
  refine ez_ch h (fun e hx => ez_f2 H rfl e hx) (fun h => ?_)
  refine ez_ch h (fun e hx => ez_f2 H rfl e hx) (fun h => ?_)
  refine ez_ch h (fun e hx => ez_f2 H rfl e hx) (fun h => ?_)
  refine ez_ch h (fun e hx => ez_f2 H rfl e hx) (fun h => ?_)
  refine ez_ch h (fun e hx => ez_f2 H rfl e hx) (fun h => ?_)
  refine ez_ch h (fun e hx => ez_f2 H rfl e hx) (fun h => ?_)
  refine ez_ch h (fun e hx => ez_f2 H rfl e hx) (fun h => ?_)
  refine ez_ch h (fun e hx => ez_f0 H rfl e hx) (fun h => ?_)
  cases h
noncomputable def ez_d12 (b : Nat) (t : List UInt8) : Option (Instr × Nat) :=
  bif Nat.beq b 198 then ez_p2 t (fun i => .ifnull i) else
  bif Nat.beq b 199 then ez_p2 t (fun i => .ifnonnull i) else
  none
theorem ez_d12_ok (H : code.data.toList = pre ++ b0 :: t) (h : ez_d12 b0.toNat t = some q) : decode code pre.length = .ok q := by
  unfold ez_d12 at h
  refine ez_ch h (fun e hx => ez_g2 H rfl e hx) (fun h => ?_)
  refine ez_ch h (fun e hx => ez_g2 H rfl e hx) (fun h => ?_)
  cases h
noncomputable def ez_dec (b : Nat) (t : List UInt8) : Option (Instr × Nat) :=
  bif Nat.ble b 9 then ez_d0 b t else
  bif Nat.ble b 25 then ez_d1 b t else
  bif Nat.ble b 42 then ez_d2 b t else
  bif Nat.ble b 55 then ez_d3 b t else
  bif Nat.ble b 66 then ez_d4 b t else
  bif Nat.ble b 87 then ez_d5 b t else
  bif Nat.ble b 108 then ez_d6 b t else
  bif Nat.ble b 125 then ez_d7 b t else
  bif Nat.ble b 146 then ez_d8 b t else
  bif Nat.ble b 160 then ez_d9 b t else
  bif Nat.ble b 177 then ez_d10 b t else
  bif Nat.ble b 190 then ez_d11 b t else
  ez_d12 b t
theorem ez_dec_ok (H : code.data.toList = pre ++ b0 :: t) (h : ez_dec b0.toNat t = some q) : decode code pre.length = .ok q := by
  unfold ez_dec at h
  refine ez_ch h (fun _ hx => ez_d0_ok H hx) (fun h => ?_)
  refine ez_ch h (fun _ hx => ez_d1_ok H hx) (fun h => ?_)
  refine ez_ch h (fun _ hx => ez_d2_ok H hx) (fun h => ?_)
  refine ez_ch h (fun _ hx => ez_d3_ok H hx) (fun h => ?_)
  refine ez_ch h (fun _ hx => ez_d4_ok H hx) (fun h => ?_)
  refine ez_ch h (fun _ hx => ez_d5_ok H hx) (fun h => ?_)
  refine ez_ch h (fun _ hx => ez_d6_ok H hx) (fun h => ?_)
  refine ez_ch h (fun _ hx => ez_d7_ok H hx) (fun h => ?_)
  refine ez_ch h (fun _ hx => ez_d8_ok H hx) (fun h => ?_)
  refine ez_ch h (fun _ hx => ez_d9_ok H hx) (fun h => ?_)
  refine ez_ch h (fun _ hx => ez_d10_ok H hx) (fun h => ?_)
  refine ez_ch h (fun _ hx => ez_d11_ok H hx) (fun h => ?_)
  exact ez_d12_ok H h
end Dec
/-! instructions compared quickly -/
noncomputable def ew_iz (a b : Int) : Bool := match a with
  | .ofNat x => (match b with
    | .ofNat y => Nat.beq x y
    | .negSucc _ => false)
  | .negSucc x => (match b with
    | .ofNat _ => false
    | .negSucc y => Nat.beq x y)
theorem ew_iz_ok {a b : Int} (h : ew_iz a b = true) : a = b := by
  unfold ew_iz at h
  cases a <;> cases b <;> dsimp only at h
  · rw [Nat.eq_of_beq_eq_true h]
  · cases h
  · cases h
  · rw [Nat.eq_of_beq_eq_true h]
noncomputable def ew_i_aaload (b : Instr) : Bool := match b with
  | .aaload  => true
  | _ => false
theorem ew_o_aaload {b : Instr} (h : ew_i_aaload  b = true) : Instr.aaload  = b := by
  unfold ew_i_aaload at h
  split at h
  · rfl
  · cases h
noncomputable def ew_i_aastore (b : Instr) : Bool := match b with
  | .aastore  => true
  | _ => false
theorem ew_o_aastore {b : Instr} (h : ew_i_aastore  b = true) : Instr.aastore  = b := by
  unfold ew_i_aastore at h
  split at h
  · rfl
  · cases h
noncomputable def ew_i_aconst_null (b : Instr) : Bool := match b with
  | .aconst_null  => true
  | _ => false
theorem ew_o_aconst_null {b : Instr} (h : ew_i_aconst_null  b = true) : Instr.aconst_null  = b := by
  unfold ew_i_aconst_null at h
  split at h
  · rfl
  · cases h
noncomputable def ew_i_aload (x0 : Nat) (b : Instr) : Bool := match b with
  | .aload y0 => Nat.beq x0 y0
  | _ => false
theorem ew_o_aload (x0 : Nat) {b : Instr} (h : ew_i_aload x0 b = true) : Instr.aload x0 = b := by
  unfold ew_i_aload at h
  split at h
  · have h0 := h
    rw [show x0 = _ from Nat.eq_of_beq_eq_true h0]
  · cases h
noncomputable def ew_i_aload_n (x0 : Fin 4) (b : Instr) : Bool := match b with
  | .aload_n y0 => Nat.beq x0.val y0.val
  | _ => false
theorem ew_o_aload_n (x0 : Fin 4) {b : Instr} (h : ew_i_aload_n x0 b = true) : Instr.aload_n x0 = b := by
  unfold ew_i_aload_n at h
  split at h
  · have h0 := h
    rw [show x0 = _ from Fin.ext (Nat.eq_of_beq_eq_true h0)]
  · cases h
noncomputable def ew_i_anewarray (x0 : Nat) (b : Instr) : Bool := match b with
  | .anewarray y0 => Nat.beq x0 y0
  | _ => false
theorem ew_o_anewarray (x0 : Nat) {b : Instr} (h : ew_i_anewarray x0 b = true) : Instr.anewarray x0 = b := by
  unfold ew_i_anewarray at h
  split at h
  · have h0 := h
    rw [show x0 = _ from Nat.eq_of_beq_eq_true h0]
  · cases h
noncomputable def ew_i_areturn (b : Instr) : Bool := match b with
  | .areturn  => true
  | _ => false
theorem ew_o_areturn {b : Instr} (h : ew_i_areturn  b = true) : Instr.areturn  = b := by
  unfold ew_i_areturn at h
  split at h
  · rfl
  · cases h
noncomputable def ew_i_arraylength (b : Instr) : Bool := match b with
  | .arraylength  => true
  | _ => false
theorem ew_o_arraylength {b : Instr} (h : ew_i_arraylength  b = true) : Instr.arraylength  = b := by
  unfold ew_i_arraylength at h
  split at h
  · rfl
  · cases h
noncomputable def ew_i_astore (x0 : Nat) (b : Instr) : Bool := match b with
  | .astore y0 => Nat.beq x0 y0
  | _ => false
theorem ew_o_astore (x0 : Nat) {b : Instr} (h : ew_i_astore x0 b = true) : Instr.astore x0 = b := by
  unfold ew_i_astore at h
  split at h
  · have h0 := h
    rw [show x0 = _ from Nat.eq_of_beq_eq_true h0]
  · cases h
noncomputable def ew_i_astore_n (x0 : Fin 4) (b : Instr) : Bool := match b with
  | .astore_n y0 => Nat.beq x0.val y0.val
  | _ => false
theorem ew_o_astore_n (x0 : Fin 4) {b : Instr} (h : ew_i_astore_n x0 b = true) : Instr.astore_n x0 = b := by
  unfold ew_i_astore_n at h
  split at h
  · have h0 := h
    rw [show x0 = _ from Fin.ext (Nat.eq_of_beq_eq_true h0)]
  · cases h
noncomputable def ew_i_baload (b : Instr) : Bool := match b with
  | .baload  => true
  | _ => false
theorem ew_o_baload {b : Instr} (h : ew_i_baload  b = true) : Instr.baload  = b := by
  unfold ew_i_baload at h
  split at h
  · rfl
  · cases h
noncomputable def ew_i_bastore (b : Instr) : Bool := match b with
  | .bastore  => true
  | _ => false
theorem ew_o_bastore {b : Instr} (h : ew_i_bastore  b = true) : Instr.bastore  = b := by
  unfold ew_i_bastore at h
  split at h
  · rfl
  · cases h
noncomputable def ew_i_bipush (x0 : Int) (b : Instr) : Bool := match b with
  | .bipush y0 => ew_iz x0 y0
  | _ => false
theorem ew_o_bipush (x0 : Int) {b : Instr} (h : ew_i_bipush x0 b = true) : Instr.bipush x0 = b := by
  unfold ew_i_bipush at h
  split at h
  · have h0 := h
    rw [show x0 = _ from ew_iz_ok h0]
  · cases h
noncomputable def ew_i_dup (b : Instr) : Bool := match b with
  | .dup  => true
  | _ => false
theorem ew_o_dup {b : Instr} (h : ew_i_dup  b = true) : Instr.dup  = b := by
  unfold ew_i_dup at h
  split at h
  · rfl
  · cases h
noncomputable def ew_i_dup2 (b : Instr) : Bool := match b with
  | .dup2  => true
  | _ => false
theorem ew_o_dup2 {b : Instr} (h : ew_i_dup2  b = true) : Instr.dup2  = b := by
  unfold ew_i_dup2 at h
  split at h
  · rfl
  · cases h
noncomputable def ew_i_getfield (x0 : Nat) (b : Instr) : Bool := match b with
  | .getfield y0 => Nat.beq x0 y0
  | _ => false
theorem ew_o_getfield (x0 : Nat) {b : Instr} (h : ew_i_getfield x0 b = true) : Instr.getfield x0 = b := by
  unfold ew_i_getfield at h
  split at h
  · have h0 := h
    rw [show x0 = _ from Nat.eq_of_beq_eq_true h0]
  · cases h
noncomputable def ew_i_getstatic (x0 : Nat) (b : Instr) : Bool := match b with
  | .getstatic y0 => Nat.beq x0 y0
  | _ => false
theorem ew_o_getstatic (x0 : Nat) {b : Instr} (h : ew_i_getstatic x0 b = true) : Instr.getstatic x0 = b := by
  unfold ew_i_getstatic at h
  split at h
  · have h0 := h
    rw [show x0 = _ from Nat.eq_of_beq_eq_true h0]
  · cases h
noncomputable def ew_i_goto (x0 : Int) (b : Instr) : Bool := match b with
  | .goto y0 => ew_iz x0 y0
  | _ => false
theorem ew_o_goto (x0 : Int) {b : Instr} (h : ew_i_goto x0 b = true) : Instr.goto x0 = b := by
  unfold ew_i_goto at h
  split at h
  · have h0 := h
    rw [show x0 = _ from ew_iz_ok h0]
  · cases h
noncomputable def ew_i_i2c (b : Instr) : Bool := match b with
  | .i2c  => true
  | _ => false
theorem ew_o_i2c {b : Instr} (h : ew_i_i2c  b = true) : Instr.i2c  = b := by
  unfold ew_i_i2c at h
  split at h
  · rfl
  · cases h
noncomputable def ew_i_i2l (b : Instr) : Bool := match b with
  | .i2l  => true
  | _ => false
theorem ew_o_i2l {b : Instr} (h : ew_i_i2l  b = true) : Instr.i2l  = b := by
  unfold ew_i_i2l at h
  split at h
  · rfl
  · cases h
noncomputable def ew_i_iadd (b : Instr) : Bool := match b with
  | .iadd  => true
  | _ => false
theorem ew_o_iadd {b : Instr} (h : ew_i_iadd  b = true) : Instr.iadd  = b := by
  unfold ew_i_iadd at h
  split at h
  · rfl
  · cases h
noncomputable def ew_i_iaload (b : Instr) : Bool := match b with
  | .iaload  => true
  | _ => false
theorem ew_o_iaload {b : Instr} (h : ew_i_iaload  b = true) : Instr.iaload  = b := by
  unfold ew_i_iaload at h
  split at h
  · rfl
  · cases h
noncomputable def ew_i_iand (b : Instr) : Bool := match b with
  | .iand  => true
  | _ => false
theorem ew_o_iand {b : Instr} (h : ew_i_iand  b = true) : Instr.iand  = b := by
  unfold ew_i_iand at h
  split at h
  · rfl
  · cases h
noncomputable def ew_i_iastore (b : Instr) : Bool := match b with
  | .iastore  => true
  | _ => false
theorem ew_o_iastore {b : Instr} (h : ew_i_iastore  b = true) : Instr.iastore  = b := by
  unfold ew_i_iastore at h
  split at h
  · rfl
  · cases h
noncomputable def ew_i_iconst (x0 : Int) (b : Instr) : Bool := match b with
  | .iconst y0 => ew_iz x0 y0
  | _ => false
theorem ew_o_iconst (x0 : Int) {b : Instr} (h : ew_i_iconst x0 b = true) : Instr.iconst x0 = b := by
  unfold ew_i_iconst at h
  split at h
  · have h0 := h
    rw [show x0 = _ from ew_iz_ok h0]
  · cases h
noncomputable def ew_i_idiv (b : Instr) : Bool := match b with
  | .idiv  => true
  | _ => false
theorem ew_o_idiv {b : Instr} (h : ew_i_idiv  b = true) : Instr.idiv  = b := by
  unfold ew_i_idiv at h
  split at h
  · rfl
  · cases h
noncomputable def ew_i_if_icmp (x0 : ClassFile.Cond) (x1 : Int) (b : Instr) : Bool := match b with
  | .if_icmp y0 y1 => decide (x0 = y0) && ew_iz x1 y1
  | _ => false
theorem ew_o_if_icmp (x0 : ClassFile.Cond) (x1 : Int) {b : Instr} (h : ew_i_if_icmp x0 x1 b = true) : Instr.if_icmp x0 x1 = b := by
  unfold ew_i_if_icmp at h
  split at h
  · rw [Bool.and_eq_true] at h
    obtain ⟨h0, h1⟩ := h
    rw [show x0 = _ from of_decide_eq_true h0, show x1 = _ from ew_iz_ok h1]
  · cases h
noncomputable def ew_i_ifCond (x0 : ClassFile.Cond) (x1 : Int) (b : Instr) : Bool := match b with
  | .ifCond y0 y1 => decide (x0 = y0) && ew_iz x1 y1
  | _ => false
theorem ew_o_ifCond (x0 : ClassFile.Cond) (x1 : Int) {b : Instr} (h : ew_i_ifCond x0 x1 b = true) : Instr.ifCond x0 x1 = b := by
  unfold ew_i_ifCond at h
  split at h
  · rw [Bool.and_eq_true] at h
    obtain ⟨h0, h1⟩ := h
    rw [show x0 = _ from of_decide_eq_true h0, show x1 = _ from ew_iz_ok h1]
  · cases h
noncomputable def ew_i_ifnonnull (x0 : Int) (b : Instr) : Bool := match b with
  | .ifnonnull y0 => ew_iz x0 y0
  | _ => false
theorem ew_o_ifnonnull (x0 : Int) {b : Instr} (h : ew_i_ifnonnull x0 b = true) : Instr.ifnonnull x0 = b := by
  unfold ew_i_ifnonnull at h
  split at h
  · have h0 := h
    rw [show x0 = _ from ew_iz_ok h0]
  · cases h
noncomputable def ew_i_ifnull (x0 : Int) (b : Instr) : Bool := match b with
  | .ifnull y0 => ew_iz x0 y0
  | _ => false
theorem ew_o_ifnull (x0 : Int) {b : Instr} (h : ew_i_ifnull x0 b = true) : Instr.ifnull x0 = b := by
  unfold ew_i_ifnull at h
  split at h
  · have h0 := h
    rw [show x0 = _ from ew_iz_ok h0]
  · cases h
noncomputable def ew_i_iinc (x0 : Nat) (x1 : Int) (b : Instr) : Bool := match b with
  | .iinc y0 y1 => Nat.beq x0 y0 && ew_iz x1 y1
  | _ => false
theorem ew_o_iinc (x0 : Nat) (x1 : Int) {b : Instr} (h : ew_i_iinc x0 x1 b = true) : Instr.iinc x0 x1 = b := by
  unfold ew_i_iinc at h
  split at h
  · rw [Bool.and_eq_true] at h
    obtain ⟨h0, h1⟩ := h
    rw [show x0 = _ from Nat.eq_of_beq_eq_true h0, show x1 = _ from ew_iz_ok h1]
  · cases h
noncomputable def ew_i_iload (x0 : Nat) (b : Instr) : Bool := match b with
  | .iload y0 => Nat.beq x0 y0
  | _ => false
theorem ew_o_iload (x0 : Nat) {b : Instr} (h : ew_i_iload x0 b = true) : Instr.iload x0 = b := by
  unfold ew_i_iload at h
  split at h
  · have h0 := h
    rw [show x0 = _ from Nat.eq_of_beq_eq_true h0]
  · cases h
noncomputable def ew_i_iload_n (x0 : Fin 4) (b : Instr) : Bool := match b with
  | .iload_n y0 => Nat.beq x0.val y0.val
  | _ => false
theorem ew_o_iload_n (x0 : Fin 4) {b : Instr} (h : ew_i_iload_n x0 b = true) : Instr.iload_n x0 = b := by
  unfold ew_i_iload_n at h
  split at h
  · have h0 := h
    rw [show x0 = _ from Fin.ext (Nat.eq_of_beq_eq_true h0)]
  · cases h
noncomputable def ew_i_imul (b : Instr) : Bool := match b with
  | .imul  => true
  | _ => false
theorem ew_o_imul {b : Instr} (h : ew_i_imul  b = true) : Instr.imul  = b := by
  unfold ew_i_imul at h
  split at h
  · rfl
  · cases h
noncomputable def ew_i_ineg (b : Instr) : Bool := match b with
  | .ineg  => true
  | _ => false
theorem ew_o_ineg {b : Instr} (h : ew_i_ineg  b = true) : Instr.ineg  = b := by
  unfold ew_i_ineg at h
  split at h
  · rfl
  · cases h
noncomputable def ew_i_invokespecial (x0 : Nat) (b : Instr) : Bool := match b with
  | .invokespecial y0 => Nat.beq x0 y0
  | _ => false
theorem ew_o_invokespecial (x0 : Nat) {b : Instr} (h : ew_i_invokespecial x0 b = true) : Instr.invokespecial x0 = b := by
  unfold ew_i_invokespecial at h
  split at h
  · have h0 := h
    rw [show x0 = _ from Nat.eq_of_beq_eq_true h0]
  · cases h
noncomputable def ew_i_invokestatic (x0 : Nat) (b : Instr) : Bool := match b with
  | .invokestatic y0 => Nat.beq x0 y0
  | _ => false
theorem ew_o_invokestatic (x0 : Nat) {b : Instr} (h : ew_i_invokestatic x0 b = true) : Instr.invokestatic x0 = b := by
  unfold ew_i_invokestatic at h
  split at h
  · have h0 := h
    rw [show x0 = _ from Nat.eq_of_beq_eq_true h0]
  · cases h
noncomputable def ew_i_invokevirtual (x0 : Nat) (b : Instr) : Bool := match b with
  | .invokevirtual y0 => Nat.beq x0 y0
  | _ => false
theorem ew_o_invokevirtual (x0 : Nat) {b : Instr} (h : ew_i_invokevirtual x0 b = true) : Instr.invokevirtual x0 = b := by
  unfold ew_i_invokevirtual at h
  split at h
  · have h0 := h
    rw [show x0 = _ from Nat.eq_of_beq_eq_true h0]
  · cases h
noncomputable def ew_i_ior (b : Instr) : Bool := match b with
  | .ior  => true
  | _ => false
theorem ew_o_ior {b : Instr} (h : ew_i_ior  b = true) : Instr.ior  = b := by
  unfold ew_i_ior at h
  split at h
  · rfl
  · cases h
noncomputable def ew_i_irem (b : Instr) : Bool := match b with
  | .irem  => true
  | _ => false
theorem ew_o_irem {b : Instr} (h : ew_i_irem  b = true) : Instr.irem  = b := by
  unfold ew_i_irem at h
  split at h
  · rfl
  · cases h
noncomputable def ew_i_ireturn (b : Instr) : Bool := match b with
  | .ireturn  => true
  | _ => false
theorem ew_o_ireturn {b : Instr} (h : ew_i_ireturn  b = true) : Instr.ireturn  = b := by
  unfold ew_i_ireturn at h
  split at h
  · rfl
  · cases h
noncomputable def ew_i_ishl (b : Instr) : Bool := match b with
  | .ishl  => true
  | _ => false
theorem ew_o_ishl {b : Instr} (h : ew_i_ishl  b = true) : Instr.ishl  = b := by
  unfold ew_i_ishl at h
  split at h
  · rfl
  · cases h
noncomputable def ew_i_ishr (b : Instr) : Bool := match b with
  | .ishr  => true
  | _ => false
theorem ew_o_ishr {b : Instr} (h : ew_i_ishr  b = true) : Instr.ishr  = b := by
  unfold ew_i_ishr at h
  split at h
  · rfl
  · cases h
noncomputable def ew_i_istore (x0 : Nat) (b : Instr) : Bool := match b with
  | .istore y0 => Nat.beq x0 y0
  | _ => false
theorem ew_o_istore (x0 : Nat) {b : Instr} (h : ew_i_istore x0 b = true) : Instr.istore x0 = b := by
  unfold ew_i_istore at h
  split at h
  · have h0 := h
    rw [show x0 = _ from Nat.eq_of_beq_eq_true h0]
  · cases h
noncomputable def ew_i_istore_n (x0 : Fin 4) (b : Instr) : Bool := match b with
  | .istore_n y0 => Nat.beq x0.val y0.val
  | _ => false
theorem ew_o_istore_n (x0 : Fin 4) {b : Instr} (h : ew_i_istore_n x0 b = true) : Instr.istore_n x0 = b := by
  unfold ew_i_istore_n at h
  split at h
  · have h0 := h
    rw [show x0 = _ from Fin.ext (Nat.eq_of_beq_eq_true h0)]
  · cases h
noncomputable def ew_i_isub (b : Instr) : Bool := match b with
  | .isub  => true
  | _ => false
theorem ew_o_isub {b : Instr} (h : ew_i_isub  b = true) : Instr.isub  = b := by
  unfold ew_i_isub at h
  split at h
  · rfl
  · cases h
noncomputable def ew_i_iushr (b : Instr) : Bool := match b with
  | .iushr  => true
  | _ => false
theorem ew_o_iushr {b : Instr} (h : ew_i_iushr  b = true) : Instr.iushr  = b := by
  unfold ew_i_iushr at h
  split at h
  · rfl
  · cases h
noncomputable def ew_i_ixor (b : Instr) : Bool := match b with
  | .ixor  => true
  | _ => false
theorem ew_o_ixor {b : Instr} (h : ew_i_ixor  b = true) : Instr.ixor  = b := by
  unfold ew_i_ixor at h
  split at h
  · rfl
  · cases h
noncomputable def ew_i_l2i (b : Instr) : Bool := match b with
  | .l2i  => true
  | _ => false
theorem ew_o_l2i {b : Instr} (h : ew_i_l2i  b = true) : Instr.l2i  = b := by
  unfold ew_i_l2i at h
  split at h
  · rfl
  · cases h
noncomputable def ew_i_ladd (b : Instr) : Bool := match b with
  | .ladd  => true
  | _ => false
theorem ew_o_ladd {b : Instr} (h : ew_i_ladd  b = true) : Instr.ladd  = b := by
  unfold ew_i_ladd at h
  split at h
  · rfl
  · cases h
noncomputable def ew_i_laload (b : Instr) : Bool := match b with
  | .laload  => true
  | _ => false
theorem ew_o_laload {b : Instr} (h : ew_i_laload  b = true) : Instr.laload  = b := by
  unfold ew_i_laload at h
  split at h
  · rfl
  · cases h
noncomputable def ew_i_land (b : Instr) : Bool := match b with
  | .land  => true
  | _ => false
theorem ew_o_land {b : Instr} (h : ew_i_land  b = true) : Instr.land  = b := by
  unfold ew_i_land at h
  split at h
  · rfl
  · cases h
noncomputable def ew_i_lastore (b : Instr) : Bool := match b with
  | .lastore  => true
  | _ => false
theorem ew_o_lastore {b : Instr} (h : ew_i_lastore  b = true) : Instr.lastore  = b := by
  unfold ew_i_lastore at h
  split at h
  · rfl
  · cases h
noncomputable def ew_i_lcmp (b : Instr) : Bool := match b with
  | .lcmp  => true
  | _ => false
theorem ew_o_lcmp {b : Instr} (h : ew_i_lcmp  b = true) : Instr.lcmp  = b := by
  unfold ew_i_lcmp at h
  split at h
  · rfl
  · cases h
noncomputable def ew_i_lconst (x0 : Fin 2) (b : Instr) : Bool := match b with
  | .lconst y0 => Nat.beq x0.val y0.val
  | _ => false
theorem ew_o_lconst (x0 : Fin 2) {b : Instr} (h : ew_i_lconst x0 b = true) : Instr.lconst x0 = b := by
  unfold ew_i_lconst at h
  split at h
  · have h0 := h
    rw [show x0 = _ from Fin.ext (Nat.eq_of_beq_eq_true h0)]
  · cases h
noncomputable def ew_i_ldc (x0 : Nat) (b : Instr) : Bool := match b with
  | .ldc y0 => Nat.beq x0 y0
  | _ => false
theorem ew_o_ldc (x0 : Nat) {b : Instr} (h : ew_i_ldc x0 b = true) : Instr.ldc x0 = b := by
  unfold ew_i_ldc at h
  split at h
  · have h0 := h
    rw [show x0 = _ from Nat.eq_of_beq_eq_true h0]
  · cases h
noncomputable def ew_i_ldc_w (x0 : Nat) (b : Instr) : Bool := match b with
  | .ldc_w y0 => Nat.beq x0 y0
  | _ => false
theorem ew_o_ldc_w (x0 : Nat) {b : Instr} (h : ew_i_ldc_w x0 b = true) : Instr.ldc_w x0 = b := by
  unfold ew_i_ldc_w at h
  split at h
  · have h0 := h
    rw [show x0 = _ from Nat.eq_of_beq_eq_true h0]
  · cases h
noncomputable def ew_i_ldc2_w (x0 : Nat) (b : Instr) : Bool := match b with
  | .ldc2_w y0 => Nat.beq x0 y0
  | _ => false
theorem ew_o_ldc2_w (x0 : Nat) {b : Instr} (h : ew_i_ldc2_w x0 b = true) : Instr.ldc2_w x0 = b := by
  unfold ew_i_ldc2_w at h
  split at h
  · have h0 := h
    rw [show x0 = _ from Nat.eq_of_beq_eq_true h0]
  · cases h
noncomputable def ew_i_ldiv (b : Instr) : Bool := match b with
  | .ldiv  => true
  | _ => false
theorem ew_o_ldiv {b : Instr} (h : ew_i_ldiv  b = true) : Instr.ldiv  = b := by
  unfold ew_i_ldiv at h
  split at h
  · rfl
  · cases h
noncomputable def ew_i_lload (x0 : Nat) (b : Instr) : Bool := match b with
  | .lload y0 => Nat.beq x0 y0
  | _ => false
theorem ew_o_lload (x0 : Nat) {b : Instr} (h : ew_i_lload x0 b = true) : Instr.lload x0 = b := by
  unfold ew_i_lload at h
  split at h
  · have h0 := h
    rw [show x0 = _ from Nat.eq_of_beq_eq_true h0]
  · cases h
noncomputable def ew_i_lload_n (x0 : Fin 4) (b : Instr) : Bool := match b with
  | .lload_n y0 => Nat.beq x0.val y0.val
  | _ => false
theorem ew_o_lload_n (x0 : Fin 4) {b : Instr} (h : ew_i_lload_n x0 b = true) : Instr.lload_n x0 = b := by
  unfold ew_i_lload_n at h
  split at h
  · have h0 := h
    rw [show x0 = _ from Fin.ext (Nat.eq_of_beq_eq_true h0)]
  · cases h
noncomputable def ew_i_lmul (b : Instr) : Bool := match b with
  | .lmul  => true
  | _ => false
theorem ew_o_lmul {b : Instr} (h : ew_i_lmul  b = true) : Instr.lmul  = b := by
  unfold ew_i_lmul at h
  split at h
  · rfl
  · cases h
noncomputable def ew_i_lor (b : Instr) : Bool := match b with
  | .lor  => true
  | _ => false
theorem ew_o_lor {b : Instr} (h : ew_i_lor  b = true) : Instr.lor  = b := by
  unfold ew_i_lor at h
  split at h
  · rfl
  · cases h
noncomputable def ew_i_lreturn (b : Instr) : Bool := match b with
  | .lreturn  => true
  | _ => false
theorem ew_o_lreturn {b : Instr} (h : ew_i_lreturn  b = true) : Instr.lreturn  = b := by
  unfold ew_i_lreturn at h
  split at h
  · rfl
  · cases h
noncomputable def ew_i_lshl (b : Instr) : Bool := match b with
  | .lshl  => true
  | _ => false
theorem ew_o_lshl {b : Instr} (h : ew_i_lshl  b = true) : Instr.lshl  = b := by
  unfold ew_i_lshl at h
  split at h
  · rfl
  · cases h
noncomputable def ew_i_lshr (b : Instr) : Bool := match b with
  | .lshr  => true
  | _ => false
theorem ew_o_lshr {b : Instr} (h : ew_i_lshr  b = true) : Instr.lshr  = b := by
  unfold ew_i_lshr at h
  split at h
  · rfl
  · cases h
noncomputable def ew_i_lstore (x0 : Nat) (b : Instr) : Bool := match b with
  | .lstore y0 => Nat.beq x0 y0
  | _ => false
theorem ew_o_lstore (x0 : Nat) {b : Instr} (h : ew_i_lstore x0 b = true) : Instr.lstore x0 = b := by
  unfold ew_i_lstore at h
  split at h
  · have h0 := h
    rw [show x0 = _ from Nat.eq_of_beq_eq_true h0]
  · cases h
noncomputable def ew_i_lstore_n (x0 : Fin 4) (b : Instr) : Bool := match b with
  | .lstore_n y0 => Nat.beq x0.val y0.val
  | _ => false
theorem ew_o_lstore_n (x0 : Fin 4) {b : Instr} (h : ew_i_lstore_n x0 b = true) : Instr.lstore_n x0 = b := by
  unfold ew_i_lstore_n at h
  split at h
  · have h0 := h
    rw [show x0 = _ from Fin.ext (Nat.eq_of_beq_eq_true h0)]
  · cases h
noncomputable def ew_i_lsub (b : Instr) : Bool := match b with
  | .lsub  => true
  | _ => false
theorem ew_o_lsub {b : Instr} (h : ew_i_lsub  b = true) : Instr.lsub  = b := by
  unfold ew_i_lsub at h
  split at h
  · rfl
  · cases h
noncomputable def ew_i_lushr (b : Instr) : Bool := match b with
  | .lushr  => true
  | _ => false
theorem ew_o_lushr {b : Instr} (h : ew_i_lushr  b = true) : Instr.lushr  = b := by
  unfold ew_i_lushr at h
  split at h
  · rfl
  · cases h
noncomputable def ew_i_new (x0 : Nat) (b : Instr) : Bool := match b with
  | .new y0 => Nat.beq x0 y0
  | _ => false
theorem ew_o_new (x0 : Nat) {b : Instr} (h : ew_i_new x0 b = true) : Instr.new x0 = b := by
  unfold ew_i_new at h
  split at h
  · have h0 := h
    rw [show x0 = _ from Nat.eq_of_beq_eq_true h0]
  · cases h
noncomputable def ew_i_newarray (x0 : ClassFile.ArrayType) (b : Instr) : Bool := match b with
  | .newarray y0 => decide (x0 = y0)
  | _ => false
theorem ew_o_newarray (x0 : ClassFile.ArrayType) {b : Instr} (h : ew_i_newarray x0 b = true) : Instr.newarray x0 = b := by
  unfold ew_i_newarray at h
  split at h
  · have h0 := h
    rw [show x0 = _ from of_decide_eq_true h0]
  · cases h
noncomputable def ew_i_pop (b : Instr) : Bool := match b with
  | .pop  => true
  | _ => false
theorem ew_o_pop {b : Instr} (h : ew_i_pop  b = true) : Instr.pop  = b := by
  unfold ew_i_pop at h
  split at h
  · rfl
  · cases h
noncomputable def ew_i_putfield (x0 : Nat) (b : Instr) : Bool := match b with
  | .putfield y0 => Nat.beq x0 y0
  | _ => false
theorem ew_o_putfield (x0 : Nat) {b : Instr} (h : ew_i_putfield x0 b = true) : Instr.putfield x0 = b := by
  unfold ew_i_putfield at h
  split at h
  · have h0 := h
    rw [show x0 = _ from Nat.eq_of_beq_eq_true h0]
  · cases h
noncomputable def ew_i_return_ (b : Instr) : Bool := match b with
  | .return_  => true
  | _ => false
theorem ew_o_return_ {b : Instr} (h : ew_i_return_  b = true) : Instr.return_  = b := by
  unfold ew_i_return_ at h
  split at h
  · rfl
  · cases h
noncomputable def ew_i_sipush (x0 : Int) (b : Instr) : Bool := match b with
  | .sipush y0 => ew_iz x0 y0
  | _ => false
theorem ew_o_sipush (x0 : Int) {b : Instr} (h : ew_i_sipush x0 b = true) : Instr.sipush x0 = b := by
  unfold ew_i_sipush at h
  split at h
  · have h0 := h
    rw [show x0 = _ from ew_iz_ok h0]
  · cases h
noncomputable def ew_ieq (a b : Instr) : Bool := match a with
  | .aaload  => ew_i_aaload  b
  | .aastore  => ew_i_aastore  b
  | .aconst_null  => ew_i_aconst_null  b
  | .aload x0 => ew_i_aload x0 b
  | .aload_n x0 => ew_i_aload_n x0 b
  | .anewarray x0 => ew_i_anewarray x0 b
  | .areturn  => ew_i_areturn  b
  | .arraylength  => ew_i_arraylength  b
  | .astore x0 => ew_i_astore x0 b
  | .astore_n x0 => ew_i_astore_n x0 b
  | .baload  => ew_i_baload  b
  | .bastore  => ew_i_bastore  b
  | .bipush x0 => ew_i_bipush x0 b
  | .dup  => ew_i_dup  b
  | .dup2  => ew_i_dup2  b
  | .getfield x0 => ew_i_getfield x0 b
  | .getstatic x0 => ew_i_getstatic x0 b
  | .goto x0 => ew_i_goto x0 b
  | .i2c  => ew_i_i2c  b
  | .i2l  => ew_i_i2l  b
  | .iadd  => ew_i_iadd  b
  | .iaload  => ew_i_iaload  b
  | .iand  => ew_i_iand  b
  | .iastore  => ew_i_iastore  b
  | .iconst x0 => ew_i_iconst x0 b
  | .idiv  => ew_i_idiv  b
  | .if_icmp x0 x1 => ew_i_if_icmp x0 x1 b
  | .ifCond x0 x1 => ew_i_ifCond x0 x1 b
  | .ifnonnull x0 => ew_i_ifnonnull x0 b
  | .ifnull x0 => ew_i_ifnull x0 b
  | .iinc x0 x1 => ew_i_iinc x0 x1 b
  | .iload x0 => ew_i_iload x0 b
  | .iload_n x0 => ew_i_iload_n x0 b
  | .imul  => ew_i_imul  b
  | .ineg  => ew_i_ineg  b
  | .invokespecial x0 => ew_i_invokespecial x0 b
  | .invokestatic x0 => ew_i_invokestatic x0 b
  | .invokevirtual x0 => ew_i_invokevirtual x0 b
  | .ior  => ew_i_ior  b
  | .irem  => ew_i_irem  b
  | .ireturn  => ew_i_ireturn  b
  | .ishl  => ew_i_ishl  b
  | .ishr  => ew_i_ishr  b
  | .istore x0 => ew_i_istore x0 b
  | .istore_n x0 => ew_i_istore_n x0 b
  | .isub  => ew_i_isub  b
  | .iushr  => ew_i_iushr  b
  | .ixor  => ew_i_ixor  b
  | .l2i  => ew_i_l2i  b
  | .ladd  => ew_i_ladd  b
  | .laload  => ew_i_laload  b
  | .land  => ew_i_land  b
  | .lastore  => ew_i_lastore  b
  | .lcmp  => ew_i_lcmp  b
  | .lconst x0 => ew_i_lconst x0 b
  | .ldc x0 => ew_i_ldc x0 b
  | .ldc_w x0 => ew_i_ldc_w x0 b
  | .ldc2_w x0 => ew_i_ldc2_w x0 b
  | .ldiv  => ew_i_ldiv  b
  | .lload x0 => ew_i_lload x0 b
  | .lload_n x0 => ew_i_lload_n x0 b
  | .lmul  => ew_i_lmul  b
  | .lor  => ew_i_lor  b
  | .lreturn  => ew_i_lreturn  b
  | .lshl  => ew_i_lshl  b
  | .lshr  => ew_i_lshr  b
  | .lstore x0 => ew_i_lstore x0 b
  | .lstore_n x0 => ew_i_lstore_n x0 b
  | .lsub  => ew_i_lsub  b
  | .lushr  => ew_i_lushr  b
  | .new x0 => ew_i_new x0 b
  | .newarray x0 => ew_i_newarray x0 b
  | .pop  => ew_i_pop  b
  | .putfield x0 => ew_i_putfield x0 b
  | .return_  => ew_i_return_  b
  | .sipush x0 => ew_i_sipush x0 b
  | _ => decide (a = b)
theorem ew_ieq_ok {a b : Instr} (h : ew_ieq a b = true) : a = b := by
  cases a
  case aaload => exact ew_o_aaload h
  case aastore => exact ew_o_aastore h
  case aconst_null => exact ew_o_aconst_null h
  case aload x0 => exact ew_o_aload x0 h
  case aload_n x0 => exact ew_o_aload_n x0 h
  case anewarray x0 => exact ew_o_anewarray x0 h
  case areturn => exact ew_o_areturn h
  case arraylength => exact ew_o_arraylength h
  case astore x0 => exact ew_o_astore x0 h
  case astore_n x0 => exact ew_o_astore_n x0 h
  case baload => exact ew_o_baload h
  case bastore => exact ew_o_bastore h
  case bipush x0 => exact ew_o_bipush x0 h
  case dup => exact ew_o_dup h
  case dup2 => exact ew_o_dup2 h
  case getfield x0 => exact ew_o_getfield x0 h
  case getstatic x0 => exact ew_o_getstatic x0 h
  case goto x0 => exact ew_o_goto x0 h
  case i2c => exact ew_o_i2c h
  case i2l => exact ew_o_i2l h
  case iadd => exact ew_o_iadd h
  case iaload => exact ew_o_iaload h
  case iand => exact ew_o_iand h
  case iastore => exact ew_o_iastore h
  case iconst x0 => exact ew_o_iconst x0 h
  case idiv => exact ew_o_idiv h
  case if_icmp x0 x1 => exact ew_o_if_icmp x0 x1 h
  case ifCond x0 x1 => exact ew_o_ifCond x0 x1 h
  case ifnonnull x0 => exact ew_o_ifnonnull x0 h
  case ifnull x0 => exact ew_o_ifnull x0 h
  case iinc x0 x1 => exact ew_o_iinc x0 x1 h
  case iload x0 => exact ew_o_iload x0 h
  case iload_n x0 => exact ew_o_iload_n x0 h
  case imul => exact ew_o_imul h
  case ineg => exact ew_o_ineg h
  case invokespecial x0 => exact ew_o_invokespecial x0 h
  case invokestatic x0 => exact ew_o_invokestatic x0 h
  case invokevirtual x0 => exact ew_o_invokevirtual x0 h
  case ior => exact ew_o_ior h
  case irem => exact ew_o_irem h
  case ireturn => exact ew_o_ireturn h
  case ishl => exact ew_o_ishl h
  case ishr => exact ew_o_ishr h
  case istore x0 => exact ew_o_istore x0 h
  case istore_n x0 => exact ew_o_istore_n x0 h
  case isub => exact ew_o_isub h
  case iushr => exact ew_o_iushr h
  case ixor => exact ew_o_ixor h
  case l2i => exact ew_o_l2i h
  case ladd => exact ew_o_ladd h
  case laload => exact ew_o_laload h
  case land => exact ew_o_land h
  case lastore => exact ew_o_lastore h
  case lcmp => exact ew_o_lcmp h
  case lconst x0 => exact ew_o_lconst x0 h
  case ldc x0 => exact ew_o_ldc x0 h
  case ldc_w x0 => exact ew_o_ldc_w x0 h
  case ldc2_w x0 => exact ew_o_ldc2_w x0 h
  case ldiv => exact ew_o_ldiv h
  case lload x0 => exact ew_o_lload x0 h
  case lload_n x0 => exact ew_o_lload_n x0 h
  case lmul => exact ew_o_lmul h
  case lor => exact ew_o_lor h
  case lreturn => exact ew_o_lreturn h
  case lshl => exact ew_o_lshl h
  case lshr => exact ew_o_lshr h
  case lstore x0 => exact ew_o_lstore x0 h
  case lstore_n x0 => exact ew_o_lstore_n x0 h
  case lsub => exact ew_o_lsub h
  case lushr => exact ew_o_lushr h
  case new x0 => exact ew_o_new x0 h
  case newarray x0 => exact ew_o_newarray x0 h
  case pop => exact ew_o_pop h
  case putfield x0 => exact ew_o_putfield x0 h
  case return_ => exact ew_o_return_ h
  case sipush x0 => exact ew_o_sipush x0 h
  all_goals exact of_decide_eq_true h
noncomputable def ez_row (code : ByteArray) (b : UInt8) (r : List UInt8) (E : es_I) : Bool := (match ez_dec b.toNat r with
  | some q => ew_ieq q.1 E.2.1 && Nat.beq q.2 E.2.2.1
  | none => decide (decode code E.1 = .ok (E.2.1, E.2.2.1))) && (match E.2.1 with
  | .tableswitch _ _ _ _ => true
  | _ => Nat.beq E.2.2.1 (es_len E.2.1))
noncomputable def ez_wlk (code : ByteArray) : List UInt8 → Nat → List es_I → Bool
  | _, _, [] => true
  | bs, pos, E :: t => match bs.drop (E.1 - pos) with
    | [] => false
    | b :: r => (Nat.ble pos E.1 && ez_row code b r E) && ez_wlk code (b :: r) E.1 t
theorem ez_row_ok {M : es_M} {pre : List UInt8} {b : UInt8} {r : List UInt8} {E : es_I} (H : (es_code M).data.toList = pre ++ b :: r) (hp : pre.length = E.1) (h : ez_row (es_code M) b r E = true) : es_dok M E = true := by
  unfold ez_row at h
  rw [Bool.and_eq_true] at h
  unfold es_dok
  rw [Bool.and_eq_true]
  refine ⟨?_, h.2⟩
  have h1 := h.1
  cases hd : ez_dec b.toNat r with
  | none =>
    rw [hd] at h1
    exact h1
  | some q =>
    rw [hd] at h1
    have h1' : (ew_ieq q.1 E.2.1 && Nat.beq q.2 E.2.2.1) = true := h1
    rw [Bool.and_eq_true] at h1'
    have e : q = (E.2.1, E.2.2.1) := Prod.ext (ew_ieq_ok h1'.1) (Nat.eq_of_beq_eq_true h1'.2)
    have h2 := ez_dec_ok H hd
    rw [hp, e] at h2
    exact decide_eq_true h2
theorem ez_wlk_ok {M : es_M} : ∀ (rows : List es_I) (bs pre : List UInt8), (es_code M).data.toList = pre ++ bs → ez_wlk (es_code M) bs pre.length rows = true → ∀ E ∈ rows, es_dok M E = true
  | [], _, _, _, _, E, hE => by cases hE
  | F :: t, bs, pre, H, h, E, hE => by
    unfold ez_wlk at h
    cases hd : bs.drop (F.1 - pre.length) with
    | nil => rw [hd] at h; cases h
    | cons b r =>
      rw [hd] at h
      dsimp only at h
      rw [Bool.and_eq_true, Bool.and_eq_true, Nat.ble_eq] at h
      obtain ⟨⟨h1, h2⟩, h3⟩ := h
      have hl : F.1 - pre.length < bs.length := by
        have h4 := congrArg List.length hd
        rw [List.length_drop, List.length_cons] at h4
        omega
      have H2 : (es_code M).data.toList = (pre ++ bs.take (F.1 - pre.length)) ++ b :: r := by
        rw [H, List.append_assoc, ← hd, List.take_append_drop]
      have hp : (pre ++ bs.take (F.1 - pre.length)).length = F.1 := by
        rw [List.length_append, List.length_take]
        omega
      rcases List.mem_cons.mp hE with rfl | hE
      · exact ez_row_ok H2 hp h2
      · exact ez_wlk_ok t (b :: r) _ H2 (by rw [hp]; exact h3) E hE
noncomputable def ez_dk (T : es_M) : Bool := ez_wlk (es_code T) (es_code T).data.toList 0 ((es_tab T).flatMap (fun q => q.2))
theorem ez_dk_ok {T : es_M} (h : ez_dk T = true) : ∀ q ∈ es_tab T, ∀ E ∈ q.2, es_dok T E = true := fun q hq E hE =>
  ez_wlk_ok (M := T) _ _ [] rfl h E (List.mem_flatMap.mpr ⟨q, hq, hE⟩)
