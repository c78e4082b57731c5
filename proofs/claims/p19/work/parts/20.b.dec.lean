noncomputable def ez_at (code : ByteArray) (p b : Nat) : Prop := ∃ h : p < code.size, (code[p]'h).toNat = b
theorem ez_u1 {code : ByteArray} {p b : Nat} (h : ez_at code p b) : (ClassFile.Reader.u1 : ClassFile.Decoder Nat).runAt code p = .ok (b, p + 1) := by
  obtain ⟨h1, rfl⟩ := h
  show (dite (p < code.size) (fun h => (_ : ClassFile.Decoder Nat)) (fun h => (_ : ClassFile.Decoder Nat)) : ClassFile.Decoder Nat) code p = _
  rw [dif_pos h1]
  rfl
theorem ez_bind {α β : Type} {r : ClassFile.Decoder α} {f : α → ClassFile.Decoder β} {code : ByteArray} {p p' : Nat} {a : α} (h : r.runAt code p = .ok (a, p')) : (r >>= f).runAt code p = (f a).runAt code p' := by
  show (r code p >>= fun q => f q.1 code q.2) = f a code p'
  have h2 : r code p = .ok (a, p') := h
  rw [h2]
  rfl
noncomputable def ez_Ks : {K : Nat → Nat → ClassFile.Decoder Instr // ∀ pc, ClassFile.Decoder.instr pc = ClassFile.Reader.u1 >>= K pc} := ⟨_, fun _ => rfl⟩
noncomputable def ez_K (pc b : Nat) : ClassFile.Decoder Instr := ez_Ks.1 pc b
theorem ez_go {code : ByteArray} {pc b n : Nat} {ins : Instr} (h : ez_at code pc b) (hK : (ez_K pc b).runAt code (pc + 1) = .ok (ins, pc + 1 + n)) : decode code pc = .ok (ins, n + 1) := by
  have h1 : (ClassFile.Decoder.instr pc).runAt code pc = .ok (ins, pc + 1 + n) := by
    rw [ez_Ks.2 pc, ez_bind (ez_u1 h)]
    exact hK
  unfold decode
  rw [h1]
  show Except.ok (ins, pc + 1 + n - pc) = _
  rw [show pc + 1 + n - pc = n + 1 by omega]
theorem ez_s0 {code : ByteArray} {pc b : Nat} {ins : Instr} (h : ez_at code pc b) (hK : ez_K pc b = Pure.pure ins) : decode code pc = .ok (ins, 1) := ez_go (n := 0) h (by rw [hK]; rfl)
theorem ez_su1 {code : ByteArray} {pc b x : Nat} {f : Nat → Instr} (h : ez_at code pc b) (h1 : ez_at code (pc + 1) x) (hK : ez_K pc b = (ClassFile.Reader.u1 >>= fun i => Pure.pure (f i))) : decode code pc = .ok (f x, 2) := ez_go (n := 1) h (by
  rw [hK, ez_bind (ez_u1 h1)]
  rfl)
theorem ez_u2 {code : ByteArray} {p x y : Nat} (h1 : ez_at code p x) (h2 : ez_at code (p + 1) y) : (ClassFile.Reader.u2 : ClassFile.Decoder Nat).runAt code p = .ok (x * 256 + y, p + 2) := by
  unfold ClassFile.Reader.u2
  rw [ez_bind (ez_u1 h1), ez_bind (ez_u1 h2)]
  rfl
theorem ez_su2 {code : ByteArray} {pc b x y : Nat} {f : Nat → Instr} (h : ez_at code pc b) (h1 : ez_at code (pc + 1) x) (h2 : ez_at code (pc + 2) y) (hK : ez_K pc b = (ClassFile.Reader.u2 >>= fun i => Pure.pure (f i))) : decode code pc = .ok (f (x * 256 + y), 3) := ez_go (n := 2) h (by
  rw [hK, ez_bind (ez_u2 h1 h2)]
  rfl)
theorem ez_s1 {code : ByteArray} {p x : Nat} (h1 : ez_at code p x) : (ClassFile.Reader.s1 : ClassFile.Decoder Int).runAt code p = .ok (ClassFile.Reader.signed 8 x, p + 1) := by
  show (ClassFile.Reader.u1 >>= fun i => pure (ClassFile.Reader.signed 8 i) : ClassFile.Decoder Int).runAt code p = _
  rw [ez_bind (ez_u1 h1)]
  rfl
theorem ez_s2 {code : ByteArray} {p x y : Nat} (h1 : ez_at code p x) (h2 : ez_at code (p + 1) y) : (ClassFile.Reader.s2 : ClassFile.Decoder Int).runAt code p = .ok (ClassFile.Reader.signed 16 (x * 256 + y), p + 2) := by
  show (ClassFile.Reader.u2 >>= fun i => pure (ClassFile.Reader.signed 16 i) : ClassFile.Decoder Int).runAt code p = _
  rw [ez_bind (ez_u2 h1 h2)]
  rfl
theorem ez_ss1 {code : ByteArray} {pc b x : Nat} {f : Int → Instr} (h : ez_at code pc b) (h1 : ez_at code (pc + 1) x) (hK : ez_K pc b = (ClassFile.Reader.s1 >>= fun i => Pure.pure (f i))) : decode code pc = .ok (f (ClassFile.Reader.signed 8 x), 2) := ez_go (n := 1) h (by
  rw [hK, ez_bind (ez_s1 h1)]
  rfl)
theorem ez_ss2 {code : ByteArray} {pc b x y : Nat} {f : Int → Instr} (h : ez_at code pc b) (h1 : ez_at code (pc + 1) x) (h2 : ez_at code (pc + 2) y) (hK : ez_K pc b = (ClassFile.Reader.s2 >>= fun i => Pure.pure (f i))) : decode code pc = .ok (f (ClassFile.Reader.signed 16 (x * 256 + y)), 3) := ez_go (n := 2) h (by
  rw [hK, ez_bind (ez_s2 h1 h2)]
  rfl)
theorem ez_inc {code : ByteArray} {pc x y : Nat} (h : ez_at code pc 132) (h1 : ez_at code (pc + 1) x) (h2 : ez_at code (pc + 2) y) : decode code pc = .ok (.iinc x (ClassFile.Reader.signed 8 y), 3) := ez_go (n := 2) h (by
  rw [show ez_K pc 132 = (ClassFile.Reader.u1 >>= fun i => ClassFile.Reader.s1 >>= fun j => Pure.pure (.iinc i j)) from rfl, ez_bind (ez_u1 h1), ez_bind (ez_s1 h2)]
  rfl)
noncomputable def ez_o1 (t : List UInt8) (f : Nat → Instr) : Option (Instr × Nat) := match t with
  | x :: _ => some (f x.toNat, 2)
  | _ => none
noncomputable def ez_o2 (t : List UInt8) (f : Nat → Instr) : Option (Instr × Nat) := match t with
  | x :: y :: _ => some (f (x.toNat * 256 + y.toNat), 3)
  | _ => none
noncomputable def ez_p1 (t : List UInt8) (f : Int → Instr) : Option (Instr × Nat) := match t with
  | x :: _ => some (f (ClassFile.Reader.signed 8 x.toNat), 2)
  | _ => none
noncomputable def ez_p2 (t : List UInt8) (f : Int → Instr) : Option (Instr × Nat) := match t with
  | x :: y :: _ => some (f (ClassFile.Reader.signed 16 (x.toNat * 256 + y.toNat)), 3)
  | _ => none
noncomputable def ez_pi (t : List UInt8) : Option (Instr × Nat) := match t with
  | x :: y :: _ => some (.iinc x.toNat (ClassFile.Reader.signed 8 y.toNat), 3)
  | _ => none
theorem ez_get {code : ByteArray} {p : Nat} {x : UInt8} (h : code.data.toList[p]? = some x) : ez_at code p x.toNat := by
  obtain ⟨h1, h2⟩ := List.getElem?_eq_some_iff.mp h
  refine ⟨h1, ?_⟩
  rw [← h2]
  rfl
theorem ez_ch {α : Type} {c : Bool} {x y : Option α} {q : α} {P : Prop} (h : (bif c then x else y) = some q) (h1 : c = true → x = some q → P) (h2 : y = some q → P) : P := by
  cases c
  · exact h2 h
  · exact h1 rfl h
section Dec
variable {code : ByteArray} {pre : List UInt8} {b0 : UInt8} {t : List UInt8} {q : Instr × Nat}
theorem ez_h0 (H : code.data.toList = pre ++ b0 :: t) {v : Nat} (e : Nat.beq b0.toNat v = true) : ez_at code pre.length v := by
  rw [← es_beq.mp e]
  exact ez_get (by rw [H]; simp)
theorem ez_f0 {v : Nat} {ins : Instr} (H : code.data.toList = pre ++ b0 :: t) (hK : ez_K pre.length v = Pure.pure ins) (e : Nat.beq b0.toNat v = true) (hx : some (ins, 1) = some q) : decode code pre.length = .ok q := by
  rw [← Option.some.inj hx]
  exact ez_s0 (ez_h0 H e) hK
theorem ez_f1 {v : Nat} {f : Nat → Instr} (H : code.data.toList = pre ++ b0 :: t) (hK : ez_K pre.length v = (ClassFile.Reader.u1 >>= fun i => Pure.pure (f i))) (e : Nat.beq b0.toNat v = true) (hx : ez_o1 t f = some q) : decode code pre.length = .ok q := by
  match t, H, hx with
  | [], _, hx => cases hx
  | x :: t', H, hx =>
    rw [← Option.some.inj (show some (f x.toNat, 2) = some q from hx)]
    exact ez_su1 (ez_h0 H e) (ez_get (by rw [H]; simp)) hK
theorem ez_f2 {v : Nat} {f : Nat → Instr} (H : code.data.toList = pre ++ b0 :: t) (hK : ez_K pre.length v = (ClassFile.Reader.u2 >>= fun i => Pure.pure (f i))) (e : Nat.beq b0.toNat v = true) (hx : ez_o2 t f = some q) : decode code pre.length = .ok q := by
  match t, H, hx with
  | [], _, hx => cases hx
  | [_], _, hx => cases hx
  | x :: y :: t', H, hx =>
    rw [← Option.some.inj (show some (f (x.toNat * 256 + y.toNat), 3) = some q from hx)]
    exact ez_su2 (ez_h0 H e) (ez_get (by rw [H]; simp)) (ez_get (by rw [H]; simp)) hK
theorem ez_g1 {v : Nat} {f : Int → Instr} (H : code.data.toList = pre ++ b0 :: t) (hK : ez_K pre.length v = (ClassFile.Reader.s1 >>= fun i => Pure.pure (f i))) (e : Nat.beq b0.toNat v = true) (hx : ez_p1 t f = some q) : decode code pre.length = .ok q := by
  match t, H, hx with
  | [], _, hx => cases hx
  | x :: t', H, hx =>
    rw [← Option.some.inj (show some (f (ClassFile.Reader.signed 8 x.toNat), 2) = some q from hx)]
    exact ez_ss1 (ez_h0 H e) (ez_get (by rw [H]; simp)) hK
theorem ez_g2 {v : Nat} {f : Int → Instr} (H : code.data.toList = pre ++ b0 :: t) (hK : ez_K pre.length v = (ClassFile.Reader.s2 >>= fun i => Pure.pure (f i))) (e : Nat.beq b0.toNat v = true) (hx : ez_p2 t f = some q) : decode code pre.length = .ok q := by
  match t, H, hx with
  | [], _, hx => cases hx
  | [_], _, hx => cases hx
  | x :: y :: t', H, hx =>
    rw [← Option.some.inj (show some (f (ClassFile.Reader.signed 16 (x.toNat * 256 + y.toNat)), 3) = some q from hx)]
    exact ez_ss2 (ez_h0 H e) (ez_get (by rw [H]; simp)) (ez_get (by rw [H]; simp)) hK
theorem ez_gi (H : code.data.toList = pre ++ b0 :: t) (e : Nat.beq b0.toNat 132 = true) (hx : ez_pi t = some q) : decode code pre.length = .ok q := by
  match t, H, hx with
  | [], _, hx => cases hx
  | [_], _, hx => cases hx
  | x :: y :: t', H, hx =>
    rw [← Option.some.inj (show some (.iinc x.toNat (ClassFile.Reader.signed 8 y.toNat), 3) = some q from hx)]
    exact ez_inc (ez_h0 H e) (ez_get (by rw [H]; simp)) (ez_get (by rw [H]; simp))
noncomputable def ez_d0 (b : Nat) (t : List UInt8) : Option (Instr × Nat) :=
  bif Nat.beq b 1 then some (.aconst_null, 1) else
  bif Nat.beq b 2 then some (.iconst (-1), 1) else
  bif Nat.beq b 3 then some (.iconst 0, 1) else
  bif Nat.beq b 4 then some (.iconst 1, 1) else
  bif Nat.beq b 5 then some (.iconst 2, 1) else
  bif Nat.beq b 6 then some (.iconst 3, 1) else
  bif Nat.beq b 7 then some (.iconst 4, 1) else
  bif Nat.beq b 8 then some (.iconst 5, 1) else
  bif Nat.beq b 9 then some (.lconst 0, 1) else
  none
theorem ez_d0_ok (H : code.data.toList = pre ++ b0 :: t) (h : ez_d0 b0.toNat t = some q) : decode code pre.length = .ok q := by
  unfold ez_d0 at h
  refine ez_ch h (fun e hx => ez_f0 H rfl e hx) (fun h => ?_)
  refine ez_ch h (fun e hx => ez_f0 H rfl e hx) (fun h => ?_)
  refine ez_ch h (fun e hx => ez_f0 H rfl e hx) (fun h => ?_)
  refine ez_ch h (fun e hx => ez_f0 H rfl e hx) (fun h => ?_)
  refine ez_ch h (fun e hx => ez_f0 H rfl e hx) (fun h => ?_)
  refine ez_ch h (fun e hx => ez_f0 H rfl e hx) (fun h => ?_)
  refine ez_ch h (fun e hx => ez_f0 H rfl e hx) (fun h => ?_)
  refine ez_ch h (fun e hx => ez_f0 H rfl e hx) (fun h => ?_)
  refine ez_ch h (fun e hx => ez_f0 H rfl e hx) (fun h => ?_)
  cases h
noncomputable def ez_d1 (b : Nat) (t : List UInt8) : Option (Instr × Nat) :=
  bif Nat.beq b 10 then some (.lconst 1, 1) else
  bif Nat.beq b 16 then ez_p1 t (fun i => .bipush i) else
  bif Nat.beq b 17 then ez_p2 t (fun i => .sipush i) else
  bif Nat.beq b 18 then ez_o1 t (fun i => .ldc i) else
  bif Nat.beq b 19 then ez_o2 t (fun i => .ldc_w i) else
  bif Nat.beq b 20 then ez_o2 t (fun i => .ldc2_w i) else
  bif Nat.beq b 21 then ez_o1 t (fun i => .iload i) else
  bif Nat.beq b 22 then ez_o1 t (fun i => .lload i) else
  bif Nat.beq b 25 then ez_o1 t (fun i => .aload i) else
  none
theorem ez_d1_ok (H : code.data.toList = pre ++ b0 :: t) (h : ez_d1 b0.toNat t = some q) : decode code pre.length = .ok q := by
  unfold ez_d1 at h
  refine ez_ch h (fun e hx => ez_f0 H rfl e hx) (fun h => ?_)
  refine ez_ch h (fun e hx => ez_g1 H rfl e hx) (fun h => ?_)
  refine ez_ch h (fun e hx => ez_g2 H rfl e hx) (fun h => ?_)
  refine ez_ch h (fun e hx => ez_f1 H rfl e hx) (fun h => ?_)
  refine ez_ch h (fun e hx => ez_f2 H rfl e hx) (fun h => ?_)
  refine ez_ch h (fun e hx => ez_f2 H rfl e hx) (fun h => ?_)
  refine ez_ch h (fun e hx => ez_f1 H rfl e hx) (fun h => ?_)
  refine ez_ch h (fun e hx => ez_f1 H rfl e hx) (fun h => ?_)
  refine ez_ch h (fun e hx => ez_f1 H rfl e hx) (fun h => ?_)
  cases h
noncomputable def ez_d2 (b : Nat) (t : List UInt8) : Option (Instr × Nat) :=
  bif Nat.beq b 26 then some (.iload_n 0, 1) else
  bif Nat.beq b 27 then some (.iload_n 1, 1) else
  bif Nat.beq b 28 then some (.iload_n 2, 1) else
  bif Nat.beq b 29 then some (.iload_n 3, 1) else
  bif Nat.beq b 30 then some (.lload_n 0, 1) else
  bif Nat.beq b 31 then some (.lload_n 1, 1) else
  bif Nat.beq b 32 then some (.lload_n 2, 1) else
  bif Nat.beq b 33 then some (.lload_n 3, 1) else
  bif Nat.beq b 42 then some (.aload_n 0, 1) else
  none
theorem ez_d2_ok (H : code.data.toList = pre ++ b0 :: t) (h : ez_d2 b0.toNat t = some q) : decode code pre.length = .ok q := by
  unfold ez_d2 at h
  refine ez_ch h (fun e hx => ez_f0 H rfl e hx) (fun h => ?_)
  refine ez_ch h (fun e hx => ez_f0 H rfl e hx) (fun h => ?_)
  refine ez_ch h (fun e hx => ez_f0 H rfl e hx) (fun h => ?_)
  refine ez_ch h (fun e hx => ez_f0 H rfl e hx) (fun h => ?_)
  refine ez_ch h (fun e hx => ez_f0 H rfl e hx) (fun h => ?_)
  refine ez_ch h (fun e hx => ez_f0 H rfl e hx) (fun h => ?_)
  refine ez_ch h (fun e hx => ez_f0 H rfl e hx) (fun h => ?_)
  refine ez_ch h (fun e hx => ez_f0 H rfl e hx) (fun h => ?_)
  refine ez_ch h (fun e hx => ez_f0 H rfl e hx) (fun h => ?_)
  cases h
noncomputable def ez_d3 (b : Nat) (t : List UInt8) : Option (Instr × Nat) :=
  bif Nat.beq b 43 then some (.aload_n 1, 1) else
  bif Nat.beq b 44 then some (.aload_n 2, 1) else
  bif Nat.beq b 45 then some (.aload_n 3, 1) else
  bif Nat.beq b 46 then some (.iaload, 1) else
  bif Nat.beq b 47 then some (.laload, 1) else
  bif Nat.beq b 50 then some (.aaload, 1) else
  bif Nat.beq b 51 then some (.baload, 1) else
  bif Nat.beq b 54 then ez_o1 t (fun i => .istore i) else
  bif Nat.beq b 55 then ez_o1 t (fun i => .lstore i) else
  none
theorem ez_d3_ok (H : code.data.toList = pre ++ b0 :: t) (h : ez_d3 b0.toNat t = some q) : decode code pre.length = .ok q := by
  unfold ez_d3 at h
  refine ez_ch h (fun e hx => ez_f0 H rfl e hx) (fun h => ?_)
  refine ez_ch h (fun e hx => ez_f0 H rfl e hx) (fun h => ?_)
  refine ez_ch h (fun e hx => ez_f0 H rfl e hx) (fun h => ?_)
  refine ez_ch h (fun e hx => ez_f0 H rfl e hx) (fun h => ?_)
  refine ez_ch h (fun e hx => ez_f0 H rfl e hx) (fun h => ?_)
  refine ez_ch h (fun e hx => ez_f0 H rfl e hx) (fun h => ?_)
  refine ez_ch h (fun e hx => ez_f0 H rfl e hx) (fun h => ?_)
  refine ez_ch h (fun e hx => ez_f1 H rfl e hx) (fun h => ?_)
  refine ez_ch h (fun e hx => ez_f1 H rfl e hx) (fun h => ?_)
  cases h
noncomputable def ez_d4 (b : Nat) (t : List UInt8) : Option (Instr × Nat) :=
  bif Nat.beq b 58 then ez_o1 t (fun i => .astore i) else
  bif Nat.beq b 59 then some (.istore_n 0, 1) else
  bif Nat.beq b 60 then some (.istore_n 1, 1) else
  bif Nat.beq b 61 then some (.istore_n 2, 1) else
  bif Nat.beq b 62 then some (.istore_n 3, 1) else
  bif Nat.beq b 63 then some (.lstore_n 0, 1) else
  bif Nat.beq b 64 then some (.lstore_n 1, 1) else
  bif Nat.beq b 65 then some (.lstore_n 2, 1) else
  bif Nat.beq b 66 then some (.lstore_n 3, 1) else
  none
theorem ez_d4_ok (H : code.data.toList = pre ++ b0 :: t) (h : ez_d4 b0.toNat t = some q) : decode code pre.length = .ok q := by
  unfold ez_d4 at h
  refine ez_ch h (fun e hx => ez_f1 H rfl e hx) (fun h => ?_)
  refine ez_ch h (fun e hx => ez_f0 H rfl e hx) (fun h => ?_)
  refine ez_ch h (fun e hx => ez_f0 H rfl e hx) (fun h => ?_)
  refine ez_ch h (fun e hx => ez_f0 H rfl e hx) (fun h => ?_)
  refine ez_ch h (fun e hx => ez_f0 H rfl e hx) (fun h => ?_)
  refine ez_ch h (fun e hx => ez_f0 H rfl e hx) (fun h => ?_)
  refine ez_ch h (fun e hx => ez_f0 H rfl e hx) (fun h => ?_)
  refine ez_ch h (fun e hx => ez_f0 H rfl e hx) (fun h => ?_)
  refine ez_ch h (fun e hx => ez_f0 H rfl e hx) (fun h => ?_)
  cases h
noncomputable def ez_d5 (b : Nat) (t : List UInt8) : Option (Instr × Nat) :=
  bif Nat.beq b 75 then some (.astore_n 0, 1) else
  bif Nat.beq b 76 then some (.astore_n 1, 1) else
  bif Nat.beq b 77 then some (.astore_n 2, 1) else
  bif Nat.beq b 78 then some (.astore_n 3, 1) else
  bif Nat.beq b 79 then some (.iastore, 1) else
  bif Nat.beq b 80 then some (.lastore, 1) else
  bif Nat.beq b 83 then some (.aastore, 1) else
  bif Nat.beq b 84 then some (.bastore, 1) else
  bif Nat.beq b 87 then some (.pop, 1) else
  none
theorem ez_d5_ok (H : code.data.toList = pre ++ b0 :: t) (h : ez_d5 b0.toNat t = some q) : decode code pre.length = .ok q := by
  unfold ez_d5 at h
  refine ez_ch h (fun e hx => ez_f0 H rfl e hx) (fun h => ?_)
  refine ez_ch h (fun e hx => ez_f0 H rfl e hx) (fun h => ?_)
  refine ez_ch h (fun e hx => ez_f0 H rfl e hx) (fun h => ?_)
  refine ez_ch h (fun e hx => ez_f0 H rfl e hx) (fun h => ?_)
  refine ez_ch h (fun e hx => ez_f0 H rfl e hx) (fun h => ?_)
  refine ez_ch h (fun e hx => ez_f0 H rfl e hx) (fun h => ?_)
  refine ez_ch h (fun e hx => ez_f0 H rfl e hx) (fun h => ?_)
  refine ez_ch h (fun e hx => ez_f0 H rfl e hx) (fun h => ?_)
  refine ez_ch h (fun e hx => ez_f0 H rfl e hx) (fun h => ?_)
  cases h
noncomputable def ez_d6 (b : Nat) (t : List UInt8) : Option (Instr × Nat) :=
  bif Nat.beq b 89 then some (.dup, 1) else
  bif Nat.beq b 92 then some (.dup2, 1) else
  bif Nat.beq b 96 then some (.iadd, 1) else
  bif Nat.beq b 97 then some (.ladd, 1) else
  bif Nat.beq b 100 then some (.isub, 1) else
  bif Nat.beq b 101 then some (.lsub, 1) else
  bif Nat.beq b 104 then some (.imul, 1) else
  bif Nat.beq b 105 then some (.lmul, 1) else
  bif Nat.beq b 108 then some (.idiv, 1) else
  none
theorem ez_d6_ok (H : code.data.toList = pre ++ b0 :: t) (h : ez_d6 b0.toNat t = some q) : decode code pre.length = .ok q := by
  unfold ez_d6 at h
  refine ez_ch h (fun e hx => ez_f0 H rfl e hx) (fun h => ?_)
  refine ez_ch h (fun e hx => ez_f0 H rfl e hx) (fun h => ?_)
  refine ez_ch h (fun e hx => ez_f0 H rfl e hx) (fun h => ?_)
  refine ez_ch h (fun e hx => ez_f0 H rfl e hx) (fun h => ?_)
  refine ez_ch h (fun e hx => ez_f0 H rfl e hx) (fun h => ?_)
  refine ez_ch h (fun e hx => ez_f0 H rfl e hx) (fun h => ?_)
  refine ez_ch h (fun e hx => ez_f0 H rfl e hx) (fun h => ?_)
  refine ez_ch h (fun e hx => ez_f0 H rfl e hx) (fun h => ?_)
  refine ez_ch h (fun e hx => ez_f0 H rfl e hx) (fun h => ?_)
  cases h
noncomputable def ez_d7 (b : Nat) (t : List UInt8) : Option (Instr × Nat) :=
  bif Nat.beq b 109 then some (.ldiv, 1) else
  bif Nat.beq b 112 then some (.irem, 1) else
  bif Nat.beq b 116 then some (.ineg, 1) else
  bif Nat.beq b 120 then some (.ishl, 1) else
  bif Nat.beq b 121 then some (.lshl, 1) else
  bif Nat.beq b 122 then some (.ishr, 1) else
  bif Nat.beq b 123 then some (.lshr, 1) else
  bif Nat.beq b 124 then some (.iushr, 1) else
  bif Nat.beq b 125 then some (.lushr, 1) else
  none
theorem ez_d7_ok (H : code.data.toList = pre ++ b0 :: t) (h : ez_d7 b0.toNat t = some q) : decode code pre.length = .ok q := by
  unfold ez_d7 at h
  refine ez_ch h (fun e hx => ez_f0 H rfl e hx) (fun h => ?_)
  refine ez_ch h (fun e hx => ez_f0 H rfl e hx) (fun h => ?_)
  refine ez_ch h (fun e hx => ez_f0 H rfl e hx) (fun h => ?_)
  refine ez_ch h (fun e hx => ez_f0 H rfl e hx) (fun h => ?_)
  refine ez_ch h (fun e hx => ez_f0 H rfl e hx) (fun h => ?_)
  refine ez_ch h (fun e hx => ez_f0 H rfl e hx) (fun h => ?_)
  refine ez_ch h (fun e hx => ez_f0 H rfl e hx) (fun h => ?_)
  refine ez_ch h (fun e hx => ez_f0 H rfl e hx) (fun h => ?_)
  refine ez_ch h (fun e hx => ez_f0 H rfl e hx) (fun h => ?_)
  cases h
noncomputable def ez_d8 (b : Nat) (t : List UInt8) : Option (Instr × Nat) :=
  bif Nat.beq b 126 then some (.iand, 1) else
  bif Nat.beq b 127 then some (.land, 1) else
  bif Nat.beq b 128 then some (.ior, 1) else
  bif Nat.beq b 129 then some (.lor, 1) else
  bif Nat.beq b 130 then some (.ixor, 1) else
  bif Nat.beq b 132 then ez_pi t else
  bif Nat.beq b 133 then some (.i2l, 1) else
  bif Nat.beq b 136 then some (.l2i, 1) else
  bif Nat.beq b 146 then some (.i2c, 1) else
  none
theorem ez_d8_ok (H : code.data.toList = pre ++ b0 :: t) (h : ez_d8 b0.toNat t = some q) : decode code pre.length = .ok q := by
  unfold ez_d8 at h
  refine ez_ch h (fun e hx => ez_f0 H rfl e hx) (fun h => ?_)
  refine ez_ch h (fun e hx => ez_f0 H rfl e hx) (fun h => ?_)
  refine ez_ch h (fun e hx => ez_f0 H rfl e hx) (fun h => ?_)
  refine ez_ch h (fun e hx => ez_f0 H rfl e hx) (fun h => ?_)
  refine ez_ch h (fun e hx => ez_f0 H rfl e hx) (fun h => ?_)
  refine ez_ch h (fun e hx => ez_gi H e hx) (fun h => ?_)
  refine ez_ch h (fun e hx => ez_f0 H rfl e hx) (fun h => ?_)
  refine ez_ch h (fun e hx => ez_f0 H rfl e hx) (fun h => ?_)
  refine ez_ch h (fun e hx => ez_f0 H rfl e hx) (fun h => ?_)
  cases h
noncomputable def ez_d9 (b : Nat) (t : List UInt8) : Option (Instr × Nat) :=
  bif Nat.beq b 148 then some (.lcmp, 1) else
  bif Nat.beq b 153 then ez_p2 t (fun i => .ifCond .eq i) else
  bif Nat.beq b 154 then ez_p2 t (fun i => .ifCond .ne i) else
  bif Nat.beq b 155 then ez_p2 t (fun i => .ifCond .lt i) else
  bif Nat.beq b 156 then ez_p2 t (fun i => .ifCond .ge i) else
  bif Nat.beq b 157 then ez_p2 t (fun i => .ifCond .gt i) else
  bif Nat.beq b 158 then ez_p2 t (fun i => .ifCond .le i) else
  bif Nat.beq b 159 then ez_p2 t (fun i => .if_icmp .eq i) else
  bif Nat.beq b 160 then ez_p2 t (fun i => .if_icmp .ne i) else
  none
theorem ez_d9_ok (H : code.data.toList = pre ++ b0 :: t) (h : ez_d9 b0.toNat t = some q) : decode code pre.length = .ok q := by
  unfold ez_d9 at h
  refine ez_ch h (fun e hx => ez_f0 H rfl e hx) (fun h => ?_)
  refine ez_ch h (fun e hx => ez_g2 H rfl e hx) (fun h => ?_)
  refine ez_ch h (fun e hx => ez_g2 H rfl e hx) (fun h => ?_)
  refine ez_ch h (fun e hx => ez_g2 H rfl e hx) (fun h => ?_)
  refine ez_ch h (fun e hx => ez_g2 H rfl e hx) (fun h => ?_)
  refine ez_ch h (fun e hx => ez_g2 H rfl e hx) (fun h => ?_)
  refine ez_ch h (fun e hx => ez_g2 H rfl e hx) (fun h => ?_)
  refine ez_ch h (fun e hx => ez_g2 H rfl e hx) (fun h => ?_)
  refine ez_ch h (fun e hx => ez_g2 H rfl e hx) (fun h => ?_)
  cases h
noncomputable def ez_d10 (b : Nat) (t : List UInt8) : Option (Instr × Nat) :=
  bif Nat.beq b 161 then ez_p2 t (fun i => .if_icmp .lt i) else
  bif Nat.beq b 162 then ez_p2 t (fun i => .if_icmp .ge i) else
  bif Nat.beq b 163 then ez_p2 t (fun i => .if_icmp .gt i) else
  bif Nat.beq b 164 then ez_p2 t (fun i => .if_icmp .le i) else
  bif Nat.beq b 167 then ez_p2 t (fun i => .goto i) else
  bif Nat.beq b 172 then some (.ireturn, 1) else
  bif Nat.beq b 173 then some (.lreturn, 1) else
  bif Nat.beq b 176 then some (.areturn, 1) else
  bif Nat.beq b 177 then some (.return_, 1) else
  none
theorem ez_d10_ok (H : code.data.toList = pre ++ b0 :: t) (h : ez_d10 b0.toNat t = some q) : decode code pre.length = .ok q := by
  unfold ez_d10 at h
  refine ez_ch h (fun e hx => ez_g2 H rfl e hx) (fun h => ?_)
  refine ez_ch h (fun e hx => ez_g2 H rfl e hx) (fun h => ?_)
  refine ez_ch h (fun e hx => ez_g2 H rfl e hx) (fun h => ?_)
  refine ez_ch h (fun e hx => ez_g2 H rfl e hx) (fun h => ?_)
  refine ez_ch h (fun e hx => ez_g2 H rfl e hx) (fun h => ?_)
  refine ez_ch h (fun e hx => ez_f0 H rfl e hx) (fun h => ?_)
  refine ez_ch h (fun e hx => ez_f0 H rfl e hx) (fun h => ?_)
  refine ez_ch h (fun e hx => ez_f0 H rfl e hx) (fun h => ?_)
  refine ez_ch h (fun e hx => ez_f0 H rfl e hx) (fun h => ?_)
  cases h
noncomputable def ez_d11 (b : Nat) (t : List UInt8) : Option (Instr × Nat) :=
  bif Nat.beq b 178 then ez_o2 t (fun i => .getstatic i) else
  bif Nat.beq b 180 then ez_o2 t (fun i => .getfield i) else
  bif Nat.beq b 181 then ez_o2 t (fun i => .putfield i) else
  bif Nat.beq b 182 then ez_o2 t (fun i => .invokevirtual i) else
  bif Nat.beq b 183 then ez_o2 t (fun i => .invokespecial i) else
  bif Nat.beq b 184 then ez_o2 t (fun i => .invokestatic i) else
  bif Nat.beq b 187 then ez_o2 t (fun i => .new i) else
  bif Nat.beq b 189 then ez_o2 t (fun i => .anewarray i) else
  bif Nat.beq b 190 then some (.arraylength, 1) else
  none
theorem ez_d11_ok (H : code.data.toList = pre ++ b0 :: t) (h : ez_d11 b0.toNat t = some q) : decode code pre.length = .ok q := by
  unfold ez_d11 at h
  refine ez_ch h (fun e hx => ez_f2 H rfl e hx) (fun h => ?_)
  refine ez_ch h (fun e hx => ez_f2 H rfl e hx) (fun h => ?_)
  refine ez_ch h (fun e hx => ez_f2 H rfl e hx) (fun h => ?_)
  refine ez_ch h (fun e hx => ez_f2 H rfl e hx) (fun h => ?_)
  refine ez_ch h (fun e hx => ez_f2 H rfl e hx) (fun h => ?_)
  refine ez_ch h (fun e hx => ez_f2 H rfl e hx) (fun h => ?_)
  refine ez_ch h (fun e hx => ez_f2 H rfl e hx) (fun h => ?_)
  refine ez_ch h (fun e hx => ez_f2 H rfl e hx) (fun h => ?_)
  refine ez_ch h (fun e hx => ez_f0 H rfl e hx) (fun h => ?_)
  cases h
noncomputable def ez_d12 (b : Nat) (t : List UInt8) : Option (Instr × Nat) :=
  bif Nat.beq b 198 then ez_p2 t (fun i => .ifnull i) else
  bif Nat.beq b 199 then ez_p2 t (fun i => .ifnonnull i) else
  none
theorem ez_d12_ok (H : code.data.toList = pre ++ b0 :: t) (h : ez_d12 b0.toNat t = some q) : decode code pre.length = .ok q := by
  unfold ez_d12 at h
  refine ez_ch h (fun e hx => ez_g2 H rfl e hx) (fun h => ?_)
  refine ez_ch h (fun e hx => ez_g2 H rfl e hx) (fun h => ?_)
  cases h
noncomputable def ez_dec (b : Nat) (t : List UInt8) : Option (Instr × Nat) :=
  bif Nat.ble b 9 then ez_d0 b t else
  bif Nat.ble b 25 then ez_d1 b t else
  bif Nat.ble b 42 then ez_d2 b t else
  bif Nat.ble b 55 then ez_d3 b t else
  bif Nat.ble b 66 then ez_d4 b t else
  bif Nat.ble b 87 then ez_d5 b t else
  bif Nat.ble b 108 then ez_d6 b t else
  bif Nat.ble b 125 then ez_d7 b t else
  bif Nat.ble b 146 then ez_d8 b t else
  bif Nat.ble b 160 then ez_d9 b t else
  bif Nat.ble b 177 then ez_d10 b t else
  bif Nat.ble b 190 then ez_d11 b t else
  ez_d12 b t
theorem ez_dec_ok (H : code.data.toList = pre ++ b0 :: t) (h : ez_dec b0.toNat t = some q) : decode code pre.length = .ok q := by
  unfold ez_dec at h
  refine ez_ch h (fun _ hx => ez_d0_ok H hx) (fun h => ?_)
  refine ez_ch h (fun _ hx => ez_d1_ok H hx) (fun h => ?_)
  refine ez_ch h (fun _ hx => ez_d2_ok H hx) (fun h => ?_)
  refine ez_ch h (fun _ hx => ez_d3_ok H hx) (fun h => ?_)
  refine ez_ch h (fun _ hx => ez_d4_ok H hx) (fun h => ?_)
  refine ez_ch h (fun _ hx => ez_d5_ok H hx) (fun h => ?_)
  refine ez_ch h (fun _ hx => ez_d6_ok H hx) (fun h => ?_)
  refine ez_ch h (fun _ hx => ez_d7_ok H hx) (fun h => ?_)
  refine ez_ch h (fun _ hx => ez_d8_ok H hx) (fun h => ?_)
  refine ez_ch h (fun _ hx => ez_d9_ok H hx) (fun h => ?_)
  refine ez_ch h (fun _ hx => ez_d10_ok H hx) (fun h => ?_)
  refine ez_ch h (fun _ hx => ez_d11_ok H hx) (fun h => ?_)
  exact ez_d12_ok H h
end Dec
/-! instructions compared quickly: each as a number, a number beside it, and so on; what comes back from there is the instruction -/
noncomputable def ew_iz (a b : Int) : Bool := match a with
  | .ofNat x => (match b with
    | .ofNat y => Nat.beq x y
    | .negSucc _ => false)
  | .negSucc x => (match b with
    | .ofNat _ => false
    | .negSucc y => Nat.beq x y)
theorem ew_iz_ok {a b : Int} (h : ew_iz a b = true) : a = b := by
  unfold ew_iz at h
  cases a <;> cases b <;> dsimp only at h
  · rw [Nat.eq_of_beq_eq_true h]
  · cases h
  · cases h
  · rw [Nat.eq_of_beq_eq_true h]
abbrev ew_C : Type := Nat × Nat × Int × Fin 4 × Fin 2 × ClassFile.Cond × ArrayType
noncomputable def ew_ic (a : Instr) : ew_C := match a with
  | .aaload => (1, 0, 0, 0, 0, .eq, .int)
  | .aastore => (2, 0, 0, 0, 0, .eq, .int)
  | .aconst_null => (3, 0, 0, 0, 0, .eq, .int)
  | .aload x0 => (4, x0, 0, 0, 0, .eq, .int)
  | .aload_n x0 => (5, 0, 0, x0, 0, .eq, .int)
  | .anewarray x0 => (6, x0, 0, 0, 0, .eq, .int)
  | .areturn => (7, 0, 0, 0, 0, .eq, .int)
  | .arraylength => (8, 0, 0, 0, 0, .eq, .int)
  | .astore x0 => (9, x0, 0, 0, 0, .eq, .int)
  | .astore_n x0 => (10, 0, 0, x0, 0, .eq, .int)
  | .baload => (11, 0, 0, 0, 0, .eq, .int)
  | .bastore => (12, 0, 0, 0, 0, .eq, .int)
  | .bipush x0 => (13, 0, x0, 0, 0, .eq, .int)
  | .dup => (14, 0, 0, 0, 0, .eq, .int)
  | .dup2 => (15, 0, 0, 0, 0, .eq, .int)
  | .getfield x0 => (16, x0, 0, 0, 0, .eq, .int)
  | .getstatic x0 => (17, x0, 0, 0, 0, .eq, .int)
  | .goto x0 => (18, 0, x0, 0, 0, .eq, .int)
  | .i2c => (19, 0, 0, 0, 0, .eq, .int)
  | .i2l => (20, 0, 0, 0, 0, .eq, .int)
  | .iadd => (21, 0, 0, 0, 0, .eq, .int)
  | .iaload => (22, 0, 0, 0, 0, .eq, .int)
  | .iand => (23, 0, 0, 0, 0, .eq, .int)
  | .iastore => (24, 0, 0, 0, 0, .eq, .int)
  | .iconst x0 => (25, 0, x0, 0, 0, .eq, .int)
  | .idiv => (26, 0, 0, 0, 0, .eq, .int)
  | .if_icmp x0 x1 => (27, 0, x1, 0, 0, x0, .int)
  | .ifCond x0 x1 => (28, 0, x1, 0, 0, x0, .int)
  | .ifnonnull x0 => (29, 0, x0, 0, 0, .eq, .int)
  | .ifnull x0 => (30, 0, x0, 0, 0, .eq, .int)
  | .iinc x0 x1 => (31, x0, x1, 0, 0, .eq, .int)
  | .iload x0 => (32, x0, 0, 0, 0, .eq, .int)
  | .iload_n x0 => (33, 0, 0, x0, 0, .eq, .int)
  | .imul => (34, 0, 0, 0, 0, .eq, .int)
  | .ineg => (35, 0, 0, 0, 0, .eq, .int)
  | .invokespecial x0 => (36, x0, 0, 0, 0, .eq, .int)
  | .invokestatic x0 => (37, x0, 0, 0, 0, .eq, .int)
  | .invokevirtual x0 => (38, x0, 0, 0, 0, .eq, .int)
  | .ior => (39, 0, 0, 0, 0, .eq, .int)
  | .irem => (40, 0, 0, 0, 0, .eq, .int)
  | .ireturn => (41, 0, 0, 0, 0, .eq, .int)
  | .ishl => (42, 0, 0, 0, 0, .eq, .int)
  | .ishr => (43, 0, 0, 0, 0, .eq, .int)
  | .istore x0 => (44, x0, 0, 0, 0, .eq, .int)
  | .istore_n x0 => (45, 0, 0, x0, 0, .eq, .int)
  | .isub => (46, 0, 0, 0, 0, .eq, .int)
  | .iushr => (47, 0, 0, 0, 0, .eq, .int)
  | .ixor => (48, 0, 0, 0, 0, .eq, .int)
  | .l2i => (49, 0, 0, 0, 0, .eq, .int)
  | .ladd => (50, 0, 0, 0, 0, .eq, .int)
  | .laload => (51, 0, 0, 0, 0, .eq, .int)
  | .land => (52, 0, 0, 0, 0, .eq, .int)
  | .lastore => (53, 0, 0, 0, 0, .eq, .int)
  | .lcmp => (54, 0, 0, 0, 0, .eq, .int)
  | .lconst x0 => (55, 0, 0, 0, x0, .eq, .int)
  | .ldc x0 => (56, x0, 0, 0, 0, .eq, .int)
  | .ldc_w x0 => (57, x0, 0, 0, 0, .eq, .int)
  | .ldc2_w x0 => (58, x0, 0, 0, 0, .eq, .int)
  | .ldiv => (59, 0, 0, 0, 0, .eq, .int)
  | .lload x0 => (60, x0, 0, 0, 0, .eq, .int)
  | .lload_n x0 => (61, 0, 0, x0, 0, .eq, .int)
  | .lmul => (62, 0, 0, 0, 0, .eq, .int)
  | .lor => (63, 0, 0, 0, 0, .eq, .int)
  | .lreturn => (64, 0, 0, 0, 0, .eq, .int)
  | .lshl => (65, 0, 0, 0, 0, .eq, .int)
  | .lshr => (66, 0, 0, 0, 0, .eq, .int)
  | .lstore x0 => (67, x0, 0, 0, 0, .eq, .int)
  | .lstore_n x0 => (68, 0, 0, x0, 0, .eq, .int)
  | .lsub => (69, 0, 0, 0, 0, .eq, .int)
  | .lushr => (70, 0, 0, 0, 0, .eq, .int)
  | .new x0 => (71, x0, 0, 0, 0, .eq, .int)
  | .newarray x0 => (72, 0, 0, 0, 0, .eq, x0)
  | .pop => (73, 0, 0, 0, 0, .eq, .int)
  | .putfield x0 => (74, x0, 0, 0, 0, .eq, .int)
  | .return_ => (75, 0, 0, 0, 0, .eq, .int)
  | .sipush x0 => (76, 0, x0, 0, 0, .eq, .int)
  | _ => (0, 0, 0, 0, 0, .eq, .int)
noncomputable def ew_id (q : ew_C) : Instr := match q.1 with
  | 1 => .aaload
  | 2 => .aastore
  | 3 => .aconst_null
  | 4 => .aload q.2.1
  | 5 => .aload_n q.2.2.2.1
  | 6 => .anewarray q.2.1
  | 7 => .areturn
  | 8 => .arraylength
  | 9 => .astore q.2.1
  | 10 => .astore_n q.2.2.2.1
  | 11 => .baload
  | 12 => .bastore
  | 13 => .bipush q.2.2.1
  | 14 => .dup
  | 15 => .dup2
  | 16 => .getfield q.2.1
  | 17 => .getstatic q.2.1
  | 18 => .goto q.2.2.1
  | 19 => .i2c
  | 20 => .i2l
  | 21 => .iadd
  | 22 => .iaload
  | 23 => .iand
  | 24 => .iastore
  | 25 => .iconst q.2.2.1
  | 26 => .idiv
  | 27 => .if_icmp q.2.2.2.2.2.1 q.2.2.1
  | 28 => .ifCond q.2.2.2.2.2.1 q.2.2.1
  | 29 => .ifnonnull q.2.2.1
  | 30 => .ifnull q.2.2.1
  | 31 => .iinc q.2.1 q.2.2.1
  | 32 => .iload q.2.1
  | 33 => .iload_n q.2.2.2.1
  | 34 => .imul
  | 35 => .ineg
  | 36 => .invokespecial q.2.1
  | 37 => .invokestatic q.2.1
  | 38 => .invokevirtual q.2.1
  | 39 => .ior
  | 40 => .irem
  | 41 => .ireturn
  | 42 => .ishl
  | 43 => .ishr
  | 44 => .istore q.2.1
  | 45 => .istore_n q.2.2.2.1
  | 46 => .isub
  | 47 => .iushr
  | 48 => .ixor
  | 49 => .l2i
  | 50 => .ladd
  | 51 => .laload
  | 52 => .land
  | 53 => .lastore
  | 54 => .lcmp
  | 55 => .lconst q.2.2.2.2.1
  | 56 => .ldc q.2.1
  | 57 => .ldc_w q.2.1
  | 58 => .ldc2_w q.2.1
  | 59 => .ldiv
  | 60 => .lload q.2.1
  | 61 => .lload_n q.2.2.2.1
  | 62 => .lmul
  | 63 => .lor
  | 64 => .lreturn
  | 65 => .lshl
  | 66 => .lshr
  | 67 => .lstore q.2.1
  | 68 => .lstore_n q.2.2.2.1
  | 69 => .lsub
  | 70 => .lushr
  | 71 => .new q.2.1
  | 72 => .newarray q.2.2.2.2.2.2
  | 73 => .pop
  | 74 => .putfield q.2.1
  | 75 => .return_
  | 76 => .sipush q.2.2.1
  | _ => .nop
theorem ew_icd (a : Instr) : (ew_ic a).1 = 0 ∨ ew_id (ew_ic a) = a := by
  cases a <;> first | exact Or.inl rfl | exact Or.inr rfl
noncomputable def ew_ieq (a b : Instr) : Bool := (!Nat.beq (ew_ic a).1 0 && Nat.beq (ew_ic a).1 (ew_ic b).1) && ((Nat.beq (ew_ic a).2.1 (ew_ic b).2.1 && ew_iz (ew_ic a).2.2.1 (ew_ic b).2.2.1) && ((Nat.beq (ew_ic a).2.2.2.1.val (ew_ic b).2.2.2.1.val && Nat.beq (ew_ic a).2.2.2.2.1.val (ew_ic b).2.2.2.2.1.val) && (decide ((ew_ic a).2.2.2.2.2.1 = (ew_ic b).2.2.2.2.2.1) && decide ((ew_ic a).2.2.2.2.2.2 = (ew_ic b).2.2.2.2.2.2))))
theorem ew_ieq_ok {a b : Instr} (h : ew_ieq a b = true) : a = b := by
  unfold ew_ieq at h
  simp only [Bool.and_eq_true] at h
  obtain ⟨⟨h0, h1⟩, ⟨h2, h3⟩, ⟨h4, h5⟩, h6, h7⟩ := h
  have e1 := Nat.eq_of_beq_eq_true h1
  have ha : (ew_ic a).1 ≠ 0 := fun e => by rw [e] at h0; exact absurd h0 (by decide)
  have e : ew_ic a = ew_ic b := Prod.ext e1 (Prod.ext (Nat.eq_of_beq_eq_true h2) (Prod.ext (ew_iz_ok h3) (Prod.ext (Fin.ext (Nat.eq_of_beq_eq_true h4)) (Prod.ext (Fin.ext (Nat.eq_of_beq_eq_true h5)) (Prod.ext (of_decide_eq_true h6) (of_decide_eq_true h7))))))
  have d1 := (ew_icd a).resolve_left ha
  have d2 := (ew_icd b).resolve_left (by rw [← e1]; exact ha)
  rw [← d1, e, d2]
noncomputable def ez_row (code : ByteArray) (b : UInt8) (r : List UInt8) (E : es_I) : Bool := (match ez_dec b.toNat r with
  | some q => ew_ieq q.1 E.2.1 && Nat.beq q.2 E.2.2.1
  | none => decide (decode code E.1 = .ok (E.2.1, E.2.2.1))) && (match E.2.1 with
  | .tableswitch _ _ _ _ => true
  | _ => Nat.beq E.2.2.1 (es_len E.2.1))
noncomputable def ez_wlk (code : ByteArray) : List UInt8 → Nat → List es_I → Bool
  | _, _, [] => true
  | bs, pos, E :: t => match bs.drop (E.1 - pos) with
    | [] => false
    | b :: r => (Nat.ble pos E.1 && ez_row code b r E) && ez_wlk code (b :: r) E.1 t
theorem ez_row_ok {M : es_M} {pre : List UInt8} {b : UInt8} {r : List UInt8} {E : es_I} (H : (es_code M).data.toList = pre ++ b :: r) (hp : pre.length = E.1) (h : ez_row (es_code M) b r E = true) : es_dok M E = true := by
  unfold ez_row at h
  rw [Bool.and_eq_true] at h
  unfold es_dok
  rw [Bool.and_eq_true]
  refine ⟨?_, h.2⟩
  have h1 := h.1
  cases hd : ez_dec b.toNat r with
  | none =>
    rw [hd] at h1
    exact h1
  | some q =>
    rw [hd] at h1
    have h1' : (ew_ieq q.1 E.2.1 && Nat.beq q.2 E.2.2.1) = true := h1
    rw [Bool.and_eq_true] at h1'
    have e : q = (E.2.1, E.2.2.1) := Prod.ext (ew_ieq_ok h1'.1) (Nat.eq_of_beq_eq_true h1'.2)
    have h2 := ez_dec_ok H hd
    rw [hp, e] at h2
    exact decide_eq_true h2
theorem ez_wlk_ok {M : es_M} : ∀ (rows : List es_I) (bs pre : List UInt8), (es_code M).data.toList = pre ++ bs → ez_wlk (es_code M) bs pre.length rows = true → ∀ E ∈ rows, es_dok M E = true
  | [], _, _, _, _, E, hE => by cases hE
  | F :: t, bs, pre, H, h, E, hE => by
    unfold ez_wlk at h
    cases hd : bs.drop (F.1 - pre.length) with
    | nil => rw [hd] at h; cases h
    | cons b r =>
      rw [hd] at h
      dsimp only at h
      rw [Bool.and_eq_true, Bool.and_eq_true, Nat.ble_eq] at h
      obtain ⟨⟨h1, h2⟩, h3⟩ := h
      have hl : F.1 - pre.length < bs.length := by
        have h4 := congrArg List.length hd
        rw [List.length_drop, List.length_cons] at h4
        omega
      have H2 : (es_code M).data.toList = (pre ++ bs.take (F.1 - pre.length)) ++ b :: r := by
        rw [H, List.append_assoc, ← hd, List.take_append_drop]
      have hp : (pre ++ bs.take (F.1 - pre.length)).length = F.1 := by
        rw [List.length_append, List.length_take]
        omega
      rcases List.mem_cons.mp hE with rfl | hE
      · exact ez_row_ok H2 hp h2
      · exact ez_wlk_ok t (b :: r) _ H2 (by rw [hp]; exact h3) E hE
noncomputable def ez_dk (T : es_M) : Bool := ez_wlk (es_code T) (es_code T).data.toList 0 ((es_tab T).flatMap (fun q => q.2))
theorem ez_dk_ok {T : es_M} (h : ez_dk T = true) : ∀ q ∈ es_tab T, ∀ E ∈ q.2, es_dok T E = true := fun q hq E hE =>
  ez_wlk_ok (M := T) _ _ [] rfl h E (List.mem_flatMap.mpr ⟨q, hq, hE⟩)
