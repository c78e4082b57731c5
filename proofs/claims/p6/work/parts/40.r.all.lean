section
/-! the bits of one long, and how many there are -/
def ti (X : BitVec 64) : Int := (Int64.ofBitVec X).toInt
def bm (b : Nat → Bool) : Nat → BitVec 64
  | 0 => 0#64
  | n + 1 => if b n = true then bm b n ||| (1#64 <<< n) else bm b n
def nm (b : Nat → Bool) : Nat → Nat
  | 0 => 0
  | n + 1 => nm b n + (if b n = true then 2 ^ n else 0)
def cn (b : Nat → Bool) : Nat → Nat
  | 0 => 0
  | n + 1 => cn b n + (if b n = true then 1 else 0)
def qb (f : Nat → Nat) : Nat → Nat
  | 0 => 0
  | n + 1 => f 0 + 256 * qb (fun j => f (j + 1)) n
def sm8 (f : Nat → Nat) : Nat → Nat
  | 0 => 0
  | n + 1 => f 0 + sm8 (fun j => f (j + 1)) n
def mq (c : Nat) : Nat → Nat
  | 0 => 0
  | n + 1 => c + 256 * mq c n
def d1 (f : Nat) : Nat := f - ((f / 2) &&& 85)
def d2 (f : Nat) : Nat := (f &&& 51) + ((f / 4) &&& 51)
def d3 (f : Nat) : Nat := (f + f / 16) &&& 15
def pc6 (X : BitVec 64) : BitVec 64 :=
  let V1 := X - ((X >>> 1) &&& 6148914691236517205#64)
  let V2 := (V1 &&& 3689348814741910323#64) + ((V1 >>> 2) &&& 3689348814741910323#64)
  let V3 := (V2 + (V2 >>> 4)) &&& 1085102592571150095#64
  let V4 := V3 + (V3 >>> 8)
  let V5 := V4 + (V4 >>> 16)
  V5 + (V5 >>> 32)
section Ra
variable {X Y : BitVec 64} {b : Nat → Bool} {f g : Nat → Nat} {i j k m n x y z : Nat} {v w : Int} {s : gS}
theorem ti_o (X : BitVec 64) : Int64.ofInt (ti X) = Int64.ofBitVec X := Int64.ofInt_toInt _
theorem ti_and : gland (ti X) (ti Y) = ti (X &&& Y) := by
  unfold gland
  rw [ti_o, ti_o]
  rfl
theorem ti_or : glor (ti X) (ti Y) = ti (X ||| Y) := by
  unfold glor
  rw [ti_o, ti_o]
  rfl
theorem ti_add : g64 (ti X + ti Y) = ti (X + Y) := by
  rw [← g64_add, ti_o, ti_o]
  rfl
theorem ti_sub : g64 (ti X - ti Y) = ti (X - Y) := by
  rw [← g64_sub, ti_o, ti_o]
  rfl
theorem sh_a : ∀ k : Nat, k < 64 → ((Int32.ofInt (k : Int)).toInt64 &&& 63).toBitVec.smod 64 = BitVec.ofNat 64 k := by decide +kernel
theorem sh_u : ∀ k : Nat, k < 64 → ((Int32.ofInt (k : Int)).toInt64.toUInt64 &&& Int64.toUInt64 63).toBitVec % 64 = BitVec.ofNat 64 k := by decide +kernel
theorem sh_n (hk : k < 64) : (BitVec.ofNat 64 k).toNat = k := by
  rw [BitVec.toNat_ofNat]
  exact Nat.mod_eq_of_lt (by omega)
theorem ti_us (hk : k < 64) : glushr (ti X) (k : Int) = ti (X >>> k) := by
  unfold glushr
  rw [ti_o]
  have h_l : ∀ (c_l : UInt64), c_l.toBitVec % 64 = BitVec.ofNat 64 k → ((Int64.ofBitVec X).toUInt64 >>> c_l).toInt64 = Int64.ofBitVec (X >>> k) := fun c_l hc_l => by
    apply Int64.toBitVec.inj
    show X >>> (c_l.toBitVec % 64) = X >>> k
    rw [hc_l]
    show X >>> (BitVec.ofNat 64 k).toNat = X >>> k
    rw [sh_n hk]
  rw [h_l _ (sh_u k hk)]
  rfl
theorem ti_sl (hk : k < 64) : glshl 1 (k : Int) = ti (1#64 <<< k) := (by decide +kernel : ∀ k : Nat, k < 64 → glshl 1 (k : Int) = ti (1#64 <<< k)) k hk
theorem ti_sr (hk : k < 64) : glshr (ti X) (k : Int) = ti (X.sshiftRight k) := by
  unfold glshr
  rw [ti_o]
  have h_l : ∀ (c_l : Int64), c_l.toBitVec.smod 64 = BitVec.ofNat 64 k → (Int64.ofBitVec X >>> c_l) = Int64.ofBitVec (X.sshiftRight k) := fun c_l hc_l => by
    apply Int64.toBitVec.inj
    show X.sshiftRight' (c_l.toBitVec.smod 64) = X.sshiftRight k
    rw [hc_l]
    show X.sshiftRight (BitVec.ofNat 64 k).toNat = X.sshiftRight k
    rw [sh_n hk]
  rw [h_l _ (sh_a k hk)]
  rfl
theorem ti_bit (hk : k < 64) : gland (glshr (ti X) (k : Int)) 1 = if X.getLsbD k = true then 1 else 0 := by
  have e1_l : (1 : Int) = ti 1#64 := by decide +kernel
  have e0_l : (0 : Int) = ti 0#64 := by decide +kernel
  have h_l : X.sshiftRight k &&& 1#64 = if X.getLsbD k = true then 1#64 else 0#64 := by
    apply BitVec.eq_of_getLsbD_eq
    intro i_l hi_l
    rw [BitVec.getLsbD_and, BitVec.getLsbD_sshiftRight, BitVec.getLsbD_one]
    by_cases c : i_l = 0
    · subst c
      cases hx : X.getLsbD k <;> simp [hx, hk]
    · cases hx : X.getLsbD k <;> simp [c]
  have h2 : gland (glshr (ti X) (k : Int)) (ti 1#64) = ti (X.sshiftRight k &&& 1#64) := by
    rw [ti_sr hk, ti_and]
  rw [← e1_l, h_l] at h2
  rw [h2]
  cases hx : X.getLsbD k
  · rw [if_neg Bool.false_ne_true, if_neg Bool.false_ne_true]
    exact e0_l.symm
  · rw [if_pos rfl, if_pos rfl]
    exact e1_l.symm
/-- the bits that stand -/
theorem bm_bit (n : Nat) (hn : n ≤ 64) : ∀ i, (bm b n).getLsbD i = (decide (i < n) && b i) := by
  induction n with
  | zero =>
    intro i
    show (0#64).getLsbD i = _
    rw [BitVec.getLsbD_zero]
    rfl
  | succ n ih_l =>
    intro i
    have h_l := ih_l (by omega) i
    show (if b n = true then bm b n ||| (1#64 <<< n) else bm b n).getLsbD i = _
    by_cases c : i = n
    · subst c
      have e1_l : decide (i < i) = false := decide_eq_false (Nat.lt_irrefl i)
      have e2_l : decide (i < i + 1) = true := decide_eq_true (Nat.lt_succ_self i)
      have e3_l : decide (i < 64) = true := decide_eq_true (by omega)
      cases hb : b i
      · rw [if_neg Bool.false_ne_true, h_l, hb, Bool.and_false, Bool.and_false]
      · rw [if_pos rfl, BitVec.getLsbD_or, BitVec.getLsbD_shiftLeft, BitVec.getLsbD_one, h_l, hb, e1_l, e2_l, e3_l, Nat.sub_self]
        rfl
    · have e1_l : decide (i < n + 1) = decide (i < n) := decide_eq_decide.mpr (by omega)
      rw [e1_l]
      cases hb : b n
      · rw [if_neg Bool.false_ne_true, h_l]
      · rw [if_pos rfl, BitVec.getLsbD_or, BitVec.getLsbD_shiftLeft, BitVec.getLsbD_one, h_l]
        by_cases c2 : i < n
        · rw [decide_eq_true c2]
          simp
        · rw [decide_eq_false c2, decide_eq_false (show ¬ i - n = 0 by omega)]
          simp
theorem nm_lt (n : Nat) : nm b n < 2 ^ n := by
  induction n with
  | zero => exact Nat.one_pos
  | succ n ih_l =>
    show nm b n + (if b n = true then 2 ^ n else 0) < 2 ^ (n + 1)
    rw [Nat.pow_succ]
    split <;> omega
theorem bm_nm (n : Nat) (hn : n ≤ 64) : (bm b n).toNat = nm b n := by
  induction n with
  | zero => rfl
  | succ n ih_l =>
    have h_l := ih_l (by omega)
    show (if b n = true then bm b n ||| (1#64 <<< n) else bm b n).toNat = nm b n + (if b n = true then 2 ^ n else 0)
    cases hb : b n
    · rw [if_neg Bool.false_ne_true, if_neg Bool.false_ne_true, h_l, Nat.add_zero]
    · have hp : 2 ^ n < 2 ^ 64 := Nat.pow_lt_pow_right (by decide) (by omega)
      rw [if_pos rfl, if_pos rfl, BitVec.toNat_or, BitVec.toNat_shiftLeft, h_l, show (1#64).toNat = 1 from rfl, Nat.one_shiftLeft, Nat.mod_eq_of_lt hp, Nat.or_two_pow_eq_add_of_lt (nm_lt n)]
theorem nm_sh (n : Nat) : nm b (8 + n) = nm b 8 + 256 * nm (fun i => b (8 + i)) n := by
  induction n with
  | zero => rfl
  | succ n ih_l =>
    show nm b (8 + n) + (if b (8 + n) = true then 2 ^ (8 + n) else 0) = nm b 8 + 256 * (nm (fun i => b (8 + i)) n + (if b (8 + n) = true then 2 ^ n else 0))
    rw [ih_l, Nat.pow_add]
    split <;> omega
theorem cn_sh (n : Nat) : cn b (8 + n) = cn b 8 + cn (fun i => b (8 + i)) n := by
  induction n with
  | zero => rfl
  | succ n ih_l =>
    show cn b (8 + n) + (if b (8 + n) = true then 1 else 0) = cn b 8 + (cn (fun i => b (8 + i)) n + (if b (8 + n) = true then 1 else 0))
    rw [ih_l]
    omega
theorem nm_q (n : Nat) : ∀ b : Nat → Bool, nm b (8 * n) = qb (fun j => nm (fun i => b (8 * j + i)) 8) n := by
  induction n with
  | zero => intro b; rfl
  | succ n ih_l =>
    intro b
    rw [show 8 * (n + 1) = 8 + 8 * n by omega, nm_sh, ih_l]
    show _ = nm (fun i => b (8 * 0 + i)) 8 + 256 * qb (fun j => nm (fun i => b (8 * (j + 1) + i)) 8) n
    have e0_l : (fun i => b (8 * 0 + i)) = b := funext (fun i => congrArg b (by omega))
    have e1_l : (fun j => nm (fun i => b (8 + (8 * j + i))) 8) = (fun j => nm (fun i => b (8 * (j + 1) + i)) 8) := funext (fun j => congrArg (fun h_l => nm h_l 8) (funext (fun i => congrArg b (by omega))))
    rw [e0_l, e1_l]
theorem cn_q (n : Nat) : ∀ b : Nat → Bool, cn b (8 * n) = sm8 (fun j => cn (fun i => b (8 * j + i)) 8) n := by
  induction n with
  | zero => intro b; rfl
  | succ n ih_l =>
    intro b
    rw [show 8 * (n + 1) = 8 + 8 * n by omega, cn_sh, ih_l]
    show _ = cn (fun i => b (8 * 0 + i)) 8 + sm8 (fun j => cn (fun i => b (8 * (j + 1) + i)) 8) n
    have e0_l : (fun i => b (8 * 0 + i)) = b := funext (fun i => congrArg b (by omega))
    have e1_l : (fun j => cn (fun i => b (8 + (8 * j + i))) 8) = (fun j => cn (fun i => b (8 * (j + 1) + i)) 8) := funext (fun j => congrArg (fun h_l => cn h_l 8) (funext (fun i => congrArg b (by omega))))
    rw [e0_l, e1_l]
/-- byte by byte -/
theorem and_q {A C : Nat} (hc : C < 256) : A &&& (C + 256 * m) = ((A % 256) &&& C) + 256 * ((A / 256) &&& m) := by
  have h1 : (A &&& (C + 256 * m)) % 2 ^ 8 = (A % 2 ^ 8) &&& ((C + 256 * m) % 2 ^ 8) := Nat.and_mod_two_pow
  have h2 : (A &&& (C + 256 * m)) / 2 ^ 8 = (A / 2 ^ 8) &&& ((C + 256 * m) / 2 ^ 8) := Nat.and_div_two_pow
  rw [show (2 : Nat) ^ 8 = 256 from rfl] at h1 h2
  rw [show (C + 256 * m) % 256 = C by omega] at h1
  rw [show (C + 256 * m) / 256 = m by omega] at h2
  omega
theorem f85 : ∀ f, f < 256 → ∀ q, q < 2 → (f / 2 + 128 * q) &&& 85 = (f / 2) &&& 85 := by decide +kernel
theorem f51 : ∀ f, f < 256 → ∀ q, q < 4 → (f / 4 + 64 * q) &&& 51 = (f / 4) &&& 51 := by decide +kernel
theorem f15 : ∀ f, f < 69 → ∀ q, q < 5 → (f + f / 16 + 16 * q) &&& 15 = (f + f / 16) &&& 15 := by decide +kernel
theorem b1_q {a : Nat} (ha : a < 256) : (a + 256 * y) - (((a + 256 * y) / 2) &&& mq 85 (n + 1)) = d1 a + 256 * (y - ((y / 2) &&& mq 85 n)) := by
  have h1 := and_q (A := (a + 256 * y) / 2) (C := 85) (m := mq 85 n) (by decide)
  rw [show (a + 256 * y) / 2 / 256 = y / 2 by omega, show (a + 256 * y) / 2 % 256 = a / 2 + 128 * (y % 2) by omega, f85 a ha (y % 2) (by omega)] at h1
  have h2 : (a / 2) &&& 85 ≤ a / 2 := Nat.and_le_left
  have h3 : (y / 2) &&& mq 85 n ≤ y / 2 := Nat.and_le_left
  show a + 256 * y - (((a + 256 * y) / 2) &&& (85 + 256 * mq 85 n)) = a - ((a / 2) &&& 85) + 256 * (y - ((y / 2) &&& mq 85 n))
  rw [h1]
  omega
theorem b2_q {a : Nat} (ha : a < 256) : ((a + 256 * y) &&& mq 51 (n + 1)) + (((a + 256 * y) / 4) &&& mq 51 (n + 1)) = d2 a + 256 * ((y &&& mq 51 n) + ((y / 4) &&& mq 51 n)) := by
  have h1 := and_q (A := (a + 256 * y) / 4) (C := 51) (m := mq 51 n) (by decide)
  rw [show (a + 256 * y) / 4 / 256 = y / 4 by omega, show (a + 256 * y) / 4 % 256 = a / 4 + 64 * (y % 4) by omega, f51 a ha (y % 4) (by omega)] at h1
  have h2 := and_q (A := a + 256 * y) (C := 51) (m := mq 51 n) (by decide)
  rw [show (a + 256 * y) / 256 = y by omega, show (a + 256 * y) % 256 = a by omega] at h2
  show ((a + 256 * y) &&& (51 + 256 * mq 51 n)) + (((a + 256 * y) / 4) &&& (51 + 256 * mq 51 n)) = (a &&& 51) + ((a / 4) &&& 51) + 256 * ((y &&& mq 51 n) + ((y / 4) &&& mq 51 n))
  rw [h1, h2]
  omega
theorem b3_q {a : Nat} (ha : a < 69) (hy : y % 16 < 5) : ((a + 256 * y) + (a + 256 * y) / 16) &&& mq 15 (n + 1) = d3 a + 256 * ((y + y / 16) &&& mq 15 n) := by
  have h1 := and_q (A := (a + 256 * y) + (a + 256 * y) / 16) (C := 15) (m := mq 15 n) (by decide)
  rw [show ((a + 256 * y) + (a + 256 * y) / 16) / 256 = y + y / 16 by omega, show ((a + 256 * y) + (a + 256 * y) / 16) % 256 = a + a / 16 + 16 * (y % 16) by omega, f15 a ha (y % 16) hy] at h1
  exact h1
theorem q1 (n : Nat) : ∀ f : Nat → Nat, (∀ j, f j < 256) → qb f n - ((qb f n / 2) &&& mq 85 n) = qb (fun j => d1 (f j)) n := by
  induction n with
  | zero =>
    intro f _
    show 0 - ((0 / 2) &&& 0) = 0
    decide
  | succ n ih_l =>
    intro f hf
    show f 0 + 256 * qb (fun j => f (j + 1)) n - (((f 0 + 256 * qb (fun j => f (j + 1)) n) / 2) &&& mq 85 (n + 1)) = d1 (f 0) + 256 * qb (fun j => d1 (f (j + 1))) n
    rw [b1_q (hf 0), ih_l _ (fun j => hf (j + 1))]
theorem q2 (n : Nat) : ∀ f : Nat → Nat, (∀ j, f j < 256) → (qb f n &&& mq 51 n) + ((qb f n / 4) &&& mq 51 n) = qb (fun j => d2 (f j)) n := by
  induction n with
  | zero =>
    intro f _
    show (0 &&& 0) + ((0 / 4) &&& 0) = 0
    decide
  | succ n ih_l =>
    intro f hf
    show ((f 0 + 256 * qb (fun j => f (j + 1)) n) &&& mq 51 (n + 1)) + (((f 0 + 256 * qb (fun j => f (j + 1)) n) / 4) &&& mq 51 (n + 1)) = d2 (f 0) + 256 * qb (fun j => d2 (f (j + 1))) n
    rw [b2_q (hf 0), ih_l _ (fun j => hf (j + 1))]
theorem qb_m (n : Nat) (h : ∀ j, f j % 16 < 5) : qb f n % 16 < 5 := by
  cases n with
  | zero => exact (by decide : 0 % 16 < 5)
  | succ n =>
    have h0 := h 0
    show (f 0 + 256 * qb (fun j => f (j + 1)) n) % 16 < 5
    omega
theorem q3 (n : Nat) : ∀ f : Nat → Nat, (∀ j, f j < 69 ∧ f j % 16 < 5) → (qb f n + qb f n / 16) &&& mq 15 n = qb (fun j => d3 (f j)) n := by
  induction n with
  | zero =>
    intro f _
    show (0 + 0 / 16) &&& 0 = 0
    decide
  | succ n ih_l =>
    intro f hf
    show ((f 0 + 256 * qb (fun j => f (j + 1)) n) + (f 0 + 256 * qb (fun j => f (j + 1)) n) / 16) &&& mq 15 (n + 1) = d3 (f 0) + 256 * qb (fun j => d3 (f (j + 1))) n
    rw [b3_q (hf 0).1 (qb_m n (fun j => (hf (j + 1)).2)), ih_l _ (fun j => hf (j + 1))]
theorem qb_le (n : Nat) {B : Nat} : ∀ f : Nat → Nat, (∀ j, f j ≤ B) → qb f n ≤ B * mq 1 n := by
  induction n with
  | zero => intro f _; exact Nat.le_refl 0
  | succ n ih_l =>
    intro f hf
    have h0 := hf 0
    have h1 := ih_l _ (fun j => hf (j + 1))
    show f 0 + 256 * qb (fun j => f (j + 1)) n ≤ B * (1 + 256 * mq 1 n)
    rw [Nat.mul_add, Nat.mul_one, Nat.mul_left_comm]
    omega
theorem dby : ∀ f, f < 256 → d1 f < 256 ∧ (d2 (d1 f) < 69 ∧ d2 (d1 f) % 16 < 5) ∧ d3 (d2 (d1 f)) ≤ 8 := by decide +kernel
theorem d8 : ∀ b0 b1 b2 b3 b4 b5 b6 b7 : Bool, d3 (d2 (d1 (0 + (if b0 = true then 1 else 0) + (if b1 = true then 2 else 0) + (if b2 = true then 4 else 0) + (if b3 = true then 8 else 0) + (if b4 = true then 16 else 0) + (if b5 = true then 32 else 0) + (if b6 = true then 64 else 0) + (if b7 = true then 128 else 0)))) = 0 + (if b0 = true then 1 else 0) + (if b1 = true then 1 else 0) + (if b2 = true then 1 else 0) + (if b3 = true then 1 else 0) + (if b4 = true then 1 else 0) + (if b5 = true then 1 else 0) + (if b6 = true then 1 else 0) + (if b7 = true then 1 else 0) := by decide +kernel
theorem d_cn : d3 (d2 (d1 (nm b 8))) = cn b 8 := d8 (b 0) (b 1) (b 2) (b 3) (b 4) (b 5) (b 6) (b 7)
/-- the bytes are added up -/
theorem add8 {h0 h1 h2 h3 h4 h5 h6 h7 t1 t2 t3 t4 t5 t6 : Nat} (b0 : h0 ≤ 8) (b1 : h1 ≤ 8) (b2 : h2 ≤ 8) (b3 : h3 ≤ 8) (b4 : h4 ≤ 8) (b5 : h5 ≤ 8) (b6 : h6 ≤ 8) (b7 : h7 ≤ 8) (hx : x = h0 + 256 * t1) (k1 : t1 = h1 + 256 * t2) (k2 : t2 = h2 + 256 * t3) (k3 : t3 = h3 + 256 * t4) (k4 : t4 = h4 + 256 * t5) (k5 : t5 = h5 + 256 * t6) (k6 : t6 = h6 + 256 * h7) (hy : y = x + x / 256) (hz : z = y + y / 65536) (hm : m = z + z / 4294967296) : x < 4611686018427387904 ∧ y < 4611686018427387904 ∧ z < 4611686018427387904 ∧ m < 9223372036854775808 ∧ m % 128 = h0 + h1 + h2 + h3 + h4 + h5 + h6 + h7 := by
  have u6 : t6 ≤ 2056 := by omega
  have u5 : t5 ≤ 526344 := by omega
  have u4_l : t4 ≤ 134744072 := by omega
  have u3 : t3 ≤ 34494482440 := by omega
  have u2_l : t2 ≤ 8830587504648 := by omega
  have u1_l : t1 ≤ 2260630401189896 := by omega
  have e1_l : x / 256 = t1 := by omega
  rw [e1_l] at hy
  have ey : y = (h0 + h1) + 256 * (h1 + h2) + 65536 * (t2 + t3) := by omega
  have e2_l : y / 65536 = t2 + t3 := by
    clear hx k1 k2 k3 k4 k5 k6 hy e1_l hm hz
    omega
  rw [e2_l] at hz
  have e4_l : (t2 + t3) + (t4 + t5) = (h2 + h3 + h4 + h5) + 256 * (h3 + h4 + h5 + h6) + 65536 * (t4 + t5 + t6 + h7) := by
    clear hx k1 hy e1_l hm hz ey e2_l
    omega
  have e3_l : t2 + t3 = (h2 + h3) + 256 * (h3 + h4) + 65536 * (t4 + t5) := by
    clear hx k1 hy e1_l hm hz ey e2_l e4_l
    omega
  have ez : z = (h0 + h1 + h2 + h3) + 256 * (h1 + h2 + h3 + h4) + 65536 * ((t2 + t3) + (t4 + t5)) := by
    clear hx k1 k2 k3 k4 k5 k6 hy e1_l hm e2_l e4_l
    omega
  rw [e4_l] at ez
  have e5_l : z / 4294967296 = t4 + t5 + t6 + h7 := by
    clear hx k1 k2 k3 k4 k5 k6 hy e1_l hm hz ey e2_l e4_l e3_l
    omega
  rw [e5_l] at hm
  have e6_l : t4 + t5 + t6 + h7 = (h4 + h5 + h6 + h7) + 256 * (t5 + t6 + h7) := by
    clear hx k1 k2 k3 hy e1_l hm hz ey e2_l e4_l e3_l ez e5_l
    omega
  have x1_l : x < 4611686018427387904 := by omega
  have y1 : y < 4611686018427387904 := by omega
  have z1 : z < 4611686018427387904 := by omega
  have m1_l : m < 9223372036854775808 := by omega
  refine ⟨x1_l, y1, z1, m1_l, ?_⟩
  rw [hm, ez, e6_l]
  clear hx k1 k2 k3 k4 k5 k6 hy e1_l hm hz ey e2_l e4_l e3_l ez e5_l e6_l x1_l y1 z1 m1_l
  omega
theorem g127 {v : Int} (h0 : 0 ≤ v) : gand (g32 v) 127 = v % 128 := by
  have e1_l : Int32.ofInt (g32 v) = Int32.ofInt v := by
    rw [← g32_of, Int32.ofInt_toInt]
  unfold gand
  rw [e1_l]
  show (BitVec.ofInt 32 v &&& 127#32).toInt = v % 128
  have e2_l : (BitVec.ofInt 32 v &&& 127#32).toNat = (v % 4294967296).toNat % 128 := by
    rw [BitVec.toNat_and, BitVec.toNat_ofInt]
    exact Nat.and_two_pow_sub_one_eq_mod _ 7
  rw [BitVec.toInt_eq_toNat_of_lt (by rw [e2_l]; omega), e2_l]
  omega
theorem ti_n (h : X.toNat < 9223372036854775808) : ti X = (X.toNat : Int) := by
  show X.toInt = (X.toNat : Int)
  exact BitVec.toInt_eq_toNat_of_lt (by omega)
/-- bitCount of a long -/
theorem pc_cn : (pc6 (bm b 64)).toNat < 9223372036854775808 ∧ (pc6 (bm b 64)).toNat % 128 = cn b 64 := by
  have hx : (bm b 64).toNat = qb (fun j_l => nm (fun i_l => b (8 * j_l + i_l)) 8) 8 := (bm_nm 64 (by decide)).trans (nm_q 8 b)
  have hc_l : cn b 64 = sm8 (fun j_l => cn (fun i_l => b (8 * j_l + i_l)) 8) 8 := cn_q 8 b
  have hb_l : ∀ j_l, nm (fun i_l => b (8 * j_l + i_l)) 8 < 256 := fun j_l => nm_lt 8
  have hd_l : ∀ j_l, d3 (d2 (d1 (nm (fun i_l => b (8 * j_l + i_l)) 8))) = cn (fun i_l => b (8 * j_l + i_l)) 8 := fun j_l => d_cn
  generalize bm b 64 = X at hx
  generalize hF : (fun j_l => nm (fun i_l => b (8 * j_l + i_l)) 8) = F at hx
  have hF2 : ∀ j_l, F j_l = nm (fun i_l => b (8 * j_l + i_l)) 8 := fun j_l => by rw [← hF]
  have hB_l : ∀ j_l, F j_l < 256 := fun j_l => by rw [hF2]; exact hb_l j_l
  have k5_l : (6148914691236517205#64).toNat = mq 85 8 := by decide +kernel
  have k3_l : (3689348814741910323#64).toNat = mq 51 8 := by decide +kernel
  have kf : (1085102592571150095#64).toNat = mq 15 8 := by decide +kernel
  have k1_l : mq 1 8 = 72340172838076673 := by decide +kernel
  have n1_l : (X - ((X >>> 1) &&& 6148914691236517205#64)).toNat = qb (fun j_l => d1 (F j_l)) 8 := by
    have e_l : ((X >>> 1) &&& 6148914691236517205#64).toNat = (qb F 8 / 2) &&& mq 85 8 := by
      rw [BitVec.toNat_and, BitVec.toNat_ushiftRight, k5_l, hx, Nat.shiftRight_eq_div_pow]
    have hl : (X >>> 1) &&& 6148914691236517205#64 ≤ X := by
      rw [BitVec.le_def, e_l, hx]
      have h3 : (qb F 8 / 2) &&& mq 85 8 ≤ qb F 8 / 2 := Nat.and_le_left
      omega
    rw [BitVec.toNat_sub_of_le hl, e_l, hx]
    exact q1 8 F hB_l
  have c1_l : ∀ j_l, d1 (F j_l) < 256 := fun j_l => (dby _ (hB_l j_l)).1
  have c2_l : ∀ j_l, d2 (d1 (F j_l)) < 69 ∧ d2 (d1 (F j_l)) % 16 < 5 := fun j_l => (dby _ (hB_l j_l)).2.1
  have c3_l : ∀ j_l, d3 (d2 (d1 (F j_l))) ≤ 8 := fun j_l => (dby _ (hB_l j_l)).2.2
  have u2_l := qb_le 8 (B := 68) (fun j_l => d2 (d1 (F j_l))) (fun j_l => by have := (c2_l j_l).1; omega)
  rw [k1_l] at u2_l
  unfold pc6
  dsimp only
  generalize X - ((X >>> 1) &&& 6148914691236517205#64) = V1 at n1_l
  have n2_l : ((V1 &&& 3689348814741910323#64) + ((V1 >>> 2) &&& 3689348814741910323#64)).toNat = qb (fun j_l => d2 (d1 (F j_l))) 8 := by
    have e_l := q2 8 (fun j_l => d1 (F j_l)) c1_l
    rw [BitVec.toNat_add, BitVec.toNat_and, BitVec.toNat_and, BitVec.toNat_ushiftRight, k3_l, n1_l, Nat.shiftRight_eq_div_pow, show (2 : Nat) ^ 2 = 4 from rfl, e_l]
    exact Nat.mod_eq_of_lt (by omega)
  generalize (V1 &&& 3689348814741910323#64) + ((V1 >>> 2) &&& 3689348814741910323#64) = V2 at n2_l
  have n3_l : ((V2 + (V2 >>> 4)) &&& 1085102592571150095#64).toNat = qb (fun j_l => d3 (d2 (d1 (F j_l)))) 8 := by
    rw [BitVec.toNat_and, BitVec.toNat_add, BitVec.toNat_ushiftRight, kf, n2_l, Nat.shiftRight_eq_div_pow]
    rw [show (2 : Nat) ^ 4 = 16 from rfl, Nat.mod_eq_of_lt (by omega)]
    exact q3 8 (fun j_l => d2 (d1 (F j_l))) c2_l
  generalize (V2 + (V2 >>> 4)) &&& 1085102592571150095#64 = V3 at n3_l
  have r_l := add8 (x := V3.toNat) (c3_l 0) (c3_l 1) (c3_l 2) (c3_l 3) (c3_l 4) (c3_l 5) (c3_l 6) (c3_l 7) (n3_l.trans rfl) rfl rfl rfl rfl rfl rfl rfl rfl rfl
  obtain ⟨r1_l, r2, r3, r4, r5_l⟩ := r_l
  have n4_l : (V3 + (V3 >>> 8)).toNat = V3.toNat + V3.toNat / 256 := by
    rw [BitVec.toNat_add, BitVec.toNat_ushiftRight, Nat.shiftRight_eq_div_pow, show (2 : Nat) ^ 8 = 256 from rfl]
    exact Nat.mod_eq_of_lt (by omega)
  rw [← n4_l] at r2 r3 r4 r5_l
  generalize V3 + (V3 >>> 8) = V4 at r2 r3 r4 r5_l
  have n5_l : (V4 + (V4 >>> 16)).toNat = V4.toNat + V4.toNat / 65536 := by
    rw [BitVec.toNat_add, BitVec.toNat_ushiftRight, Nat.shiftRight_eq_div_pow, show (2 : Nat) ^ 16 = 65536 from rfl]
    exact Nat.mod_eq_of_lt (by omega)
  rw [← n5_l] at r3 r4 r5_l
  generalize V4 + (V4 >>> 16) = V5 at r3 r4 r5_l
  have n6_l : (V5 + (V5 >>> 32)).toNat = V5.toNat + V5.toNat / 4294967296 := by
    rw [BitVec.toNat_add, BitVec.toNat_ushiftRight, Nat.shiftRight_eq_div_pow, show (2 : Nat) ^ 32 = 4294967296 from rfl]
    exact Nat.mod_eq_of_lt (by omega)
  rw [← n6_l] at r4 r5_l
  refine ⟨r4, r5_l.trans ?_⟩
  rw [hc_l]
  show d3 (d2 (d1 (F 0))) + d3 (d2 (d1 (F 1))) + d3 (d2 (d1 (F 2))) + d3 (d2 (d1 (F 3))) + d3 (d2 (d1 (F 4))) + d3 (d2 (d1 (F 5))) + d3 (d2 (d1 (F 6))) + d3 (d2 (d1 (F 7))) = cn (fun i_l => b (8 * 0 + i_l)) 8 + (cn (fun i_l => b (8 * 1 + i_l)) 8 + (cn (fun i_l => b (8 * 2 + i_l)) 8 + (cn (fun i_l => b (8 * 3 + i_l)) 8 + (cn (fun i_l => b (8 * 4 + i_l)) 8 + (cn (fun i_l => b (8 * 5 + i_l)) 8 + (cn (fun i_l => b (8 * 6 + i_l)) 8 + (cn (fun i_l => b (8 * 7 + i_l)) 8 + 0)))))))
  rw [hF2 0, hF2 1, hF2 2, hF2 3, hF2 4, hF2 5, hF2 6, hF2 7, hd_l 0, hd_l 1, hd_l 2, hd_l 3, hd_l 4, hd_l 5, hd_l 6, hd_l 7]
  omega
theorem p_265 : f_265 (ti (bm b 64)) s = some (1, (cn b 64 : Int), 0, s) := by
  obtain ⟨h1, h2⟩ := pc_cn (b := b)
  have k5_l : (6148914691236517205 : Int) = ti 6148914691236517205#64 := by decide +kernel
  have k3_l : (3689348814741910323 : Int) = ti 3689348814741910323#64 := by decide +kernel
  have kf : (1085102592571150095 : Int) = ti 1085102592571150095#64 := by decide +kernel
  have u1_l : ∀ X_l, glushr (ti X_l) 1 = ti (X_l >>> 1) := fun X_l => ti_us (k := 1) (by decide)
  have u2_l : ∀ X_l, glushr (ti X_l) 2 = ti (X_l >>> 2) := fun X_l => ti_us (k := 2) (by decide)
  have u4_l : ∀ X_l, glushr (ti X_l) 4 = ti (X_l >>> 4) := fun X_l => ti_us (k := 4) (by decide)
  have u8 : ∀ X_l, glushr (ti X_l) 8 = ti (X_l >>> 8) := fun X_l => ti_us (k := 8) (by decide)
  have u6 : ∀ X_l, glushr (ti X_l) 16 = ti (X_l >>> 16) := fun X_l => ti_us (k := 16) (by decide)
  have u3 : ∀ X_l, glushr (ti X_l) 32 = ti (X_l >>> 32) := fun X_l => ti_us (k := 32) (by decide)
  unfold f_265
  rw [k5_l, k3_l, kf]
  simp only [u1_l, ti_and, ti_sub, u2_l, ti_add, u4_l, u8, u6, u3]
  show some ((1, gand (g32 (ti (pc6 (bm b 64)))) 127, 0, s) : gO) = _
  rw [ti_n h1, g127 (by omega)]
  rw [show ((pc6 (bm b 64)).toNat : Int) % 128 = (((pc6 (bm b 64)).toNat % 128 : Nat) : Int) by omega, h2]
/-- none stands -/
theorem cn_0 (n : Nat) : cn b n = 0 ↔ ∀ i, i < n → b i = false := by
  induction n with
  | zero => exact ⟨fun _ i hi_l => absurd hi_l (Nat.not_lt_zero i), fun _ => rfl⟩
  | succ n ih_l =>
    have e_l : cn b (n + 1) = cn b n + (if b n = true then 1 else 0) := rfl
    constructor
    · intro h_l i hi_l
      rw [e_l] at h_l
      cases hb : b n
      · by_cases c : i = n
        · rw [c, hb]
        · exact ih_l.mp (by omega) i (by omega)
      · rw [hb, if_pos rfl] at h_l
        omega
    · intro h_l
      rw [e_l, ih_l.mpr (fun i hi_l => h_l i (by omega)), h_l n (by omega)]
      rfl
theorem cn_le (n : Nat) : cn b n ≤ n := by
  induction n with
  | zero => exact Nat.le_refl 0
  | succ n ih_l =>
    show cn b n + (if b n = true then 1 else 0) ≤ n + 1
    split <;> omega
theorem ti_z : ti (bm b 64) = 0 ↔ cn b 64 = 0 := by
  constructor
  · intro h_l
    have e_l : bm b 64 = 0#64 := by
      have h1 : Int64.ofInt (ti (bm b 64)) = Int64.ofInt 0 := congrArg Int64.ofInt h_l
      rw [ti_o] at h1
      exact congrArg Int64.toBitVec h1
    refine (cn_0 64).mpr (fun i_l hi_l => ?_)
    have h2 := bm_bit (b := b) 64 (by decide) i_l
    rw [e_l, BitVec.getLsbD_zero, decide_eq_true hi_l, Bool.true_and] at h2
    exact h2.symm
  · intro h_l
    have h1 := (cn_0 64).mp h_l
    have e_l : bm b 64 = 0#64 := by
      apply BitVec.eq_of_getLsbD_eq
      intro i_l hi_l
      rw [bm_bit 64 (by decide), h1 i_l hi_l, Bool.and_false, BitVec.getLsbD_zero]
    rw [e_l]
    decide +kernel
end Ra

end
section
/-! seen and ask -/
def ctb (V : Nat → Int) (t T : Int) : Bool := decide (gand T (gxor (V (76 + 2 * t.toNat + 1)) (-1)) = 0)
def fitB (V B : Nat → Int) (T : Int) : Nat → Bool
  | 0 => true
  | n + 1 => fitB V B T n && (ctb V (B (2 * n)) T == decide (B (2 * n + 1) = 1))
def tlb (V B : Nat → Int) : Nat → Bool
  | 0 => true
  | k + 1 => tlb V B k && decide (B k < if k % 2 = 0 then V 5 else 2)
abbrev gdT (V B : Nat → Int) (l : Nat) : Prop := l ≤ 40 ∧ l % 2 = 0 ∧ tlb V B l = true
def fbt (V B : Nat → Int) (N : Nat) (i : Nat) : Bool := decide (1 ≤ i) && fitB V B (i : Int) N
def cmF (b : Nat → Bool) (z : Int) : Nat → Int
  | 0 => z
  | n + 1 => if b n = true then gand (cmF b z n) (n : Int) else cmF b z n
def cgF (b : Nat → Bool) (V : Nat → Int) (t : Nat) : Nat → Bool := fun i => b i && ctb V (t : Int) (i : Int)
def grF (b : Nat → Bool) (V : Nat → Int) (t : Nat) : Int := max (cn (cgF b V t) 64 : Int) ((cn b 64 : Int) - (cn (cgF b V t) 64 : Int))
def akF (b : Nat → Bool) (V : Nat → Int) : Nat → Int × Int
  | 0 => (-1, -1)
  | t + 1 => if (akF b V t).1 = -1 ∨ grF b V t < (akF b V t).2 then ((t : Int), grF b V t) else akF b V t
def sure (b : Nat → Bool) (a1 : Int) : Int := if a1 = 0 then (cn b 64 : Int) else if cn b 64 = 0 then 0 else cmF b 63 64
def askd (b : Nat → Bool) (V : Nat → Int) : Int := if cn b 64 < 2 then -1 else (akF b V (V 5).toNat).1
/-- the class's cells, the model's -/
def Hc (z : gS) (V B : Nat → Int) : Prop := (gR z 0 0 = 1 ∧ gR z 1 0 = 2 ∧ gR z 0 4 = 9 ∧ gR z 9 4 = 14) ∧ gI z 9 6 = V 5 ∧ (∀ i, i < 6 → gI z 14 i = V (76 + 2 * i + 1)) ∧ (∀ k, gI z 2 k = B k)
def Hm (z : gS) (V B : Nat → Int) : Prop := (gR z 217 1 = 218 ∧ gR z 217 7 = 222 ∧ gR z 217 23 = 229) ∧ (∀ k, gI z 218 k = V k) ∧ (∀ k, gI z 222 k = B k)
def Hb (V B : Nat → Int) : Prop := (0 ≤ V 5 ∧ V 5 ≤ 6) ∧ ∀ k, 0 ≤ B k ∧ B k ≤ 255
def fl (v : Bool) : Int := if v = true then 1 else 0
section Rb
variable {s t u z w : gS} {p : gP} {V B : Nat → Int} {a1 m T v : Int} {b : Nat → Bool} {i j k l n N : Nat}
theorem rr_1_0 {g : gS} (hg : RF g) : 1 < 232 ∧ gR g 1 0 = 2 := ⟨by decide, (hg 1 0 (by decide) (by decide +kernel)).trans (by decide +kernel)⟩
theorem gQ_mo {Q : Type} {x : Option Q} {P P' : Q → Prop} (h : gQ x P) (k : ∀ r, P r → P' r) : gQ x P' := fun r hr => k r (h r hr)
theorem gQ_e1 {Q : Type} {P : Q → Prop} {z : Option gO} {A : gO → Prop} {Z : gO → Q} {E : Int → gS → Option Q} (h : gQ z A) (k : ∀ r, A r → r.1 = 1 → gQ (E r.2.1 r.2.2.2) P) (kz : ∀ r, A r → 2 ≤ r.1 → P (Z (r.1, 0, 0, r.2.2.2))) : gQ (z.bind (gt1 Z E)) P := by
  cases z with
  | none => exact gQ_none
  | some r =>
    have hA := h r rfl
    show gQ (gt1 Z E r) P
    unfold gt1
    by_cases c : r.1 = 1
    · rw [if_pos c]
      exact k r hA c
    · rw [if_neg c]
      by_cases c2 : 2 ≤ r.1
      · rw [if_pos c2]
        exact gQ_ret (kz r hA c2)
      · rw [if_neg c2]
        exact gQ_none
theorem fl_e {c : Prop} [Decidable c] : (if c then (1 : Int) else 0) = fl (decide c) := by
  unfold fl
  by_cases h : c
  · rw [if_pos h, if_pos (decide_eq_true h)]
  · rw [if_neg h, if_neg (by rw [decide_eq_false h]; exact Bool.false_ne_true)]
theorem fl_0 {x : Bool} : fl x = 0 ↔ x = false := by cases x <;> decide
theorem fl_q {x y : Bool} : fl x = fl y ↔ (x == y) = true := by cases x <;> cases y <;> decide
theorem tlb_le (h : tlb V B N = true) (hn : n ≤ N) : tlb V B n = true := by
  induction N with
  | zero =>
    have e_l : n = 0 := by omega
    rw [e_l]
    rfl
  | succ N ih_l =>
    by_cases c : n = N + 1
    · rw [c]
      exact h
    · have h1 : (tlb V B N && decide (B N < if N % 2 = 0 then V 5 else 2)) = true := h
      rw [Bool.and_eq_true] at h1
      exact ih_l h1.1 (by omega)
theorem tlb_s (h : tlb V B (n + 1) = true) : B n < if n % 2 = 0 then V 5 else 2 := by
  have h1 : (tlb V B n && decide (B n < if n % 2 = 0 then V 5 else 2)) = true := h
  rw [Bool.and_eq_true] at h1
  exact of_decide_eq_true h1.2
theorem fit_le (h : fitB V B T N = true) (hn : n ≤ N) : fitB V B T n = true := by
  induction N with
  | zero =>
    have e_l : n = 0 := by omega
    rw [e_l]
    rfl
  | succ N ih_l =>
    by_cases c : n = N + 1
    · rw [c]
      exact h
    · have h1 : (fitB V B T N && (ctb V (B (2 * N)) T == decide (B (2 * N + 1) = 1))) = true := h
      rw [Bool.and_eq_true] at h1
      exact ih_l h1.1 (by omega)
theorem rem2 : ∀ l : Nat, l < 401 → grem (l : Int) 2 = ((l % 2 : Nat) : Int) := by decide +kernel
/-- is it a tale, the class -/
theorem c143 (h : Hc z V B) (hb : Hb V B) (hl : l ≤ 400) : gQ (f_143 0 (l : Int) z) (fun r => r.2.1 = fl (decide (gdT V B l)) ∧ r.2.2.2 = z) := by
  obtain ⟨⟨h1, h2, h3, h4⟩, h5, h6, h7⟩ := h
  have bad_l : ¬ gdT V B l → (0 : Int) = fl (decide (gdT V B l)) := fun hn => by
    rw [decide_eq_false hn]
    rfl
  unfold f_143
  by_cases c1 : 40 < (l : Int)
  · rw [if_pos c1]
    exact gQ_ret ⟨bad_l (fun g_l => by have := g_l.1; omega), rfl⟩
  rw [if_neg c1, rem2 l (by omega)]
  by_cases c2 : ((l % 2 : Nat) : Int) = 0
  · rw [if_pos c2]
    refine gQ_loop (fun y_l => ∃ n_l : Nat, y_l = (0, (l : Int), ((2 * n_l : Nat) : Int), z) ∧ 2 * n_l ≤ l ∧ tlb V B (2 * n_l) = true) (fun y_l hy => ?_) ⟨0, rfl, by omega, rfl⟩
    obtain ⟨n_l, rfl, hn, ht⟩ := hy
    show gQ (sb_143_16 0 (l : Int) ((2 * n_l : Nat) : Int) z) _
    have e1_l : g32 (((2 * n_l : Nat) : Int) + 1) = ((2 * n_l + 1 : Nat) : Int) := (g32_eq (by omega) (by omega)).trans (by omega)
    have e2_l : g32 (((2 * n_l : Nat) : Int) + 2) = ((2 * (n_l + 1) : Nat) : Int) := (g32_eq (by omega) (by omega)).trans (by omega)
    have es : tlb V B (2 * n_l + 2) = ((tlb V B (2 * n_l) && decide (B (2 * n_l) < if 2 * n_l % 2 = 0 then V 5 else 2)) && decide (B (2 * n_l + 1) < if (2 * n_l + 1) % 2 = 0 then V 5 else 2)) := rfl
    rw [ht, if_pos (show 2 * n_l % 2 = 0 by omega), if_neg (show ¬ (2 * n_l + 1) % 2 = 0 by omega), Bool.true_and] at es
    unfold sb_143_16
    rw [e1_l, e2_l, h1, h2, h3, h5, Int.toNat_natCast, Int.toNat_natCast, h7, h7]
    by_cases c3 : ((2 * n_l + 1 : Nat) : Int) < (l : Int)
    · rw [if_pos c3]
      refine gQ_chk ?_
      by_cases c4 : B (2 * n_l) < V 5
      · rw [if_pos c4]
        rw [decide_eq_true c4, Bool.true_and] at es
        refine gQ_chk ?_
        by_cases c5 : 1 < B (2 * n_l + 1)
        · rw [if_pos c5]
          refine gQ_map (gQ_ret ⟨bad_l (fun g_l => ?_), rfl⟩)
          have := tlb_le g_l.2.2 (n := 2 * n_l + 2) (by omega)
          rw [es, decide_eq_true_iff] at this
          omega
        · rw [if_neg c5]
          exact gQ_ret ⟨n_l + 1, rfl, by omega, by rw [show 2 * (n_l + 1) = 2 * n_l + 2 by omega, es]; exact decide_eq_true (by omega)⟩
      · rw [if_neg c4]
        refine gQ_map (gQ_ret ⟨bad_l (fun g_l => ?_), rfl⟩)
        have := tlb_le g_l.2.2 (n := 2 * n_l + 2) (by omega)
        rw [es, decide_eq_false c4, Bool.false_and] at this
        cases this
    · rw [if_neg c3]
      refine gQ_map (gQ_ret ⟨?_, rfl⟩)
      have en : 2 * n_l = l := by omega
      rw [en] at ht
      rw [decide_eq_true (show gdT V B l from ⟨by omega, by omega, ht⟩)]
      rfl
  · rw [if_neg c2]
    exact gQ_ret ⟨bad_l (fun g_l => c2 (by rw [g_l.2.1]; rfl)), rfl⟩
theorem c4x (h : Hc z V B) (hb : Hb V B) (hm : 0 ≤ m ∧ m < V 5) : gQ (f_4 9 m T z) (fun r => r.2.1 = fl (ctb V m T) ∧ r.2.2.2 = z) := by
  obtain ⟨⟨h1, h2, h3, h4⟩, h5, h6, h7⟩ := h
  have hv := hb.1
  unfold f_4
  rw [h4, h6 m.toNat (by omega)]
  unfold ctb
  by_cases c : gand T (gxor (V (76 + 2 * m.toNat + 1)) (-1)) = 0
  · rw [if_pos c, decide_eq_true c]
    exact gQ_chk (gQ_ret ⟨rfl, rfl⟩)
  · rw [if_neg c, decide_eq_false c]
    exact gQ_chk (gQ_ret ⟨rfl, rfl⟩)
theorem b46 {x0 : Nat} {x1 x2 x3 w0 w1 : Int} {P : ((Nat × Int × Int × Int × gS) ⊕ gO) → Prop} (h1 : w1 = w0 → P (Sum.inl (x0, x1, x2, g32 (x3 + 2), z))) (h0 : ¬ w1 = w0 → P (Sum.inr (1, 0, 0, z))) : gQ (fb_144_46 x0 x1 x2 x3 w0 w1 z) P := by
  unfold fb_144_46
  by_cases c : w1 = w0
  · rw [if_pos c]
    exact gQ_ret (h1 c)
  · rw [if_neg c]
    exact gQ_map (gQ_ret (h0 c))
theorem c144 (h : Hc z V B) (hb : Hb V B) (hN : N ≤ 20) (ht : tlb V B (2 * N) = true) : gQ (f_144 0 T ((2 * N : Nat) : Int) z) (fun r => r.2.1 = fl (fitB V B T N) ∧ r.2.2.2 = z) := by
  have hh := h
  obtain ⟨⟨h1, h2, h3, h4⟩, h5, h6, h7⟩ := h
  unfold f_144
  refine gQ_loop (fun y_l => ∃ n_l : Nat, y_l = (0, T, ((2 * N : Nat) : Int), ((2 * n_l : Nat) : Int), z) ∧ n_l ≤ N ∧ fitB V B T n_l = true) (fun y_l hy => ?_) ⟨0, rfl, by omega, rfl⟩
  obtain ⟨n_l, rfl, hn, hf⟩ := hy
  show gQ (sb_144_2 0 T ((2 * N : Nat) : Int) ((2 * n_l : Nat) : Int) z) _
  have e1_l : g32 (((2 * n_l : Nat) : Int) + 1) = ((2 * n_l + 1 : Nat) : Int) := (g32_eq (by omega) (by omega)).trans (by omega)
  have e2_l : g32 (((2 * n_l : Nat) : Int) + 2) = ((2 * (n_l + 1) : Nat) : Int) := (g32_eq (by omega) (by omega)).trans (by omega)
  have es : fitB V B T (n_l + 1) = (fitB V B T n_l && (ctb V (B (2 * n_l)) T == decide (B (2 * n_l + 1) = 1))) := rfl
  rw [hf, Bool.true_and] at es
  unfold sb_144_2
  rw [e1_l, h1, h2, h3, Int.toNat_natCast, h7]
  by_cases c3 : ((2 * n_l + 1 : Nat) : Int) < ((2 * N : Nat) : Int)
  · rw [if_pos c3]
    have hm_l : 0 ≤ B (2 * n_l) ∧ B (2 * n_l) < V 5 := by
      have h8 := tlb_s (tlb_le ht (n := 2 * n_l + 1) (by omega))
      rw [if_pos (show 2 * n_l % 2 = 0 by omega)] at h8
      exact ⟨(hb.2 _).1, h8⟩
    refine gQ_chk (gQ_w1 (A := fun v_l y_l => v_l = fl (ctb V (B (2 * n_l)) T) ∧ y_l = z) (c4x hh hb hm_l) (fun v_l y_l hy => ?_))
    obtain ⟨y1, y2⟩ := hy
    rw [y1, y2, h1, h2, Int.toNat_natCast, h7]
    have key_l : ∀ d_l : Bool, d_l = decide (B (2 * n_l + 1) = 1) → gQ (fb_144_46 0 T ((2 * N : Nat) : Int) ((2 * n_l : Nat) : Int) (fl d_l) (fl (ctb V (B (2 * n_l)) T)) z) (Sum.elim (fun y_l => ∃ n_l : Nat, y_l = (0, T, ((2 * N : Nat) : Int), ((2 * n_l : Nat) : Int), z) ∧ n_l ≤ N ∧ fitB V B T n_l = true) (fun r => r.2.1 = fl (fitB V B T N) ∧ r.2.2.2 = z)) := fun d_l hd_l => by
      refine b46 (fun hq => ?_) (fun hq => ?_)
      · rw [e2_l]
        refine ⟨n_l + 1, rfl, by omega, ?_⟩
        rw [es, ← hd_l]
        exact fl_q.mp hq
      · refine ⟨?_, rfl⟩
        have hne : fitB V B T N = false := by
          cases hx : fitB V B T N with
          | false => rfl
          | true =>
            have h9 := fit_le hx (n := n_l + 1) (by omega)
            rw [es, ← hd_l] at h9
            exact absurd (fl_q.mpr h9) hq
        rw [hne]
        rfl
    refine gQ_chk ?_
    by_cases c5 : B (2 * n_l + 1) = 1
    · rw [if_pos c5]
      exact key_l true (decide_eq_true c5).symm
    · rw [if_neg c5]
      exact key_l false (decide_eq_false c5).symm
  · rw [if_neg c3]
    have en : n_l = N := by omega
    rw [en] at hf
    refine gQ_map (gQ_ret ⟨?_, rfl⟩)
    rw [hf]
    rfl
/-- all sets that fit, as bits -/
theorem c142 (h : Hc (gw s 1 1 0) V B) (hb : Hb V B) (h0 : gR s 0 0 = 1) (hl : gI s 1 1 = (l : Int)) (hl4 : l ≤ 400) : gQ (f_142 0 s) (fun r => (gdT V B l ∧ r.1 = 1 ∧ r.2.1 = ti (bm (fbt V B (l / 2)) 64) ∧ r.2.2.2 = gw s 1 1 0) ∨ (¬ gdT V B l ∧ r.1 = 2)) := by
  unfold f_142
  dsimp only
  rw [h0, hl]
  refine gQ_w1 (A := fun v_l y_l => v_l = fl (decide (gdT V B l)) ∧ y_l = gw s 1 1 0) (c143 h hb hl4) (fun v_l y_l hy => ?_)
  obtain ⟨y1, y2⟩ := hy
  rw [y1, y2]
  by_cases c : gdT V B l
  · have e_l : ¬ fl (decide (gdT V B l)) = 0 := by
      rw [decide_eq_true c]
      decide
    rw [if_neg e_l]
    obtain ⟨N_l, hN_l⟩ : ∃ N_l, l = 2 * N_l := ⟨l / 2, by have := c.2.1; omega⟩
    have hN2 : l / 2 = N_l := by omega
    have hN3 : N_l ≤ 20 := by have := c.1; omega
    have ht := c.2.2
    rw [hN2]
    rw [hN_l] at ht ⊢
    refine gQ_loop (fun y_l => ∃ k_l : Nat, (1 ≤ k_l ∧ k_l ≤ 64) ∧ y_l = (0, ((2 * N_l : Nat) : Int), ti (bm (fbt V B N_l) k_l), (k_l : Int), gw s 1 1 0)) (fun y_l hy => ?_) ⟨1, by decide, ?_⟩
    · obtain ⟨k_l, hk, rfl⟩ := hy
      show gQ (sb_142_40 0 ((2 * N_l : Nat) : Int) (ti (bm (fbt V B N_l) k_l)) (k_l : Int) (gw s 1 1 0)) _
      unfold sb_142_40
      have eg : g32 ((k_l : Int) + 1) = ((k_l + 1 : Nat) : Int) := (g32_eq (by omega) (by omega)).trans (by omega)
      by_cases c4 : (k_l : Int) < 64
      · rw [if_pos c4, eg]
        refine gQ_w1 (A := fun v_l y_l => v_l = fl (fitB V B (k_l : Int) N_l) ∧ y_l = gw s 1 1 0) (c144 h hb hN3 ht) (fun v_l y_l hy => ?_)
        obtain ⟨y1, y2⟩ := hy
        rw [y1, y2]
        have ef : fbt V B N_l k_l = fitB V B (k_l : Int) N_l := by
          unfold fbt
          rw [decide_eq_true hk.1, Bool.true_and]
        have em : bm (fbt V B N_l) (k_l + 1) = (if fbt V B N_l k_l = true then bm (fbt V B N_l) k_l ||| (1#64 <<< k_l) else bm (fbt V B N_l) k_l) := rfl
        cases hx : fitB V B (k_l : Int) N_l with
        | false =>
          rw [if_pos (show fl false = 0 from rfl)]
          refine gQ_ret ⟨k_l + 1, by omega, ?_⟩
          rw [em, ef, hx, if_neg Bool.false_ne_true]
        | true =>
          rw [if_neg (show ¬ fl true = 0 by decide), ti_sl (k := k_l) (by omega), ti_or]
          refine gQ_ret ⟨k_l + 1, by omega, ?_⟩
          rw [em, ef, hx, if_pos rfl]
      · rw [if_neg c4]
        have ek : k_l = 64 := by omega
        rw [ek]
        exact gQ_map (gQ_ret (Or.inl ⟨⟨by omega, by omega, ht⟩, rfl, rfl, rfl⟩))
    · have e0_l : (0 : Int) = ti (bm (fbt V B N_l) 1) := by
        have e1_l : bm (fbt V B N_l) 1 = 0#64 := rfl
        rw [e1_l]
        decide +kernel
      rw [← e0_l]
      rfl
  · have e_l : fl (decide (gdT V B l)) = 0 := by
      rw [decide_eq_false c]
      rfl
    rw [if_pos e_l]
    exact gQ_ret (Or.inr ⟨c, rfl⟩)
/-- seen, the class -/
theorem cmF_1 (h : b 0 = false) {z : Int} : cmF b z 1 = z := by
  show (if b 0 = true then gand (cmF b z 0) ((0 : Nat) : Int) else cmF b z 0) = z
  rw [h, if_neg Bool.false_ne_true]
  rfl
theorem cmF_0 {z : Int} (n : Nat) (h : ∀ i, i < n → b i = false) : cmF b z n = z := by
  induction n with
  | zero => rfl
  | succ n ih_l =>
    show (if b n = true then gand (cmF b z n) (n : Int) else cmF b z n) = z
    rw [h n (by omega), if_neg Bool.false_ne_true]
    exact ih_l (fun i hi_l => h i (by omega))
theorem gcmp_z {v : Int} : gcmp v 0 = 0 ↔ v = 0 := by
  unfold gcmp
  by_cases c1 : 0 < v
  · rw [if_pos c1]
    exact ⟨fun h_l => absurd h_l (by decide), fun h_l => by omega⟩
  rw [if_neg c1]
  by_cases c2 : v = 0
  · rw [if_pos c2]
    exact ⟨fun _ => c2, fun _ => rfl⟩
  · rw [if_neg c2]
    exact ⟨fun h_l => absurd h_l (by decide), fun h_l => absurd h_l c2⟩
theorem bit_c (hk : k < 64) : (gcmp (gland (glshr (ti (bm b 64)) (k : Int)) 1) 0 = 0) ↔ b k = false := by
  rw [ti_bit hk, bm_bit 64 (by decide), decide_eq_true hk, Bool.true_and, gcmp_z]
  cases b k <;> decide
theorem c114 (h : Hc (gw s 1 1 0) V B) (hb : Hb V B) (h0 : gR s 0 0 = 1) (hl : gI s 1 1 = (l : Int)) (hl4 : l ≤ 400) : gQ (f_114 0 a1 s) (fun r => (gdT V B l ∧ r.1 = 1 ∧ r.2.1 = sure (fbt V B (l / 2)) a1) ∨ (¬ gdT V B l ∧ r.1 = 2)) := by
  have f0_l : fbt V B (l / 2) 0 = false := rfl
  unfold f_114
  refine gQ_e1 (c142 h hb h0 hl hl4) (fun r hr c_l => ?_) (fun r hr c_l => ?_)
  · rcases hr with ⟨g1, -, g2, g3_l⟩ | ⟨-, g1⟩
    · rw [g2, g3_l]
      generalize fbt V B (l / 2) = b at f0_l
      unfold sure
      by_cases c1 : a1 = 0
      · rw [if_pos c1, if_pos c1, p_265]
        exact gQ_ret (Or.inl ⟨g1, rfl, rfl⟩)
      rw [if_neg c1, if_neg c1]
      by_cases c2 : cn b 64 = 0
      · rw [if_pos (gcmp_z.mpr (ti_z.mpr c2)), if_pos c2]
        exact gQ_ret (Or.inl ⟨g1, rfl, rfl⟩)
      rw [if_neg (fun hz => c2 (ti_z.mp (gcmp_z.mp hz))), if_neg c2]
      refine gQ_loop (fun y_l => ∃ k_l : Nat, (1 ≤ k_l ∧ k_l ≤ 64) ∧ y_l = (ti (bm b 64), cmF b 63 k_l, (k_l : Int), gw s 1 1 0)) (fun y_l hy => ?_) ⟨1, by decide, by rw [cmF_1 f0_l]; rfl⟩
      obtain ⟨k_l, hk, rfl⟩ := hy
      show gQ (sb_114_29 (ti (bm b 64)) (cmF b 63 k_l) (k_l : Int) (gw s 1 1 0)) _
      unfold sb_114_29
      have eg : g32 ((k_l : Int) + 1) = ((k_l + 1 : Nat) : Int) := (g32_eq (by omega) (by omega)).trans (by omega)
      have ec : cmF b 63 (k_l + 1) = (if b k_l = true then gand (cmF b 63 k_l) (k_l : Int) else cmF b 63 k_l) := rfl
      by_cases c4 : (k_l : Int) < 64
      · rw [if_pos c4, eg]
        by_cases c5 : b k_l = false
        · rw [if_pos ((bit_c (by omega)).mpr c5)]
          refine gQ_ret ⟨k_l + 1, by omega, ?_⟩
          rw [ec, c5, if_neg Bool.false_ne_true]
        · rw [if_neg (fun hz => c5 ((bit_c (by omega)).mp hz))]
          refine gQ_ret ⟨k_l + 1, by omega, ?_⟩
          rw [ec, if_pos (by cases hx : b k_l with | true => rfl | false => exact absurd hx c5)]
      · rw [if_neg c4]
        have ek : k_l = 64 := by omega
        rw [ek]
        exact gQ_map (gQ_ret (Or.inl ⟨g1, rfl, rfl⟩))
    · omega
  · rcases hr with ⟨-, g1, -⟩ | ⟨g1, g2⟩
    · omega
    · exact Or.inr ⟨g1, g2⟩
/-- the model's told -/
theorem Hm_w (h : Hm z V B) {a : Nat} (ha : a = 217 ∨ a = 229) : Hm (gw z a k v) V B := by
  obtain ⟨h1, h2, h3⟩ := h
  refine ⟨h1, fun j_l => ?_, fun j_l => ?_⟩
  · exact (rd_a (a := 218) (k := j_l) rfl (by omega)).trans (h2 j_l)
  · exact (rd_a (a := 222) (k := j_l) rfl (by omega)).trans (h3 j_l)
theorem m212x (h : Hm z V B) (hm : 0 ≤ m ∧ m < 6) : gQ (f_212 217 m T z) (fun r => r.2.1 = fl (ctb V m T) ∧ r.2.2.2 = z) := by
  refine fun r hr => ?_
  obtain ⟨q1_l, q2_l⟩ := p_212 (T := T) h.1.1 hm r hr
  refine ⟨q1_l.trans ?_, q2_l⟩
  rw [h.2.1, fl_e]
  rfl
def Fg (V B : Nat → Int) (N k : Nat) (w : gS) : Prop := ∀ i : Nat, 1 ≤ i → i < k → gI w 229 i = fl (fitB V B (i : Int) N)
theorem Fg_w (h : Fg V B N k z) : Fg V B N k (gw z 229 k v) := fun i_l h1 h2 => (rd_k (a := 229) (k := i_l) rfl (by omega)).trans (h i_l h1 h2)
/-- one set is held against the tale -/
theorem b173 (hN : N ≤ 20) (hk : 1 ≤ k ∧ k < 64) (hm : Hm z V B) (hf : Fg V B N k z) (hz : gI z 229 k = fl (fitB V B (k : Int) N)) : gQ (fb_238_173 217 ((2 * N : Nat) : Int) (cn (fbt V B N) k : Int) (k : Int) z) (fun a => a = Sum.inl (217, ((2 * N : Nat) : Int), (cn (fbt V B N) (k + 1) : Int), ((k + 1 : Nat) : Int), z) ∧ Fg V B N (k + 1) z) := by
  have eg : g32 ((k : Int) + 1) = ((k + 1 : Nat) : Int) := (g32_eq (by omega) (by omega)).trans (by omega)
  have hc_l := cn_le (b := fbt V B N) k
  have ef : fbt V B N k = fitB V B (k : Int) N := by
    unfold fbt
    rw [decide_eq_true hk.1, Bool.true_and]
  have ec : cn (fbt V B N) (k + 1) = cn (fbt V B N) k + (if fbt V B N k = true then 1 else 0) := rfl
  have hF : Fg V B N (k + 1) z := fun i_l h1 h2 => by
    by_cases c : i_l = k
    · rw [c]
      exact hz
    · exact hf i_l h1 (by omega)
  unfold fb_238_173
  refine gQ_chk ?_
  rw [hm.1.2.2, Int.toNat_natCast, hz, eg]
  cases hx : fitB V B (k : Int) N with
  | false =>
    rw [if_pos (show fl false = 0 from rfl)]
    refine gQ_ret ⟨?_, hF⟩
    rw [ec, ef, hx, if_neg Bool.false_ne_true, Int.add_zero, g32_eq (by omega) (by omega)]
    rfl
  | true =>
    rw [if_neg (show ¬ fl true = 0 by decide)]
    refine gQ_ret ⟨?_, hF⟩
    rw [ec, ef, hx, if_pos rfl, g32_eq (by omega) (by omega)]
    rfl
theorem m238l (hb : Hb V B) (hN : N ≤ 20) (ht : tlb V B (2 * N) = true) (hk : 1 ≤ k ∧ k < 64) (hm : Hm z V B) (hf : Fg V B N k z) (hz : gI z 229 k = 1) : gQ (gloop st_238_105 (217, ((2 * N : Nat) : Int), (cn (fbt V B N) k : Int), (k : Int), 0, z)) (fun a => ∃ w, a = Sum.inl (217, ((2 * N : Nat) : Int), (cn (fbt V B N) (k + 1) : Int), ((k + 1 : Nat) : Int), w) ∧ Hm w V B ∧ Fg V B N (k + 1) w) := by
  have fin_l : ∀ w, Hm w V B → Fg V B N k w → gI w 229 k = fl (fitB V B (k : Int) N) → gQ (fb_238_173 217 ((2 * N : Nat) : Int) (cn (fbt V B N) k : Int) (k : Int) w) (fun a => ∃ w, a = Sum.inl (217, ((2 * N : Nat) : Int), (cn (fbt V B N) (k + 1) : Int), ((k + 1 : Nat) : Int), w) ∧ Hm w V B ∧ Fg V B N (k + 1) w) := fun w w1_l w2_l w3_l a ha_l => by
    obtain ⟨e1_l, e2_l⟩ := b173 hN hk w1_l w2_l w3_l a ha_l
    exact ⟨w, e1_l, w1_l, e2_l⟩
  refine gQ_loop (fun y_l => ∃ (n_l : Nat) (w : gS), y_l = (217, ((2 * N : Nat) : Int), (cn (fbt V B N) k : Int), (k : Int), ((2 * n_l : Nat) : Int), w) ∧ n_l ≤ N ∧ Hm w V B ∧ Fg V B N k w ∧ gI w 229 k = fl (fitB V B (k : Int) n_l)) (fun y_l hy => ?_) ⟨0, z, rfl, by omega, hm, hf, hz⟩
  obtain ⟨n_l, w, rfl, hn, w1_l, w2_l, w3_l⟩ := hy
  show gQ (sb_238_105 217 ((2 * N : Nat) : Int) (cn (fbt V B N) k : Int) (k : Int) ((2 * n_l : Nat) : Int) w) _
  have e1_l : g32 (((2 * n_l : Nat) : Int) + 1) = ((2 * n_l + 1 : Nat) : Int) := (g32_eq (by omega) (by omega)).trans (by omega)
  have e2_l : g32 (((2 * n_l : Nat) : Int) + 2) = ((2 * (n_l + 1) : Nat) : Int) := (g32_eq (by omega) (by omega)).trans (by omega)
  have es : fitB V B (k : Int) (n_l + 1) = (fitB V B (k : Int) n_l && (ctb V (B (2 * n_l)) (k : Int) == decide (B (2 * n_l + 1) = 1))) := rfl
  unfold sb_238_105
  by_cases c1 : ((2 * n_l : Nat) : Int) < ((2 * N : Nat) : Int)
  · rw [if_pos c1]
    refine gQ_chk ?_
    rw [w1_l.1.2.2, Int.toNat_natCast, w3_l]
    cases hx : fitB V B (k : Int) n_l with
    | false =>
      rw [if_pos (show fl false = 0 from rfl)]
      refine gQ_map (fin_l w w1_l w2_l ?_)
      have hne : fitB V B (k : Int) N = false := by
        cases hy : fitB V B (k : Int) N with
        | false => rfl
        | true =>
          have h9 := fit_le hy hn
          rw [hx] at h9
          cases h9
      rw [w3_l, hx, hne]
    | true =>
      rw [if_neg (show ¬ fl true = 0 by decide)]
      rw [hx, Bool.true_and] at es
      have hm2 : 0 ≤ B (2 * n_l) ∧ B (2 * n_l) < V 5 := by
        have h8 := tlb_s (tlb_le ht (n := 2 * n_l + 1) (by omega))
        rw [if_pos (show 2 * n_l % 2 = 0 by omega)] at h8
        exact ⟨(hb.2 _).1, h8⟩
      have hv := hb.1
      refine gQ_chk ?_
      rw [w1_l.1.2.1, Int.toNat_natCast, w1_l.2.2]
      refine gQ_w1 (A := fun v_l y_l => v_l = fl (ctb V (B (2 * n_l)) (k : Int)) ∧ y_l = w) (m212x w1_l ⟨hm2.1, by omega⟩) (fun v_l y_l hy => ?_)
      obtain ⟨y1, y2⟩ := hy
      rw [y1, y2, e1_l, w1_l.1.2.1, Int.toNat_natCast, w1_l.2.2]
      have key_l : ∀ d_l : Bool, d_l = decide (B (2 * n_l + 1) = 1) → gQ (fb_238_158 217 ((2 * N : Nat) : Int) (cn (fbt V B N) k : Int) (k : Int) ((2 * n_l : Nat) : Int) (fl d_l) (fl (ctb V (B (2 * n_l)) (k : Int))) (k : Int) 229 w) (Sum.elim (fun y_l => ∃ (n_l : Nat) (w : gS), y_l = (217, ((2 * N : Nat) : Int), (cn (fbt V B N) k : Int), (k : Int), ((2 * n_l : Nat) : Int), w) ∧ n_l ≤ N ∧ Hm w V B ∧ Fg V B N k w ∧ gI w 229 k = fl (fitB V B (k : Int) n_l)) (fun a => ∃ w, a = Sum.inl (217, ((2 * N : Nat) : Int), (cn (fbt V B N) (k + 1) : Int), ((k + 1 : Nat) : Int), w) ∧ Hm w V B ∧ Fg V B N (k + 1) w)) := fun d_l hd_l => by
        unfold fb_238_158
        dsimp only
        rw [e2_l, Int.toNat_natCast]
        by_cases c : fl (ctb V (B (2 * n_l)) (k : Int)) = fl d_l
        · rw [if_pos c]
          refine gQ_chk (gQ_bool (gQ_ret ⟨n_l + 1, _, rfl, by omega, Hm_w w1_l (Or.inr rfl), Fg_w w2_l, ?_⟩))
          rw [rd_same rfl, es, ← hd_l, fl_q.mp c]
          rfl
        · rw [if_neg c]
          refine gQ_chk (gQ_bool (gQ_ret ⟨n_l + 1, _, rfl, by omega, Hm_w w1_l (Or.inr rfl), Fg_w w2_l, ?_⟩))
          have hne : (ctb V (B (2 * n_l)) (k : Int) == d_l) = false := by
            cases hx : (ctb V (B (2 * n_l)) (k : Int) == d_l) with
            | false => rfl
            | true => exact absurd (fl_q.mpr hx) c
          rw [rd_same rfl, es, ← hd_l, hne]
          rfl
      refine gQ_chk ?_
      by_cases c5 : B (2 * n_l + 1) = 1
      · rw [if_pos c5]
        exact key_l true (decide_eq_true c5).symm
      · rw [if_neg c5]
        exact key_l false (decide_eq_false c5).symm
  · rw [if_neg c1]
    have en : n_l = N := by omega
    rw [en] at w3_l
    exact gQ_map (fin_l w w1_l w2_l w3_l)
theorem m238 (h : Hm (gw s 217 8 0) V B) (hb : Hb V B) (hl : gI s 217 8 = (l : Int)) (hl4 : l ≤ 400) : gQ (f_238 217 s) (fun r => (gdT V B l ∧ r.2.1 = (cn (fbt V B (l / 2)) 64 : Int) ∧ Hm r.2.2.2 V B ∧ Fg V B (l / 2) 64 r.2.2.2) ∨ (¬ gdT V B l ∧ r.2.1 = -1)) := by
  have bad_l : ∀ z_l, ¬ gdT V B l → gQ (fb_238_76 217 (l : Int) 0 z_l) (fun r => (gdT V B l ∧ r.2.1 = (cn (fbt V B (l / 2)) 64 : Int) ∧ Hm r.2.2.2 V B ∧ Fg V B (l / 2) 64 r.2.2.2) ∨ (¬ gdT V B l ∧ r.2.1 = -1)) := fun z_l hn => by
    unfold fb_238_76
    rw [if_pos rfl]
    exact gQ_ret (Or.inr ⟨hn, rfl⟩)
  have lp0 : ¬ gdT V B l → gQ (fb_238_26 217 (l : Int) (gw s 217 8 0)) (fun r => (gdT V B l ∧ r.2.1 = (cn (fbt V B (l / 2)) 64 : Int) ∧ Hm r.2.2.2 V B ∧ Fg V B (l / 2) 64 r.2.2.2) ∨ (¬ gdT V B l ∧ r.2.1 = -1)) := fun hn => by
    unfold fb_238_26 fb_238_27
    refine gQ_loop (fun y_l => y_l = (217, (l : Int), 0, 0, gw s 217 8 0)) (fun y_l hy => ?_) rfl
    rw [hy]
    show gQ (sb_238_30 217 (l : Int) 0 0 (gw s 217 8 0)) _
    unfold sb_238_30
    exact gQ_ite (by rw [if_pos rfl]; exact gQ_map (bad_l _ hn)) (gQ_map (bad_l _ hn))
  unfold f_238
  dsimp only
  rw [hl, rem2 l (by omega)]
  by_cases c2 : ((l % 2 : Nat) : Int) = 0
  · rw [if_pos c2]
    by_cases c1 : 40 < (l : Int)
    · rw [if_pos c1]
      exact lp0 (fun g_l => by have := g_l.1; omega)
    rw [if_neg c1]
    unfold fb_238_27
    refine gQ_loop (fun y_l => ∃ k_l : Nat, y_l = (217, (l : Int), fl (tlb V B k_l), (k_l : Int), gw s 217 8 0) ∧ k_l ≤ l) (fun y_l hy => ?_) ⟨0, rfl, by omega⟩
    obtain ⟨k_l, rfl, hk⟩ := hy
    show gQ (sb_238_30 217 (l : Int) (fl (tlb V B k_l)) (k_l : Int) (gw s 217 8 0)) _
    have hno : tlb V B k_l = false → ¬ gdT V B l := fun hx g_l => by
      have h9 := tlb_le g_l.2.2 hk
      rw [hx] at h9
      cases h9
    unfold sb_238_30
    by_cases c3 : (k_l : Int) < (l : Int)
    · rw [if_pos c3]
      cases hx : tlb V B k_l with
      | false =>
        rw [if_pos (show fl false = 0 from rfl)]
        exact gQ_map (bad_l _ (hno hx))
      | true =>
        rw [if_neg (show ¬ fl true = 0 by decide)]
        refine gQ_chk ?_
        rw [rem2 k_l (by omega), h.1.1, h.1.2.1, h.2.1, Int.toNat_natCast, h.2.2]
        have eg : g32 ((k_l : Int) + 1) = ((k_l + 1 : Nat) : Int) := (g32_eq (by omega) (by omega)).trans (by omega)
        have et : tlb V B (k_l + 1) = (tlb V B k_l && decide (B k_l < if k_l % 2 = 0 then V 5 else 2)) := rfl
        rw [hx, Bool.true_and] at et
        have key_l : ∀ q_l : Int, q_l = (if k_l % 2 = 0 then V 5 else 2) → gQ (fb_238_61 217 (l : Int) (k_l : Int) q_l (B k_l) (gw s 217 8 0)) (Sum.elim (fun y_l => ∃ k_l : Nat, y_l = (217, (l : Int), fl (tlb V B k_l), (k_l : Int), gw s 217 8 0) ∧ k_l ≤ l) (fun r => (gdT V B l ∧ r.2.1 = (cn (fbt V B (l / 2)) 64 : Int) ∧ Hm r.2.2.2 V B ∧ Fg V B (l / 2) 64 r.2.2.2) ∨ (¬ gdT V B l ∧ r.2.1 = -1))) := fun q_l hq => by
          rw [← hq] at et
          unfold fb_238_61
          rw [eg]
          by_cases c5 : B k_l < q_l
          · rw [if_pos c5]
            exact gQ_ret ⟨k_l + 1, by rw [et, decide_eq_true c5]; rfl, by omega⟩
          · rw [if_neg c5]
            exact gQ_ret ⟨k_l + 1, by rw [et, decide_eq_false c5]; rfl, by omega⟩
        by_cases c4 : ((k_l % 2 : Nat) : Int) = 0
        · rw [if_pos c4]
          exact key_l _ (by rw [if_pos (by omega)])
        · rw [if_neg c4]
          exact key_l _ (by rw [if_neg (by omega)])
    · rw [if_neg c3]
      have ek : k_l = l := by omega
      cases hx : tlb V B k_l with
      | false => exact gQ_map (bad_l _ (hno hx))
      | true =>
        rw [ek] at hx
        have good_l : gdT V B l := ⟨by omega, by omega, hx⟩
        obtain ⟨N_l, hN_l⟩ : ∃ N_l, l = 2 * N_l := ⟨l / 2, by omega⟩
        have hN2 : l / 2 = N_l := by omega
        have hN3 : N_l ≤ 20 := by omega
        refine gQ_map ?_
        unfold fb_238_76
        rw [if_neg (show ¬ fl true = 0 by decide)]
        refine gQ_mo (P := fun r => r.2.1 = (cn (fbt V B N_l) 64 : Int) ∧ Hm r.2.2.2 V B ∧ Fg V B N_l 64 r.2.2.2) ?_ (fun r hr => Or.inl ⟨good_l, by rw [hN2]; exact hr.1, hr.2.1, by rw [hN2]; exact hr.2.2⟩)
        rw [hN_l] at hx ⊢
        refine gQ_loop (fun y_l => ∃ (k_l : Nat) (w_l : gS), (1 ≤ k_l ∧ k_l ≤ 64) ∧ y_l = (217, ((2 * N_l : Nat) : Int), (cn (fbt V B N_l) k_l : Int), (k_l : Int), w_l) ∧ Hm w_l V B ∧ Fg V B N_l k_l w_l) (fun y_l hy => ?_) ⟨1, gw s 217 8 0, by decide, rfl, h, fun i_l h1 h2 => by omega⟩
        obtain ⟨k_l, w_l, hk, rfl, w1_l, w2_l⟩ := hy
        show gQ (sb_238_87 217 ((2 * N_l : Nat) : Int) (cn (fbt V B N_l) k_l : Int) (k_l : Int) w_l) _
        unfold sb_238_87
        by_cases c6 : (k_l : Int) < 64
        · rw [if_pos c6]
          refine gQ_chk (gQ_bool ?_)
          dsimp only
          rw [w1_l.1.2.2, Int.toNat_natCast]
          refine gQ_mo (m238l hb hN3 hx ⟨hk.1, by omega⟩ (Hm_w w1_l (Or.inr rfl)) (Fg_w w2_l) (rd_same rfl)) (fun a_l ha_l => ?_)
          obtain ⟨w', e_l, e1_l, e2_l⟩ := ha_l
          rw [e_l]
          exact ⟨k_l + 1, w', by omega, rfl, e1_l, e2_l⟩
        · rw [if_neg c6]
          have e6_l : k_l = 64 := by omega
          rw [e6_l] at w2_l ⊢
          exact gQ_map (gQ_ret ⟨rfl, w1_l, w2_l⟩)
  · rw [if_neg c2]
    exact lp0 (fun g_l => by have := g_l.2.1; omega)
/-- seen, the model -/
theorem m239 (h : Hm (gw s 217 8 0) V B) (hb : Hb V B) (hl : gI s 217 8 = (l : Int)) (hl4 : l ≤ 400) : gQ (f_239 217 a1 s) (fun r => (gdT V B l ∧ gI r.2.2.2 217 0 = 0 ∧ r.2.1 = sure (fbt V B (l / 2)) a1) ∨ (¬ gdT V B l ∧ gI r.2.2.2 217 0 = 1)) := by
  have f0_l : fbt V B (l / 2) 0 = false := rfl
  unfold f_239
  refine gQ_w1 (A := fun v_l y_l => (gdT V B l ∧ v_l = (cn (fbt V B (l / 2)) 64 : Int) ∧ Hm y_l V B ∧ Fg V B (l / 2) 64 y_l) ∨ (¬ gdT V B l ∧ v_l = -1)) (m238 h hb hl hl4) (fun v_l y_l hy => ?_)
  rcases hy with ⟨g1, g2, g3_l, g4⟩ | ⟨g1, g2⟩
  · have hF : ∀ i_l : Nat, 1 ≤ i_l → i_l < 64 → gI y_l 229 i_l = fl (fbt V B (l / 2) i_l) := fun i_l h1 h2 => by
      rw [g4 i_l h1 h2]
      unfold fbt
      rw [decide_eq_true h1, Bool.true_and]
    rw [g2]
    generalize fbt V B (l / 2) = b at f0_l hF
    have hlp : ∀ q_l : Int, (q_l = 63 ∨ ∀ i_l, i_l < 64 → b i_l = false) → q_l = (if cn b 64 = 0 then 0 else 63) → a1 ≠ 0 → gQ (fb_239_53 217 q_l (gw y_l 217 0 0)) (fun r => (gdT V B l ∧ gI r.2.2.2 217 0 = 0 ∧ r.2.1 = sure b a1) ∨ (¬ gdT V B l ∧ gI r.2.2.2 217 0 = 1)) := fun q_l hq hq2 ha_l => by
      unfold fb_239_53
      refine gQ_loop (fun y' => ∃ k_l : Nat, (1 ≤ k_l ∧ k_l ≤ 64) ∧ y' = (217, cmF b q_l k_l, (k_l : Int), gw y_l 217 0 0)) (fun y' hy => ?_) ⟨1, by decide, by rw [cmF_1 f0_l]; rfl⟩
      obtain ⟨k_l, hk, rfl⟩ := hy
      show gQ (sb_239_57 217 (cmF b q_l k_l) (k_l : Int) (gw y_l 217 0 0)) _
      unfold sb_239_57
      have eg : g32 ((k_l : Int) + 1) = ((k_l + 1 : Nat) : Int) := (g32_eq (by omega) (by omega)).trans (by omega)
      have ec : cmF b q_l (k_l + 1) = (if b k_l = true then gand (cmF b q_l k_l) (k_l : Int) else cmF b q_l k_l) := rfl
      by_cases c4 : (k_l : Int) < 64
      · have e9_l : gI (gw y_l 217 0 0) 229 k_l = fl (b k_l) := (rd_a rfl (by decide)).trans (hF k_l hk.1 (by omega))
        rw [if_pos c4, eg, show gR (gw y_l 217 0 0) 217 23 = 229 from g3_l.1.2.2, Int.toNat_natCast, e9_l]
        refine gQ_chk ?_
        cases hx : b k_l with
        | false =>
          rw [if_pos (show fl false = 0 from rfl)]
          refine gQ_ret ⟨k_l + 1, by omega, ?_⟩
          rw [ec, hx, if_neg Bool.false_ne_true]
        | true =>
          rw [if_neg (show ¬ fl true = 0 by decide)]
          refine gQ_ret ⟨k_l + 1, by omega, ?_⟩
          rw [ec, hx, if_pos rfl]
      · rw [if_neg c4]
        have ek : k_l = 64 := by omega
        rw [ek]
        refine gQ_map (gQ_ret (Or.inl ⟨g1, rd_same rfl, ?_⟩))
        unfold sure
        dsimp only
        rw [if_neg ha_l]
        by_cases c7 : cn b 64 = 0
        · rw [if_pos c7, cmF_0 64 ((cn_0 64).mp c7), hq2, if_pos c7]
        · rw [if_neg c7, hq2, if_neg c7]
    rw [if_neg (by omega)]
    unfold fb_239_16
    dsimp only
    rw [m0, if_neg (by decide)]
    by_cases c1 : a1 = 0
    · rw [if_pos c1]
      unfold fb_239_30
      rw [m0, if_neg (by decide)]
      refine gQ_ret (Or.inl ⟨g1, rd_same rfl, ?_⟩)
      unfold sure
      rw [if_pos c1]
    · rw [if_neg c1]
      by_cases c2 : cn b 64 = 0
      · rw [if_pos (by omega)]
        exact hlp 0 (Or.inr ((cn_0 64).mp c2)) (by rw [if_pos c2]) c1
      · rw [if_neg (by omega)]
        exact hlp 63 (Or.inl rfl) (by rw [if_neg c2]) c1
  · rw [g2, if_pos rfl]
    unfold fb_239_16 fb_239_30
    dsimp only
    rw [m0, if_pos (by decide), if_pos (by decide)]
    exact gQ_ret (Or.inr ⟨g1, rd_same rfl⟩)
/-- ask: how many of the sets are caught -/
theorem cg_le (n : Nat) {t : Nat} : cn (cgF b V t) n ≤ cn b n := by
  induction n with
  | zero => exact Nat.le_refl 0
  | succ n ih_l =>
    show cn (cgF b V t) n + (if (b n && ctb V (t : Int) (n : Int)) = true then 1 else 0) ≤ cn b n + (if b n = true then 1 else 0)
    cases b n
    · rw [Bool.false_and]
      omega
    · rw [Bool.true_and, if_pos (show true = true from rfl)]
      split <;> omega
theorem c145 (h : Hc z V B) (hb : Hb V B) (f0 : b 0 = false) {t : Nat} (ht : (t : Int) < V 5) : gQ (f_145 0 (ti (bm b 64)) (t : Int) z) (fun r => r.2.1 = (cn (cgF b V t) 64 : Int) ∧ r.2.2.2 = z) := by
  have e1_l : cn (cgF b V t) 1 = 0 := by
    show 0 + (if (b 0 && ctb V (t : Int) ((0 : Nat) : Int)) = true then 1 else 0) = 0
    rw [f0]
    rfl
  unfold f_145
  refine gQ_loop (fun y_l => ∃ k_l : Nat, (1 ≤ k_l ∧ k_l ≤ 64) ∧ y_l = (0, ti (bm b 64), (t : Int), (cn (cgF b V t) k_l : Int), (k_l : Int), z)) (fun y_l hy => ?_) ⟨1, by decide, by rw [e1_l]; rfl⟩
  obtain ⟨k_l, hk, rfl⟩ := hy
  show gQ (sb_145_6 0 (ti (bm b 64)) (t : Int) (cn (cgF b V t) k_l : Int) (k_l : Int) z) _
  unfold sb_145_6
  have eg : g32 ((k_l : Int) + 1) = ((k_l + 1 : Nat) : Int) := (g32_eq (by omega) (by omega)).trans (by omega)
  have hc_l := cn_le (b := cgF b V t) k_l
  have ec : cn (cgF b V t) (k_l + 1) = cn (cgF b V t) k_l + (if (b k_l && ctb V (t : Int) (k_l : Int)) = true then 1 else 0) := rfl
  by_cases c4 : (k_l : Int) < 64
  · rw [if_pos c4, eg]
    by_cases c5 : b k_l = false
    · rw [if_pos ((bit_c (by omega)).mpr c5)]
      refine gQ_ret ⟨k_l + 1, by omega, ?_⟩
      rw [ec, c5]
      rfl
    · rw [if_neg (fun hz => c5 ((bit_c (by omega)).mp hz)), h.1.2.2.1]
      have c6_l : b k_l = true := by cases hx : b k_l with | true => rfl | false => exact absurd hx c5
      refine gQ_w1 (A := fun v_l y_l => v_l = fl (ctb V (t : Int) (k_l : Int)) ∧ y_l = z) (c4x h hb ⟨by omega, ht⟩) (fun v_l y_l hy => ?_)
      obtain ⟨y1, y2⟩ := hy
      rw [y1, y2]
      rw [c6_l, Bool.true_and] at ec
      cases hx : ctb V (t : Int) (k_l : Int) with
      | false =>
        rw [if_pos (show fl false = 0 from rfl)]
        refine gQ_ret ⟨k_l + 1, by omega, ?_⟩
        rw [ec, hx]
        rfl
      | true =>
        rw [if_neg (show ¬ fl true = 0 by decide), g32_eq (by omega) (by omega)]
        refine gQ_ret ⟨k_l + 1, by omega, ?_⟩
        rw [ec, hx]
        rfl
  · rw [if_neg c4]
    have ek : k_l = 64 := by omega
    rw [ek]
    exact gQ_map (gQ_ret ⟨rfl, rfl⟩)
theorem gr_b {t : Nat} : 0 ≤ grF b V t ∧ grF b V t ≤ 64 := by
  have h1 := cn_le (b := b) 64
  have h2 := cg_le (b := b) (V := V) (t := t) 64
  unfold grF
  omega
theorem ak_b (n : Nat) : ((akF b V n).1 = -1 ∧ n = 0) ∨ (0 ≤ (akF b V n).1 ∧ 1 ≤ n ∧ 0 ≤ (akF b V n).2 ∧ (akF b V n).2 ≤ 64) := by
  induction n with
  | zero => exact Or.inl ⟨rfl, rfl⟩
  | succ n ih_l =>
    have hg := gr_b (b := b) (V := V) (t := n)
    right
    show 0 ≤ (if (akF b V n).1 = -1 ∨ grF b V n < (akF b V n).2 then ((n : Int), grF b V n) else akF b V n).1 ∧ 1 ≤ n + 1 ∧ 0 ≤ (if (akF b V n).1 = -1 ∨ grF b V n < (akF b V n).2 then ((n : Int), grF b V n) else akF b V n).2 ∧ (if (akF b V n).1 = -1 ∨ grF b V n < (akF b V n).2 then ((n : Int), grF b V n) else akF b V n).2 ≤ 64
    by_cases c : (akF b V n).1 = -1 ∨ grF b V n < (akF b V n).2
    · rw [if_pos c]
      exact ⟨Int.natCast_nonneg n, by omega, hg.1, hg.2⟩
    · rw [if_neg c]
      rcases ih_l with ⟨i1_l, i2_l⟩ | ⟨i1_l, i2_l, i3_l, i4_l⟩
      · exact absurd (Or.inl i1_l) c
      · exact ⟨i1_l, by omega, i3_l, i4_l⟩
theorem c115 (h : Hc (gw s 1 1 0) V B) (hb : Hb V B) (h0 : gR s 0 0 = 1) (hl : gI s 1 1 = (l : Int)) (hl4 : l ≤ 400) : gQ (f_115 0 s) (fun r => (gdT V B l ∧ r.1 = 1 ∧ r.2.1 = askd (fbt V B (l / 2)) V) ∨ (¬ gdT V B l ∧ r.1 = 2)) := by
  have f0_l : fbt V B (l / 2) 0 = false := rfl
  have hv := hb.1
  unfold f_115
  refine gQ_e1 (c142 h hb h0 hl hl4) (fun r hr c_l => ?_) (fun r hr c_l => ?_)
  · rcases hr with ⟨g1, -, g2, g3_l⟩ | ⟨-, g1⟩
    · rw [g2, g3_l]
      clear g2 g3_l
      generalize fbt V B (l / 2) = b at f0_l
      rw [p_265]
      obtain ⟨C_l, hC⟩ : ∃ C_l : Nat, cn b 64 = C_l := ⟨_, rfl⟩
      obtain ⟨D_l, hD⟩ : ∃ D_l : Nat → Nat, ∀ n_l, cn (cgF b V n_l) 64 = D_l n_l := ⟨fun n_l => cn (cgF b V n_l) 64, fun n_l => rfl⟩
      have hcg : ∀ n_l, D_l n_l ≤ C_l := fun n_l => by
        rw [← hD, ← hC]
        exact cg_le 64
      have hgr : ∀ n_l, max (D_l n_l : Int) ((C_l : Int) - (D_l n_l : Int)) = grF b V n_l := fun n_l => by
        rw [← hD, ← hC]
        rfl
      have hask : ∀ _ : Unit, askd b V = if C_l < 2 then -1 else (akF b V (V 5).toNat).1 := fun _ => by
        rw [← hC]
        rfl
      have hc64 : C_l ≤ 64 := by
        rw [← hC]
        exact cn_le 64
      have h145 : ∀ n_l : Nat, (n_l : Int) < V 5 → gQ (f_145 0 (ti (bm b 64)) (n_l : Int) (gw s 1 1 0)) (fun r => r.2.1 = (D_l n_l : Int) ∧ r.2.2.2 = gw s 1 1 0) := fun n_l hn => by
        rw [← hD]
        exact c145 h hb f0_l hn
      rw [hC]
      clear hC hD
      refine gQ_w1 (A := fun v_l y_l => v_l = (C_l : Int) ∧ y_l = gw s 1 1 0) (gQ_ret ⟨rfl, rfl⟩) (fun v_l y_l hy => ?_)
      obtain ⟨y1, y2⟩ := hy
      rw [y1, y2]
      refine gQ_loop (fun y' => ∃ n_l : Nat, (n_l : Int) ≤ V 5 ∧ (n_l = 0 ∨ 2 ≤ C_l) ∧ y' = (0, ti (bm b 64), (C_l : Int), (akF b V n_l).1, (akF b V n_l).2, (n_l : Int), gw s 1 1 0)) (fun y' hy => ?_) ⟨0, by omega, Or.inl rfl, rfl⟩
      obtain ⟨n_l, hn, hn2, rfl⟩ := hy
      show gQ (sb_115_19 0 (ti (bm b 64)) (C_l : Int) (akF b V n_l).1 (akF b V n_l).2 (n_l : Int) (gw s 1 1 0)) _
      have eg : g32 ((n_l : Int) + 1) = ((n_l + 1 : Nat) : Int) := (g32_eq (by omega) (by omega)).trans (by omega)
      unfold sb_115_19
      rw [h.1.2.2.1, h.2.1]
      by_cases c1 : (n_l : Int) < V 5
      · rw [if_pos c1]
        by_cases c2 : (C_l : Int) < 2
        · rw [if_pos c2]
          have e0_l : n_l = 0 := by omega
          refine gQ_map (gQ_ret (Or.inl ⟨g1, rfl, ?_⟩))
          rw [hask (), if_pos (by omega), e0_l]
          rfl
        · rw [if_neg c2]
          refine gQ_w1 (A := fun v_l y_l => v_l = (D_l n_l : Int) ∧ y_l = gw s 1 1 0) (h145 n_l c1) (fun v_l y_l hy => ?_)
          obtain ⟨y3, y4⟩ := hy
          have hcgn := hcg n_l
          have em : max v_l (g32 ((C_l : Int) - v_l)) = grF b V n_l := by
            rw [y3, g32_eq (by omega) (by omega)]
            exact hgr n_l
          have ea : akF b V (n_l + 1) = (if (akF b V n_l).1 = -1 ∨ grF b V n_l < (akF b V n_l).2 then ((n_l : Int), grF b V n_l) else akF b V n_l) := rfl
          dsimp only
          rw [em, y4]
          have upd_l : (akF b V n_l).1 = -1 ∨ grF b V n_l < (akF b V n_l).2 → gQ (fb_115_69 0 (ti (bm b 64)) (C_l : Int) (n_l : Int) (grF b V n_l) (gw s 1 1 0)) (Sum.elim (fun y' => ∃ n_l : Nat, (n_l : Int) ≤ V 5 ∧ (n_l = 0 ∨ 2 ≤ C_l) ∧ y' = (0, ti (bm b 64), (C_l : Int), (akF b V n_l).1, (akF b V n_l).2, (n_l : Int), gw s 1 1 0)) (fun r => (gdT V B l ∧ r.1 = 1 ∧ r.2.1 = askd b V) ∨ (¬ gdT V B l ∧ r.1 = 2))) := fun hu => by
            unfold fb_115_69
            refine gQ_ret ⟨n_l + 1, by omega, Or.inr (by omega), ?_⟩
            rw [ea, if_pos hu, eg]
          by_cases c3 : (akF b V n_l).1 = -1
          · rw [if_pos c3]
            exact upd_l (Or.inl c3)
          · rw [if_neg c3]
            by_cases c4 : grF b V n_l < (akF b V n_l).2
            · rw [if_pos c4]
              exact upd_l (Or.inr c4)
            · rw [if_neg c4]
              refine gQ_ret ⟨n_l + 1, by omega, Or.inr (by omega), ?_⟩
              rw [ea, if_neg (fun hu => hu.elim c3 c4), eg]
      · rw [if_neg c1]
        have en : (V 5).toNat = n_l := by omega
        refine gQ_map (gQ_ret (Or.inl ⟨g1, rfl, ?_⟩))
        rw [hask (), en]
        by_cases c2 : C_l < 2
        · rw [if_pos c2]
          have e0_l : n_l = 0 := by omega
          rw [e0_l]
          rfl
        · rw [if_neg c2]
    · omega
  · rcases hr with ⟨-, g1, -⟩ | ⟨g1, g2⟩
    · omega
    · exact Or.inr ⟨g1, g2⟩
theorem m152 {x y : Int} {z : gS} : gQ (f_152 x y z) (fun r => r.2.1 = max x y ∧ r.2.2.2 = z) := by
  unfold f_152
  by_cases c : y < x
  · rw [if_pos c]
    exact gQ_ret ⟨by dsimp only; omega, rfl⟩
  · rw [if_neg c]
    exact gQ_ret ⟨by dsimp only; omega, rfl⟩
theorem m240 (h : Hm (gw s 217 8 0) V B) (hb : Hb V B) (hl : gI s 217 8 = (l : Int)) (hl4 : l ≤ 400) : gQ (f_240 217 s) (fun r => (gdT V B l ∧ gI r.2.2.2 217 0 = 0 ∧ r.2.1 = askd (fbt V B (l / 2)) V) ∨ (¬ gdT V B l ∧ gI r.2.2.2 217 0 = 1)) := by
  have f0_l : fbt V B (l / 2) 0 = false := rfl
  have hv := hb.1
  unfold f_240
  refine gQ_w1 (A := fun v_l y_l => (gdT V B l ∧ v_l = (cn (fbt V B (l / 2)) 64 : Int) ∧ Hm y_l V B ∧ Fg V B (l / 2) 64 y_l) ∨ (¬ gdT V B l ∧ v_l = -1)) (m238 h hb hl hl4) (fun v_l y_l hy => ?_)
  rcases hy with ⟨g1, g2, g3_l, g4⟩ | ⟨g1, g2⟩
  · have hF : ∀ i_l : Nat, 1 ≤ i_l → i_l < 64 → gI y_l 229 i_l = fl (fbt V B (l / 2) i_l) := fun i_l h1 h2 => by
      rw [g4 i_l h1 h2]
      unfold fbt
      rw [decide_eq_true h1, Bool.true_and]
    rw [g2]
    generalize fbt V B (l / 2) = b at f0_l hF
    clear g2 g4
    obtain ⟨C_l, hC⟩ : ∃ C_l : Nat, cn b 64 = C_l := ⟨_, rfl⟩
    have hcg : ∀ n_l, cn (cgF b V n_l) 64 ≤ C_l := fun n_l => by
      rw [← hC]
      exact cg_le 64
    have hgr : ∀ n_l D_l : Nat, cn (cgF b V n_l) 64 = D_l → max (D_l : Int) ((C_l : Int) - (D_l : Int)) = grF b V n_l := fun n_l D_l hD => by
      rw [← hD, ← hC]
      rfl
    have hask : ∀ _ : Unit, askd b V = if C_l < 2 then -1 else (akF b V (V 5).toNat).1 := fun _ => by
      rw [← hC]
      rfl
    have hc64 : C_l ≤ 64 := by
      rw [← hC]
      exact cn_le 64
    rw [hC]
    clear hC
    have hH : Hm (gw y_l 217 0 0) V B := Hm_w g3_l (Or.inl rfl)
    rw [if_neg (by omega)]
    unfold fb_240_16
    dsimp only
    rw [m0, if_neg (by decide)]
    refine gQ_loop (fun y' => ∃ n_l : Nat, (n_l : Int) ≤ V 5 ∧ (n_l = 0 ∨ 2 ≤ C_l) ∧ y' = (217, (C_l : Int), (akF b V n_l).1, (if (akF b V n_l).1 = -1 then 2000000000 else (akF b V n_l).2), (n_l : Int), gw y_l 217 0 0)) (fun y' hy => ?_) ⟨0, by omega, Or.inl rfl, rfl⟩
    obtain ⟨n_l, hn, hn2, rfl⟩ := hy
    show gQ (sb_240_37 217 (C_l : Int) (akF b V n_l).1 (if (akF b V n_l).1 = -1 then 2000000000 else (akF b V n_l).2) (n_l : Int) (gw y_l 217 0 0)) _
    have eg : g32 ((n_l : Int) + 1) = ((n_l + 1 : Nat) : Int) := (g32_eq (by omega) (by omega)).trans (by omega)
    unfold sb_240_37
    rw [hH.1.1, hH.2.1]
    by_cases c1 : (n_l : Int) < V 5
    · rw [if_pos c1]
      by_cases c2 : 1 < (C_l : Int)
      · rw [if_pos c2]
        have e1_l : cn (cgF b V n_l) 1 = 0 := by
          show 0 + (if (b 0 && ctb V (n_l : Int) ((0 : Nat) : Int)) = true then 1 else 0) = 0
          rw [f0_l]
          rfl
        refine gQ_loop (fun y' => ∃ k_l : Nat, (1 ≤ k_l ∧ k_l ≤ 64) ∧ y' = (217, (C_l : Int), (akF b V n_l).1, (if (akF b V n_l).1 = -1 then 2000000000 else (akF b V n_l).2), (n_l : Int), (cn (cgF b V n_l) k_l : Int), (k_l : Int), gw y_l 217 0 0)) (fun y' hy => ?_) ⟨1, by decide, by rw [e1_l]; rfl⟩
        obtain ⟨k_l, hk, rfl⟩ := hy
        show gQ (sb_240_59 217 (C_l : Int) (akF b V n_l).1 (if (akF b V n_l).1 = -1 then 2000000000 else (akF b V n_l).2) (n_l : Int) (cn (cgF b V n_l) k_l : Int) (k_l : Int) (gw y_l 217 0 0)) _
        have ek : g32 ((k_l : Int) + 1) = ((k_l + 1 : Nat) : Int) := (g32_eq (by omega) (by omega)).trans (by omega)
        have hc_l := cn_le (b := cgF b V n_l) k_l
        have ec : cn (cgF b V n_l) (k_l + 1) = cn (cgF b V n_l) k_l + (if (b k_l && ctb V (n_l : Int) (k_l : Int)) = true then 1 else 0) := rfl
        unfold sb_240_59
        by_cases c4 : (k_l : Int) < 64
        · have e9_l : gI (gw y_l 217 0 0) 229 k_l = fl (b k_l) := (rd_a rfl (by decide)).trans (hF k_l hk.1 (by omega))
          rw [if_pos c4, hH.1.2.2, Int.toNat_natCast, e9_l]
          have same_l : (b k_l && ctb V (n_l : Int) (k_l : Int)) = false → gQ (fb_240_93 217 (C_l : Int) (akF b V n_l).1 (if (akF b V n_l).1 = -1 then 2000000000 else (akF b V n_l).2) (n_l : Int) (k_l : Int) (cn (cgF b V n_l) k_l : Int) (gw y_l 217 0 0)) (Sum.elim (fun y' => ∃ k_l : Nat, (1 ≤ k_l ∧ k_l ≤ 64) ∧ y' = (217, (C_l : Int), (akF b V n_l).1, (if (akF b V n_l).1 = -1 then 2000000000 else (akF b V n_l).2), (n_l : Int), (cn (cgF b V n_l) k_l : Int), (k_l : Int), gw y_l 217 0 0)) (Sum.elim (fun y' => ∃ n_l : Nat, (n_l : Int) ≤ V 5 ∧ (n_l = 0 ∨ 2 ≤ C_l) ∧ y' = (217, (C_l : Int), (akF b V n_l).1, (if (akF b V n_l).1 = -1 then 2000000000 else (akF b V n_l).2), (n_l : Int), gw y_l 217 0 0)) (fun r => (gdT V B l ∧ gI r.2.2.2 217 0 = 0 ∧ r.2.1 = askd b V) ∨ (¬ gdT V B l ∧ gI r.2.2.2 217 0 = 1)))) := fun hx => by
            unfold fb_240_93
            refine gQ_ret ⟨k_l + 1, by omega, ?_⟩
            rw [ec, hx, if_neg Bool.false_ne_true, ek, Int.add_zero, g32_eq (v := (cn (cgF b V n_l) k_l : Int)) (by omega) (by omega)]
            rfl
          refine gQ_chk ?_
          cases hx : b k_l with
          | false =>
            rw [if_pos (show fl false = 0 from rfl)]
            exact same_l (by rw [hx]; rfl)
          | true =>
            rw [if_neg (show ¬ fl true = 0 by decide)]
            refine gQ_w1 (A := fun v_l y' => v_l = fl (ctb V (n_l : Int) (k_l : Int)) ∧ y' = gw y_l 217 0 0) (m212x hH ⟨by omega, by omega⟩) (fun v_l y' hy => ?_)
            obtain ⟨y3, y4⟩ := hy
            rw [y3, y4]
            cases hz : ctb V (n_l : Int) (k_l : Int) with
            | false =>
              rw [if_pos (show fl false = 0 from rfl)]
              exact same_l (by rw [hx, hz]; rfl)
            | true =>
              rw [if_neg (show ¬ fl true = 0 by decide)]
              refine gQ_ret ⟨k_l + 1, by omega, ?_⟩
              rw [ec, hx, hz, ek, g32_eq (v := (cn (cgF b V n_l) k_l : Int) + 1) (by omega) (by omega)]
              rfl
        · rw [if_neg c4]
          have ek4 : k_l = 64 := by omega
          have hcgn := hcg n_l
          have hgrn := hgr n_l
          clear hcg hgr
          rw [ek4]
          generalize cn (cgF b V n_l) 64 = D_l at hcgn hgrn
          rw [g32_eq (v := (C_l : Int) - (D_l : Int)) (by omega) (by omega)]
          have ea : akF b V (n_l + 1) = (if (akF b V n_l).1 = -1 ∨ grF b V n_l < (akF b V n_l).2 then ((n_l : Int), grF b V n_l) else akF b V n_l) := rfl
          have hg := gr_b (b := b) (V := V) (t := n_l)
          refine gQ_map (gQ_w1 (A := fun v_l y' => v_l = grF b V n_l ∧ y' = gw y_l 217 0 0) (gQ_mo m152 (fun r hr => ⟨hr.1.trans (hgrn D_l rfl), hr.2⟩)) (fun v_l y' hy => ?_))
          obtain ⟨y3, y4⟩ := hy
          rw [y3, y4]
          have hq : grF b V n_l < (if (akF b V n_l).1 = -1 then 2000000000 else (akF b V n_l).2) ↔ ((akF b V n_l).1 = -1 ∨ grF b V n_l < (akF b V n_l).2) := by
            by_cases c5 : (akF b V n_l).1 = -1
            · rw [if_pos c5]
              exact ⟨fun _ => Or.inl c5, fun _ => by omega⟩
            · rw [if_neg c5]
              exact ⟨Or.inr, fun hu => hu.resolve_left c5⟩
          by_cases c6 : (akF b V n_l).1 = -1 ∨ grF b V n_l < (akF b V n_l).2
          · rw [if_pos (hq.mpr c6)]
            refine gQ_w1 (A := fun v_l y' => v_l = grF b V n_l ∧ y' = gw y_l 217 0 0) (gQ_mo m152 (fun r hr => ⟨hr.1.trans (hgrn D_l rfl), hr.2⟩)) (fun v_l y' hy => ?_)
            obtain ⟨y5, y6⟩ := hy
            rw [y5, y6, eg]
            refine gQ_ret ⟨n_l + 1, by omega, Or.inr (by omega), ?_⟩
            rw [ea, if_pos c6]
            dsimp only
            rw [if_neg (show ¬ (n_l : Int) = -1 by omega)]
          · rw [if_neg (fun hz => c6 (hq.mp hz)), eg]
            refine gQ_ret ⟨n_l + 1, by omega, Or.inr (by omega), ?_⟩
            rw [ea, if_neg c6]
      · rw [if_neg c2]
        have e0_l : n_l = 0 := by omega
        refine gQ_map (gQ_ret (Or.inl ⟨g1, rd_same rfl, ?_⟩))
        rw [hask (), if_pos (by omega), e0_l]
        rfl
    · rw [if_neg c1]
      have en : (V 5).toNat = n_l := by omega
      refine gQ_map (gQ_ret (Or.inl ⟨g1, rd_same rfl, ?_⟩))
      rw [hask (), en]
      by_cases c2 : C_l < 2
      · rw [if_pos c2]
        have e0_l : n_l = 0 := by omega
        rw [e0_l]
        rfl
      · rw [if_neg c2]
  · rw [g2, if_pos rfl]
    unfold fb_240_16
    dsimp only
    rw [m0, if_pos (by decide)]
    exact gQ_ret (Or.inr ⟨g1, rd_same rfl⟩)
/-- both sides -/
theorem H_s (hJ : J p s) (h : RX s) : Hc (gw s 1 1 0) (fun k => gI s 218 k) (fun k => gI s 2 k) ∧ Hb (fun k => gI s 218 k) (fun k => gI s 2 k) := by
  have hg : RF s := hJ.1.2.1
  refine ⟨⟨⟨(rr_0_0 hg).2, (rr_1_0 hg).2, (rr_0_4 hg).2, (rr_9 hg).2.2.2.2⟩, (rd_a rfl (by decide)).trans (ce_n h.1).2.2.1, fun i_l hi_l => (rd_a rfl (by decide)).trans (ce_t h.1 hi_l (j := 1) (by decide)), fun k => rd_a rfl (by decide)⟩, (Jv hJ).2.2.1, fun k => J_ra hJ (a := 2) (k := k) (by decide) (by rw [k0_sp.1]; decide) rfl⟩
theorem H_u {p2 : gP} (hJ : J p s) (h : RX s) (hu : J p2 u) (hf : Fw WQ s u) : Hm (gw u 217 8 0) (fun k => gI s 218 k) (fun k => gI s 2 k) := by
  have hn := hJ.1.1
  have hg : RF u := hu.1.2.1
  refine ⟨⟨(rr_217_1 hg).2, (rr_217_7 hg).2, (rr_217_23 hg).2⟩, fun k => (rd_a rfl (by decide)).trans (WQ_8 hn hf k), fun k => (rd_a rfl (by decide)).trans ((hf.2.2 222 k (by omega) (WQ_n (by omega))).trans (h.1.2.1 k).symm)⟩
theorem tlen (hJ : J p s) (hp : p.2.1 = p.2.2.1) : ∃ l : Nat, gI s 1 1 = (l : Int) ∧ l ≤ 400 ∧ gI s 217 8 = (l : Int) := by
  have hl : gI s 1 1 = p.2.1 := hJ.2.2.1
  have hm_l : gI s 217 8 = p.2.2.1 := hJ.2.2.2.1
  have hb_l := J_f hJ (kd := 10) (a := 1) (i := 1) t10 rfl (fun z_l => by cases z_l) (x := 0) (y := 400) rfl
  exact ⟨(gI s 1 1).toNat, by omega, by omega, by omega⟩
theorem co_114 (hJ : J p s) (h : RX s) (hp : p.2.1 = p.2.2.1) : gQ (f_114 0 a1 s) (CoX st2 (f_239 217 a1) s) := by
  obtain ⟨l, l1, l2, l3⟩ := tlen hJ hp
  obtain ⟨h1, h2⟩ := H_s hJ h
  have hn := hJ.1.1
  refine fun r_l hr u_l p2_l hf hu hR q_l hq => ?_
  have hm_l := m239 (a1 := a1) (H_u hJ h hu hf) h2 (l := l) ((hf.2.2 217 8 (by omega) (WQ_n (by omega))).trans l3) l2 q_l hq
  rcases c114 (a1 := a1) h1 h2 (rr_0_0 hJ.1.2.1).2 l1 l2 r_l hr with ⟨g1, g2, g3_l⟩ | ⟨g1, g2⟩
  · rcases hm_l with ⟨-, m1_l, m2_l⟩ | ⟨m1_l, -⟩
    · refine ⟨?_, fun _ => m2_l.trans g3_l.symm⟩
      rw [m1_l, g2]
      rfl
    · exact absurd g1 m1_l
  · rcases hm_l with ⟨m1_l, -⟩ | ⟨-, m1_l⟩
    · exact absurd m1_l g1
    · refine ⟨?_, fun z_l => by omega⟩
      rw [m1_l, g2]
      rfl
theorem co_115 (hJ : J p s) (h : RX s) (hp : p.2.1 = p.2.2.1) : gQ (f_115 0 s) (CoX st2 (f_240 217) s) := by
  obtain ⟨l, l1, l2, l3⟩ := tlen hJ hp
  obtain ⟨h1, h2⟩ := H_s hJ h
  have hn := hJ.1.1
  refine fun r_l hr u_l p2_l hf hu hR q_l hq => ?_
  have hm_l := m240 (H_u hJ h hu hf) h2 (l := l) ((hf.2.2 217 8 (by omega) (WQ_n (by omega))).trans l3) l2 q_l hq
  rcases c115 h1 h2 (rr_0_0 hJ.1.2.1).2 l1 l2 r_l hr with ⟨g1, g2, g3_l⟩ | ⟨g1, g2⟩
  · rcases hm_l with ⟨-, m1_l, m2_l⟩ | ⟨m1_l, -⟩
    · refine ⟨?_, fun _ => m2_l.trans g3_l.symm⟩
      rw [m1_l, g2]
      rfl
    · exact absurd g1 m1_l
  · rcases hm_l with ⟨m1_l, -⟩ | ⟨-, m1_l⟩
    · exact absurd m1_l g1
    · refine ⟨?_, fun z_l => by omega⟩
      rw [m1_l, g2]
      rfl
theorem xc_300 (hJ : J p s) (h : RX s) (hp : p.2.1 = p.2.2.1) : gQ (f_300 0 a1 231 s) (fun r => Xc (f_239 217 a1) r.2.1 r.2.2.2) := by
  unfold f_300
  refine xc2 (st := st2) (fun _ => True) hJ.1.1 (co_114 hJ h hp) (fun r hr => o_114 hJ.1.2.1 cid rfl (Fw_rf hJ.1.1) r hr) (fun _ _ _ => trivial) rfl (fun v_l t_l _ => aX trivial) (fun k_l t_l => ?_) (fun u_l p hu _ q_l hq => (om_239 hu.1.2.1 um rfl (JF hu) q_l hq).2.2 231 0 (Nat.lt_of_lt_of_le (by decide) hu.1.1) rfl)
  by_cases c0 : k_l = 0
  · rw [if_pos c0, c0]
    exact gQ_ret ⟨rfl, (by decide : (1 : Int) ≠ 0), rfl⟩
  rw [if_neg c0]
  exact gQ_none
theorem xc_301 (hJ : J p s) (h : RX s) (hp : p.2.1 = p.2.2.1) : gQ (f_301 0 231 s) (fun r => Xc (f_240 217) r.2.1 r.2.2.2) := by
  unfold f_301
  refine xc2 (st := st2) (fun _ => True) hJ.1.1 (co_115 hJ h hp) (fun r hr => o_115 hJ.1.2.1 cid rfl (Fw_rf hJ.1.1) r hr) (fun _ _ _ => trivial) rfl (fun v_l t_l _ => aX trivial) (fun k_l t_l => ?_) (fun u_l p hu _ q_l hq => (om_240 hu.1.2.1 um rfl (JF hu) q_l hq).2.2 231 0 (Nat.lt_of_lt_of_le (by decide) hu.1.1) rfl)
  by_cases c0 : k_l = 0
  · rw [if_pos c0, c0]
    exact gQ_ret ⟨rfl, (by decide : (1 : Int) ≠ 0), rfl⟩
  rw [if_neg c0]
  exact gQ_none
end Rb

end
section
/-! the model's calls but book and law leave the fault as it is -/
def wff (a k : Nat) : Bool := !((Nat.beq a 217 && Nat.beq k 12) || (Nat.beq a 0 && Nat.beq k 16))
section Re
variable {W : Nat → Nat → Bool} {g s t : gS}
theorem wff_n {a k : Nat} (h : ¬ (a = 217 ∧ k = 12)) (h2 : ¬ (a = 0 ∧ k = 16)) : wff a k = true := by
  unfold wff
  cases hx : ((Nat.beq a 217 && Nat.beq k 12) || (Nat.beq a 0 && Nat.beq k 16)) with
  | false => rfl
  | true =>
    rw [Bool.or_eq_true, Bool.and_eq_true, Bool.and_eq_true, es_beq, es_beq, es_beq, es_beq] at hx
    rcases hx with hx | hx
    · exact absurd hx h
    · exact absurd hx h2
theorem Fw_nn {kd : Nat} (h : Fw W g s) : Fw W g (gnw s kd) := Fw_n h
end Re
theorem of_150 {W : Nat → Nat → Bool} {g s : gS} {a0 : Int} {a1 : Int} {a2 : Int} (hg_o : RF g) (hU_o : ∀ a k, wff a k = true → W a k = true)  (h_o : Fw W g s) : gQ (f_150 a0 a1 a2 s) (fun r => Fw W g r.2.2.2) := by
  unfold f_150
  refine gQ_ite ?_ ?_
  · unfold fb_150_14
    exact gQ_ret h_o
  · refine gQ_ite ?_ ?_
    · unfold fb_150_14
      exact gQ_ret h_o
    · exact gQ_ret h_o

theorem of_151 {W : Nat → Nat → Bool} {g s : gS} {a0 : Int} {a1 : Int} (hg_o : RF g) (hU_o : ∀ a k, wff a k = true → W a k = true)  (h_o : Fw W g s) : gQ (f_151 a0 a1 s) (fun r => Fw W g r.2.2.2) := by
  unfold f_151
  refine gQ_ite ?_ ?_
  · exact gQ_ret h_o
  · exact gQ_ret h_o

theorem of_152 {W : Nat → Nat → Bool} {g s : gS} {a0 : Int} {a1 : Int} (hg_o : RF g) (hU_o : ∀ a k, wff a k = true → W a k = true)  (h_o : Fw W g s) : gQ (f_152 a0 a1 s) (fun r => Fw W g r.2.2.2) := by
  unfold f_152
  refine gQ_ite ?_ ?_
  · exact gQ_ret h_o
  · exact gQ_ret h_o

theorem of_153 {W : Nat → Nat → Bool} {g s : gS} {a0 : Int} {a1 : Int} (hg_o : RF g) (hU_o : ∀ a k, wff a k = true → W a k = true)  (h_o : Fw W g s) : gQ (f_153 a0 a1 s) (fun r => Fw W g r.2.2.2) := by
  unfold f_153
  refine gQ_ite ?_ ?_
  · exact gQ_ret h_o
  · exact gQ_ret h_o

theorem of_154 {W : Nat → Nat → Bool} {g s : gS} {a0 : Int} (hg_o : RF g) (hU_o : ∀ a k, wff a k = true → W a k = true)  (h_o : Fw W g s) : gQ (f_154 a0 s) (fun r => Fw W g r.2.2.2) := by
  unfold f_154
  refine gQ_loop (fun y_l => Fw W g (y_l.2.2.2)) (fun y_l hy_o => ?_) h_o
  obtain ⟨x500001_o, x500002_o, x500003_o, x500004_o⟩ := y_l
  have h500005_o := hy_o
  dsimp only at h500005_o
  show gQ (sb_154_4 x500001_o x500002_o x500003_o x500004_o) _
  unfold sb_154_4
  dsimp only
  refine gQ_ite ?_ ?_
  · exact gQ_ret h500005_o
  · refine gQ_map ?_
    exact gQ_ret h500005_o

theorem of_155 {W : Nat → Nat → Bool} {g s : gS} {a0 : Nat} {a1 : Int} {a2 : Int} (hg_o : RF g) (hU_o : ∀ a k, wff a k = true → W a k = true) (ea0_o : a0 = 217) (h_o : Fw W g s) : gQ (f_155 a0 a1 a2 s) (fun r => Fw W g r.2.2.2) := by
  subst ea0_o
  unfold f_155
  refine gQ_chk2 (fun ha500006_o hb500007_o => ?_)
  exact gQ_ret h_o

theorem of_156 {W : Nat → Nat → Bool} {g s : gS} {a0 : Nat} {a1 : Int} {a2 : Int} (hg_o : RF g) (hU_o : ∀ a k, wff a k = true → W a k = true) (ea0_o : a0 = 217) (h_o : Fw W g s) : gQ (f_156 a0 a1 a2 s) (fun r => Fw W g r.2.2.2) := by
  subst ea0_o
  unfold f_156
  refine gQ_chk2 (fun ha500008_o hb500009_o => ?_)
  exact gQ_ret h_o

theorem of_157 {W : Nat → Nat → Bool} {g s : gS} {a0 : Nat} {a1 : Int} {a2 : Int} {a3 : Int} (hg_o : RF g) (hU_o : ∀ a k, wff a k = true → W a k = true) (ea0_o : a0 = 217) (h_o : Fw W g s) : gQ (f_157 a0 a1 a2 a3 s) (fun r => Fw W g r.2.2.2) := by
  subst ea0_o
  unfold f_157
  dsimp only
  refine gQ_chk2 (fun ha500010_o hb500011_o => ?_)
  exact gQ_ret (Fw_w h_o (fr_r h_o rfl (rr_217_1 hg_o)) (hU_o 218 _ rfl))

theorem of_158 {W : Nat → Nat → Bool} {g s : gS} {a0 : Nat} {a1 : Int} (hg_o : RF g) (hU_o : ∀ a k, wff a k = true → W a k = true) (ea0_o : a0 = 217) (h_o : Fw W g s) : gQ (f_158 a0 a1 s) (fun r => Fw W g r.2.2.2) := by
  subst ea0_o
  unfold f_158
  refine gQ_chk2 (fun ha500012_o hb500013_o => ?_)
  exact gQ_ret h_o

theorem of_159 {W : Nat → Nat → Bool} {g s : gS} {a0 : Nat} {a1 : Int} (hg_o : RF g) (hU_o : ∀ a k, wff a k = true → W a k = true) (ea0_o : a0 = 217) (h_o : Fw W g s) : gQ (f_159 a0 a1 s) (fun r => Fw W g r.2.2.2) := by
  subst ea0_o
  unfold f_159
  refine gQ_chk2 (fun ha500014_o hb500015_o => ?_)
  exact gQ_ret h_o

theorem of_160 {W : Nat → Nat → Bool} {g s : gS} {a0 : Nat} {a1 : Int} {a2 : Int} (hg_o : RF g) (hU_o : ∀ a k, wff a k = true → W a k = true) (ea0_o : a0 = 217) (h_o : Fw W g s) : gQ (f_160 a0 a1 a2 s) (fun r => Fw W g r.2.2.2) := by
  subst ea0_o
  unfold f_160
  refine gQ_chk2 (fun ha500016_o hb500017_o => ?_)
  exact gQ_ret h_o

theorem of_161 {W : Nat → Nat → Bool} {g s : gS} {a0 : Nat} {a1 : Int} (hg_o : RF g) (hU_o : ∀ a k, wff a k = true → W a k = true) (ea0_o : a0 = 217) (h_o : Fw W g s) : gQ (f_161 a0 a1 s) (fun r => Fw W g r.2.2.2) := by
  subst ea0_o
  unfold f_161
  refine gQ_v1 (A := Fw W g) (of_150 hg_o hU_o  h_o) (fun v2 s1_l h500018_o => ?_)
  exact gQ_ret h500018_o

theorem of_162 {W : Nat → Nat → Bool} {g s : gS} {a0 : Nat} {a1 : Int} (hg_o : RF g) (hU_o : ∀ a k, wff a k = true → W a k = true) (ea0_o : a0 = 217) (h_o : Fw W g s) : gQ (f_162 a0 a1 s) (fun r => Fw W g r.2.2.2) := by
  subst ea0_o
  unfold f_162
  refine gQ_v1 (A := Fw W g) (of_150 hg_o hU_o  h_o) (fun v2 s1_l h500019_o => ?_)
  exact gQ_ret h500019_o

theorem of_163 {W : Nat → Nat → Bool} {g s : gS} {a0 : Nat} {a1 : Int} (hg_o : RF g) (hU_o : ∀ a k, wff a k = true → W a k = true) (ea0_o : a0 = 217) (h_o : Fw W g s) : gQ (f_163 a0 a1 s) (fun r => Fw W g r.2.2.2) := by
  subst ea0_o
  unfold f_163
  refine gQ_v1 (A := Fw W g) (of_150 hg_o hU_o  h_o) (fun v2 s1_l h500020_o => ?_)
  exact gQ_ret h500020_o

theorem of_164 {W : Nat → Nat → Bool} {g s : gS} {a0 : Nat} {a1 : Int} (hg_o : RF g) (hU_o : ∀ a k, wff a k = true → W a k = true) (ea0_o : a0 = 217) (h_o : Fw W g s) : gQ (f_164 a0 a1 s) (fun r => Fw W g r.2.2.2) := by
  subst ea0_o
  unfold f_164
  refine gQ_v1 (A := Fw W g) (of_150 hg_o hU_o  h_o) (fun v2 s1_l h500021_o => ?_)
  exact gQ_ret h500021_o

theorem of_165 {W : Nat → Nat → Bool} {g s : gS} {a0 : Nat} {a1 : Int} (hg_o : RF g) (hU_o : ∀ a k, wff a k = true → W a k = true) (ea0_o : a0 = 217) (h_o : Fw W g s) : gQ (f_165 a0 a1 s) (fun r => Fw W g r.2.2.2) := by
  subst ea0_o
  unfold f_165
  refine gQ_v1 (A := Fw W g) (of_156 hg_o hU_o rfl h_o) (fun v2 s1_l h500022_o => ?_)
  refine gQ_ite ?_ ?_
  · exact gQ_ret h500022_o
  · exact gQ_ret h500022_o

section Rf
variable {W : Nat → Nat → Bool} {g s t : gS} {w0 x4 a1 a2 a3 a4 a5 a6 a7 : Int}
/-- the law is read anew: the fault is put back -/
theorem rst_100 : gQ (fb_197_100 217 w0 217 s) (fun r => gI r.2.2.2 217 12 = gI s 217 12) := by
  unfold fb_197_100
  dsimp only
  refine gQ_bool (gQ_v1 (A := fun _ => True) (fun r _ => trivial) (fun v_l s16 _ => gQ_ret ?_))
  exact (rd_same rfl).trans ((rd_k (a := 217) (k := 12) rfl (by decide)).trans (rd_k (a := 217) (k := 12) rfl (by decide)))
theorem rst_80 : gQ (fb_197_80 217 x4 w0 217 s) (fun r => gI r.2.2.2 217 12 = gI s 217 12) := by
  unfold fb_197_80
  dsimp only
  exact gQ_bool (gQ_ite (fun r hr => (rst_100 r hr).trans (rd_k (a := 217) (k := 12) rfl (by decide))) (fun r hr => (rst_100 r hr).trans (rd_k (a := 217) (k := 12) rfl (by decide))))
theorem rst_197 (h14 : gR s 217 14 = 223) : gQ (f_197 217 a1 a2 a3 a4 a5 a6 a7 s) (fun r => gI r.2.2.2 217 12 = gI s 217 12) := by
  have e_l : ∀ (z_l : gS) (k_l : Nat) (v_l : Int), gI (gw z_l (gR s 217 14) k_l v_l) 217 12 = gI z_l 217 12 := fun z_l k_l v_l => rd_a rfl (by rw [h14]; decide)
  unfold f_197
  dsimp only
  exact gQ_ite (gQ_ret rfl) (gQ_ite (fun r hr => (rst_80 r hr).trans ((e_l _ _ _).trans ((e_l _ _ _).trans ((e_l _ _ _).trans ((e_l _ _ _).trans ((e_l _ _ _).trans ((e_l _ _ _).trans (e_l _ _ _)))))))) (fun r hr => (rst_80 r hr).trans ((e_l _ _ _).trans ((e_l _ _ _).trans ((e_l _ _ _).trans ((e_l _ _ _).trans ((e_l _ _ _).trans ((e_l _ _ _).trans (e_l _ _ _)))))))))
theorem of_197 {a0 : Nat} (hg_o : RF g) (hU_o : ∀ a k, wff a k = true → W a k = true) (ea0_o : a0 = 217) (h_o : Fw W g s) : gQ (f_197 a0 a1 a2 a3 a4 a5 a6 a7 s) (fun r => Fw W g r.2.2.2) := by
  subst ea0_o
  intro r hr
  have hU2 : ∀ a k, mss a k = true → (fun a k => W a k || (Nat.beq a 217 && Nat.beq k 12)) a k = true := fun a k hm_l => by
    dsimp only
    by_cases c : a = 217 ∧ k = 12
    · rw [c.1, c.2, show (Nat.beq 217 217 && Nat.beq 12 12) = true from rfl, Bool.or_true]
    · by_cases c2 : a = 0 ∧ k = 16
      · rw [c2.1, c2.2] at hm_l
        cases hm_l
      · rw [hU_o a k (wff_n c c2), Bool.true_or]
  have h0 : Fw (fun a k => W a k || (Nat.beq a 217 && Nat.beq k 12)) g s := ⟨h_o.1, h_o.2.1, fun a k ha_l hw => h_o.2.2 a k ha_l (Bool.or_eq_false_iff.mp hw).1⟩
  have h1 := om_197 hg_o hU2 rfl h0 r hr
  have h14 : gR s 217 14 = 223 := fr_r h_o rfl (rr_217_14 hg_o)
  refine ⟨h1.1, h1.2.1, fun a k ha_l hw => ?_⟩
  by_cases c : a = 217 ∧ k = 12
  · obtain ⟨rfl, rfl⟩ := c
    exact (rst_197 h14 r hr).trans (h_o.2.2 217 12 ha_l hw)
  · refine h1.2.2 a k ha_l ?_
    dsimp only
    rw [hw, Bool.false_or]
    cases hx : (Nat.beq a 217 && Nat.beq k 12) with
    | false => rfl
    | true =>
      rw [Bool.and_eq_true, es_beq, es_beq] at hx
      exact absurd hx c
end Rf
theorem of_198 {W : Nat → Nat → Bool} {g s : gS} {a0 : Nat} {a1 : Int} (hg_o : RF g) (hU_o : ∀ a k, wff a k = true → W a k = true) (ea0_o : a0 = 217) (h_o : Fw W g s) : gQ (f_198 a0 a1 s) (fun r => Fw W g r.2.2.2) := by
  subst ea0_o
  unfold f_198
  refine gQ_v1 (A := Fw W g) (of_156 hg_o hU_o rfl h_o) (fun v2 s1_l h500023_o => ?_)
  refine gQ_v1 (A := Fw W g) (of_156 hg_o hU_o rfl h500023_o) (fun v4_l s3_l h500024_o => ?_)
  refine gQ_v1 (A := Fw W g) (of_156 hg_o hU_o rfl h500024_o) (fun v6 s5 h500025_o => ?_)
  refine gQ_v1 (A := Fw W g) (of_156 hg_o hU_o rfl h500025_o) (fun v8 s7 h500026_o => ?_)
  refine gQ_v1 (A := Fw W g) (of_197 hg_o hU_o rfl h500026_o) (fun v10 s9 h500027_o => ?_)
  exact gQ_ret h500027_o

theorem of_199 {W : Nat → Nat → Bool} {g s : gS} {a0 : Nat} {a1 : Int} (hg_o : RF g) (hU_o : ∀ a k, wff a k = true → W a k = true) (ea0_o : a0 = 217) (h_o : Fw W g s) : gQ (f_199 a0 a1 s) (fun r => Fw W g r.2.2.2) := by
  subst ea0_o
  unfold f_199
  dsimp only
  refine gQ_ite ?_ ?_
  · exact gQ_none
  · exact gQ_ret (Fw_w h_o (fr_r h_o rfl (rr_217_1 hg_o)) (hU_o 218 _ rfl))

theorem of_200 {W : Nat → Nat → Bool} {g s : gS} {a0 : Nat} {a1 : Int} (hg_o : RF g) (hU_o : ∀ a k, wff a k = true → W a k = true) (ea0_o : a0 = 217) (h_o : Fw W g s) : gQ (f_200 a0 a1 s) (fun r => Fw W g r.2.2.2) := by
  subst ea0_o
  unfold f_200
  dsimp only
  refine gQ_v1 (A := Fw W g) (of_151 hg_o hU_o  h_o) (fun v2 s1_l h500028_o => ?_)
  refine gQ_v1 (A := Fw W g) (of_151 hg_o hU_o  (Fw_w h500028_o (fr_r h500028_o rfl (rr_217_1 hg_o)) (hU_o 218 _ rfl))) (fun v5 s4_l h500029_o => ?_)
  exact gQ_ret (Fw_w h500029_o (fr_r (Fw_w h500028_o (fr_r h500028_o rfl (rr_217_1 hg_o)) (hU_o 218 _ rfl)) rfl (rr_217_1 hg_o)) (hU_o 218 _ rfl))

theorem of_201 {W : Nat → Nat → Bool} {g s : gS} {a0 : Nat} {a1 : Int} (hg_o : RF g) (hU_o : ∀ a k, wff a k = true → W a k = true) (ea0_o : a0 = 217) (h_o : Fw W g s) : gQ (f_201 a0 a1 s) (fun r => Fw W g r.2.2.2) := by
  subst ea0_o
  unfold f_201
  refine gQ_v1 (A := Fw W g) (of_156 hg_o hU_o rfl h_o) (fun v2 s1_l h500030_o => ?_)
  refine gQ_ite ?_ ?_
  · refine gQ_v1 (A := Fw W g) (of_156 hg_o hU_o rfl h500030_o) (fun v4_l s3_l h500031_o => ?_)
    refine gQ_ite ?_ ?_
    · refine gQ_v1 (A := Fw W g) (of_155 hg_o hU_o rfl h500031_o) (fun v6 s5 h500032_o => ?_)
      refine gQ_v0 (A := Fw W g) (of_200 hg_o hU_o rfl h500032_o) (fun s7 h500033_o => ?_)
      unfold fb_201_37
      refine gQ_v1 (A := Fw W g) (of_156 hg_o hU_o rfl h500033_o) (fun v10 s9 h500034_o => ?_)
      refine gQ_v0 (A := Fw W g) (of_157 hg_o hU_o rfl h500034_o) (fun s11 h500035_o => ?_)
      refine gQ_v1 (A := Fw W g) (of_156 hg_o hU_o rfl h500035_o) (fun v14 s13 h500036_o => ?_)
      refine gQ_v1 (A := Fw W g) (of_155 hg_o hU_o rfl h500036_o) (fun v16 s15 h500037_o => ?_)
      refine gQ_ite ?_ ?_
      · exact gQ_ret h500037_o
      · refine gQ_v1 (A := Fw W g) (of_156 hg_o hU_o rfl h500037_o) (fun v18 s17 h500038_o => ?_)
        refine gQ_v1 (A := Fw W g) (of_155 hg_o hU_o rfl h500038_o) (fun v20 s19 h500039_o => ?_)
        refine gQ_v1 (A := Fw W g) (of_151 hg_o hU_o  h500039_o) (fun v22 s21 h500040_o => ?_)
        refine gQ_v0 (A := Fw W g) (of_157 hg_o hU_o rfl h500040_o) (fun s23 h500041_o => ?_)
        refine gQ_v0 (A := Fw W g) (of_157 hg_o hU_o rfl h500041_o) (fun s25 h500042_o => ?_)
        refine gQ_v0 (A := Fw W g) (of_157 hg_o hU_o rfl h500042_o) (fun s27 h500043_o => ?_)
        exact gQ_ret h500043_o
    · unfold fb_201_37
      refine gQ_v1 (A := Fw W g) (of_156 hg_o hU_o rfl h500031_o) (fun v10 s9 h500044_o => ?_)
      refine gQ_v0 (A := Fw W g) (of_157 hg_o hU_o rfl h500044_o) (fun s11 h500045_o => ?_)
      refine gQ_v1 (A := Fw W g) (of_156 hg_o hU_o rfl h500045_o) (fun v14 s13 h500046_o => ?_)
      refine gQ_v1 (A := Fw W g) (of_155 hg_o hU_o rfl h500046_o) (fun v16 s15 h500047_o => ?_)
      refine gQ_ite ?_ ?_
      · exact gQ_ret h500047_o
      · refine gQ_v1 (A := Fw W g) (of_156 hg_o hU_o rfl h500047_o) (fun v18 s17 h500048_o => ?_)
        refine gQ_v1 (A := Fw W g) (of_155 hg_o hU_o rfl h500048_o) (fun v20 s19 h500049_o => ?_)
        refine gQ_v1 (A := Fw W g) (of_151 hg_o hU_o  h500049_o) (fun v22 s21 h500050_o => ?_)
        refine gQ_v0 (A := Fw W g) (of_157 hg_o hU_o rfl h500050_o) (fun s23 h500051_o => ?_)
        refine gQ_v0 (A := Fw W g) (of_157 hg_o hU_o rfl h500051_o) (fun s25 h500052_o => ?_)
        refine gQ_v0 (A := Fw W g) (of_157 hg_o hU_o rfl h500052_o) (fun s27 h500053_o => ?_)
        exact gQ_ret h500053_o
  · exact gQ_ret h500030_o

theorem of_202 {W : Nat → Nat → Bool} {g s : gS} {a0 : Nat} {a1 : Int} {a2 : Int} (hg_o : RF g) (hU_o : ∀ a k, wff a k = true → W a k = true) (ea0_o : a0 = 217) (h_o : Fw W g s) : gQ (f_202 a0 a1 a2 s) (fun r => Fw W g r.2.2.2) := by
  subst ea0_o
  unfold f_202
  refine gQ_loop (fun y_l => y_l.1 = 217 ∧ Fw W g (y_l.2.2.2.2.2)) (fun y_l hy_o => ?_) ⟨rfl, h_o⟩
  obtain ⟨x500054_o, x500055_o, x500056_o, x500057_o, x500058_o, x500059_o⟩ := y_l
  obtain ⟨e500061_o, h500060_o⟩ := hy_o
  dsimp only at e500061_o h500060_o
  subst e500061_o
  show gQ (sb_202_5 217 x500055_o x500056_o x500057_o x500058_o x500059_o) _
  unfold sb_202_5
  refine gQ_ite ?_ ?_
  · refine gQ_loop (fun y_l => y_l.1 = 217 ∧ Fw W g (y_l.2.2.2.2.2.2.2)) (fun y_l hy_o => ?_) ⟨rfl, h500060_o⟩
    obtain ⟨x500062_o, x500063_o, x500064_o, x500065_o, x500066_o, x500067_o, x500068_o, x500069_o⟩ := y_l
    obtain ⟨e500071_o, h500070_o⟩ := hy_o
    dsimp only at e500071_o h500070_o
    subst e500071_o
    show gQ (sb_202_17 217 x500063_o x500064_o x500065_o x500066_o x500067_o x500068_o x500069_o) _
    unfold sb_202_17
    dsimp only
    refine gQ_ite ?_ ?_
    · refine gQ_v1 (A := Fw W g) (of_165 hg_o hU_o rfl h500070_o) (fun v2 s1_l h500072_o => ?_)
      refine gQ_ite ?_ ?_
      · exact gQ_ret ⟨rfl, h500072_o⟩
      · refine gQ_v0 (A := Fw W g) (of_201 hg_o hU_o rfl h500072_o) (fun s4_l h500073_o => ?_)
        refine gQ_v1 (A := Fw W g) (of_156 hg_o hU_o rfl h500073_o) (fun v7 s6_l h500074_o => ?_)
        refine gQ_v1 (A := Fw W g) (of_198 hg_o hU_o rfl h500074_o) (fun v9 s8 h500075_o => ?_)
        refine gQ_v1 (A := Fw W g) (of_151 hg_o hU_o  h500075_o) (fun v11 s10 h500076_o => ?_)
        refine gQ_v1 (A := Fw W g) (of_152 hg_o hU_o  h500076_o) (fun v13 s12 h500077_o => ?_)
        refine gQ_v0 (A := Fw W g) (of_157 hg_o hU_o rfl h500077_o) (fun s14 h500078_o => ?_)
        refine gQ_v1 (A := Fw W g) (of_156 hg_o hU_o rfl h500078_o) (fun v17 s16 h500079_o => ?_)
        refine gQ_ite ?_ ?_
        · refine gQ_v0 (A := Fw W g) (of_157 hg_o hU_o rfl h500079_o) (fun s18 h500080_o => ?_)
          exact gQ_ret ⟨rfl, h500080_o⟩
        · exact gQ_ret ⟨rfl, h500079_o⟩
    · refine gQ_map ?_
      refine gQ_ite ?_ ?_
      · unfold fb_202_164
        dsimp only
        refine gQ_v1 (A := Fw W g) (of_151 hg_o hU_o  h500070_o) (fun v21 s20 h500081_o => ?_)
        exact gQ_ret ⟨rfl, (Fw_w h500081_o (fr_r h500070_o rfl (rr_217_1 hg_o)) (hU_o 218 _ rfl))⟩
      · refine gQ_v1 (A := Fw W g) (of_199 hg_o hU_o rfl h500070_o) (fun v24 s23 h500082_o => ?_)
        refine gQ_ite ?_ ?_
        · refine gQ_ite ?_ ?_
          · refine gQ_v1 (A := Fw W g) (of_151 hg_o hU_o  h500082_o) (fun v26 s25 h500083_o => ?_)
            unfold fb_202_164
            dsimp only
            refine gQ_v1 (A := Fw W g) (of_151 hg_o hU_o  (Fw_w h500083_o (fr_r h500082_o rfl (rr_217_1 hg_o)) (hU_o 218 _ rfl))) (fun v21 s20 h500084_o => ?_)
            exact gQ_ret ⟨rfl, (Fw_w h500084_o (fr_r (Fw_w h500083_o (fr_r h500082_o rfl (rr_217_1 hg_o)) (hU_o 218 _ rfl)) rfl (rr_217_1 hg_o)) (hU_o 218 _ rfl))⟩
          · unfold fb_202_164
            dsimp only
            refine gQ_v1 (A := Fw W g) (of_151 hg_o hU_o  h500082_o) (fun v21 s20 h500085_o => ?_)
            exact gQ_ret ⟨rfl, (Fw_w h500085_o (fr_r h500082_o rfl (rr_217_1 hg_o)) (hU_o 218 _ rfl))⟩
        · unfold fb_202_164
          dsimp only
          refine gQ_v1 (A := Fw W g) (of_151 hg_o hU_o  h500082_o) (fun v21 s20 h500086_o => ?_)
          exact gQ_ret ⟨rfl, (Fw_w h500086_o (fr_r h500082_o rfl (rr_217_1 hg_o)) (hU_o 218 _ rfl))⟩
  · refine gQ_map ?_
    exact gQ_ret h500060_o

theorem of_185 {W : Nat → Nat → Bool} {g s : gS} {a0 : Nat} (hg_o : RF g) (hU_o : ∀ a k, wff a k = true → W a k = true) (ea0_o : a0 = 217) (h_o : Fw W g s) : gQ (f_185 a0 s) (fun r => Fw W g r.2.2.2) := by
  subst ea0_o
  unfold f_185
  refine gQ_loop (fun y_l => y_l.1 = 217 ∧ Fw W g (y_l.2.2)) (fun y_l hy_o => ?_) ⟨rfl, h_o⟩
  obtain ⟨x500087_o, x500088_o, x500089_o⟩ := y_l
  obtain ⟨e500091_o, h500090_o⟩ := hy_o
  dsimp only at e500091_o h500090_o
  subst e500091_o
  show gQ (sb_185_2 217 x500088_o x500089_o) _
  unfold sb_185_2
  dsimp only
  refine gQ_ite ?_ ?_
  · refine gQ_chk2 (fun ha500092_o hb500093_o => ?_)
    refine gQ_chk2 (fun ha500094_o hb500095_o => ?_)
    exact gQ_ret ⟨rfl, (Fw_w h500090_o (fr_r h500090_o rfl (rr_217_4 hg_o)) (hU_o 220 _ rfl))⟩
  · refine gQ_map ?_
    exact gQ_ret h500090_o

theorem of_186 {W : Nat → Nat → Bool} {g s : gS} {a0 : Nat} (hg_o : RF g) (hU_o : ∀ a k, wff a k = true → W a k = true) (ea0_o : a0 = 217) (h_o : Fw W g s) : gQ (f_186 a0 s) (fun r => Fw W g r.2.2.2) := by
  subst ea0_o
  unfold f_186
  refine gQ_loop (fun y_l => y_l.1 = 217 ∧ Fw W g (y_l.2.2)) (fun y_l hy_o => ?_) ⟨rfl, h_o⟩
  obtain ⟨x500096_o, x500097_o, x500098_o⟩ := y_l
  obtain ⟨e500100_o, h500099_o⟩ := hy_o
  dsimp only at e500100_o h500099_o
  subst e500100_o
  show gQ (sb_186_2 217 x500097_o x500098_o) _
  unfold sb_186_2
  dsimp only
  refine gQ_ite ?_ ?_
  · refine gQ_chk2 (fun ha500101_o hb500102_o => ?_)
    refine gQ_chk2 (fun ha500103_o hb500104_o => ?_)
    exact gQ_ret ⟨rfl, (Fw_w h500099_o (fr_r h500099_o rfl (rr_217_1 hg_o)) (hU_o 218 _ rfl))⟩
  · refine gQ_map ?_
    exact gQ_ret h500099_o

theorem of_209 {W : Nat → Nat → Bool} {g s : gS} {a0 : Nat} (hg_o : RF g) (hU_o : ∀ a k, wff a k = true → W a k = true) (ea0_o : a0 = 217) (h_o : Fw W g s) : gQ (f_209 a0 s) (fun r => Fw W g r.2.2.2) := by
  subst ea0_o
  unfold f_209
  refine gQ_ite ?_ ?_
  · refine gQ_loop (fun y_l => y_l.1 = 217 ∧ Fw W g (y_l.2.2)) (fun y_l hy_o => ?_) ⟨rfl, h_o⟩
    obtain ⟨x500105_o, x500106_o, x500107_o⟩ := y_l
    obtain ⟨e500109_o, h500108_o⟩ := hy_o
    dsimp only at e500109_o h500108_o
    subst e500109_o
    show gQ (sb_209_11 217 x500106_o x500107_o) _
    unfold sb_209_11
    dsimp only
    refine gQ_ite ?_ ?_
    · refine gQ_chk2 (fun ha500110_o hb500111_o => ?_)
      refine gQ_chk2 (fun ha500112_o hb500113_o => ?_)
      exact gQ_ret ⟨rfl, (Fw_w h500108_o (fr_r h500108_o rfl (rr_217_5 hg_o)) (hU_o 221 _ rfl))⟩
    · refine gQ_map ?_
      unfold fb_209_50
      refine gQ_loop (fun y_l => y_l.1 = 217 ∧ Fw W g (y_l.2.2)) (fun y_l hy_o => ?_) ⟨rfl, (Fw_w h500108_o rfl (hU_o 217 _ rfl))⟩
      obtain ⟨x500114_o, x500115_o, x500116_o⟩ := y_l
      obtain ⟨e500118_o, h500117_o⟩ := hy_o
      dsimp only at e500118_o h500117_o
      subst e500118_o
      show gQ (sb_209_52 217 x500115_o x500116_o) _
      unfold sb_209_52
      dsimp only
      refine gQ_ite ?_ ?_
      · refine gQ_chk2 (fun ha500119_o hb500120_o => ?_)
        refine gQ_chk2 (fun ha500121_o hb500122_o => ?_)
        exact gQ_ret ⟨rfl, (Fw_w h500117_o (fr_r h500117_o rfl (rr_217_5 hg_o)) (hU_o 221 _ rfl))⟩
      · refine gQ_map ?_
        exact gQ_ret (Fw_w h500117_o rfl (hU_o 217 _ rfl))
  · unfold fb_209_50
    refine gQ_loop (fun y_l => y_l.1 = 217 ∧ Fw W g (y_l.2.2)) (fun y_l hy_o => ?_) ⟨rfl, h_o⟩
    obtain ⟨x500123_o, x500124_o, x500125_o⟩ := y_l
    obtain ⟨e500127_o, h500126_o⟩ := hy_o
    dsimp only at e500127_o h500126_o
    subst e500127_o
    show gQ (sb_209_52 217 x500124_o x500125_o) _
    unfold sb_209_52
    dsimp only
    refine gQ_ite ?_ ?_
    · refine gQ_chk2 (fun ha500128_o hb500129_o => ?_)
      refine gQ_chk2 (fun ha500130_o hb500131_o => ?_)
      exact gQ_ret ⟨rfl, (Fw_w h500126_o (fr_r h500126_o rfl (rr_217_5 hg_o)) (hU_o 221 _ rfl))⟩
    · refine gQ_map ?_
      exact gQ_ret (Fw_w h500126_o rfl (hU_o 217 _ rfl))

theorem of_210 {W : Nat → Nat → Bool} {g s : gS} {a0 : Nat} {a1 : Int} {a2 : Int} (hg_o : RF g) (hU_o : ∀ a k, wff a k = true → W a k = true) (ea0_o : a0 = 217) (h_o : Fw W g s) : gQ (f_210 a0 a1 a2 s) (fun r => Fw W g r.2.2.2) := by
  subst ea0_o
  unfold f_210
  refine gQ_loop (fun y_l => y_l.1 = 217 ∧ Fw W g (y_l.2.2.2.2)) (fun y_l hy_o => ?_) ⟨rfl, h_o⟩
  obtain ⟨x500132_o, x500133_o, x500134_o, x500135_o, x500136_o⟩ := y_l
  obtain ⟨e500138_o, h500137_o⟩ := hy_o
  dsimp only at e500138_o h500137_o
  subst e500138_o
  show gQ (sb_210_4 217 x500133_o x500134_o x500135_o x500136_o) _
  unfold sb_210_4
  dsimp only
  refine gQ_ite ?_ ?_
  · refine gQ_map ?_
    refine gQ_v1 (A := Fw W g) (of_156 hg_o hU_o rfl (Fw_w (Fw_w (Fw_w h500137_o (fr_r h500137_o rfl (rr_217_1 hg_o)) (hU_o 218 _ rfl)) (fr_r (Fw_w h500137_o (fr_r h500137_o rfl (rr_217_1 hg_o)) (hU_o 218 _ rfl)) rfl (rr_217_1 hg_o)) (hU_o 218 _ rfl)) (fr_r (Fw_w (Fw_w h500137_o (fr_r h500137_o rfl (rr_217_1 hg_o)) (hU_o 218 _ rfl)) (fr_r (Fw_w h500137_o (fr_r h500137_o rfl (rr_217_1 hg_o)) (hU_o 218 _ rfl)) rfl (rr_217_1 hg_o)) (hU_o 218 _ rfl)) rfl (rr_217_1 hg_o)) (hU_o 218 _ rfl))) (fun v5 s4_l h500139_o => ?_)
    refine gQ_v1 (A := Fw W g) (of_151 hg_o hU_o  (Fw_w h500139_o (fr_r (Fw_w (Fw_w (Fw_w h500137_o (fr_r h500137_o rfl (rr_217_1 hg_o)) (hU_o 218 _ rfl)) (fr_r (Fw_w h500137_o (fr_r h500137_o rfl (rr_217_1 hg_o)) (hU_o 218 _ rfl)) rfl (rr_217_1 hg_o)) (hU_o 218 _ rfl)) (fr_r (Fw_w (Fw_w h500137_o (fr_r h500137_o rfl (rr_217_1 hg_o)) (hU_o 218 _ rfl)) (fr_r (Fw_w h500137_o (fr_r h500137_o rfl (rr_217_1 hg_o)) (hU_o 218 _ rfl)) rfl (rr_217_1 hg_o)) (hU_o 218 _ rfl)) rfl (rr_217_1 hg_o)) (hU_o 218 _ rfl)) rfl (rr_217_1 hg_o)) (hU_o 218 _ rfl))) (fun v8 s7 h500140_o => ?_)
    exact gQ_ret (Fw_w h500140_o (fr_r (Fw_w h500139_o (fr_r (Fw_w (Fw_w (Fw_w h500137_o (fr_r h500137_o rfl (rr_217_1 hg_o)) (hU_o 218 _ rfl)) (fr_r (Fw_w h500137_o (fr_r h500137_o rfl (rr_217_1 hg_o)) (hU_o 218 _ rfl)) rfl (rr_217_1 hg_o)) (hU_o 218 _ rfl)) (fr_r (Fw_w (Fw_w h500137_o (fr_r h500137_o rfl (rr_217_1 hg_o)) (hU_o 218 _ rfl)) (fr_r (Fw_w h500137_o (fr_r h500137_o rfl (rr_217_1 hg_o)) (hU_o 218 _ rfl)) rfl (rr_217_1 hg_o)) (hU_o 218 _ rfl)) rfl (rr_217_1 hg_o)) (hU_o 218 _ rfl)) rfl (rr_217_1 hg_o)) (hU_o 218 _ rfl)) rfl (rr_217_1 hg_o)) (hU_o 218 _ rfl))
  · refine gQ_chk2 (fun ha500141_o hb500142_o => ?_)
    refine gQ_chk2 (fun ha500143_o hb500144_o => ?_)
    exact gQ_ret ⟨rfl, (Fw_w h500137_o (fr_r h500137_o rfl (rr_217_1 hg_o)) (hU_o 218 _ rfl))⟩

theorem of_196 {W : Nat → Nat → Bool} {g s : gS} {a0 : Nat} (hg_o : RF g) (hU_o : ∀ a k, wff a k = true → W a k = true) (ea0_o : a0 = 217) (h_o : Fw W g s) : gQ (f_196 a0 s) (fun r => Fw W g r.2.2.2) := by
  subst ea0_o
  unfold f_196
  dsimp only
  exact gQ_ret (Fw_w h_o rfl (hU_o 217 _ rfl))

theorem of_203 {W : Nat → Nat → Bool} {g s : gS} {a0 : Nat} {a1 : Int} {a2 : Int} (hg_o : RF g) (hU_o : ∀ a k, wff a k = true → W a k = true) (ea0_o : a0 = 217) (h_o : Fw W g s) : gQ (f_203 a0 a1 a2 s) (fun r => Fw W g r.2.2.2) := by
  subst ea0_o
  unfold f_203
  refine gQ_v1 (A := Fw W g) (of_161 hg_o hU_o rfl h_o) (fun v2 s1_l h500145_o => ?_)
  refine gQ_ite ?_ ?_
  · unfold fb_203_27
    dsimp only
    refine gQ_ite ?_ ?_
    · exact gQ_ret (Fw_w h500145_o rfl (hU_o 217 _ rfl))
    · refine gQ_ite ?_ ?_
      · refine gQ_v1 (A := Fw W g) (of_155 hg_o hU_o rfl (Fw_w h500145_o rfl (hU_o 217 _ rfl))) (fun v6 s5 h500146_o => ?_)
        exact gQ_ret h500146_o
      · refine gQ_loop (fun y_l => y_l.1 = 217 ∧ Fw W g (y_l.2.2.2.2)) (fun y_l hy_o => ?_) ⟨rfl, (Fw_w h500145_o rfl (hU_o 217 _ rfl))⟩
        obtain ⟨x500147_o, x500148_o, x500149_o, x500150_o, x500151_o⟩ := y_l
        obtain ⟨e500153_o, h500152_o⟩ := hy_o
        dsimp only at e500153_o h500152_o
        subst e500153_o
        show gQ (sb_203_56 217 x500148_o x500149_o x500150_o x500151_o) _
        unfold sb_203_56
        dsimp only
        refine gQ_ite ?_ ?_
        · refine gQ_v1 (A := Fw W g) (of_160 hg_o hU_o rfl h500152_o) (fun v8 s7 h500154_o => ?_)
          refine gQ_v1 (A := Fw W g) (of_153 hg_o hU_o  h500154_o) (fun v10 s9 h500155_o => ?_)
          refine gQ_ite ?_ ?_
          · exact gQ_ret ⟨rfl, h500155_o⟩
          · exact gQ_ret ⟨rfl, h500155_o⟩
        · refine gQ_map ?_
          exact gQ_ret h500152_o
  · refine gQ_v1 (A := Fw W g) (of_150 hg_o hU_o  h500145_o) (fun v14 s13 h500156_o => ?_)
    refine gQ_ite ?_ ?_
    · unfold fb_203_27
      dsimp only
      refine gQ_ite ?_ ?_
      · exact gQ_ret (Fw_w h500156_o rfl (hU_o 217 _ rfl))
      · refine gQ_ite ?_ ?_
        · refine gQ_v1 (A := Fw W g) (of_155 hg_o hU_o rfl (Fw_w h500156_o rfl (hU_o 217 _ rfl))) (fun v6 s5 h500157_o => ?_)
          exact gQ_ret h500157_o
        · refine gQ_loop (fun y_l => y_l.1 = 217 ∧ Fw W g (y_l.2.2.2.2)) (fun y_l hy_o => ?_) ⟨rfl, (Fw_w h500156_o rfl (hU_o 217 _ rfl))⟩
          obtain ⟨x500158_o, x500159_o, x500160_o, x500161_o, x500162_o⟩ := y_l
          obtain ⟨e500164_o, h500163_o⟩ := hy_o
          dsimp only at e500164_o h500163_o
          subst e500164_o
          show gQ (sb_203_56 217 x500159_o x500160_o x500161_o x500162_o) _
          unfold sb_203_56
          dsimp only
          refine gQ_ite ?_ ?_
          · refine gQ_v1 (A := Fw W g) (of_160 hg_o hU_o rfl h500163_o) (fun v8 s7 h500165_o => ?_)
            refine gQ_v1 (A := Fw W g) (of_153 hg_o hU_o  h500165_o) (fun v10 s9 h500166_o => ?_)
            refine gQ_ite ?_ ?_
            · exact gQ_ret ⟨rfl, h500166_o⟩
            · exact gQ_ret ⟨rfl, h500166_o⟩
          · refine gQ_map ?_
            exact gQ_ret h500163_o
    · unfold fb_203_27
      dsimp only
      refine gQ_ite ?_ ?_
      · exact gQ_ret (Fw_w h500156_o rfl (hU_o 217 _ rfl))
      · refine gQ_ite ?_ ?_
        · refine gQ_v1 (A := Fw W g) (of_155 hg_o hU_o rfl (Fw_w h500156_o rfl (hU_o 217 _ rfl))) (fun v6 s5 h500167_o => ?_)
          exact gQ_ret h500167_o
        · refine gQ_loop (fun y_l => y_l.1 = 217 ∧ Fw W g (y_l.2.2.2.2)) (fun y_l hy_o => ?_) ⟨rfl, (Fw_w h500156_o rfl (hU_o 217 _ rfl))⟩
          obtain ⟨x500168_o, x500169_o, x500170_o, x500171_o, x500172_o⟩ := y_l
          obtain ⟨e500174_o, h500173_o⟩ := hy_o
          dsimp only at e500174_o h500173_o
          subst e500174_o
          show gQ (sb_203_56 217 x500169_o x500170_o x500171_o x500172_o) _
          unfold sb_203_56
          dsimp only
          refine gQ_ite ?_ ?_
          · refine gQ_v1 (A := Fw W g) (of_160 hg_o hU_o rfl h500173_o) (fun v8 s7 h500175_o => ?_)
            refine gQ_v1 (A := Fw W g) (of_153 hg_o hU_o  h500175_o) (fun v10 s9 h500176_o => ?_)
            refine gQ_ite ?_ ?_
            · exact gQ_ret ⟨rfl, h500176_o⟩
            · exact gQ_ret ⟨rfl, h500176_o⟩
          · refine gQ_map ?_
            exact gQ_ret h500173_o

theorem of_204 {W : Nat → Nat → Bool} {g s : gS} {a0 : Nat} {a1 : Int} {a2 : Int} (hg_o : RF g) (hU_o : ∀ a k, wff a k = true → W a k = true) (ea0_o : a0 = 217) (h_o : Fw W g s) : gQ (f_204 a0 a1 a2 s) (fun r => Fw W g r.2.2.2) := by
  subst ea0_o
  unfold f_204
  refine gQ_v1 (A := Fw W g) (of_156 hg_o hU_o rfl h_o) (fun v2 s1_l h500177_o => ?_)
  refine gQ_loop (fun y_l => y_l.1 = 217 ∧ Fw W g (y_l.2.2.2.2)) (fun y_l hy_o => ?_) ⟨rfl, h500177_o⟩
  obtain ⟨x500178_o, x500179_o, x500180_o, x500181_o, x500182_o⟩ := y_l
  obtain ⟨e500184_o, h500183_o⟩ := hy_o
  dsimp only at e500184_o h500183_o
  subst e500184_o
  show gQ (sb_204_10 217 x500179_o x500180_o x500181_o x500182_o) _
  unfold sb_204_10
  refine gQ_ite ?_ ?_
  · refine gQ_v1 (A := Fw W g) (of_155 hg_o hU_o rfl h500183_o) (fun v4_l s3_l h500185_o => ?_)
    exact gQ_ret ⟨rfl, h500185_o⟩
  · refine gQ_map ?_
    exact gQ_ret h500183_o

theorem of_205 {W : Nat → Nat → Bool} {g s : gS} {a0 : Nat} {a1 : Int} (hg_o : RF g) (hU_o : ∀ a k, wff a k = true → W a k = true) (ea0_o : a0 = 217) (h_o : Fw W g s) : gQ (f_205 a0 a1 s) (fun r => Fw W g r.2.2.2) := by
  subst ea0_o
  unfold f_205
  refine gQ_v1 (A := Fw W g) (of_204 hg_o hU_o rfl h_o) (fun v2 s1_l h500186_o => ?_)
  refine gQ_v1 (A := Fw W g) (of_156 hg_o hU_o rfl h500186_o) (fun v4_l s3_l h500187_o => ?_)
  refine gQ_ite ?_ ?_
  · refine gQ_v1 (A := Fw W g) (of_156 hg_o hU_o rfl h500187_o) (fun v6 s5 h500188_o => ?_)
    refine gQ_v1 (A := Fw W g) (of_155 hg_o hU_o rfl h500188_o) (fun v8 s7 h500189_o => ?_)
    exact gQ_ret h500189_o
  · exact gQ_ret h500187_o

theorem of_206 {W : Nat → Nat → Bool} {g s : gS} {a0 : Nat} {a1 : Int} {a2 : Int} (hg_o : RF g) (hU_o : ∀ a k, wff a k = true → W a k = true) (ea0_o : a0 = 217) (h_o : Fw W g s) : gQ (f_206 a0 a1 a2 s) (fun r => Fw W g r.2.2.2) := by
  subst ea0_o
  unfold f_206
  refine gQ_v1 (A := Fw W g) (of_162 hg_o hU_o rfl h_o) (fun v2 s1_l h500190_o => ?_)
  refine gQ_ite ?_ ?_
  · unfold fb_206_28
    dsimp only
    refine gQ_ite ?_ ?_
    · exact gQ_ret (Fw_w h500190_o rfl (hU_o 217 _ rfl))
    · refine gQ_ite ?_ ?_
      · refine gQ_v1 (A := Fw W g) (of_156 hg_o hU_o rfl (Fw_w h500190_o rfl (hU_o 217 _ rfl))) (fun v6 s5 h500191_o => ?_)
        exact gQ_ret h500191_o
      · refine gQ_ite ?_ ?_
        · refine gQ_v1 (A := Fw W g) (of_198 hg_o hU_o rfl (Fw_w h500190_o rfl (hU_o 217 _ rfl))) (fun v8 s7 h500192_o => ?_)
          exact gQ_ret h500192_o
        · refine gQ_ite ?_ ?_
          · refine gQ_v1 (A := Fw W g) (of_205 hg_o hU_o rfl (Fw_w h500190_o rfl (hU_o 217 _ rfl))) (fun v10 s9 h500193_o => ?_)
            exact gQ_ret h500193_o
          · refine gQ_ite ?_ ?_
            · refine gQ_v1 (A := Fw W g) (of_204 hg_o hU_o rfl (Fw_w h500190_o rfl (hU_o 217 _ rfl))) (fun v12 s11 h500194_o => ?_)
              refine gQ_v1 (A := Fw W g) (of_156 hg_o hU_o rfl h500194_o) (fun v14 s13 h500195_o => ?_)
              exact gQ_ret h500195_o
            · refine gQ_v1 (A := Fw W g) (of_204 hg_o hU_o rfl (Fw_w h500190_o rfl (hU_o 217 _ rfl))) (fun v16 s15 h500196_o => ?_)
              refine gQ_v1 (A := Fw W g) (of_205 hg_o hU_o rfl h500196_o) (fun v18 s17 h500197_o => ?_)
              exact gQ_ret h500197_o
  · refine gQ_v1 (A := Fw W g) (of_150 hg_o hU_o  h500190_o) (fun v20 s19 h500198_o => ?_)
    refine gQ_ite ?_ ?_
    · unfold fb_206_28
      dsimp only
      refine gQ_ite ?_ ?_
      · exact gQ_ret (Fw_w h500198_o rfl (hU_o 217 _ rfl))
      · refine gQ_ite ?_ ?_
        · refine gQ_v1 (A := Fw W g) (of_156 hg_o hU_o rfl (Fw_w h500198_o rfl (hU_o 217 _ rfl))) (fun v6 s5 h500199_o => ?_)
          exact gQ_ret h500199_o
        · refine gQ_ite ?_ ?_
          · refine gQ_v1 (A := Fw W g) (of_198 hg_o hU_o rfl (Fw_w h500198_o rfl (hU_o 217 _ rfl))) (fun v8 s7 h500200_o => ?_)
            exact gQ_ret h500200_o
          · refine gQ_ite ?_ ?_
            · refine gQ_v1 (A := Fw W g) (of_205 hg_o hU_o rfl (Fw_w h500198_o rfl (hU_o 217 _ rfl))) (fun v10 s9 h500201_o => ?_)
              exact gQ_ret h500201_o
            · refine gQ_ite ?_ ?_
              · refine gQ_v1 (A := Fw W g) (of_204 hg_o hU_o rfl (Fw_w h500198_o rfl (hU_o 217 _ rfl))) (fun v12 s11 h500202_o => ?_)
                refine gQ_v1 (A := Fw W g) (of_156 hg_o hU_o rfl h500202_o) (fun v14 s13 h500203_o => ?_)
                exact gQ_ret h500203_o
              · refine gQ_v1 (A := Fw W g) (of_204 hg_o hU_o rfl (Fw_w h500198_o rfl (hU_o 217 _ rfl))) (fun v16 s15 h500204_o => ?_)
                refine gQ_v1 (A := Fw W g) (of_205 hg_o hU_o rfl h500204_o) (fun v18 s17 h500205_o => ?_)
                exact gQ_ret h500205_o
    · unfold fb_206_28
      dsimp only
      refine gQ_ite ?_ ?_
      · exact gQ_ret (Fw_w h500198_o rfl (hU_o 217 _ rfl))
      · refine gQ_ite ?_ ?_
        · refine gQ_v1 (A := Fw W g) (of_156 hg_o hU_o rfl (Fw_w h500198_o rfl (hU_o 217 _ rfl))) (fun v6 s5 h500206_o => ?_)
          exact gQ_ret h500206_o
        · refine gQ_ite ?_ ?_
          · refine gQ_v1 (A := Fw W g) (of_198 hg_o hU_o rfl (Fw_w h500198_o rfl (hU_o 217 _ rfl))) (fun v8 s7 h500207_o => ?_)
            exact gQ_ret h500207_o
          · refine gQ_ite ?_ ?_
            · refine gQ_v1 (A := Fw W g) (of_205 hg_o hU_o rfl (Fw_w h500198_o rfl (hU_o 217 _ rfl))) (fun v10 s9 h500208_o => ?_)
              exact gQ_ret h500208_o
            · refine gQ_ite ?_ ?_
              · refine gQ_v1 (A := Fw W g) (of_204 hg_o hU_o rfl (Fw_w h500198_o rfl (hU_o 217 _ rfl))) (fun v12 s11 h500209_o => ?_)
                refine gQ_v1 (A := Fw W g) (of_156 hg_o hU_o rfl h500209_o) (fun v14 s13 h500210_o => ?_)
                exact gQ_ret h500210_o
              · refine gQ_v1 (A := Fw W g) (of_204 hg_o hU_o rfl (Fw_w h500198_o rfl (hU_o 217 _ rfl))) (fun v16 s15 h500211_o => ?_)
                refine gQ_v1 (A := Fw W g) (of_205 hg_o hU_o rfl h500211_o) (fun v18 s17 h500212_o => ?_)
                exact gQ_ret h500212_o

theorem of_207 {W : Nat → Nat → Bool} {g s : gS} {a0 : Nat} {a1 : Int} {a2 : Int} (hg_o : RF g) (hU_o : ∀ a k, wff a k = true → W a k = true) (ea0_o : a0 = 217) (h_o : Fw W g s) : gQ (f_207 a0 a1 a2 s) (fun r => Fw W g r.2.2.2) := by
  subst ea0_o
  unfold f_207
  refine gQ_v1 (A := Fw W g) (of_163 hg_o hU_o rfl h_o) (fun v2 s1_l h500213_o => ?_)
  refine gQ_ite ?_ ?_
  · unfold fb_207_14
    dsimp only
    refine gQ_ite ?_ ?_
    · exact gQ_ret (Fw_w h500213_o rfl (hU_o 217 _ rfl))
    · refine gQ_ite ?_ ?_
      · refine gQ_v1 (A := Fw W g) (of_158 hg_o hU_o rfl (Fw_w h500213_o rfl (hU_o 217 _ rfl))) (fun v6 s5 h500214_o => ?_)
        exact gQ_ret h500214_o
      · refine gQ_v1 (A := Fw W g) (of_159 hg_o hU_o rfl (Fw_w h500213_o rfl (hU_o 217 _ rfl))) (fun v8 s7 h500215_o => ?_)
        exact gQ_ret h500215_o
  · unfold fb_207_14
    dsimp only
    refine gQ_ite ?_ ?_
    · exact gQ_ret (Fw_w h500213_o rfl (hU_o 217 _ rfl))
    · refine gQ_ite ?_ ?_
      · refine gQ_v1 (A := Fw W g) (of_158 hg_o hU_o rfl (Fw_w h500213_o rfl (hU_o 217 _ rfl))) (fun v6 s5 h500216_o => ?_)
        exact gQ_ret h500216_o
      · refine gQ_v1 (A := Fw W g) (of_159 hg_o hU_o rfl (Fw_w h500213_o rfl (hU_o 217 _ rfl))) (fun v8 s7 h500217_o => ?_)
        exact gQ_ret h500217_o

theorem of_208 {W : Nat → Nat → Bool} {g s : gS} {a0 : Nat} {a1 : Int} {a2 : Int} (hg_o : RF g) (hU_o : ∀ a k, wff a k = true → W a k = true) (ea0_o : a0 = 217) (h_o : Fw W g s) : gQ (f_208 a0 a1 a2 s) (fun r => Fw W g r.2.2.2) := by
  subst ea0_o
  unfold f_208
  refine gQ_v1 (A := Fw W g) (of_164 hg_o hU_o rfl h_o) (fun v2 s1_l h500218_o => ?_)
  refine gQ_ite ?_ ?_
  · unfold fb_208_14
    dsimp only
    refine gQ_ite ?_ ?_
    · exact gQ_ret (Fw_w h500218_o rfl (hU_o 217 _ rfl))
    · refine gQ_ite ?_ ?_
      · unfold fb_208_39
        refine gQ_v1 (A := Fw W g) (of_160 hg_o hU_o rfl (Fw_w h500218_o rfl (hU_o 217 _ rfl))) (fun v6 s5 h500219_o => ?_)
        exact gQ_ret h500219_o
      · unfold fb_208_39
        refine gQ_v1 (A := Fw W g) (of_160 hg_o hU_o rfl (Fw_w h500218_o rfl (hU_o 217 _ rfl))) (fun v6 s5 h500220_o => ?_)
        exact gQ_ret h500220_o
  · unfold fb_208_14
    dsimp only
    refine gQ_ite ?_ ?_
    · exact gQ_ret (Fw_w h500218_o rfl (hU_o 217 _ rfl))
    · refine gQ_ite ?_ ?_
      · unfold fb_208_39
        refine gQ_v1 (A := Fw W g) (of_160 hg_o hU_o rfl (Fw_w h500218_o rfl (hU_o 217 _ rfl))) (fun v6 s5 h500221_o => ?_)
        exact gQ_ret h500221_o
      · unfold fb_208_39
        refine gQ_v1 (A := Fw W g) (of_160 hg_o hU_o rfl (Fw_w h500218_o rfl (hU_o 217 _ rfl))) (fun v6 s5 h500222_o => ?_)
        exact gQ_ret h500222_o

theorem of_212 {W : Nat → Nat → Bool} {g s : gS} {a0 : Nat} {a1 : Int} {a2 : Int} (hg_o : RF g) (hU_o : ∀ a k, wff a k = true → W a k = true) (ea0_o : a0 = 217) (h_o : Fw W g s) : gQ (f_212 a0 a1 a2 s) (fun r => Fw W g r.2.2.2) := by
  subst ea0_o
  unfold f_212
  refine gQ_v1 (A := Fw W g) (of_159 hg_o hU_o rfl h_o) (fun v2 s1_l h500223_o => ?_)
  refine gQ_ite ?_ ?_
  · exact gQ_ret h500223_o
  · exact gQ_ret h500223_o

theorem of_231 {W : Nat → Nat → Bool} {g s : gS} {a0 : Nat} {a1 : Int} (hg_o : RF g) (hU_o : ∀ a k, wff a k = true → W a k = true) (ea0_o : a0 = 217) (h_o : Fw W g s) : gQ (f_231 a0 a1 s) (fun r => Fw W g r.2.2.2) := by
  subst ea0_o
  unfold f_231
  refine gQ_loop (fun y_l => y_l.1 = 217 ∧ Fw W g (y_l.2.2.2.2)) (fun y_l hy_o => ?_) ⟨rfl, h_o⟩
  obtain ⟨x500224_o, x500225_o, x500226_o, x500227_o, x500228_o⟩ := y_l
  obtain ⟨e500230_o, h500229_o⟩ := hy_o
  dsimp only at e500230_o h500229_o
  subst e500230_o
  show gQ (sb_231_4 217 x500225_o x500226_o x500227_o x500228_o) _
  unfold sb_231_4
  refine gQ_ite ?_ ?_
  · refine gQ_v1 (A := Fw W g) (of_153 hg_o hU_o  h500229_o) (fun v2 s1_l h500231_o => ?_)
    refine gQ_ite ?_ ?_
    · exact gQ_ret ⟨rfl, h500231_o⟩
    · refine gQ_v1 (A := Fw W g) (of_159 hg_o hU_o rfl h500231_o) (fun v5 s4_l h500232_o => ?_)
      exact gQ_ret ⟨rfl, h500232_o⟩
  · refine gQ_map ?_
    exact gQ_ret h500229_o

theorem of_232 {W : Nat → Nat → Bool} {g s : gS} {a0 : Nat} {a1 : Int} (hg_o : RF g) (hU_o : ∀ a k, wff a k = true → W a k = true) (ea0_o : a0 = 217) (h_o : Fw W g s) : gQ (f_232 a0 a1 s) (fun r => Fw W g r.2.2.2) := by
  subst ea0_o
  unfold f_232
  refine gQ_loop (fun y_l => y_l.1 = 217 ∧ Fw W g (y_l.2.2.2.2)) (fun y_l hy_o => ?_) ⟨rfl, h_o⟩
  obtain ⟨x500233_o, x500234_o, x500235_o, x500236_o, x500237_o⟩ := y_l
  obtain ⟨e500239_o, h500238_o⟩ := hy_o
  dsimp only at e500239_o h500238_o
  subst e500239_o
  show gQ (sb_232_4 217 x500234_o x500235_o x500236_o x500237_o) _
  unfold sb_232_4
  refine gQ_ite ?_ ?_
  · refine gQ_v1 (A := Fw W g) (of_153 hg_o hU_o  h500238_o) (fun v2 s1_l h500240_o => ?_)
    refine gQ_ite ?_ ?_
    · exact gQ_ret ⟨rfl, h500240_o⟩
    · refine gQ_v1 (A := Fw W g) (of_158 hg_o hU_o rfl h500240_o) (fun v5 s4_l h500241_o => ?_)
      exact gQ_ret ⟨rfl, h500241_o⟩
  · refine gQ_map ?_
    exact gQ_ret h500238_o

theorem of_233 {W : Nat → Nat → Bool} {g s : gS} {a0 : Nat} {a1 : Int} {a2 : Int} (hg_o : RF g) (hU_o : ∀ a k, wff a k = true → W a k = true) (ea0_o : a0 = 217) (h_o : Fw W g s) : gQ (f_233 a0 a1 a2 s) (fun r => Fw W g r.2.2.2) := by
  subst ea0_o
  unfold f_233
  refine gQ_v1 (A := Fw W g) (of_162 hg_o hU_o rfl h_o) (fun v2 s1_l h500242_o => ?_)
  refine gQ_ite ?_ ?_
  · unfold fb_233_14
    dsimp only
    refine gQ_ite ?_ ?_
    · refine gQ_v1 (A := Fw W g) (of_156 hg_o hU_o rfl (Fw_w h500242_o rfl (hU_o 217 _ rfl))) (fun v6 s5 h500243_o => ?_)
      refine gQ_v1 (A := Fw W g) (of_231 hg_o hU_o rfl h500243_o) (fun v8 s7 h500244_o => ?_)
      refine gQ_ite ?_ ?_
      · exact gQ_ret h500244_o
      · unfold fb_233_45
        exact gQ_ret h500244_o
    · unfold fb_233_45
      exact gQ_ret (Fw_w h500242_o rfl (hU_o 217 _ rfl))
  · unfold fb_233_14
    dsimp only
    refine gQ_ite ?_ ?_
    · refine gQ_v1 (A := Fw W g) (of_156 hg_o hU_o rfl (Fw_w h500242_o rfl (hU_o 217 _ rfl))) (fun v6 s5 h500245_o => ?_)
      refine gQ_v1 (A := Fw W g) (of_231 hg_o hU_o rfl h500245_o) (fun v8 s7 h500246_o => ?_)
      refine gQ_ite ?_ ?_
      · exact gQ_ret h500246_o
      · unfold fb_233_45
        exact gQ_ret h500246_o
    · unfold fb_233_45
      exact gQ_ret (Fw_w h500242_o rfl (hU_o 217 _ rfl))

theorem of_234 {W : Nat → Nat → Bool} {g s : gS} {a0 : Nat} {a1 : Int} {a2 : Int} (hg_o : RF g) (hU_o : ∀ a k, wff a k = true → W a k = true) (ea0_o : a0 = 217) (h_o : Fw W g s) : gQ (f_234 a0 a1 a2 s) (fun r => Fw W g r.2.2.2) := by
  subst ea0_o
  unfold f_234
  refine gQ_loop (fun y_l => y_l.1 = 217 ∧ Fw W g (y_l.2.2.2.2.2)) (fun y_l hy_o => ?_) ⟨rfl, h_o⟩
  obtain ⟨x500247_o, x500248_o, x500249_o, x500250_o, x500251_o, x500252_o⟩ := y_l
  obtain ⟨e500254_o, h500253_o⟩ := hy_o
  dsimp only at e500254_o h500253_o
  subst e500254_o
  show gQ (sb_234_5 217 x500248_o x500249_o x500250_o x500251_o x500252_o) _
  unfold sb_234_5
  refine gQ_ite ?_ ?_
  · refine gQ_v1 (A := Fw W g) (of_156 hg_o hU_o rfl h500253_o) (fun v2 s1_l h500255_o => ?_)
    refine gQ_v1 (A := Fw W g) (of_231 hg_o hU_o rfl h500255_o) (fun v4_l s3_l h500256_o => ?_)
    refine gQ_ite ?_ ?_
    · refine gQ_ite ?_ ?_
      · unfold fb_234_77
        exact gQ_ret ⟨rfl, h500256_o⟩
      · refine gQ_ite ?_ ?_
        · refine gQ_v1 (A := Fw W g) (of_232 hg_o hU_o rfl h500256_o) (fun v6 s5 h500257_o => ?_)
          refine gQ_v1 (A := Fw W g) (of_232 hg_o hU_o rfl h500257_o) (fun v8 s7 h500258_o => ?_)
          refine gQ_ite ?_ ?_
          · unfold fb_234_77
            exact gQ_ret ⟨rfl, h500258_o⟩
          · exact gQ_ret ⟨rfl, h500258_o⟩
        · refine gQ_v1 (A := Fw W g) (of_154 hg_o hU_o  h500256_o) (fun v10 s9 h500259_o => ?_)
          refine gQ_v1 (A := Fw W g) (of_154 hg_o hU_o  h500259_o) (fun v12 s11 h500260_o => ?_)
          refine gQ_ite ?_ ?_
          · unfold fb_234_77
            exact gQ_ret ⟨rfl, h500260_o⟩
          · exact gQ_ret ⟨rfl, h500260_o⟩
    · exact gQ_ret ⟨rfl, h500256_o⟩
  · refine gQ_map ?_
    exact gQ_ret h500253_o

theorem of_235 {W : Nat → Nat → Bool} {g s : gS} {a0 : Nat} {a1 : Int} (hg_o : RF g) (hU_o : ∀ a k, wff a k = true → W a k = true) (ea0_o : a0 = 217) (h_o : Fw W g s) : gQ (f_235 a0 a1 s) (fun r => Fw W g r.2.2.2) := by
  subst ea0_o
  unfold f_235
  refine gQ_v1 (A := Fw W g) (of_162 hg_o hU_o rfl h_o) (fun v2 s1_l h500261_o => ?_)
  refine gQ_ite ?_ ?_
  · unfold fb_235_14
    dsimp only
    refine gQ_ite ?_ ?_
    · exact gQ_ret (Fw_w h500261_o rfl (hU_o 217 _ rfl))
    · refine gQ_v1 (A := Fw W g) (of_234 hg_o hU_o rfl (Fw_w h500261_o rfl (hU_o 217 _ rfl))) (fun v6 s5 h500262_o => ?_)
      exact gQ_ret h500262_o
  · unfold fb_235_14
    dsimp only
    refine gQ_ite ?_ ?_
    · exact gQ_ret (Fw_w h500261_o rfl (hU_o 217 _ rfl))
    · refine gQ_v1 (A := Fw W g) (of_234 hg_o hU_o rfl (Fw_w h500261_o rfl (hU_o 217 _ rfl))) (fun v6 s5 h500263_o => ?_)
      exact gQ_ret h500263_o

theorem of_236 {W : Nat → Nat → Bool} {g s : gS} {a0 : Nat} {a1 : Int} {a2 : Int} (hg_o : RF g) (hU_o : ∀ a k, wff a k = true → W a k = true) (ea0_o : a0 = 217) (h_o : Fw W g s) : gQ (f_236 a0 a1 a2 s) (fun r => Fw W g r.2.2.2) := by
  subst ea0_o
  unfold f_236
  refine gQ_v1 (A := Fw W g) (of_162 hg_o hU_o rfl h_o) (fun v2 s1_l h500264_o => ?_)
  refine gQ_ite ?_ ?_
  · unfold fb_236_14
    dsimp only
    refine gQ_ite ?_ ?_
    · exact gQ_ret (Fw_w h500264_o rfl (hU_o 217 _ rfl))
    · refine gQ_v1 (A := Fw W g) (of_234 hg_o hU_o rfl (Fw_w h500264_o rfl (hU_o 217 _ rfl))) (fun v6 s5 h500265_o => ?_)
      refine gQ_ite ?_ ?_
      · unfold fb_236_50
        exact gQ_ret h500265_o
      · refine gQ_ite ?_ ?_
        · unfold fb_236_50
          exact gQ_ret h500265_o
        · refine gQ_v1 (A := Fw W g) (of_232 hg_o hU_o rfl h500265_o) (fun v8 s7 h500266_o => ?_)
          exact gQ_ret h500266_o
  · unfold fb_236_14
    dsimp only
    refine gQ_ite ?_ ?_
    · exact gQ_ret (Fw_w h500264_o rfl (hU_o 217 _ rfl))
    · refine gQ_v1 (A := Fw W g) (of_234 hg_o hU_o rfl (Fw_w h500264_o rfl (hU_o 217 _ rfl))) (fun v6 s5 h500267_o => ?_)
      refine gQ_ite ?_ ?_
      · unfold fb_236_50
        exact gQ_ret h500267_o
      · refine gQ_ite ?_ ?_
        · unfold fb_236_50
          exact gQ_ret h500267_o
        · refine gQ_v1 (A := Fw W g) (of_232 hg_o hU_o rfl h500267_o) (fun v8 s7 h500268_o => ?_)
          exact gQ_ret h500268_o

theorem of_237 {W : Nat → Nat → Bool} {g s : gS} {a0 : Nat} {a1 : Int} (hg_o : RF g) (hU_o : ∀ a k, wff a k = true → W a k = true) (ea0_o : a0 = 217) (h_o : Fw W g s) : gQ (f_237 a0 a1 s) (fun r => Fw W g r.2.2.2) := by
  subst ea0_o
  unfold f_237
  refine gQ_v1 (A := Fw W g) (of_162 hg_o hU_o rfl h_o) (fun v2 s1_l h500269_o => ?_)
  refine gQ_ite ?_ ?_
  · unfold fb_237_14
    dsimp only
    refine gQ_loop (fun y_l => y_l.1 = 217 ∧ Fw W g (y_l.2.2.2.2)) (fun y_l hy_o => ?_) ⟨rfl, (Fw_w h500269_o rfl (hU_o 217 _ rfl))⟩
    obtain ⟨x500270_o, x500271_o, x500272_o, x500273_o, x500274_o⟩ := y_l
    obtain ⟨e500276_o, h500275_o⟩ := hy_o
    dsimp only at e500276_o h500275_o
    subst e500276_o
    show gQ (sb_237_21 217 x500271_o x500272_o x500273_o x500274_o) _
    unfold sb_237_21
    dsimp only
    refine gQ_ite ?_ ?_
    · refine gQ_ite ?_ ?_
      · refine gQ_v1 (A := Fw W g) (of_156 hg_o hU_o rfl h500275_o) (fun v6 s5 h500277_o => ?_)
        refine gQ_v1 (A := Fw W g) (of_212 hg_o hU_o rfl h500277_o) (fun v8 s7 h500278_o => ?_)
        refine gQ_ite ?_ ?_
        · exact gQ_ret ⟨rfl, h500278_o⟩
        · exact gQ_ret ⟨rfl, h500278_o⟩
      · refine gQ_map ?_
        exact gQ_ret h500275_o
    · refine gQ_map ?_
      exact gQ_ret h500275_o
  · unfold fb_237_14
    dsimp only
    refine gQ_loop (fun y_l => y_l.1 = 217 ∧ Fw W g (y_l.2.2.2.2)) (fun y_l hy_o => ?_) ⟨rfl, (Fw_w h500269_o rfl (hU_o 217 _ rfl))⟩
    obtain ⟨x500279_o, x500280_o, x500281_o, x500282_o, x500283_o⟩ := y_l
    obtain ⟨e500285_o, h500284_o⟩ := hy_o
    dsimp only at e500285_o h500284_o
    subst e500285_o
    show gQ (sb_237_21 217 x500280_o x500281_o x500282_o x500283_o) _
    unfold sb_237_21
    dsimp only
    refine gQ_ite ?_ ?_
    · refine gQ_ite ?_ ?_
      · refine gQ_v1 (A := Fw W g) (of_156 hg_o hU_o rfl h500284_o) (fun v6 s5 h500286_o => ?_)
        refine gQ_v1 (A := Fw W g) (of_212 hg_o hU_o rfl h500286_o) (fun v8 s7 h500287_o => ?_)
        refine gQ_ite ?_ ?_
        · exact gQ_ret ⟨rfl, h500287_o⟩
        · exact gQ_ret ⟨rfl, h500287_o⟩
      · refine gQ_map ?_
        exact gQ_ret h500284_o
    · refine gQ_map ?_
      exact gQ_ret h500284_o

theorem of_238 {W : Nat → Nat → Bool} {g s : gS} {a0 : Nat} (hg_o : RF g) (hU_o : ∀ a k, wff a k = true → W a k = true) (ea0_o : a0 = 217) (h_o : Fw W g s) : gQ (f_238 a0 s) (fun r => Fw W g r.2.2.2) := by
  subst ea0_o
  unfold f_238
  dsimp only
  refine gQ_ite ?_ ?_
  · refine gQ_ite ?_ ?_
    · unfold fb_238_26
      unfold fb_238_27
      refine gQ_loop (fun y_l => y_l.1 = 217 ∧ Fw W g (y_l.2.2.2.2)) (fun y_l hy_o => ?_) ⟨rfl, (Fw_w h_o rfl (hU_o 217 _ rfl))⟩
      obtain ⟨x500288_o, x500289_o, x500290_o, x500291_o, x500292_o⟩ := y_l
      obtain ⟨e500294_o, h500293_o⟩ := hy_o
      dsimp only at e500294_o h500293_o
      subst e500294_o
      show gQ (sb_238_30 217 x500289_o x500290_o x500291_o x500292_o) _
      unfold sb_238_30
      refine gQ_ite ?_ ?_
      · refine gQ_ite ?_ ?_
        · refine gQ_map ?_
          unfold fb_238_76
          refine gQ_ite ?_ ?_
          · exact gQ_ret h500293_o
          · refine gQ_loop (fun y_l => y_l.1 = 217 ∧ Fw W g (y_l.2.2.2.2)) (fun y_l hy_o => ?_) ⟨rfl, h500293_o⟩
            obtain ⟨x500295_o, x500296_o, x500297_o, x500298_o, x500299_o⟩ := y_l
            obtain ⟨e500301_o, h500300_o⟩ := hy_o
            dsimp only at e500301_o h500300_o
            subst e500301_o
            show gQ (sb_238_87 217 x500296_o x500297_o x500298_o x500299_o) _
            unfold sb_238_87
            dsimp only
            refine gQ_ite ?_ ?_
            · refine gQ_chk2 (fun ha500302_o hb500303_o => ?_)
              refine gQ_bool ?_
              refine gQ_loop (fun y_l => y_l.1 = 217 ∧ Fw W g (y_l.2.2.2.2.2)) (fun y_l hy_o => ?_) ⟨rfl, (Fw_w h500300_o (fr_r h500300_o rfl (rr_217_23 hg_o)) (hU_o 229 _ rfl))⟩
              obtain ⟨x500304_o, x500305_o, x500306_o, x500307_o, x500308_o, x500309_o⟩ := y_l
              obtain ⟨e500311_o, h500310_o⟩ := hy_o
              dsimp only at e500311_o h500310_o
              subst e500311_o
              show gQ (sb_238_105 217 x500305_o x500306_o x500307_o x500308_o x500309_o) _
              unfold sb_238_105
              refine gQ_ite ?_ ?_
              · refine gQ_chk2 (fun ha500312_o hb500313_o => ?_)
                refine gQ_ite ?_ ?_
                · refine gQ_map ?_
                  unfold fb_238_173
                  refine gQ_chk2 (fun ha500314_o hb500315_o => ?_)
                  refine gQ_ite ?_ ?_
                  · exact gQ_ret ⟨rfl, h500310_o⟩
                  · exact gQ_ret ⟨rfl, h500310_o⟩
                · refine gQ_chk2 (fun ha500316_o hb500317_o => ?_)
                  refine gQ_v1 (A := Fw W g) (of_212 hg_o hU_o rfl h500310_o) (fun v4_l s3_l h500318_o => ?_)
                  refine gQ_chk2 (fun ha500319_o hb500320_o => ?_)
                  refine gQ_ite ?_ ?_
                  · unfold fb_238_158
                    dsimp only
                    refine gQ_ite ?_ ?_
                    · refine gQ_chk2 (fun ha500321_o hb500322_o => ?_)
                      refine gQ_bool ?_
                      exact gQ_ret ⟨rfl, (Fw_w h500318_o (fr_r h500310_o rfl (rr_217_23 hg_o)) (hU_o 229 _ rfl))⟩
                    · refine gQ_chk2 (fun ha500323_o hb500324_o => ?_)
                      refine gQ_bool ?_
                      exact gQ_ret ⟨rfl, (Fw_w h500318_o (fr_r h500310_o rfl (rr_217_23 hg_o)) (hU_o 229 _ rfl))⟩
                  · unfold fb_238_158
                    dsimp only
                    refine gQ_ite ?_ ?_
                    · refine gQ_chk2 (fun ha500325_o hb500326_o => ?_)
                      refine gQ_bool ?_
                      exact gQ_ret ⟨rfl, (Fw_w h500318_o (fr_r h500310_o rfl (rr_217_23 hg_o)) (hU_o 229 _ rfl))⟩
                    · refine gQ_chk2 (fun ha500327_o hb500328_o => ?_)
                      refine gQ_bool ?_
                      exact gQ_ret ⟨rfl, (Fw_w h500318_o (fr_r h500310_o rfl (rr_217_23 hg_o)) (hU_o 229 _ rfl))⟩
              · refine gQ_map ?_
                unfold fb_238_173
                refine gQ_chk2 (fun ha500329_o hb500330_o => ?_)
                refine gQ_ite ?_ ?_
                · exact gQ_ret ⟨rfl, h500310_o⟩
                · exact gQ_ret ⟨rfl, h500310_o⟩
            · refine gQ_map ?_
              exact gQ_ret h500300_o
        · refine gQ_chk2 (fun ha500331_o hb500332_o => ?_)
          refine gQ_ite ?_ ?_
          · unfold fb_238_61
            refine gQ_ite ?_ ?_
            · exact gQ_ret ⟨rfl, h500293_o⟩
            · exact gQ_ret ⟨rfl, h500293_o⟩
          · unfold fb_238_61
            refine gQ_ite ?_ ?_
            · exact gQ_ret ⟨rfl, h500293_o⟩
            · exact gQ_ret ⟨rfl, h500293_o⟩
      · refine gQ_map ?_
        unfold fb_238_76
        refine gQ_ite ?_ ?_
        · exact gQ_ret h500293_o
        · refine gQ_loop (fun y_l => y_l.1 = 217 ∧ Fw W g (y_l.2.2.2.2)) (fun y_l hy_o => ?_) ⟨rfl, h500293_o⟩
          obtain ⟨x500333_o, x500334_o, x500335_o, x500336_o, x500337_o⟩ := y_l
          obtain ⟨e500339_o, h500338_o⟩ := hy_o
          dsimp only at e500339_o h500338_o
          subst e500339_o
          show gQ (sb_238_87 217 x500334_o x500335_o x500336_o x500337_o) _
          unfold sb_238_87
          dsimp only
          refine gQ_ite ?_ ?_
          · refine gQ_chk2 (fun ha500340_o hb500341_o => ?_)
            refine gQ_bool ?_
            refine gQ_loop (fun y_l => y_l.1 = 217 ∧ Fw W g (y_l.2.2.2.2.2)) (fun y_l hy_o => ?_) ⟨rfl, (Fw_w h500338_o (fr_r h500338_o rfl (rr_217_23 hg_o)) (hU_o 229 _ rfl))⟩
            obtain ⟨x500342_o, x500343_o, x500344_o, x500345_o, x500346_o, x500347_o⟩ := y_l
            obtain ⟨e500349_o, h500348_o⟩ := hy_o
            dsimp only at e500349_o h500348_o
            subst e500349_o
            show gQ (sb_238_105 217 x500343_o x500344_o x500345_o x500346_o x500347_o) _
            unfold sb_238_105
            refine gQ_ite ?_ ?_
            · refine gQ_chk2 (fun ha500350_o hb500351_o => ?_)
              refine gQ_ite ?_ ?_
              · refine gQ_map ?_
                unfold fb_238_173
                refine gQ_chk2 (fun ha500352_o hb500353_o => ?_)
                refine gQ_ite ?_ ?_
                · exact gQ_ret ⟨rfl, h500348_o⟩
                · exact gQ_ret ⟨rfl, h500348_o⟩
              · refine gQ_chk2 (fun ha500354_o hb500355_o => ?_)
                refine gQ_v1 (A := Fw W g) (of_212 hg_o hU_o rfl h500348_o) (fun v4_l s3_l h500356_o => ?_)
                refine gQ_chk2 (fun ha500357_o hb500358_o => ?_)
                refine gQ_ite ?_ ?_
                · unfold fb_238_158
                  dsimp only
                  refine gQ_ite ?_ ?_
                  · refine gQ_chk2 (fun ha500359_o hb500360_o => ?_)
                    refine gQ_bool ?_
                    exact gQ_ret ⟨rfl, (Fw_w h500356_o (fr_r h500348_o rfl (rr_217_23 hg_o)) (hU_o 229 _ rfl))⟩
                  · refine gQ_chk2 (fun ha500361_o hb500362_o => ?_)
                    refine gQ_bool ?_
                    exact gQ_ret ⟨rfl, (Fw_w h500356_o (fr_r h500348_o rfl (rr_217_23 hg_o)) (hU_o 229 _ rfl))⟩
                · unfold fb_238_158
                  dsimp only
                  refine gQ_ite ?_ ?_
                  · refine gQ_chk2 (fun ha500363_o hb500364_o => ?_)
                    refine gQ_bool ?_
                    exact gQ_ret ⟨rfl, (Fw_w h500356_o (fr_r h500348_o rfl (rr_217_23 hg_o)) (hU_o 229 _ rfl))⟩
                  · refine gQ_chk2 (fun ha500365_o hb500366_o => ?_)
                    refine gQ_bool ?_
                    exact gQ_ret ⟨rfl, (Fw_w h500356_o (fr_r h500348_o rfl (rr_217_23 hg_o)) (hU_o 229 _ rfl))⟩
            · refine gQ_map ?_
              unfold fb_238_173
              refine gQ_chk2 (fun ha500367_o hb500368_o => ?_)
              refine gQ_ite ?_ ?_
              · exact gQ_ret ⟨rfl, h500348_o⟩
              · exact gQ_ret ⟨rfl, h500348_o⟩
          · refine gQ_map ?_
            exact gQ_ret h500338_o
    · unfold fb_238_27
      refine gQ_loop (fun y_l => y_l.1 = 217 ∧ Fw W g (y_l.2.2.2.2)) (fun y_l hy_o => ?_) ⟨rfl, (Fw_w h_o rfl (hU_o 217 _ rfl))⟩
      obtain ⟨x500369_o, x500370_o, x500371_o, x500372_o, x500373_o⟩ := y_l
      obtain ⟨e500375_o, h500374_o⟩ := hy_o
      dsimp only at e500375_o h500374_o
      subst e500375_o
      show gQ (sb_238_30 217 x500370_o x500371_o x500372_o x500373_o) _
      unfold sb_238_30
      refine gQ_ite ?_ ?_
      · refine gQ_ite ?_ ?_
        · refine gQ_map ?_
          unfold fb_238_76
          refine gQ_ite ?_ ?_
          · exact gQ_ret h500374_o
          · refine gQ_loop (fun y_l => y_l.1 = 217 ∧ Fw W g (y_l.2.2.2.2)) (fun y_l hy_o => ?_) ⟨rfl, h500374_o⟩
            obtain ⟨x500376_o, x500377_o, x500378_o, x500379_o, x500380_o⟩ := y_l
            obtain ⟨e500382_o, h500381_o⟩ := hy_o
            dsimp only at e500382_o h500381_o
            subst e500382_o
            show gQ (sb_238_87 217 x500377_o x500378_o x500379_o x500380_o) _
            unfold sb_238_87
            dsimp only
            refine gQ_ite ?_ ?_
            · refine gQ_chk2 (fun ha500383_o hb500384_o => ?_)
              refine gQ_bool ?_
              refine gQ_loop (fun y_l => y_l.1 = 217 ∧ Fw W g (y_l.2.2.2.2.2)) (fun y_l hy_o => ?_) ⟨rfl, (Fw_w h500381_o (fr_r h500381_o rfl (rr_217_23 hg_o)) (hU_o 229 _ rfl))⟩
              obtain ⟨x500385_o, x500386_o, x500387_o, x500388_o, x500389_o, x500390_o⟩ := y_l
              obtain ⟨e500392_o, h500391_o⟩ := hy_o
              dsimp only at e500392_o h500391_o
              subst e500392_o
              show gQ (sb_238_105 217 x500386_o x500387_o x500388_o x500389_o x500390_o) _
              unfold sb_238_105
              refine gQ_ite ?_ ?_
              · refine gQ_chk2 (fun ha500393_o hb500394_o => ?_)
                refine gQ_ite ?_ ?_
                · refine gQ_map ?_
                  unfold fb_238_173
                  refine gQ_chk2 (fun ha500395_o hb500396_o => ?_)
                  refine gQ_ite ?_ ?_
                  · exact gQ_ret ⟨rfl, h500391_o⟩
                  · exact gQ_ret ⟨rfl, h500391_o⟩
                · refine gQ_chk2 (fun ha500397_o hb500398_o => ?_)
                  refine gQ_v1 (A := Fw W g) (of_212 hg_o hU_o rfl h500391_o) (fun v4_l s3_l h500399_o => ?_)
                  refine gQ_chk2 (fun ha500400_o hb500401_o => ?_)
                  refine gQ_ite ?_ ?_
                  · unfold fb_238_158
                    dsimp only
                    refine gQ_ite ?_ ?_
                    · refine gQ_chk2 (fun ha500402_o hb500403_o => ?_)
                      refine gQ_bool ?_
                      exact gQ_ret ⟨rfl, (Fw_w h500399_o (fr_r h500391_o rfl (rr_217_23 hg_o)) (hU_o 229 _ rfl))⟩
                    · refine gQ_chk2 (fun ha500404_o hb500405_o => ?_)
                      refine gQ_bool ?_
                      exact gQ_ret ⟨rfl, (Fw_w h500399_o (fr_r h500391_o rfl (rr_217_23 hg_o)) (hU_o 229 _ rfl))⟩
                  · unfold fb_238_158
                    dsimp only
                    refine gQ_ite ?_ ?_
                    · refine gQ_chk2 (fun ha500406_o hb500407_o => ?_)
                      refine gQ_bool ?_
                      exact gQ_ret ⟨rfl, (Fw_w h500399_o (fr_r h500391_o rfl (rr_217_23 hg_o)) (hU_o 229 _ rfl))⟩
                    · refine gQ_chk2 (fun ha500408_o hb500409_o => ?_)
                      refine gQ_bool ?_
                      exact gQ_ret ⟨rfl, (Fw_w h500399_o (fr_r h500391_o rfl (rr_217_23 hg_o)) (hU_o 229 _ rfl))⟩
              · refine gQ_map ?_
                unfold fb_238_173
                refine gQ_chk2 (fun ha500410_o hb500411_o => ?_)
                refine gQ_ite ?_ ?_
                · exact gQ_ret ⟨rfl, h500391_o⟩
                · exact gQ_ret ⟨rfl, h500391_o⟩
            · refine gQ_map ?_
              exact gQ_ret h500381_o
        · refine gQ_chk2 (fun ha500412_o hb500413_o => ?_)
          refine gQ_ite ?_ ?_
          · unfold fb_238_61
            refine gQ_ite ?_ ?_
            · exact gQ_ret ⟨rfl, h500374_o⟩
            · exact gQ_ret ⟨rfl, h500374_o⟩
          · unfold fb_238_61
            refine gQ_ite ?_ ?_
            · exact gQ_ret ⟨rfl, h500374_o⟩
            · exact gQ_ret ⟨rfl, h500374_o⟩
      · refine gQ_map ?_
        unfold fb_238_76
        refine gQ_ite ?_ ?_
        · exact gQ_ret h500374_o
        · refine gQ_loop (fun y_l => y_l.1 = 217 ∧ Fw W g (y_l.2.2.2.2)) (fun y_l hy_o => ?_) ⟨rfl, h500374_o⟩
          obtain ⟨x500414_o, x500415_o, x500416_o, x500417_o, x500418_o⟩ := y_l
          obtain ⟨e500420_o, h500419_o⟩ := hy_o
          dsimp only at e500420_o h500419_o
          subst e500420_o
          show gQ (sb_238_87 217 x500415_o x500416_o x500417_o x500418_o) _
          unfold sb_238_87
          dsimp only
          refine gQ_ite ?_ ?_
          · refine gQ_chk2 (fun ha500421_o hb500422_o => ?_)
            refine gQ_bool ?_
            refine gQ_loop (fun y_l => y_l.1 = 217 ∧ Fw W g (y_l.2.2.2.2.2)) (fun y_l hy_o => ?_) ⟨rfl, (Fw_w h500419_o (fr_r h500419_o rfl (rr_217_23 hg_o)) (hU_o 229 _ rfl))⟩
            obtain ⟨x500423_o, x500424_o, x500425_o, x500426_o, x500427_o, x500428_o⟩ := y_l
            obtain ⟨e500430_o, h500429_o⟩ := hy_o
            dsimp only at e500430_o h500429_o
            subst e500430_o
            show gQ (sb_238_105 217 x500424_o x500425_o x500426_o x500427_o x500428_o) _
            unfold sb_238_105
            refine gQ_ite ?_ ?_
            · refine gQ_chk2 (fun ha500431_o hb500432_o => ?_)
              refine gQ_ite ?_ ?_
              · refine gQ_map ?_
                unfold fb_238_173
                refine gQ_chk2 (fun ha500433_o hb500434_o => ?_)
                refine gQ_ite ?_ ?_
                · exact gQ_ret ⟨rfl, h500429_o⟩
                · exact gQ_ret ⟨rfl, h500429_o⟩
              · refine gQ_chk2 (fun ha500435_o hb500436_o => ?_)
                refine gQ_v1 (A := Fw W g) (of_212 hg_o hU_o rfl h500429_o) (fun v4_l s3_l h500437_o => ?_)
                refine gQ_chk2 (fun ha500438_o hb500439_o => ?_)
                refine gQ_ite ?_ ?_
                · unfold fb_238_158
                  dsimp only
                  refine gQ_ite ?_ ?_
                  · refine gQ_chk2 (fun ha500440_o hb500441_o => ?_)
                    refine gQ_bool ?_
                    exact gQ_ret ⟨rfl, (Fw_w h500437_o (fr_r h500429_o rfl (rr_217_23 hg_o)) (hU_o 229 _ rfl))⟩
                  · refine gQ_chk2 (fun ha500442_o hb500443_o => ?_)
                    refine gQ_bool ?_
                    exact gQ_ret ⟨rfl, (Fw_w h500437_o (fr_r h500429_o rfl (rr_217_23 hg_o)) (hU_o 229 _ rfl))⟩
                · unfold fb_238_158
                  dsimp only
                  refine gQ_ite ?_ ?_
                  · refine gQ_chk2 (fun ha500444_o hb500445_o => ?_)
                    refine gQ_bool ?_
                    exact gQ_ret ⟨rfl, (Fw_w h500437_o (fr_r h500429_o rfl (rr_217_23 hg_o)) (hU_o 229 _ rfl))⟩
                  · refine gQ_chk2 (fun ha500446_o hb500447_o => ?_)
                    refine gQ_bool ?_
                    exact gQ_ret ⟨rfl, (Fw_w h500437_o (fr_r h500429_o rfl (rr_217_23 hg_o)) (hU_o 229 _ rfl))⟩
            · refine gQ_map ?_
              unfold fb_238_173
              refine gQ_chk2 (fun ha500448_o hb500449_o => ?_)
              refine gQ_ite ?_ ?_
              · exact gQ_ret ⟨rfl, h500429_o⟩
              · exact gQ_ret ⟨rfl, h500429_o⟩
          · refine gQ_map ?_
            exact gQ_ret h500419_o
  · unfold fb_238_26
    unfold fb_238_27
    refine gQ_loop (fun y_l => y_l.1 = 217 ∧ Fw W g (y_l.2.2.2.2)) (fun y_l hy_o => ?_) ⟨rfl, (Fw_w h_o rfl (hU_o 217 _ rfl))⟩
    obtain ⟨x500450_o, x500451_o, x500452_o, x500453_o, x500454_o⟩ := y_l
    obtain ⟨e500456_o, h500455_o⟩ := hy_o
    dsimp only at e500456_o h500455_o
    subst e500456_o
    show gQ (sb_238_30 217 x500451_o x500452_o x500453_o x500454_o) _
    unfold sb_238_30
    refine gQ_ite ?_ ?_
    · refine gQ_ite ?_ ?_
      · refine gQ_map ?_
        unfold fb_238_76
        refine gQ_ite ?_ ?_
        · exact gQ_ret h500455_o
        · refine gQ_loop (fun y_l => y_l.1 = 217 ∧ Fw W g (y_l.2.2.2.2)) (fun y_l hy_o => ?_) ⟨rfl, h500455_o⟩
          obtain ⟨x500457_o, x500458_o, x500459_o, x500460_o, x500461_o⟩ := y_l
          obtain ⟨e500463_o, h500462_o⟩ := hy_o
          dsimp only at e500463_o h500462_o
          subst e500463_o
          show gQ (sb_238_87 217 x500458_o x500459_o x500460_o x500461_o) _
          unfold sb_238_87
          dsimp only
          refine gQ_ite ?_ ?_
          · refine gQ_chk2 (fun ha500464_o hb500465_o => ?_)
            refine gQ_bool ?_
            refine gQ_loop (fun y_l => y_l.1 = 217 ∧ Fw W g (y_l.2.2.2.2.2)) (fun y_l hy_o => ?_) ⟨rfl, (Fw_w h500462_o (fr_r h500462_o rfl (rr_217_23 hg_o)) (hU_o 229 _ rfl))⟩
            obtain ⟨x500466_o, x500467_o, x500468_o, x500469_o, x500470_o, x500471_o⟩ := y_l
            obtain ⟨e500473_o, h500472_o⟩ := hy_o
            dsimp only at e500473_o h500472_o
            subst e500473_o
            show gQ (sb_238_105 217 x500467_o x500468_o x500469_o x500470_o x500471_o) _
            unfold sb_238_105
            refine gQ_ite ?_ ?_
            · refine gQ_chk2 (fun ha500474_o hb500475_o => ?_)
              refine gQ_ite ?_ ?_
              · refine gQ_map ?_
                unfold fb_238_173
                refine gQ_chk2 (fun ha500476_o hb500477_o => ?_)
                refine gQ_ite ?_ ?_
                · exact gQ_ret ⟨rfl, h500472_o⟩
                · exact gQ_ret ⟨rfl, h500472_o⟩
              · refine gQ_chk2 (fun ha500478_o hb500479_o => ?_)
                refine gQ_v1 (A := Fw W g) (of_212 hg_o hU_o rfl h500472_o) (fun v4_l s3_l h500480_o => ?_)
                refine gQ_chk2 (fun ha500481_o hb500482_o => ?_)
                refine gQ_ite ?_ ?_
                · unfold fb_238_158
                  dsimp only
                  refine gQ_ite ?_ ?_
                  · refine gQ_chk2 (fun ha500483_o hb500484_o => ?_)
                    refine gQ_bool ?_
                    exact gQ_ret ⟨rfl, (Fw_w h500480_o (fr_r h500472_o rfl (rr_217_23 hg_o)) (hU_o 229 _ rfl))⟩
                  · refine gQ_chk2 (fun ha500485_o hb500486_o => ?_)
                    refine gQ_bool ?_
                    exact gQ_ret ⟨rfl, (Fw_w h500480_o (fr_r h500472_o rfl (rr_217_23 hg_o)) (hU_o 229 _ rfl))⟩
                · unfold fb_238_158
                  dsimp only
                  refine gQ_ite ?_ ?_
                  · refine gQ_chk2 (fun ha500487_o hb500488_o => ?_)
                    refine gQ_bool ?_
                    exact gQ_ret ⟨rfl, (Fw_w h500480_o (fr_r h500472_o rfl (rr_217_23 hg_o)) (hU_o 229 _ rfl))⟩
                  · refine gQ_chk2 (fun ha500489_o hb500490_o => ?_)
                    refine gQ_bool ?_
                    exact gQ_ret ⟨rfl, (Fw_w h500480_o (fr_r h500472_o rfl (rr_217_23 hg_o)) (hU_o 229 _ rfl))⟩
            · refine gQ_map ?_
              unfold fb_238_173
              refine gQ_chk2 (fun ha500491_o hb500492_o => ?_)
              refine gQ_ite ?_ ?_
              · exact gQ_ret ⟨rfl, h500472_o⟩
              · exact gQ_ret ⟨rfl, h500472_o⟩
          · refine gQ_map ?_
            exact gQ_ret h500462_o
      · refine gQ_chk2 (fun ha500493_o hb500494_o => ?_)
        refine gQ_ite ?_ ?_
        · unfold fb_238_61
          refine gQ_ite ?_ ?_
          · exact gQ_ret ⟨rfl, h500455_o⟩
          · exact gQ_ret ⟨rfl, h500455_o⟩
        · unfold fb_238_61
          refine gQ_ite ?_ ?_
          · exact gQ_ret ⟨rfl, h500455_o⟩
          · exact gQ_ret ⟨rfl, h500455_o⟩
    · refine gQ_map ?_
      unfold fb_238_76
      refine gQ_ite ?_ ?_
      · exact gQ_ret h500455_o
      · refine gQ_loop (fun y_l => y_l.1 = 217 ∧ Fw W g (y_l.2.2.2.2)) (fun y_l hy_o => ?_) ⟨rfl, h500455_o⟩
        obtain ⟨x500495_o, x500496_o, x500497_o, x500498_o, x500499_o⟩ := y_l
        obtain ⟨e500501_o, h500500_o⟩ := hy_o
        dsimp only at e500501_o h500500_o
        subst e500501_o
        show gQ (sb_238_87 217 x500496_o x500497_o x500498_o x500499_o) _
        unfold sb_238_87
        dsimp only
        refine gQ_ite ?_ ?_
        · refine gQ_chk2 (fun ha500502_o hb500503_o => ?_)
          refine gQ_bool ?_
          refine gQ_loop (fun y_l => y_l.1 = 217 ∧ Fw W g (y_l.2.2.2.2.2)) (fun y_l hy_o => ?_) ⟨rfl, (Fw_w h500500_o (fr_r h500500_o rfl (rr_217_23 hg_o)) (hU_o 229 _ rfl))⟩
          obtain ⟨x500504_o, x500505_o, x500506_o, x500507_o, x500508_o, x500509_o⟩ := y_l
          obtain ⟨e500511_o, h500510_o⟩ := hy_o
          dsimp only at e500511_o h500510_o
          subst e500511_o
          show gQ (sb_238_105 217 x500505_o x500506_o x500507_o x500508_o x500509_o) _
          unfold sb_238_105
          refine gQ_ite ?_ ?_
          · refine gQ_chk2 (fun ha500512_o hb500513_o => ?_)
            refine gQ_ite ?_ ?_
            · refine gQ_map ?_
              unfold fb_238_173
              refine gQ_chk2 (fun ha500514_o hb500515_o => ?_)
              refine gQ_ite ?_ ?_
              · exact gQ_ret ⟨rfl, h500510_o⟩
              · exact gQ_ret ⟨rfl, h500510_o⟩
            · refine gQ_chk2 (fun ha500516_o hb500517_o => ?_)
              refine gQ_v1 (A := Fw W g) (of_212 hg_o hU_o rfl h500510_o) (fun v4_l s3_l h500518_o => ?_)
              refine gQ_chk2 (fun ha500519_o hb500520_o => ?_)
              refine gQ_ite ?_ ?_
              · unfold fb_238_158
                dsimp only
                refine gQ_ite ?_ ?_
                · refine gQ_chk2 (fun ha500521_o hb500522_o => ?_)
                  refine gQ_bool ?_
                  exact gQ_ret ⟨rfl, (Fw_w h500518_o (fr_r h500510_o rfl (rr_217_23 hg_o)) (hU_o 229 _ rfl))⟩
                · refine gQ_chk2 (fun ha500523_o hb500524_o => ?_)
                  refine gQ_bool ?_
                  exact gQ_ret ⟨rfl, (Fw_w h500518_o (fr_r h500510_o rfl (rr_217_23 hg_o)) (hU_o 229 _ rfl))⟩
              · unfold fb_238_158
                dsimp only
                refine gQ_ite ?_ ?_
                · refine gQ_chk2 (fun ha500525_o hb500526_o => ?_)
                  refine gQ_bool ?_
                  exact gQ_ret ⟨rfl, (Fw_w h500518_o (fr_r h500510_o rfl (rr_217_23 hg_o)) (hU_o 229 _ rfl))⟩
                · refine gQ_chk2 (fun ha500527_o hb500528_o => ?_)
                  refine gQ_bool ?_
                  exact gQ_ret ⟨rfl, (Fw_w h500518_o (fr_r h500510_o rfl (rr_217_23 hg_o)) (hU_o 229 _ rfl))⟩
          · refine gQ_map ?_
            unfold fb_238_173
            refine gQ_chk2 (fun ha500529_o hb500530_o => ?_)
            refine gQ_ite ?_ ?_
            · exact gQ_ret ⟨rfl, h500510_o⟩
            · exact gQ_ret ⟨rfl, h500510_o⟩
        · refine gQ_map ?_
          exact gQ_ret h500500_o

theorem of_239 {W : Nat → Nat → Bool} {g s : gS} {a0 : Nat} {a1 : Int} (hg_o : RF g) (hU_o : ∀ a k, wff a k = true → W a k = true) (ea0_o : a0 = 217) (h_o : Fw W g s) : gQ (f_239 a0 a1 s) (fun r => Fw W g r.2.2.2) := by
  subst ea0_o
  unfold f_239
  refine gQ_v1 (A := Fw W g) (of_238 hg_o hU_o rfl h_o) (fun v2 s1_l h500531_o => ?_)
  refine gQ_ite ?_ ?_
  · unfold fb_239_16
    dsimp only
    refine gQ_ite ?_ ?_
    · unfold fb_239_30
      refine gQ_ite ?_ ?_
      · exact gQ_ret (Fw_w h500531_o rfl (hU_o 217 _ rfl))
      · exact gQ_ret (Fw_w h500531_o rfl (hU_o 217 _ rfl))
    · refine gQ_ite ?_ ?_
      · unfold fb_239_30
        refine gQ_ite ?_ ?_
        · exact gQ_ret (Fw_w h500531_o rfl (hU_o 217 _ rfl))
        · exact gQ_ret (Fw_w h500531_o rfl (hU_o 217 _ rfl))
      · refine gQ_ite ?_ ?_
        · unfold fb_239_53
          refine gQ_loop (fun y_l => y_l.1 = 217 ∧ Fw W g (y_l.2.2.2)) (fun y_l hy_o => ?_) ⟨rfl, (Fw_w h500531_o rfl (hU_o 217 _ rfl))⟩
          obtain ⟨x500532_o, x500533_o, x500534_o, x500535_o⟩ := y_l
          obtain ⟨e500537_o, h500536_o⟩ := hy_o
          dsimp only at e500537_o h500536_o
          subst e500537_o
          show gQ (sb_239_57 217 x500533_o x500534_o x500535_o) _
          unfold sb_239_57
          refine gQ_ite ?_ ?_
          · refine gQ_chk2 (fun ha500538_o hb500539_o => ?_)
            refine gQ_ite ?_ ?_
            · exact gQ_ret ⟨rfl, h500536_o⟩
            · exact gQ_ret ⟨rfl, h500536_o⟩
          · refine gQ_map ?_
            exact gQ_ret h500536_o
        · unfold fb_239_53
          refine gQ_loop (fun y_l => y_l.1 = 217 ∧ Fw W g (y_l.2.2.2)) (fun y_l hy_o => ?_) ⟨rfl, (Fw_w h500531_o rfl (hU_o 217 _ rfl))⟩
          obtain ⟨x500540_o, x500541_o, x500542_o, x500543_o⟩ := y_l
          obtain ⟨e500545_o, h500544_o⟩ := hy_o
          dsimp only at e500545_o h500544_o
          subst e500545_o
          show gQ (sb_239_57 217 x500541_o x500542_o x500543_o) _
          unfold sb_239_57
          refine gQ_ite ?_ ?_
          · refine gQ_chk2 (fun ha500546_o hb500547_o => ?_)
            refine gQ_ite ?_ ?_
            · exact gQ_ret ⟨rfl, h500544_o⟩
            · exact gQ_ret ⟨rfl, h500544_o⟩
          · refine gQ_map ?_
            exact gQ_ret h500544_o
  · unfold fb_239_16
    dsimp only
    refine gQ_ite ?_ ?_
    · unfold fb_239_30
      refine gQ_ite ?_ ?_
      · exact gQ_ret (Fw_w h500531_o rfl (hU_o 217 _ rfl))
      · exact gQ_ret (Fw_w h500531_o rfl (hU_o 217 _ rfl))
    · refine gQ_ite ?_ ?_
      · unfold fb_239_30
        refine gQ_ite ?_ ?_
        · exact gQ_ret (Fw_w h500531_o rfl (hU_o 217 _ rfl))
        · exact gQ_ret (Fw_w h500531_o rfl (hU_o 217 _ rfl))
      · refine gQ_ite ?_ ?_
        · unfold fb_239_53
          refine gQ_loop (fun y_l => y_l.1 = 217 ∧ Fw W g (y_l.2.2.2)) (fun y_l hy_o => ?_) ⟨rfl, (Fw_w h500531_o rfl (hU_o 217 _ rfl))⟩
          obtain ⟨x500548_o, x500549_o, x500550_o, x500551_o⟩ := y_l
          obtain ⟨e500553_o, h500552_o⟩ := hy_o
          dsimp only at e500553_o h500552_o
          subst e500553_o
          show gQ (sb_239_57 217 x500549_o x500550_o x500551_o) _
          unfold sb_239_57
          refine gQ_ite ?_ ?_
          · refine gQ_chk2 (fun ha500554_o hb500555_o => ?_)
            refine gQ_ite ?_ ?_
            · exact gQ_ret ⟨rfl, h500552_o⟩
            · exact gQ_ret ⟨rfl, h500552_o⟩
          · refine gQ_map ?_
            exact gQ_ret h500552_o
        · unfold fb_239_53
          refine gQ_loop (fun y_l => y_l.1 = 217 ∧ Fw W g (y_l.2.2.2)) (fun y_l hy_o => ?_) ⟨rfl, (Fw_w h500531_o rfl (hU_o 217 _ rfl))⟩
          obtain ⟨x500556_o, x500557_o, x500558_o, x500559_o⟩ := y_l
          obtain ⟨e500561_o, h500560_o⟩ := hy_o
          dsimp only at e500561_o h500560_o
          subst e500561_o
          show gQ (sb_239_57 217 x500557_o x500558_o x500559_o) _
          unfold sb_239_57
          refine gQ_ite ?_ ?_
          · refine gQ_chk2 (fun ha500562_o hb500563_o => ?_)
            refine gQ_ite ?_ ?_
            · exact gQ_ret ⟨rfl, h500560_o⟩
            · exact gQ_ret ⟨rfl, h500560_o⟩
          · refine gQ_map ?_
            exact gQ_ret h500560_o

theorem of_240 {W : Nat → Nat → Bool} {g s : gS} {a0 : Nat} (hg_o : RF g) (hU_o : ∀ a k, wff a k = true → W a k = true) (ea0_o : a0 = 217) (h_o : Fw W g s) : gQ (f_240 a0 s) (fun r => Fw W g r.2.2.2) := by
  subst ea0_o
  unfold f_240
  refine gQ_v1 (A := Fw W g) (of_238 hg_o hU_o rfl h_o) (fun v2 s1_l h500564_o => ?_)
  refine gQ_ite ?_ ?_
  · unfold fb_240_16
    dsimp only
    refine gQ_ite ?_ ?_
    · exact gQ_ret (Fw_w h500564_o rfl (hU_o 217 _ rfl))
    · refine gQ_loop (fun y_l => y_l.1 = 217 ∧ Fw W g (y_l.2.2.2.2.2)) (fun y_l hy_o => ?_) ⟨rfl, (Fw_w h500564_o rfl (hU_o 217 _ rfl))⟩
      obtain ⟨x500565_o, x500566_o, x500567_o, x500568_o, x500569_o, x500570_o⟩ := y_l
      obtain ⟨e500572_o, h500571_o⟩ := hy_o
      dsimp only at e500572_o h500571_o
      subst e500572_o
      show gQ (sb_240_37 217 x500566_o x500567_o x500568_o x500569_o x500570_o) _
      unfold sb_240_37
      refine gQ_ite ?_ ?_
      · refine gQ_ite ?_ ?_
        · refine gQ_loop (fun y_l => y_l.1 = 217 ∧ Fw W g (y_l.2.2.2.2.2.2.2)) (fun y_l hy_o => ?_) ⟨rfl, h500571_o⟩
          obtain ⟨x500573_o, x500574_o, x500575_o, x500576_o, x500577_o, x500578_o, x500579_o, x500580_o⟩ := y_l
          obtain ⟨e500582_o, h500581_o⟩ := hy_o
          dsimp only at e500582_o h500581_o
          subst e500582_o
          show gQ (sb_240_59 217 x500574_o x500575_o x500576_o x500577_o x500578_o x500579_o x500580_o) _
          unfold sb_240_59
          refine gQ_ite ?_ ?_
          · refine gQ_chk2 (fun ha500583_o hb500584_o => ?_)
            refine gQ_ite ?_ ?_
            · unfold fb_240_93
              exact gQ_ret ⟨rfl, h500581_o⟩
            · refine gQ_v1 (A := Fw W g) (of_212 hg_o hU_o rfl h500581_o) (fun v5 s4_l h500585_o => ?_)
              refine gQ_ite ?_ ?_
              · unfold fb_240_93
                exact gQ_ret ⟨rfl, h500585_o⟩
              · exact gQ_ret ⟨rfl, h500585_o⟩
          · refine gQ_map ?_
            refine gQ_v1 (A := Fw W g) (of_152 hg_o hU_o  h500581_o) (fun v8 s7 h500586_o => ?_)
            refine gQ_ite ?_ ?_
            · refine gQ_v1 (A := Fw W g) (of_152 hg_o hU_o  h500586_o) (fun v10 s9 h500587_o => ?_)
              exact gQ_ret ⟨rfl, h500587_o⟩
            · exact gQ_ret ⟨rfl, h500586_o⟩
        · refine gQ_map ?_
          exact gQ_ret h500571_o
      · refine gQ_map ?_
        exact gQ_ret h500571_o
  · unfold fb_240_16
    dsimp only
    refine gQ_ite ?_ ?_
    · exact gQ_ret (Fw_w h500564_o rfl (hU_o 217 _ rfl))
    · refine gQ_loop (fun y_l => y_l.1 = 217 ∧ Fw W g (y_l.2.2.2.2.2)) (fun y_l hy_o => ?_) ⟨rfl, (Fw_w h500564_o rfl (hU_o 217 _ rfl))⟩
      obtain ⟨x500588_o, x500589_o, x500590_o, x500591_o, x500592_o, x500593_o⟩ := y_l
      obtain ⟨e500595_o, h500594_o⟩ := hy_o
      dsimp only at e500595_o h500594_o
      subst e500595_o
      show gQ (sb_240_37 217 x500589_o x500590_o x500591_o x500592_o x500593_o) _
      unfold sb_240_37
      refine gQ_ite ?_ ?_
      · refine gQ_ite ?_ ?_
        · refine gQ_loop (fun y_l => y_l.1 = 217 ∧ Fw W g (y_l.2.2.2.2.2.2.2)) (fun y_l hy_o => ?_) ⟨rfl, h500594_o⟩
          obtain ⟨x500596_o, x500597_o, x500598_o, x500599_o, x500600_o, x500601_o, x500602_o, x500603_o⟩ := y_l
          obtain ⟨e500605_o, h500604_o⟩ := hy_o
          dsimp only at e500605_o h500604_o
          subst e500605_o
          show gQ (sb_240_59 217 x500597_o x500598_o x500599_o x500600_o x500601_o x500602_o x500603_o) _
          unfold sb_240_59
          refine gQ_ite ?_ ?_
          · refine gQ_chk2 (fun ha500606_o hb500607_o => ?_)
            refine gQ_ite ?_ ?_
            · unfold fb_240_93
              exact gQ_ret ⟨rfl, h500604_o⟩
            · refine gQ_v1 (A := Fw W g) (of_212 hg_o hU_o rfl h500604_o) (fun v5 s4_l h500608_o => ?_)
              refine gQ_ite ?_ ?_
              · unfold fb_240_93
                exact gQ_ret ⟨rfl, h500608_o⟩
              · exact gQ_ret ⟨rfl, h500608_o⟩
          · refine gQ_map ?_
            refine gQ_v1 (A := Fw W g) (of_152 hg_o hU_o  h500604_o) (fun v8 s7 h500609_o => ?_)
            refine gQ_ite ?_ ?_
            · refine gQ_v1 (A := Fw W g) (of_152 hg_o hU_o  h500609_o) (fun v10 s9 h500610_o => ?_)
              exact gQ_ret ⟨rfl, h500610_o⟩
            · exact gQ_ret ⟨rfl, h500609_o⟩
        · refine gQ_map ?_
          exact gQ_ret h500594_o
      · refine gQ_map ?_
        exact gQ_ret h500594_o

theorem of_241 {W : Nat → Nat → Bool} {g s : gS} {a0 : Nat} {a1 : Int} {a2 : Int} {a3 : Int} {a4 : Int} (hg_o : RF g) (hU_o : ∀ a k, wff a k = true → W a k = true) (ea0_o : a0 = 217) (h_o : Fw W g s) : gQ (f_241 a0 a1 a2 a3 a4 s) (fun r => Fw W g r.2.2.2) := by
  subst ea0_o
  unfold f_241
  refine gQ_ite ?_ ?_
  · refine gQ_v1 (A := Fw W g) (of_158 hg_o hU_o rfl h_o) (fun v2 s1_l h500611_o => ?_)
    unfold fb_241_13
    refine gQ_ite ?_ ?_
    · refine gQ_ite ?_ ?_
      · unfold fb_241_44
        refine gQ_ite ?_ ?_
        · exact gQ_ret h500611_o
        · exact gQ_ret h500611_o
      · refine gQ_v1 (A := Fw W g) (of_156 hg_o hU_o rfl h500611_o) (fun v4_l s3_l h500612_o => ?_)
        refine gQ_v1 (A := Fw W g) (of_212 hg_o hU_o rfl h500612_o) (fun v6 s5 h500613_o => ?_)
        refine gQ_ite ?_ ?_
        · unfold fb_241_44
          refine gQ_ite ?_ ?_
          · exact gQ_ret h500613_o
          · exact gQ_ret h500613_o
        · unfold fb_241_43
          unfold fb_241_44
          refine gQ_ite ?_ ?_
          · exact gQ_ret h500613_o
          · exact gQ_ret h500613_o
    · unfold fb_241_43
      unfold fb_241_44
      refine gQ_ite ?_ ?_
      · exact gQ_ret h500611_o
      · exact gQ_ret h500611_o
  · unfold fb_241_13
    refine gQ_ite ?_ ?_
    · refine gQ_ite ?_ ?_
      · unfold fb_241_44
        refine gQ_ite ?_ ?_
        · exact gQ_ret h_o
        · exact gQ_ret h_o
      · refine gQ_v1 (A := Fw W g) (of_156 hg_o hU_o rfl h_o) (fun v4_l s3_l h500614_o => ?_)
        refine gQ_v1 (A := Fw W g) (of_212 hg_o hU_o rfl h500614_o) (fun v6 s5 h500615_o => ?_)
        refine gQ_ite ?_ ?_
        · unfold fb_241_44
          refine gQ_ite ?_ ?_
          · exact gQ_ret h500615_o
          · exact gQ_ret h500615_o
        · unfold fb_241_43
          unfold fb_241_44
          refine gQ_ite ?_ ?_
          · exact gQ_ret h500615_o
          · exact gQ_ret h500615_o
    · unfold fb_241_43
      unfold fb_241_44
      refine gQ_ite ?_ ?_
      · exact gQ_ret h_o
      · exact gQ_ret h_o

theorem of_242 {W : Nat → Nat → Bool} {g s : gS} {a0 : Nat} {a1 : Int} {a2 : Int} {a3 : Int} {a4 : Int} (hg_o : RF g) (hU_o : ∀ a k, wff a k = true → W a k = true) (ea0_o : a0 = 217) (h_o : Fw W g s) : gQ (f_242 a0 a1 a2 a3 a4 s) (fun r => Fw W g r.2.2.2) := by
  subst ea0_o
  unfold f_242
  refine gQ_ite ?_ ?_
  · exact gQ_ret h_o
  · refine gQ_ite ?_ ?_
    · refine gQ_v1 (A := Fw W g) (of_156 hg_o hU_o rfl h_o) (fun v2 s1_l h500616_o => ?_)
      refine gQ_v1 (A := Fw W g) (of_212 hg_o hU_o rfl h500616_o) (fun v4_l s3_l h500617_o => ?_)
      refine gQ_ite ?_ ?_
      · unfold fb_242_37
        exact gQ_ret h500617_o
      · refine gQ_v1 (A := Fw W g) (of_156 hg_o hU_o rfl h500617_o) (fun v7 s6_l h500618_o => ?_)
        exact gQ_ret h500618_o
    · unfold fb_242_37
      exact gQ_ret h_o

theorem of_243 {W : Nat → Nat → Bool} {g s : gS} {a0 : Nat} {a1 : Int} {a2 : Int} (hg_o : RF g) (hU_o : ∀ a k, wff a k = true → W a k = true) (ea0_o : a0 = 217) (h_o : Fw W g s) : gQ (f_243 a0 a1 a2 s) (fun r => Fw W g r.2.2.2) := by
  subst ea0_o
  unfold f_243
  refine gQ_v1 (A := Fw W g) (of_162 hg_o hU_o rfl h_o) (fun v2 s1_l h500619_o => ?_)
  refine gQ_ite ?_ ?_
  · unfold fb_243_22
    dsimp only
    refine gQ_loop (fun y_l => y_l.1 = 217 ∧ Fw W g (y_l.2.2.2.2.2)) (fun y_l hy_o => ?_) ⟨rfl, (Fw_w h500619_o rfl (hU_o 217 _ rfl))⟩
    obtain ⟨x500620_o, x500621_o, x500622_o, x500623_o, x500624_o, x500625_o⟩ := y_l
    obtain ⟨e500627_o, h500626_o⟩ := hy_o
    dsimp only at e500627_o h500626_o
    subst e500627_o
    show gQ (sb_243_30 217 x500621_o x500622_o x500623_o x500624_o x500625_o) _
    unfold sb_243_30
    dsimp only
    refine gQ_ite ?_ ?_
    · refine gQ_ite ?_ ?_
      · refine gQ_v1 (A := Fw W g) (of_241 hg_o hU_o rfl h500626_o) (fun v6 s5 h500628_o => ?_)
        refine gQ_v1 (A := Fw W g) (of_241 hg_o hU_o rfl h500628_o) (fun v8 s7 h500629_o => ?_)
        refine gQ_ite ?_ ?_
        · exact gQ_ret ⟨rfl, h500629_o⟩
        · refine gQ_v1 (A := Fw W g) (of_242 hg_o hU_o rfl h500629_o) (fun v10 s9 h500630_o => ?_)
          refine gQ_v1 (A := Fw W g) (of_242 hg_o hU_o rfl h500630_o) (fun v12 s11 h500631_o => ?_)
          refine gQ_ite ?_ ?_
          · exact gQ_ret ⟨rfl, h500631_o⟩
          · exact gQ_ret ⟨rfl, h500631_o⟩
      · refine gQ_map ?_
        exact gQ_ret h500626_o
    · refine gQ_map ?_
      exact gQ_ret h500626_o
  · refine gQ_v1 (A := Fw W g) (of_163 hg_o hU_o rfl h500619_o) (fun v15 s14 h500632_o => ?_)
    refine gQ_ite ?_ ?_
    · unfold fb_243_22
      dsimp only
      refine gQ_loop (fun y_l => y_l.1 = 217 ∧ Fw W g (y_l.2.2.2.2.2)) (fun y_l hy_o => ?_) ⟨rfl, (Fw_w h500632_o rfl (hU_o 217 _ rfl))⟩
      obtain ⟨x500633_o, x500634_o, x500635_o, x500636_o, x500637_o, x500638_o⟩ := y_l
      obtain ⟨e500640_o, h500639_o⟩ := hy_o
      dsimp only at e500640_o h500639_o
      subst e500640_o
      show gQ (sb_243_30 217 x500634_o x500635_o x500636_o x500637_o x500638_o) _
      unfold sb_243_30
      dsimp only
      refine gQ_ite ?_ ?_
      · refine gQ_ite ?_ ?_
        · refine gQ_v1 (A := Fw W g) (of_241 hg_o hU_o rfl h500639_o) (fun v6 s5 h500641_o => ?_)
          refine gQ_v1 (A := Fw W g) (of_241 hg_o hU_o rfl h500641_o) (fun v8 s7 h500642_o => ?_)
          refine gQ_ite ?_ ?_
          · exact gQ_ret ⟨rfl, h500642_o⟩
          · refine gQ_v1 (A := Fw W g) (of_242 hg_o hU_o rfl h500642_o) (fun v10 s9 h500643_o => ?_)
            refine gQ_v1 (A := Fw W g) (of_242 hg_o hU_o rfl h500643_o) (fun v12 s11 h500644_o => ?_)
            refine gQ_ite ?_ ?_
            · exact gQ_ret ⟨rfl, h500644_o⟩
            · exact gQ_ret ⟨rfl, h500644_o⟩
        · refine gQ_map ?_
          exact gQ_ret h500639_o
      · refine gQ_map ?_
        exact gQ_ret h500639_o
    · unfold fb_243_22
      dsimp only
      refine gQ_loop (fun y_l => y_l.1 = 217 ∧ Fw W g (y_l.2.2.2.2.2)) (fun y_l hy_o => ?_) ⟨rfl, (Fw_w h500632_o rfl (hU_o 217 _ rfl))⟩
      obtain ⟨x500645_o, x500646_o, x500647_o, x500648_o, x500649_o, x500650_o⟩ := y_l
      obtain ⟨e500652_o, h500651_o⟩ := hy_o
      dsimp only at e500652_o h500651_o
      subst e500652_o
      show gQ (sb_243_30 217 x500646_o x500647_o x500648_o x500649_o x500650_o) _
      unfold sb_243_30
      dsimp only
      refine gQ_ite ?_ ?_
      · refine gQ_ite ?_ ?_
        · refine gQ_v1 (A := Fw W g) (of_241 hg_o hU_o rfl h500651_o) (fun v6 s5 h500653_o => ?_)
          refine gQ_v1 (A := Fw W g) (of_241 hg_o hU_o rfl h500653_o) (fun v8 s7 h500654_o => ?_)
          refine gQ_ite ?_ ?_
          · exact gQ_ret ⟨rfl, h500654_o⟩
          · refine gQ_v1 (A := Fw W g) (of_242 hg_o hU_o rfl h500654_o) (fun v10 s9 h500655_o => ?_)
            refine gQ_v1 (A := Fw W g) (of_242 hg_o hU_o rfl h500655_o) (fun v12 s11 h500656_o => ?_)
            refine gQ_ite ?_ ?_
            · exact gQ_ret ⟨rfl, h500656_o⟩
            · exact gQ_ret ⟨rfl, h500656_o⟩
        · refine gQ_map ?_
          exact gQ_ret h500651_o
      · refine gQ_map ?_
        exact gQ_ret h500651_o

theorem of_244 {W : Nat → Nat → Bool} {g s : gS} {a0 : Nat} {a1 : Int} {a2 : Int} (hg_o : RF g) (hU_o : ∀ a k, wff a k = true → W a k = true) (ea0_o : a0 = 217) (h_o : Fw W g s) : gQ (f_244 a0 a1 a2 s) (fun r => Fw W g r.2.2.2) := by
  subst ea0_o
  unfold f_244
  refine gQ_v1 (A := Fw W g) (of_150 hg_o hU_o  h_o) (fun v2 s1_l h500657_o => ?_)
  refine gQ_ite ?_ ?_
  · unfold fb_244_24
    dsimp only
    refine gQ_ite ?_ ?_
    · exact gQ_ret (Fw_w h500657_o rfl (hU_o 217 _ rfl))
    · refine gQ_loop (fun y_l => y_l.1 = 217 ∧ Fw W g (y_l.2.2.2.2.2)) (fun y_l hy_o => ?_) ⟨rfl, (Fw_w h500657_o rfl (hU_o 217 _ rfl))⟩
      obtain ⟨x500658_o, x500659_o, x500660_o, x500661_o, x500662_o, x500663_o⟩ := y_l
      obtain ⟨e500665_o, h500664_o⟩ := hy_o
      dsimp only at e500665_o h500664_o
      subst e500665_o
      show gQ (sb_244_41 217 x500659_o x500660_o x500661_o x500662_o x500663_o) _
      unfold sb_244_41
      refine gQ_ite ?_ ?_
      · exact gQ_ret ⟨rfl, h500664_o⟩
      · refine gQ_map ?_
        refine gQ_loop (fun y_l => y_l.1 = 217 ∧ Fw W g (y_l.2.2.2.2.2.2)) (fun y_l hy_o => ?_) ⟨rfl, h500664_o⟩
        obtain ⟨x500666_o, x500667_o, x500668_o, x500669_o, x500670_o, x500671_o, x500672_o⟩ := y_l
        obtain ⟨e500674_o, h500673_o⟩ := hy_o
        dsimp only at e500674_o h500673_o
        subst e500674_o
        show gQ (sb_244_65 217 x500667_o x500668_o x500669_o x500670_o x500671_o x500672_o) _
        unfold sb_244_65
        refine gQ_ite ?_ ?_
        · refine gQ_v1 (A := Fw W g) (of_154 hg_o hU_o  h500673_o) (fun v6 s5 h500675_o => ?_)
          refine gQ_ite ?_ ?_
          · unfold fb_244_87
            refine gQ_loop (fun y_l => y_l.1 = 217 ∧ Fw W g (y_l.2.2.2.2.2.2.2.2)) (fun y_l hy_o => ?_) ⟨rfl, h500675_o⟩
            obtain ⟨x500676_o, x500677_o, x500678_o, x500679_o, x500680_o, x500681_o, x500682_o, x500683_o, x500684_o⟩ := y_l
            obtain ⟨e500686_o, h500685_o⟩ := hy_o
            dsimp only at e500686_o h500685_o
            subst e500686_o
            show gQ (sb_244_92 217 x500677_o x500678_o x500679_o x500680_o x500681_o x500682_o x500683_o x500684_o) _
            unfold sb_244_92
            dsimp only
            refine gQ_ite ?_ ?_
            · refine gQ_v1 (A := Fw W g) (of_153 hg_o hU_o  h500685_o) (fun v8 s7 h500687_o => ?_)
              refine gQ_ite ?_ ?_
              · exact gQ_ret ⟨rfl, h500687_o⟩
              · exact gQ_ret ⟨rfl, h500687_o⟩
            · refine gQ_map ?_
              exact gQ_ret ⟨rfl, h500685_o⟩
          · unfold fb_244_87
            refine gQ_loop (fun y_l => y_l.1 = 217 ∧ Fw W g (y_l.2.2.2.2.2.2.2.2)) (fun y_l hy_o => ?_) ⟨rfl, h500675_o⟩
            obtain ⟨x500688_o, x500689_o, x500690_o, x500691_o, x500692_o, x500693_o, x500694_o, x500695_o, x500696_o⟩ := y_l
            obtain ⟨e500698_o, h500697_o⟩ := hy_o
            dsimp only at e500698_o h500697_o
            subst e500698_o
            show gQ (sb_244_92 217 x500689_o x500690_o x500691_o x500692_o x500693_o x500694_o x500695_o x500696_o) _
            unfold sb_244_92
            dsimp only
            refine gQ_ite ?_ ?_
            · refine gQ_v1 (A := Fw W g) (of_153 hg_o hU_o  h500697_o) (fun v8 s7 h500699_o => ?_)
              refine gQ_ite ?_ ?_
              · exact gQ_ret ⟨rfl, h500699_o⟩
              · exact gQ_ret ⟨rfl, h500699_o⟩
            · refine gQ_map ?_
              exact gQ_ret ⟨rfl, h500697_o⟩
        · refine gQ_map ?_
          refine gQ_ite ?_ ?_
          · exact gQ_none
          · exact gQ_ret h500673_o
  · refine gQ_v1 (A := Fw W g) (of_150 hg_o hU_o  h500657_o) (fun v13 s12 h500700_o => ?_)
    refine gQ_ite ?_ ?_
    · unfold fb_244_24
      dsimp only
      refine gQ_ite ?_ ?_
      · exact gQ_ret (Fw_w h500700_o rfl (hU_o 217 _ rfl))
      · refine gQ_loop (fun y_l => y_l.1 = 217 ∧ Fw W g (y_l.2.2.2.2.2)) (fun y_l hy_o => ?_) ⟨rfl, (Fw_w h500700_o rfl (hU_o 217 _ rfl))⟩
        obtain ⟨x500701_o, x500702_o, x500703_o, x500704_o, x500705_o, x500706_o⟩ := y_l
        obtain ⟨e500708_o, h500707_o⟩ := hy_o
        dsimp only at e500708_o h500707_o
        subst e500708_o
        show gQ (sb_244_41 217 x500702_o x500703_o x500704_o x500705_o x500706_o) _
        unfold sb_244_41
        refine gQ_ite ?_ ?_
        · exact gQ_ret ⟨rfl, h500707_o⟩
        · refine gQ_map ?_
          refine gQ_loop (fun y_l => y_l.1 = 217 ∧ Fw W g (y_l.2.2.2.2.2.2)) (fun y_l hy_o => ?_) ⟨rfl, h500707_o⟩
          obtain ⟨x500709_o, x500710_o, x500711_o, x500712_o, x500713_o, x500714_o, x500715_o⟩ := y_l
          obtain ⟨e500717_o, h500716_o⟩ := hy_o
          dsimp only at e500717_o h500716_o
          subst e500717_o
          show gQ (sb_244_65 217 x500710_o x500711_o x500712_o x500713_o x500714_o x500715_o) _
          unfold sb_244_65
          refine gQ_ite ?_ ?_
          · refine gQ_v1 (A := Fw W g) (of_154 hg_o hU_o  h500716_o) (fun v6 s5 h500718_o => ?_)
            refine gQ_ite ?_ ?_
            · unfold fb_244_87
              refine gQ_loop (fun y_l => y_l.1 = 217 ∧ Fw W g (y_l.2.2.2.2.2.2.2.2)) (fun y_l hy_o => ?_) ⟨rfl, h500718_o⟩
              obtain ⟨x500719_o, x500720_o, x500721_o, x500722_o, x500723_o, x500724_o, x500725_o, x500726_o, x500727_o⟩ := y_l
              obtain ⟨e500729_o, h500728_o⟩ := hy_o
              dsimp only at e500729_o h500728_o
              subst e500729_o
              show gQ (sb_244_92 217 x500720_o x500721_o x500722_o x500723_o x500724_o x500725_o x500726_o x500727_o) _
              unfold sb_244_92
              dsimp only
              refine gQ_ite ?_ ?_
              · refine gQ_v1 (A := Fw W g) (of_153 hg_o hU_o  h500728_o) (fun v8 s7 h500730_o => ?_)
                refine gQ_ite ?_ ?_
                · exact gQ_ret ⟨rfl, h500730_o⟩
                · exact gQ_ret ⟨rfl, h500730_o⟩
              · refine gQ_map ?_
                exact gQ_ret ⟨rfl, h500728_o⟩
            · unfold fb_244_87
              refine gQ_loop (fun y_l => y_l.1 = 217 ∧ Fw W g (y_l.2.2.2.2.2.2.2.2)) (fun y_l hy_o => ?_) ⟨rfl, h500718_o⟩
              obtain ⟨x500731_o, x500732_o, x500733_o, x500734_o, x500735_o, x500736_o, x500737_o, x500738_o, x500739_o⟩ := y_l
              obtain ⟨e500741_o, h500740_o⟩ := hy_o
              dsimp only at e500741_o h500740_o
              subst e500741_o
              show gQ (sb_244_92 217 x500732_o x500733_o x500734_o x500735_o x500736_o x500737_o x500738_o x500739_o) _
              unfold sb_244_92
              dsimp only
              refine gQ_ite ?_ ?_
              · refine gQ_v1 (A := Fw W g) (of_153 hg_o hU_o  h500740_o) (fun v8 s7 h500742_o => ?_)
                refine gQ_ite ?_ ?_
                · exact gQ_ret ⟨rfl, h500742_o⟩
                · exact gQ_ret ⟨rfl, h500742_o⟩
              · refine gQ_map ?_
                exact gQ_ret ⟨rfl, h500740_o⟩
          · refine gQ_map ?_
            refine gQ_ite ?_ ?_
            · exact gQ_none
            · exact gQ_ret h500716_o
    · unfold fb_244_24
      dsimp only
      refine gQ_ite ?_ ?_
      · exact gQ_ret (Fw_w h500700_o rfl (hU_o 217 _ rfl))
      · refine gQ_loop (fun y_l => y_l.1 = 217 ∧ Fw W g (y_l.2.2.2.2.2)) (fun y_l hy_o => ?_) ⟨rfl, (Fw_w h500700_o rfl (hU_o 217 _ rfl))⟩
        obtain ⟨x500743_o, x500744_o, x500745_o, x500746_o, x500747_o, x500748_o⟩ := y_l
        obtain ⟨e500750_o, h500749_o⟩ := hy_o
        dsimp only at e500750_o h500749_o
        subst e500750_o
        show gQ (sb_244_41 217 x500744_o x500745_o x500746_o x500747_o x500748_o) _
        unfold sb_244_41
        refine gQ_ite ?_ ?_
        · exact gQ_ret ⟨rfl, h500749_o⟩
        · refine gQ_map ?_
          refine gQ_loop (fun y_l => y_l.1 = 217 ∧ Fw W g (y_l.2.2.2.2.2.2)) (fun y_l hy_o => ?_) ⟨rfl, h500749_o⟩
          obtain ⟨x500751_o, x500752_o, x500753_o, x500754_o, x500755_o, x500756_o, x500757_o⟩ := y_l
          obtain ⟨e500759_o, h500758_o⟩ := hy_o
          dsimp only at e500759_o h500758_o
          subst e500759_o
          show gQ (sb_244_65 217 x500752_o x500753_o x500754_o x500755_o x500756_o x500757_o) _
          unfold sb_244_65
          refine gQ_ite ?_ ?_
          · refine gQ_v1 (A := Fw W g) (of_154 hg_o hU_o  h500758_o) (fun v6 s5 h500760_o => ?_)
            refine gQ_ite ?_ ?_
            · unfold fb_244_87
              refine gQ_loop (fun y_l => y_l.1 = 217 ∧ Fw W g (y_l.2.2.2.2.2.2.2.2)) (fun y_l hy_o => ?_) ⟨rfl, h500760_o⟩
              obtain ⟨x500761_o, x500762_o, x500763_o, x500764_o, x500765_o, x500766_o, x500767_o, x500768_o, x500769_o⟩ := y_l
              obtain ⟨e500771_o, h500770_o⟩ := hy_o
              dsimp only at e500771_o h500770_o
              subst e500771_o
              show gQ (sb_244_92 217 x500762_o x500763_o x500764_o x500765_o x500766_o x500767_o x500768_o x500769_o) _
              unfold sb_244_92
              dsimp only
              refine gQ_ite ?_ ?_
              · refine gQ_v1 (A := Fw W g) (of_153 hg_o hU_o  h500770_o) (fun v8 s7 h500772_o => ?_)
                refine gQ_ite ?_ ?_
                · exact gQ_ret ⟨rfl, h500772_o⟩
                · exact gQ_ret ⟨rfl, h500772_o⟩
              · refine gQ_map ?_
                exact gQ_ret ⟨rfl, h500770_o⟩
            · unfold fb_244_87
              refine gQ_loop (fun y_l => y_l.1 = 217 ∧ Fw W g (y_l.2.2.2.2.2.2.2.2)) (fun y_l hy_o => ?_) ⟨rfl, h500760_o⟩
              obtain ⟨x500773_o, x500774_o, x500775_o, x500776_o, x500777_o, x500778_o, x500779_o, x500780_o, x500781_o⟩ := y_l
              obtain ⟨e500783_o, h500782_o⟩ := hy_o
              dsimp only at e500783_o h500782_o
              subst e500783_o
              show gQ (sb_244_92 217 x500774_o x500775_o x500776_o x500777_o x500778_o x500779_o x500780_o x500781_o) _
              unfold sb_244_92
              dsimp only
              refine gQ_ite ?_ ?_
              · refine gQ_v1 (A := Fw W g) (of_153 hg_o hU_o  h500782_o) (fun v8 s7 h500784_o => ?_)
                refine gQ_ite ?_ ?_
                · exact gQ_ret ⟨rfl, h500784_o⟩
                · exact gQ_ret ⟨rfl, h500784_o⟩
              · refine gQ_map ?_
                exact gQ_ret ⟨rfl, h500782_o⟩
          · refine gQ_map ?_
            refine gQ_ite ?_ ?_
            · exact gQ_none
            · exact gQ_ret h500758_o

theorem of_245 {W : Nat → Nat → Bool} {g s : gS} {a0 : Nat} {a1 : Int} (hg_o : RF g) (hU_o : ∀ a k, wff a k = true → W a k = true) (ea0_o : a0 = 217) (h_o : Fw W g s) : gQ (f_245 a0 a1 s) (fun r => Fw W g r.2.2.2) := by
  subst ea0_o
  unfold f_245
  dsimp only
  refine gQ_loop (fun y_l => y_l.1 = 217 ∧ Fw W g (y_l.2.2.2.2)) (fun y_l hy_o => ?_) ⟨rfl, (Fw_w h_o rfl (hU_o 217 _ rfl))⟩
  obtain ⟨x500785_o, x500786_o, x500787_o, x500788_o, x500789_o⟩ := y_l
  obtain ⟨e500791_o, h500790_o⟩ := hy_o
  dsimp only at e500791_o h500790_o
  subst e500791_o
  show gQ (sb_245_9 217 x500786_o x500787_o x500788_o x500789_o) _
  unfold sb_245_9
  refine gQ_ite ?_ ?_
  · refine gQ_ite ?_ ?_
    · unfold fb_245_40
      exact gQ_ret ⟨rfl, h500790_o⟩
    · refine gQ_v1 (A := Fw W g) (of_160 hg_o hU_o rfl h500790_o) (fun v3 s2_l h500792_o => ?_)
      refine gQ_v1 (A := Fw W g) (of_160 hg_o hU_o rfl h500792_o) (fun v5 s4_l h500793_o => ?_)
      refine gQ_ite ?_ ?_
      · unfold fb_245_40
        exact gQ_ret ⟨rfl, h500793_o⟩
      · exact gQ_ret ⟨rfl, h500793_o⟩
  · refine gQ_map ?_
    refine gQ_ite ?_ ?_
    · exact gQ_ret h500790_o
    · refine gQ_loop (fun y_l => y_l.1 = 217 ∧ Fw W g (y_l.2.2.2.2)) (fun y_l hy_o => ?_) ⟨rfl, h500790_o⟩
      obtain ⟨x500794_o, x500795_o, x500796_o, x500797_o, x500798_o⟩ := y_l
      obtain ⟨e500800_o, h500799_o⟩ := hy_o
      dsimp only at e500800_o h500799_o
      subst e500800_o
      show gQ (sb_245_59 217 x500795_o x500796_o x500797_o x500798_o) _
      unfold sb_245_59
      refine gQ_ite ?_ ?_
      · refine gQ_ite ?_ ?_
        · exact gQ_ret ⟨rfl, h500799_o⟩
        · refine gQ_v1 (A := Fw W g) (of_160 hg_o hU_o rfl h500799_o) (fun v7 s6_l h500801_o => ?_)
          refine gQ_v1 (A := Fw W g) (of_152 hg_o hU_o  h500801_o) (fun v9 s8 h500802_o => ?_)
          exact gQ_ret ⟨rfl, h500802_o⟩
      · refine gQ_map ?_
        exact gQ_ret h500799_o

theorem of_246 {W : Nat → Nat → Bool} {g s : gS} {a0 : Nat} {a1 : Int} {a2 : Int} {a3 : Int} (hg_o : RF g) (hU_o : ∀ a k, wff a k = true → W a k = true) (ea0_o : a0 = 217) (h_o : Fw W g s) : gQ (f_246 a0 a1 a2 a3 s) (fun r => Fw W g r.2.2.2) := by
  subst ea0_o
  unfold f_246
  refine gQ_ite ?_ ?_
  · refine gQ_chk2 (fun ha500803_o hb500804_o => ?_)
    exact gQ_ret h_o
  · refine gQ_v1 (A := Fw W g) (of_160 hg_o hU_o rfl h_o) (fun v2 s1_l h500805_o => ?_)
    refine gQ_v1 (A := Fw W g) (of_156 hg_o hU_o rfl h500805_o) (fun v4_l s3_l h500806_o => ?_)
    refine gQ_v1 (A := Fw W g) (of_151 hg_o hU_o  h500806_o) (fun v6 s5 h500807_o => ?_)
    refine gQ_chk2 (fun ha500808_o hb500809_o => ?_)
    exact gQ_ret h500807_o

theorem of_252 {W : Nat → Nat → Bool} {g s : gS} {a0 : Nat} {a1 : Int} (hg_o : RF g) (hU_o : ∀ a k, wff a k = true → W a k = true) (ea0_o : a0 = 217) (h_o : Fw W g s) : gQ (f_252 a0 a1 s) (fun r => Fw W g r.2.2.2) := by
  subst ea0_o
  unfold f_252
  refine gQ_loop (fun y_l => y_l.1 = 217 ∧ Fw W g (y_l.2.2.2.2)) (fun y_l hy_o => ?_) ⟨rfl, h_o⟩
  obtain ⟨x500810_o, x500811_o, x500812_o, x500813_o, x500814_o⟩ := y_l
  obtain ⟨e500816_o, h500815_o⟩ := hy_o
  dsimp only at e500816_o h500815_o
  subst e500816_o
  show gQ (sb_252_4 217 x500811_o x500812_o x500813_o x500814_o) _
  unfold sb_252_4
  dsimp only
  refine gQ_ite ?_ ?_
  · refine gQ_v1 (A := Fw W g) (of_156 hg_o hU_o rfl h500815_o) (fun v2 s1_l h500817_o => ?_)
    refine gQ_ite ?_ ?_
    · exact gQ_ret ⟨rfl, h500817_o⟩
    · exact gQ_ret ⟨rfl, h500817_o⟩
  · refine gQ_map ?_
    exact gQ_ret h500815_o

theorem of_247 {W : Nat → Nat → Bool} {g s : gS} {a0 : Nat} {a1 : Int} (hg_o : RF g) (hU_o : ∀ a k, wff a k = true → W a k = true) (ea0_o : a0 = 217) (h_o : Fw W g s) : gQ (f_247 a0 a1 s) (fun r => Fw W g r.2.2.2) := by
  subst ea0_o
  unfold f_247
  refine gQ_ite ?_ ?_
  · unfold fb_247_18
    unfold fb_247_19
    dsimp only
    refine gQ_ite ?_ ?_
    · exact gQ_ret (Fw_w h_o rfl (hU_o 217 _ rfl))
    · refine gQ_loop (fun y_l => y_l.1 = 217 ∧ Fw W g (y_l.2.2.2.2)) (fun y_l hy_o => ?_) ⟨rfl, (Fw_w h_o rfl (hU_o 217 _ rfl))⟩
      obtain ⟨x500818_o, x500819_o, x500820_o, x500821_o, x500822_o⟩ := y_l
      obtain ⟨e500824_o, h500823_o⟩ := hy_o
      dsimp only at e500824_o h500823_o
      subst e500824_o
      show gQ (sb_247_41 217 x500819_o x500820_o x500821_o x500822_o) _
      unfold sb_247_41
      refine gQ_ite ?_ ?_
      · refine gQ_map ?_
        refine gQ_v1 (A := Fw W g) (of_252 hg_o hU_o rfl h500823_o) (fun v4_l s3_l h500825_o => ?_)
        refine gQ_ite ?_ ?_
        · refine gQ_chk2 (fun ha500826_o hb500827_o => ?_)
          exact gQ_ret h500825_o
        · refine gQ_loop (fun y_l => y_l.1 = 217 ∧ Fw W g (y_l.2.2.2.2.2)) (fun y_l hy_o => ?_) ⟨rfl, h500825_o⟩
          obtain ⟨x500828_o, x500829_o, x500830_o, x500831_o, x500832_o, x500833_o⟩ := y_l
          obtain ⟨e500835_o, h500834_o⟩ := hy_o
          dsimp only at e500835_o h500834_o
          subst e500835_o
          show gQ (sb_247_175 217 x500829_o x500830_o x500831_o x500832_o x500833_o) _
          unfold sb_247_175
          refine gQ_ite ?_ ?_
          · refine gQ_map ?_
            exact gQ_ret h500834_o
          · refine gQ_loop (fun y_l => y_l.1 = 217 ∧ Fw W g (y_l.2.2.2.2.2)) (fun y_l hy_o => ?_) ⟨rfl, h500834_o⟩
            obtain ⟨x500836_o, x500837_o, x500838_o, x500839_o, x500840_o, x500841_o⟩ := y_l
            obtain ⟨e500843_o, h500842_o⟩ := hy_o
            dsimp only at e500843_o h500842_o
            subst e500843_o
            show gQ (sb_247_184 217 x500837_o x500838_o x500839_o x500840_o x500841_o) _
            unfold sb_247_184
            refine gQ_ite ?_ ?_
            · unfold fb_247_199
              dsimp only
              refine gQ_v1 (A := Fw W g) (of_246 hg_o hU_o rfl h500842_o) (fun v6 s5 h500844_o => ?_)
              refine gQ_chk2 (fun ha500845_o hb500846_o => ?_)
              refine gQ_ite ?_ ?_
              · refine gQ_map ?_
                refine gQ_ite ?_ ?_
                · exact gQ_ret ⟨rfl, h500844_o⟩
                · exact gQ_ret ⟨rfl, h500844_o⟩
              · exact gQ_ret ⟨rfl, h500844_o⟩
            · refine gQ_v1 (A := Fw W g) (of_153 hg_o hU_o  h500842_o) (fun v9 s8 h500847_o => ?_)
              refine gQ_ite ?_ ?_
              · exact gQ_ret ⟨rfl, h500847_o⟩
              · unfold fb_247_199
                dsimp only
                refine gQ_v1 (A := Fw W g) (of_246 hg_o hU_o rfl h500847_o) (fun v6 s5 h500848_o => ?_)
                refine gQ_chk2 (fun ha500849_o hb500850_o => ?_)
                refine gQ_ite ?_ ?_
                · refine gQ_map ?_
                  refine gQ_ite ?_ ?_
                  · exact gQ_ret ⟨rfl, h500848_o⟩
                  · exact gQ_ret ⟨rfl, h500848_o⟩
                · exact gQ_ret ⟨rfl, h500848_o⟩
      · refine gQ_loop (fun y_l => y_l.1 = 217 ∧ Fw W g (y_l.2.2.2.2.2)) (fun y_l hy_o => ?_) ⟨rfl, h500823_o⟩
        obtain ⟨x500851_o, x500852_o, x500853_o, x500854_o, x500855_o, x500856_o⟩ := y_l
        obtain ⟨e500858_o, h500857_o⟩ := hy_o
        dsimp only at e500858_o h500857_o
        subst e500858_o
        show gQ (sb_247_48 217 x500852_o x500853_o x500854_o x500855_o x500856_o) _
        unfold sb_247_48
        refine gQ_ite ?_ ?_
        · refine gQ_ite ?_ ?_
          · unfold fb_247_72
            refine gQ_loop (fun y_l => y_l.1 = 217 ∧ Fw W g (y_l.2.2.2.2.2.2.2)) (fun y_l hy_o => ?_) ⟨rfl, h500857_o⟩
            obtain ⟨x500859_o, x500860_o, x500861_o, x500862_o, x500863_o, x500864_o, x500865_o, x500866_o⟩ := y_l
            obtain ⟨e500868_o, h500867_o⟩ := hy_o
            dsimp only at e500868_o h500867_o
            subst e500868_o
            show gQ (sb_247_77 217 x500860_o x500861_o x500862_o x500863_o x500864_o x500865_o x500866_o) _
            unfold sb_247_77
            refine gQ_ite ?_ ?_
            · refine gQ_ite ?_ ?_
              · refine gQ_v1 (A := Fw W g) (of_153 hg_o hU_o  h500867_o) (fun v12 s11 h500869_o => ?_)
                refine gQ_ite ?_ ?_
                · exact gQ_ret ⟨rfl, h500869_o⟩
                · refine gQ_v1 (A := Fw W g) (of_246 hg_o hU_o rfl h500869_o) (fun v15 s14 h500870_o => ?_)
                  refine gQ_v1 (A := Fw W g) (of_152 hg_o hU_o  h500870_o) (fun v17 s16 h500871_o => ?_)
                  exact gQ_ret ⟨rfl, h500871_o⟩
              · refine gQ_map ?_
                unfold fb_247_125
                dsimp only
                refine gQ_chk2 (fun ha500872_o hb500873_o => ?_)
                exact gQ_ret ⟨rfl, (Fw_w h500867_o (fr_r h500867_o rfl (rr_217_24 hg_o)) (hU_o 230 _ rfl))⟩
            · refine gQ_map ?_
              unfold fb_247_125
              dsimp only
              refine gQ_chk2 (fun ha500874_o hb500875_o => ?_)
              exact gQ_ret ⟨rfl, (Fw_w h500867_o (fr_r h500867_o rfl (rr_217_24 hg_o)) (hU_o 230 _ rfl))⟩
          · refine gQ_v1 (A := Fw W g) (of_246 hg_o hU_o rfl h500857_o) (fun v20 s19 h500876_o => ?_)
            unfold fb_247_72
            refine gQ_loop (fun y_l => y_l.1 = 217 ∧ Fw W g (y_l.2.2.2.2.2.2.2)) (fun y_l hy_o => ?_) ⟨rfl, h500876_o⟩
            obtain ⟨x500877_o, x500878_o, x500879_o, x500880_o, x500881_o, x500882_o, x500883_o, x500884_o⟩ := y_l
            obtain ⟨e500886_o, h500885_o⟩ := hy_o
            dsimp only at e500886_o h500885_o
            subst e500886_o
            show gQ (sb_247_77 217 x500878_o x500879_o x500880_o x500881_o x500882_o x500883_o x500884_o) _
            unfold sb_247_77
            refine gQ_ite ?_ ?_
            · refine gQ_ite ?_ ?_
              · refine gQ_v1 (A := Fw W g) (of_153 hg_o hU_o  h500885_o) (fun v12 s11 h500887_o => ?_)
                refine gQ_ite ?_ ?_
                · exact gQ_ret ⟨rfl, h500887_o⟩
                · refine gQ_v1 (A := Fw W g) (of_246 hg_o hU_o rfl h500887_o) (fun v15 s14 h500888_o => ?_)
                  refine gQ_v1 (A := Fw W g) (of_152 hg_o hU_o  h500888_o) (fun v17 s16 h500889_o => ?_)
                  exact gQ_ret ⟨rfl, h500889_o⟩
              · refine gQ_map ?_
                unfold fb_247_125
                dsimp only
                refine gQ_chk2 (fun ha500890_o hb500891_o => ?_)
                exact gQ_ret ⟨rfl, (Fw_w h500885_o (fr_r h500885_o rfl (rr_217_24 hg_o)) (hU_o 230 _ rfl))⟩
            · refine gQ_map ?_
              unfold fb_247_125
              dsimp only
              refine gQ_chk2 (fun ha500892_o hb500893_o => ?_)
              exact gQ_ret ⟨rfl, (Fw_w h500885_o (fr_r h500885_o rfl (rr_217_24 hg_o)) (hU_o 230 _ rfl))⟩
        · refine gQ_map ?_
          exact gQ_ret ⟨rfl, h500857_o⟩
  · refine gQ_v1 (A := Fw W g) (of_164 hg_o hU_o rfl h_o) (fun v22 s21 h500894_o => ?_)
    refine gQ_ite ?_ ?_
    · unfold fb_247_19
      dsimp only
      refine gQ_ite ?_ ?_
      · exact gQ_ret (Fw_w h500894_o rfl (hU_o 217 _ rfl))
      · refine gQ_loop (fun y_l => y_l.1 = 217 ∧ Fw W g (y_l.2.2.2.2)) (fun y_l hy_o => ?_) ⟨rfl, (Fw_w h500894_o rfl (hU_o 217 _ rfl))⟩
        obtain ⟨x500895_o, x500896_o, x500897_o, x500898_o, x500899_o⟩ := y_l
        obtain ⟨e500901_o, h500900_o⟩ := hy_o
        dsimp only at e500901_o h500900_o
        subst e500901_o
        show gQ (sb_247_41 217 x500896_o x500897_o x500898_o x500899_o) _
        unfold sb_247_41
        refine gQ_ite ?_ ?_
        · refine gQ_map ?_
          refine gQ_v1 (A := Fw W g) (of_252 hg_o hU_o rfl h500900_o) (fun v4_l s3_l h500902_o => ?_)
          refine gQ_ite ?_ ?_
          · refine gQ_chk2 (fun ha500903_o hb500904_o => ?_)
            exact gQ_ret h500902_o
          · refine gQ_loop (fun y_l => y_l.1 = 217 ∧ Fw W g (y_l.2.2.2.2.2)) (fun y_l hy_o => ?_) ⟨rfl, h500902_o⟩
            obtain ⟨x500905_o, x500906_o, x500907_o, x500908_o, x500909_o, x500910_o⟩ := y_l
            obtain ⟨e500912_o, h500911_o⟩ := hy_o
            dsimp only at e500912_o h500911_o
            subst e500912_o
            show gQ (sb_247_175 217 x500906_o x500907_o x500908_o x500909_o x500910_o) _
            unfold sb_247_175
            refine gQ_ite ?_ ?_
            · refine gQ_map ?_
              exact gQ_ret h500911_o
            · refine gQ_loop (fun y_l => y_l.1 = 217 ∧ Fw W g (y_l.2.2.2.2.2)) (fun y_l hy_o => ?_) ⟨rfl, h500911_o⟩
              obtain ⟨x500913_o, x500914_o, x500915_o, x500916_o, x500917_o, x500918_o⟩ := y_l
              obtain ⟨e500920_o, h500919_o⟩ := hy_o
              dsimp only at e500920_o h500919_o
              subst e500920_o
              show gQ (sb_247_184 217 x500914_o x500915_o x500916_o x500917_o x500918_o) _
              unfold sb_247_184
              refine gQ_ite ?_ ?_
              · unfold fb_247_199
                dsimp only
                refine gQ_v1 (A := Fw W g) (of_246 hg_o hU_o rfl h500919_o) (fun v6 s5 h500921_o => ?_)
                refine gQ_chk2 (fun ha500922_o hb500923_o => ?_)
                refine gQ_ite ?_ ?_
                · refine gQ_map ?_
                  refine gQ_ite ?_ ?_
                  · exact gQ_ret ⟨rfl, h500921_o⟩
                  · exact gQ_ret ⟨rfl, h500921_o⟩
                · exact gQ_ret ⟨rfl, h500921_o⟩
              · refine gQ_v1 (A := Fw W g) (of_153 hg_o hU_o  h500919_o) (fun v9 s8 h500924_o => ?_)
                refine gQ_ite ?_ ?_
                · exact gQ_ret ⟨rfl, h500924_o⟩
                · unfold fb_247_199
                  dsimp only
                  refine gQ_v1 (A := Fw W g) (of_246 hg_o hU_o rfl h500924_o) (fun v6 s5 h500925_o => ?_)
                  refine gQ_chk2 (fun ha500926_o hb500927_o => ?_)
                  refine gQ_ite ?_ ?_
                  · refine gQ_map ?_
                    refine gQ_ite ?_ ?_
                    · exact gQ_ret ⟨rfl, h500925_o⟩
                    · exact gQ_ret ⟨rfl, h500925_o⟩
                  · exact gQ_ret ⟨rfl, h500925_o⟩
        · refine gQ_loop (fun y_l => y_l.1 = 217 ∧ Fw W g (y_l.2.2.2.2.2)) (fun y_l hy_o => ?_) ⟨rfl, h500900_o⟩
          obtain ⟨x500928_o, x500929_o, x500930_o, x500931_o, x500932_o, x500933_o⟩ := y_l
          obtain ⟨e500935_o, h500934_o⟩ := hy_o
          dsimp only at e500935_o h500934_o
          subst e500935_o
          show gQ (sb_247_48 217 x500929_o x500930_o x500931_o x500932_o x500933_o) _
          unfold sb_247_48
          refine gQ_ite ?_ ?_
          · refine gQ_ite ?_ ?_
            · unfold fb_247_72
              refine gQ_loop (fun y_l => y_l.1 = 217 ∧ Fw W g (y_l.2.2.2.2.2.2.2)) (fun y_l hy_o => ?_) ⟨rfl, h500934_o⟩
              obtain ⟨x500936_o, x500937_o, x500938_o, x500939_o, x500940_o, x500941_o, x500942_o, x500943_o⟩ := y_l
              obtain ⟨e500945_o, h500944_o⟩ := hy_o
              dsimp only at e500945_o h500944_o
              subst e500945_o
              show gQ (sb_247_77 217 x500937_o x500938_o x500939_o x500940_o x500941_o x500942_o x500943_o) _
              unfold sb_247_77
              refine gQ_ite ?_ ?_
              · refine gQ_ite ?_ ?_
                · refine gQ_v1 (A := Fw W g) (of_153 hg_o hU_o  h500944_o) (fun v12 s11 h500946_o => ?_)
                  refine gQ_ite ?_ ?_
                  · exact gQ_ret ⟨rfl, h500946_o⟩
                  · refine gQ_v1 (A := Fw W g) (of_246 hg_o hU_o rfl h500946_o) (fun v15 s14 h500947_o => ?_)
                    refine gQ_v1 (A := Fw W g) (of_152 hg_o hU_o  h500947_o) (fun v17 s16 h500948_o => ?_)
                    exact gQ_ret ⟨rfl, h500948_o⟩
                · refine gQ_map ?_
                  unfold fb_247_125
                  dsimp only
                  refine gQ_chk2 (fun ha500949_o hb500950_o => ?_)
                  exact gQ_ret ⟨rfl, (Fw_w h500944_o (fr_r h500944_o rfl (rr_217_24 hg_o)) (hU_o 230 _ rfl))⟩
              · refine gQ_map ?_
                unfold fb_247_125
                dsimp only
                refine gQ_chk2 (fun ha500951_o hb500952_o => ?_)
                exact gQ_ret ⟨rfl, (Fw_w h500944_o (fr_r h500944_o rfl (rr_217_24 hg_o)) (hU_o 230 _ rfl))⟩
            · refine gQ_v1 (A := Fw W g) (of_246 hg_o hU_o rfl h500934_o) (fun v20 s19 h500953_o => ?_)
              unfold fb_247_72
              refine gQ_loop (fun y_l => y_l.1 = 217 ∧ Fw W g (y_l.2.2.2.2.2.2.2)) (fun y_l hy_o => ?_) ⟨rfl, h500953_o⟩
              obtain ⟨x500954_o, x500955_o, x500956_o, x500957_o, x500958_o, x500959_o, x500960_o, x500961_o⟩ := y_l
              obtain ⟨e500963_o, h500962_o⟩ := hy_o
              dsimp only at e500963_o h500962_o
              subst e500963_o
              show gQ (sb_247_77 217 x500955_o x500956_o x500957_o x500958_o x500959_o x500960_o x500961_o) _
              unfold sb_247_77
              refine gQ_ite ?_ ?_
              · refine gQ_ite ?_ ?_
                · refine gQ_v1 (A := Fw W g) (of_153 hg_o hU_o  h500962_o) (fun v12 s11 h500964_o => ?_)
                  refine gQ_ite ?_ ?_
                  · exact gQ_ret ⟨rfl, h500964_o⟩
                  · refine gQ_v1 (A := Fw W g) (of_246 hg_o hU_o rfl h500964_o) (fun v15 s14 h500965_o => ?_)
                    refine gQ_v1 (A := Fw W g) (of_152 hg_o hU_o  h500965_o) (fun v17 s16 h500966_o => ?_)
                    exact gQ_ret ⟨rfl, h500966_o⟩
                · refine gQ_map ?_
                  unfold fb_247_125
                  dsimp only
                  refine gQ_chk2 (fun ha500967_o hb500968_o => ?_)
                  exact gQ_ret ⟨rfl, (Fw_w h500962_o (fr_r h500962_o rfl (rr_217_24 hg_o)) (hU_o 230 _ rfl))⟩
              · refine gQ_map ?_
                unfold fb_247_125
                dsimp only
                refine gQ_chk2 (fun ha500969_o hb500970_o => ?_)
                exact gQ_ret ⟨rfl, (Fw_w h500962_o (fr_r h500962_o rfl (rr_217_24 hg_o)) (hU_o 230 _ rfl))⟩
          · refine gQ_map ?_
            exact gQ_ret ⟨rfl, h500934_o⟩
    · unfold fb_247_18
      unfold fb_247_19
      dsimp only
      refine gQ_ite ?_ ?_
      · exact gQ_ret (Fw_w h500894_o rfl (hU_o 217 _ rfl))
      · refine gQ_loop (fun y_l => y_l.1 = 217 ∧ Fw W g (y_l.2.2.2.2)) (fun y_l hy_o => ?_) ⟨rfl, (Fw_w h500894_o rfl (hU_o 217 _ rfl))⟩
        obtain ⟨x500971_o, x500972_o, x500973_o, x500974_o, x500975_o⟩ := y_l
        obtain ⟨e500977_o, h500976_o⟩ := hy_o
        dsimp only at e500977_o h500976_o
        subst e500977_o
        show gQ (sb_247_41 217 x500972_o x500973_o x500974_o x500975_o) _
        unfold sb_247_41
        refine gQ_ite ?_ ?_
        · refine gQ_map ?_
          refine gQ_v1 (A := Fw W g) (of_252 hg_o hU_o rfl h500976_o) (fun v4_l s3_l h500978_o => ?_)
          refine gQ_ite ?_ ?_
          · refine gQ_chk2 (fun ha500979_o hb500980_o => ?_)
            exact gQ_ret h500978_o
          · refine gQ_loop (fun y_l => y_l.1 = 217 ∧ Fw W g (y_l.2.2.2.2.2)) (fun y_l hy_o => ?_) ⟨rfl, h500978_o⟩
            obtain ⟨x500981_o, x500982_o, x500983_o, x500984_o, x500985_o, x500986_o⟩ := y_l
            obtain ⟨e500988_o, h500987_o⟩ := hy_o
            dsimp only at e500988_o h500987_o
            subst e500988_o
            show gQ (sb_247_175 217 x500982_o x500983_o x500984_o x500985_o x500986_o) _
            unfold sb_247_175
            refine gQ_ite ?_ ?_
            · refine gQ_map ?_
              exact gQ_ret h500987_o
            · refine gQ_loop (fun y_l => y_l.1 = 217 ∧ Fw W g (y_l.2.2.2.2.2)) (fun y_l hy_o => ?_) ⟨rfl, h500987_o⟩
              obtain ⟨x500989_o, x500990_o, x500991_o, x500992_o, x500993_o, x500994_o⟩ := y_l
              obtain ⟨e500996_o, h500995_o⟩ := hy_o
              dsimp only at e500996_o h500995_o
              subst e500996_o
              show gQ (sb_247_184 217 x500990_o x500991_o x500992_o x500993_o x500994_o) _
              unfold sb_247_184
              refine gQ_ite ?_ ?_
              · unfold fb_247_199
                dsimp only
                refine gQ_v1 (A := Fw W g) (of_246 hg_o hU_o rfl h500995_o) (fun v6 s5 h500997_o => ?_)
                refine gQ_chk2 (fun ha500998_o hb500999_o => ?_)
                refine gQ_ite ?_ ?_
                · refine gQ_map ?_
                  refine gQ_ite ?_ ?_
                  · exact gQ_ret ⟨rfl, h500997_o⟩
                  · exact gQ_ret ⟨rfl, h500997_o⟩
                · exact gQ_ret ⟨rfl, h500997_o⟩
              · refine gQ_v1 (A := Fw W g) (of_153 hg_o hU_o  h500995_o) (fun v9 s8 h501000_o => ?_)
                refine gQ_ite ?_ ?_
                · exact gQ_ret ⟨rfl, h501000_o⟩
                · unfold fb_247_199
                  dsimp only
                  refine gQ_v1 (A := Fw W g) (of_246 hg_o hU_o rfl h501000_o) (fun v6 s5 h501001_o => ?_)
                  refine gQ_chk2 (fun ha501002_o hb501003_o => ?_)
                  refine gQ_ite ?_ ?_
                  · refine gQ_map ?_
                    refine gQ_ite ?_ ?_
                    · exact gQ_ret ⟨rfl, h501001_o⟩
                    · exact gQ_ret ⟨rfl, h501001_o⟩
                  · exact gQ_ret ⟨rfl, h501001_o⟩
        · refine gQ_loop (fun y_l => y_l.1 = 217 ∧ Fw W g (y_l.2.2.2.2.2)) (fun y_l hy_o => ?_) ⟨rfl, h500976_o⟩
          obtain ⟨x501004_o, x501005_o, x501006_o, x501007_o, x501008_o, x501009_o⟩ := y_l
          obtain ⟨e501011_o, h501010_o⟩ := hy_o
          dsimp only at e501011_o h501010_o
          subst e501011_o
          show gQ (sb_247_48 217 x501005_o x501006_o x501007_o x501008_o x501009_o) _
          unfold sb_247_48
          refine gQ_ite ?_ ?_
          · refine gQ_ite ?_ ?_
            · unfold fb_247_72
              refine gQ_loop (fun y_l => y_l.1 = 217 ∧ Fw W g (y_l.2.2.2.2.2.2.2)) (fun y_l hy_o => ?_) ⟨rfl, h501010_o⟩
              obtain ⟨x501012_o, x501013_o, x501014_o, x501015_o, x501016_o, x501017_o, x501018_o, x501019_o⟩ := y_l
              obtain ⟨e501021_o, h501020_o⟩ := hy_o
              dsimp only at e501021_o h501020_o
              subst e501021_o
              show gQ (sb_247_77 217 x501013_o x501014_o x501015_o x501016_o x501017_o x501018_o x501019_o) _
              unfold sb_247_77
              refine gQ_ite ?_ ?_
              · refine gQ_ite ?_ ?_
                · refine gQ_v1 (A := Fw W g) (of_153 hg_o hU_o  h501020_o) (fun v12 s11 h501022_o => ?_)
                  refine gQ_ite ?_ ?_
                  · exact gQ_ret ⟨rfl, h501022_o⟩
                  · refine gQ_v1 (A := Fw W g) (of_246 hg_o hU_o rfl h501022_o) (fun v15 s14 h501023_o => ?_)
                    refine gQ_v1 (A := Fw W g) (of_152 hg_o hU_o  h501023_o) (fun v17 s16 h501024_o => ?_)
                    exact gQ_ret ⟨rfl, h501024_o⟩
                · refine gQ_map ?_
                  unfold fb_247_125
                  dsimp only
                  refine gQ_chk2 (fun ha501025_o hb501026_o => ?_)
                  exact gQ_ret ⟨rfl, (Fw_w h501020_o (fr_r h501020_o rfl (rr_217_24 hg_o)) (hU_o 230 _ rfl))⟩
              · refine gQ_map ?_
                unfold fb_247_125
                dsimp only
                refine gQ_chk2 (fun ha501027_o hb501028_o => ?_)
                exact gQ_ret ⟨rfl, (Fw_w h501020_o (fr_r h501020_o rfl (rr_217_24 hg_o)) (hU_o 230 _ rfl))⟩
            · refine gQ_v1 (A := Fw W g) (of_246 hg_o hU_o rfl h501010_o) (fun v20 s19 h501029_o => ?_)
              unfold fb_247_72
              refine gQ_loop (fun y_l => y_l.1 = 217 ∧ Fw W g (y_l.2.2.2.2.2.2.2)) (fun y_l hy_o => ?_) ⟨rfl, h501029_o⟩
              obtain ⟨x501030_o, x501031_o, x501032_o, x501033_o, x501034_o, x501035_o, x501036_o, x501037_o⟩ := y_l
              obtain ⟨e501039_o, h501038_o⟩ := hy_o
              dsimp only at e501039_o h501038_o
              subst e501039_o
              show gQ (sb_247_77 217 x501031_o x501032_o x501033_o x501034_o x501035_o x501036_o x501037_o) _
              unfold sb_247_77
              refine gQ_ite ?_ ?_
              · refine gQ_ite ?_ ?_
                · refine gQ_v1 (A := Fw W g) (of_153 hg_o hU_o  h501038_o) (fun v12 s11 h501040_o => ?_)
                  refine gQ_ite ?_ ?_
                  · exact gQ_ret ⟨rfl, h501040_o⟩
                  · refine gQ_v1 (A := Fw W g) (of_246 hg_o hU_o rfl h501040_o) (fun v15 s14 h501041_o => ?_)
                    refine gQ_v1 (A := Fw W g) (of_152 hg_o hU_o  h501041_o) (fun v17 s16 h501042_o => ?_)
                    exact gQ_ret ⟨rfl, h501042_o⟩
                · refine gQ_map ?_
                  unfold fb_247_125
                  dsimp only
                  refine gQ_chk2 (fun ha501043_o hb501044_o => ?_)
                  exact gQ_ret ⟨rfl, (Fw_w h501038_o (fr_r h501038_o rfl (rr_217_24 hg_o)) (hU_o 230 _ rfl))⟩
              · refine gQ_map ?_
                unfold fb_247_125
                dsimp only
                refine gQ_chk2 (fun ha501045_o hb501046_o => ?_)
                exact gQ_ret ⟨rfl, (Fw_w h501038_o (fr_r h501038_o rfl (rr_217_24 hg_o)) (hU_o 230 _ rfl))⟩
          · refine gQ_map ?_
            exact gQ_ret ⟨rfl, h501010_o⟩

theorem of_248 {W : Nat → Nat → Bool} {g s : gS} {a0 : Nat} (hg_o : RF g) (hU_o : ∀ a k, wff a k = true → W a k = true) (ea0_o : a0 = 217) (h_o : Fw W g s) : gQ (f_248 a0 s) (fun r => Fw W g r.2.2.2) := by
  subst ea0_o
  unfold f_248
  dsimp only
  refine gQ_loop (fun y_l => y_l.1 = 217 ∧ Fw W g (y_l.2.2.2.2)) (fun y_l hy_o => ?_) ⟨rfl, (Fw_w h_o rfl (hU_o 217 _ rfl))⟩
  obtain ⟨x501047_o, x501048_o, x501049_o, x501050_o, x501051_o⟩ := y_l
  obtain ⟨e501053_o, h501052_o⟩ := hy_o
  dsimp only at e501053_o h501052_o
  subst e501053_o
  show gQ (sb_248_20 217 x501048_o x501049_o x501050_o x501051_o) _
  unfold sb_248_20
  refine gQ_ite ?_ ?_
  · refine gQ_loop (fun y_l => y_l.1 = 217 ∧ Fw W g (y_l.2.2.2.2.2.2)) (fun y_l hy_o => ?_) ⟨rfl, h501052_o⟩
    obtain ⟨x501054_o, x501055_o, x501056_o, x501057_o, x501058_o, x501059_o, x501060_o⟩ := y_l
    obtain ⟨e501062_o, h501061_o⟩ := hy_o
    dsimp only at e501062_o h501061_o
    subst e501062_o
    show gQ (sb_248_39 217 x501055_o x501056_o x501057_o x501058_o x501059_o x501060_o) _
    unfold sb_248_39
    refine gQ_ite ?_ ?_
    · refine gQ_v1 (A := Fw W g) (of_153 hg_o hU_o  h501061_o) (fun v4_l s3_l h501063_o => ?_)
      refine gQ_ite ?_ ?_
      · exact gQ_ret ⟨rfl, h501063_o⟩
      · refine gQ_v1 (A := Fw W g) (of_160 hg_o hU_o rfl h501063_o) (fun v7 s6_l h501064_o => ?_)
        exact gQ_ret ⟨rfl, h501064_o⟩
    · refine gQ_map ?_
      refine gQ_ite ?_ ?_
      · refine gQ_ite ?_ ?_
        · unfold fb_248_107
          exact gQ_ret ⟨rfl, h501061_o⟩
        · refine gQ_v1 (A := Fw W g) (of_154 hg_o hU_o  h501061_o) (fun v9 s8 h501065_o => ?_)
          refine gQ_v1 (A := Fw W g) (of_154 hg_o hU_o  h501065_o) (fun v11 s10 h501066_o => ?_)
          refine gQ_ite ?_ ?_
          · unfold fb_248_107
            exact gQ_ret ⟨rfl, h501066_o⟩
          · exact gQ_ret ⟨rfl, h501066_o⟩
      · exact gQ_ret ⟨rfl, h501061_o⟩
  · refine gQ_map ?_
    exact gQ_ret h501052_o

theorem of_249 {W : Nat → Nat → Bool} {g s : gS} {a0 : Nat} (hg_o : RF g) (hU_o : ∀ a k, wff a k = true → W a k = true) (ea0_o : a0 = 217) (h_o : Fw W g s) : gQ (f_249 a0 s) (fun r => Fw W g r.2.2.2) := by
  subst ea0_o
  unfold f_249
  dsimp only
  refine gQ_loop (fun y_l => y_l.1 = 217 ∧ Fw W g (y_l.2.2.2)) (fun y_l hy_o => ?_) ⟨rfl, (Fw_w h_o rfl (hU_o 217 _ rfl))⟩
  obtain ⟨x501067_o, x501068_o, x501069_o, x501070_o⟩ := y_l
  obtain ⟨e501072_o, h501071_o⟩ := hy_o
  dsimp only at e501072_o h501071_o
  subst e501072_o
  show gQ (sb_249_9 217 x501068_o x501069_o x501070_o) _
  unfold sb_249_9
  refine gQ_ite ?_ ?_
  · refine gQ_loop (fun y_l => y_l.1 = 217 ∧ Fw W g (y_l.2.2.2.2)) (fun y_l hy_o => ?_) ⟨rfl, h501071_o⟩
    obtain ⟨x501073_o, x501074_o, x501075_o, x501076_o, x501077_o⟩ := y_l
    obtain ⟨e501079_o, h501078_o⟩ := hy_o
    dsimp only at e501079_o h501078_o
    subst e501079_o
    show gQ (sb_249_23 217 x501074_o x501075_o x501076_o x501077_o) _
    unfold sb_249_23
    refine gQ_ite ?_ ?_
    · refine gQ_v1 (A := Fw W g) (of_156 hg_o hU_o rfl h501078_o) (fun v3 s2_l h501080_o => ?_)
      refine gQ_v1 (A := Fw W g) (of_156 hg_o hU_o rfl h501080_o) (fun v5 s4_l h501081_o => ?_)
      refine gQ_ite ?_ ?_
      · exact gQ_ret ⟨rfl, h501081_o⟩
      · exact gQ_ret ⟨rfl, h501081_o⟩
    · refine gQ_map ?_
      exact gQ_ret ⟨rfl, h501078_o⟩
  · refine gQ_map ?_
    exact gQ_ret h501071_o

theorem of_250 {W : Nat → Nat → Bool} {g s : gS} {a0 : Nat} {a1 : Int} (hg_o : RF g) (hU_o : ∀ a k, wff a k = true → W a k = true) (ea0_o : a0 = 217) (h_o : Fw W g s) : gQ (f_250 a0 a1 s) (fun r => Fw W g r.2.2.2) := by
  subst ea0_o
  unfold f_250
  refine gQ_v1 (A := Fw W g) (of_150 hg_o hU_o  h_o) (fun v2 s1_l h501082_o => ?_)
  refine gQ_ite ?_ ?_
  · unfold fb_250_15
    dsimp only
    refine gQ_loop (fun y_l => y_l.1 = 217 ∧ Fw W g (y_l.2.2.2.2)) (fun y_l hy_o => ?_) ⟨rfl, (Fw_w h501082_o rfl (hU_o 217 _ rfl))⟩
    obtain ⟨x501083_o, x501084_o, x501085_o, x501086_o, x501087_o⟩ := y_l
    obtain ⟨e501089_o, h501088_o⟩ := hy_o
    dsimp only at e501089_o h501088_o
    subst e501089_o
    show gQ (sb_250_22 217 x501084_o x501085_o x501086_o x501087_o) _
    unfold sb_250_22
    dsimp only
    refine gQ_ite ?_ ?_
    · refine gQ_ite ?_ ?_
      · refine gQ_v1 (A := Fw W g) (of_156 hg_o hU_o rfl h501088_o) (fun v6 s5 h501090_o => ?_)
        refine gQ_v1 (A := Fw W g) (of_153 hg_o hU_o  h501090_o) (fun v8 s7 h501091_o => ?_)
        refine gQ_ite ?_ ?_
        · exact gQ_ret ⟨rfl, h501091_o⟩
        · exact gQ_ret ⟨rfl, h501091_o⟩
      · refine gQ_map ?_
        exact gQ_ret h501088_o
    · refine gQ_map ?_
      exact gQ_ret h501088_o
  · unfold fb_250_15
    dsimp only
    refine gQ_loop (fun y_l => y_l.1 = 217 ∧ Fw W g (y_l.2.2.2.2)) (fun y_l hy_o => ?_) ⟨rfl, (Fw_w h501082_o rfl (hU_o 217 _ rfl))⟩
    obtain ⟨x501092_o, x501093_o, x501094_o, x501095_o, x501096_o⟩ := y_l
    obtain ⟨e501098_o, h501097_o⟩ := hy_o
    dsimp only at e501098_o h501097_o
    subst e501098_o
    show gQ (sb_250_22 217 x501093_o x501094_o x501095_o x501096_o) _
    unfold sb_250_22
    dsimp only
    refine gQ_ite ?_ ?_
    · refine gQ_ite ?_ ?_
      · refine gQ_v1 (A := Fw W g) (of_156 hg_o hU_o rfl h501097_o) (fun v6 s5 h501099_o => ?_)
        refine gQ_v1 (A := Fw W g) (of_153 hg_o hU_o  h501099_o) (fun v8 s7 h501100_o => ?_)
        refine gQ_ite ?_ ?_
        · exact gQ_ret ⟨rfl, h501100_o⟩
        · exact gQ_ret ⟨rfl, h501100_o⟩
      · refine gQ_map ?_
        exact gQ_ret h501097_o
    · refine gQ_map ?_
      exact gQ_ret h501097_o

theorem of_251 {W : Nat → Nat → Bool} {g s : gS} {a0 : Nat} (hg_o : RF g) (hU_o : ∀ a k, wff a k = true → W a k = true) (ea0_o : a0 = 217) (h_o : Fw W g s) : gQ (f_251 a0 s) (fun r => Fw W g r.2.2.2) := by
  subst ea0_o
  unfold f_251
  dsimp only
  refine gQ_loop (fun y_l => y_l.1 = 217 ∧ Fw W g (y_l.2.2.2)) (fun y_l hy_o => ?_) ⟨rfl, (Fw_w h_o rfl (hU_o 217 _ rfl))⟩
  obtain ⟨x501101_o, x501102_o, x501103_o, x501104_o⟩ := y_l
  obtain ⟨e501106_o, h501105_o⟩ := hy_o
  dsimp only at e501106_o h501105_o
  subst e501106_o
  show gQ (sb_251_9 217 x501102_o x501103_o x501104_o) _
  unfold sb_251_9
  refine gQ_ite ?_ ?_
  · refine gQ_ite ?_ ?_
    · unfold fb_251_39
      exact gQ_ret ⟨rfl, h501105_o⟩
    · refine gQ_v1 (A := Fw W g) (of_155 hg_o hU_o rfl h501105_o) (fun v3 s2_l h501107_o => ?_)
      refine gQ_v1 (A := Fw W g) (of_155 hg_o hU_o rfl h501107_o) (fun v5 s4_l h501108_o => ?_)
      refine gQ_ite ?_ ?_
      · unfold fb_251_39
        exact gQ_ret ⟨rfl, h501108_o⟩
      · exact gQ_ret ⟨rfl, h501108_o⟩
  · refine gQ_map ?_
    exact gQ_ret h501105_o

theorem of_253 {W : Nat → Nat → Bool} {g s : gS} {a0 : Nat} {a1 : Int} (hg_o : RF g) (hU_o : ∀ a k, wff a k = true → W a k = true) (ea0_o : a0 = 217) (h_o : Fw W g s) : gQ (f_253 a0 a1 s) (fun r => Fw W g r.2.2.2) := by
  subst ea0_o
  unfold f_253
  dsimp only
  refine gQ_ite ?_ ?_
  · unfold fb_253_15
    refine gQ_v1 (A := Fw W g) (of_252 hg_o hU_o rfl (Fw_w h_o rfl (hU_o 217 _ rfl))) (fun v3 s2_l h501109_o => ?_)
    exact gQ_ret h501109_o
  · unfold fb_253_15
    refine gQ_v1 (A := Fw W g) (of_252 hg_o hU_o rfl (Fw_w h_o rfl (hU_o 217 _ rfl))) (fun v3 s2_l h501110_o => ?_)
    exact gQ_ret h501110_o

theorem of_256 {W : Nat → Nat → Bool} {g s : gS} {a0 : Nat} {a1 : Int} {a2 : Int} (hg_o : RF g) (hU_o : ∀ a k, wff a k = true → W a k = true) (ea0_o : a0 = 217) (h_o : Fw W g s) : gQ (f_256 a0 a1 a2 s) (fun r => Fw W g r.2.2.2) := by
  subst ea0_o
  unfold f_256
  refine gQ_chk2 (fun ha501111_o hb501112_o => ?_)
  exact gQ_ret h_o

theorem of_257 {W : Nat → Nat → Bool} {g s : gS} {a0 : Nat} {a1 : Int} {a2 : Int} (hg_o : RF g) (hU_o : ∀ a k, wff a k = true → W a k = true) (ea0_o : a0 = 217) (h_o : Fw W g s) : gQ (f_257 a0 a1 a2 s) (fun r => Fw W g r.2.2.2) := by
  subst ea0_o
  unfold f_257
  refine gQ_v1 (A := Fw W g) (of_162 hg_o hU_o rfl h_o) (fun v2 s1_l h501113_o => ?_)
  refine gQ_ite ?_ ?_
  · unfold fb_257_14
    dsimp only
    refine gQ_loop (fun y_l => y_l.1 = 217 ∧ Fw W g (y_l.2.2.2.2.2)) (fun y_l hy_o => ?_) ⟨rfl, (Fw_w h501113_o rfl (hU_o 217 _ rfl))⟩
    obtain ⟨x501114_o, x501115_o, x501116_o, x501117_o, x501118_o, x501119_o⟩ := y_l
    obtain ⟨e501121_o, h501120_o⟩ := hy_o
    dsimp only at e501121_o h501120_o
    subst e501121_o
    show gQ (sb_257_22 217 x501115_o x501116_o x501117_o x501118_o x501119_o) _
    unfold sb_257_22
    refine gQ_ite ?_ ?_
    · refine gQ_ite ?_ ?_
      · refine gQ_v1 (A := Fw W g) (of_256 hg_o hU_o rfl h501120_o) (fun v6 s5 h501122_o => ?_)
        refine gQ_ite ?_ ?_
        · refine gQ_ite ?_ ?_
          · exact gQ_ret ⟨rfl, h501122_o⟩
          · refine gQ_v1 (A := Fw W g) (of_256 hg_o hU_o rfl h501122_o) (fun v8 s7 h501123_o => ?_)
            refine gQ_ite ?_ ?_
            · exact gQ_ret ⟨rfl, h501123_o⟩
            · unfold fb_257_72
              exact gQ_ret ⟨rfl, h501123_o⟩
        · unfold fb_257_72
          exact gQ_ret ⟨rfl, h501122_o⟩
      · refine gQ_map ?_
        exact gQ_ret h501120_o
    · refine gQ_map ?_
      exact gQ_ret h501120_o
  · unfold fb_257_14
    dsimp only
    refine gQ_loop (fun y_l => y_l.1 = 217 ∧ Fw W g (y_l.2.2.2.2.2)) (fun y_l hy_o => ?_) ⟨rfl, (Fw_w h501113_o rfl (hU_o 217 _ rfl))⟩
    obtain ⟨x501124_o, x501125_o, x501126_o, x501127_o, x501128_o, x501129_o⟩ := y_l
    obtain ⟨e501131_o, h501130_o⟩ := hy_o
    dsimp only at e501131_o h501130_o
    subst e501131_o
    show gQ (sb_257_22 217 x501125_o x501126_o x501127_o x501128_o x501129_o) _
    unfold sb_257_22
    refine gQ_ite ?_ ?_
    · refine gQ_ite ?_ ?_
      · refine gQ_v1 (A := Fw W g) (of_256 hg_o hU_o rfl h501130_o) (fun v6 s5 h501132_o => ?_)
        refine gQ_ite ?_ ?_
        · refine gQ_ite ?_ ?_
          · exact gQ_ret ⟨rfl, h501132_o⟩
          · refine gQ_v1 (A := Fw W g) (of_256 hg_o hU_o rfl h501132_o) (fun v8 s7 h501133_o => ?_)
            refine gQ_ite ?_ ?_
            · exact gQ_ret ⟨rfl, h501133_o⟩
            · unfold fb_257_72
              exact gQ_ret ⟨rfl, h501133_o⟩
        · unfold fb_257_72
          exact gQ_ret ⟨rfl, h501132_o⟩
      · refine gQ_map ?_
        exact gQ_ret h501130_o
    · refine gQ_map ?_
      exact gQ_ret h501130_o

theorem of_258 {W : Nat → Nat → Bool} {g s : gS} {a0 : Nat} {a1 : Int} {a2 : Int} (hg_o : RF g) (hU_o : ∀ a k, wff a k = true → W a k = true) (ea0_o : a0 = 217) (h_o : Fw W g s) : gQ (f_258 a0 a1 a2 s) (fun r => Fw W g r.2.2.2) := by
  subst ea0_o
  unfold f_258
  refine gQ_v1 (A := Fw W g) (of_150 hg_o hU_o  h_o) (fun v2 s1_l h501134_o => ?_)
  refine gQ_ite ?_ ?_
  · unfold fb_258_15
    dsimp only
    refine gQ_ite ?_ ?_
    · exact gQ_ret (Fw_w h501134_o rfl (hU_o 217 _ rfl))
    · refine gQ_v1 (A := Fw W g) (of_150 hg_o hU_o  (Fw_w h501134_o rfl (hU_o 217 _ rfl))) (fun v6 s5 h501135_o => ?_)
      refine gQ_ite ?_ ?_
      · exact gQ_ret h501135_o
      · refine gQ_v1 (A := Fw W g) (of_256 hg_o hU_o rfl h501135_o) (fun v9 s8 h501136_o => ?_)
        exact gQ_ret h501136_o
  · unfold fb_258_15
    dsimp only
    refine gQ_ite ?_ ?_
    · exact gQ_ret (Fw_w h501134_o rfl (hU_o 217 _ rfl))
    · refine gQ_v1 (A := Fw W g) (of_150 hg_o hU_o  (Fw_w h501134_o rfl (hU_o 217 _ rfl))) (fun v6 s5 h501137_o => ?_)
      refine gQ_ite ?_ ?_
      · exact gQ_ret h501137_o
      · refine gQ_v1 (A := Fw W g) (of_256 hg_o hU_o rfl h501137_o) (fun v9 s8 h501138_o => ?_)
        exact gQ_ret h501138_o

theorem of_263 {W : Nat → Nat → Bool} {g s : gS} {a0 : Nat} {a1 : Int} (hg_o : RF g) (hU_o : ∀ a k, wff a k = true → W a k = true) (ea0_o : a0 = 217) (h_o : Fw W g s) : gQ (f_263 a0 a1 s) (fun r => Fw W g r.2.2.2) := by
  subst ea0_o
  unfold f_263
  dsimp only
  refine gQ_v1 (A := Fw W g) (of_150 hg_o hU_o  (Fw_w h_o rfl (hU_o 217 _ rfl))) (fun v3 s2_l h501139_o => ?_)
  refine gQ_ite ?_ ?_
  · refine gQ_ite ?_ ?_
    · exact gQ_ret h501139_o
    · refine gQ_ite ?_ ?_
      · exact gQ_ret h501139_o
      · refine gQ_ite ?_ ?_
        · exact gQ_ret h501139_o
        · refine gQ_v1 (A := Fw W g) (of_150 hg_o hU_o  h501139_o) (fun v6 s5 h501140_o => ?_)
          refine gQ_ite ?_ ?_
          · refine gQ_ite ?_ ?_
            · refine gQ_loop (fun y_l => y_l.1 = 217 ∧ Fw W g (y_l.2.2.2)) (fun y_l hy_o => ?_) ⟨rfl, h501140_o⟩
              obtain ⟨x501141_o, x501142_o, x501143_o, x501144_o⟩ := y_l
              obtain ⟨e501146_o, h501145_o⟩ := hy_o
              dsimp only at e501146_o h501145_o
              subst e501146_o
              show gQ (sb_263_95 217 x501142_o x501143_o x501144_o) _
              unfold sb_263_95
              refine gQ_ite ?_ ?_
              · refine gQ_v1 (A := Fw W g) (of_165 hg_o hU_o rfl h501145_o) (fun v9 s8 h501147_o => ?_)
                refine gQ_ite ?_ ?_
                · exact gQ_ret ⟨rfl, h501147_o⟩
                · refine gQ_v1 (A := Fw W g) (of_156 hg_o hU_o rfl h501147_o) (fun v12 s11 h501148_o => ?_)
                  exact gQ_ret ⟨rfl, h501148_o⟩
              · refine gQ_map ?_
                exact gQ_ret h501145_o
            · refine gQ_ite ?_ ?_
              · exact gQ_ret h501140_o
              · refine gQ_ite ?_ ?_
                · exact gQ_ret h501140_o
                · exact gQ_ret h501140_o
          · refine gQ_chk2 (fun ha501149_o hb501150_o => ?_)
            exact gQ_ret h501140_o
  · refine gQ_chk2 (fun ha501151_o hb501152_o => ?_)
    exact gQ_ret h501139_o

theorem of_219 {W : Nat → Nat → Bool} {g s : gS} {a0 : Nat} {a1 : Int} {a2 : Int} {a3 : Int} (hg_o : RF g) (hU_o : ∀ a k, wff a k = true → W a k = true) (ea0_o : a0 = 217) (h_o : Fw W g s) : gQ (f_219 a0 a1 a2 a3 s) (fun r => Fw W g r.2.2.2) := by
  subst ea0_o
  unfold f_219
  refine gQ_v1 (A := Fw W g) (of_162 hg_o hU_o rfl h_o) (fun v2 s1_l h501153_o => ?_)
  refine gQ_ite ?_ ?_
  · unfold fb_219_42
    dsimp only
    refine gQ_ite ?_ ?_
    · exact gQ_ret (Fw_w h501153_o rfl (hU_o 217 _ rfl))
    · refine gQ_v0 (A := Fw W g) (of_185 hg_o hU_o rfl (Fw_w h501153_o rfl (hU_o 217 _ rfl))) (fun s5 h501154_o => ?_)
      refine gQ_v1 (A := Fw W g) (of_202 hg_o hU_o rfl h501154_o) (fun v8 s7 h501155_o => ?_)
      refine gQ_ite ?_ ?_
      · refine gQ_v1 (A := Fw W g) (of_156 hg_o hU_o rfl h501155_o) (fun v10 s9 h501156_o => ?_)
        unfold fb_219_113
        refine gQ_v0 (A := Fw W g) (of_186 hg_o hU_o rfl h501156_o) (fun s11 h501157_o => ?_)
        exact gQ_ret h501157_o
      · refine gQ_ite ?_ ?_
        · refine gQ_v1 (A := Fw W g) (of_156 hg_o hU_o rfl h501155_o) (fun v14 s13 h501158_o => ?_)
          unfold fb_219_113
          refine gQ_v0 (A := Fw W g) (of_186 hg_o hU_o rfl h501158_o) (fun s11 h501159_o => ?_)
          exact gQ_ret h501159_o
        · refine gQ_ite ?_ ?_
          · refine gQ_v1 (A := Fw W g) (of_156 hg_o hU_o rfl h501155_o) (fun v16 s15 h501160_o => ?_)
            unfold fb_219_113
            refine gQ_v0 (A := Fw W g) (of_186 hg_o hU_o rfl h501160_o) (fun s11 h501161_o => ?_)
            exact gQ_ret h501161_o
          · refine gQ_v1 (A := Fw W g) (of_156 hg_o hU_o rfl h501155_o) (fun v18 s17 h501162_o => ?_)
            unfold fb_219_113
            refine gQ_v0 (A := Fw W g) (of_186 hg_o hU_o rfl h501162_o) (fun s11 h501163_o => ?_)
            exact gQ_ret h501163_o
  · refine gQ_v1 (A := Fw W g) (of_150 hg_o hU_o  h501153_o) (fun v20 s19 h501164_o => ?_)
    refine gQ_ite ?_ ?_
    · unfold fb_219_42
      dsimp only
      refine gQ_ite ?_ ?_
      · exact gQ_ret (Fw_w h501164_o rfl (hU_o 217 _ rfl))
      · refine gQ_v0 (A := Fw W g) (of_185 hg_o hU_o rfl (Fw_w h501164_o rfl (hU_o 217 _ rfl))) (fun s5 h501165_o => ?_)
        refine gQ_v1 (A := Fw W g) (of_202 hg_o hU_o rfl h501165_o) (fun v8 s7 h501166_o => ?_)
        refine gQ_ite ?_ ?_
        · refine gQ_v1 (A := Fw W g) (of_156 hg_o hU_o rfl h501166_o) (fun v10 s9 h501167_o => ?_)
          unfold fb_219_113
          refine gQ_v0 (A := Fw W g) (of_186 hg_o hU_o rfl h501167_o) (fun s11 h501168_o => ?_)
          exact gQ_ret h501168_o
        · refine gQ_ite ?_ ?_
          · refine gQ_v1 (A := Fw W g) (of_156 hg_o hU_o rfl h501166_o) (fun v14 s13 h501169_o => ?_)
            unfold fb_219_113
            refine gQ_v0 (A := Fw W g) (of_186 hg_o hU_o rfl h501169_o) (fun s11 h501170_o => ?_)
            exact gQ_ret h501170_o
          · refine gQ_ite ?_ ?_
            · refine gQ_v1 (A := Fw W g) (of_156 hg_o hU_o rfl h501166_o) (fun v16 s15 h501171_o => ?_)
              unfold fb_219_113
              refine gQ_v0 (A := Fw W g) (of_186 hg_o hU_o rfl h501171_o) (fun s11 h501172_o => ?_)
              exact gQ_ret h501172_o
            · refine gQ_v1 (A := Fw W g) (of_156 hg_o hU_o rfl h501166_o) (fun v18 s17 h501173_o => ?_)
              unfold fb_219_113
              refine gQ_v0 (A := Fw W g) (of_186 hg_o hU_o rfl h501173_o) (fun s11 h501174_o => ?_)
              exact gQ_ret h501174_o
    · refine gQ_v1 (A := Fw W g) (of_150 hg_o hU_o  h501164_o) (fun v23 s22 h501175_o => ?_)
      refine gQ_ite ?_ ?_
      · unfold fb_219_42
        dsimp only
        refine gQ_ite ?_ ?_
        · exact gQ_ret (Fw_w h501175_o rfl (hU_o 217 _ rfl))
        · refine gQ_v0 (A := Fw W g) (of_185 hg_o hU_o rfl (Fw_w h501175_o rfl (hU_o 217 _ rfl))) (fun s5 h501176_o => ?_)
          refine gQ_v1 (A := Fw W g) (of_202 hg_o hU_o rfl h501176_o) (fun v8 s7 h501177_o => ?_)
          refine gQ_ite ?_ ?_
          · refine gQ_v1 (A := Fw W g) (of_156 hg_o hU_o rfl h501177_o) (fun v10 s9 h501178_o => ?_)
            unfold fb_219_113
            refine gQ_v0 (A := Fw W g) (of_186 hg_o hU_o rfl h501178_o) (fun s11 h501179_o => ?_)
            exact gQ_ret h501179_o
          · refine gQ_ite ?_ ?_
            · refine gQ_v1 (A := Fw W g) (of_156 hg_o hU_o rfl h501177_o) (fun v14 s13 h501180_o => ?_)
              unfold fb_219_113
              refine gQ_v0 (A := Fw W g) (of_186 hg_o hU_o rfl h501180_o) (fun s11 h501181_o => ?_)
              exact gQ_ret h501181_o
            · refine gQ_ite ?_ ?_
              · refine gQ_v1 (A := Fw W g) (of_156 hg_o hU_o rfl h501177_o) (fun v16 s15 h501182_o => ?_)
                unfold fb_219_113
                refine gQ_v0 (A := Fw W g) (of_186 hg_o hU_o rfl h501182_o) (fun s11 h501183_o => ?_)
                exact gQ_ret h501183_o
              · refine gQ_v1 (A := Fw W g) (of_156 hg_o hU_o rfl h501177_o) (fun v18 s17 h501184_o => ?_)
                unfold fb_219_113
                refine gQ_v0 (A := Fw W g) (of_186 hg_o hU_o rfl h501184_o) (fun s11 h501185_o => ?_)
                exact gQ_ret h501185_o
      · unfold fb_219_42
        dsimp only
        refine gQ_ite ?_ ?_
        · exact gQ_ret (Fw_w h501175_o rfl (hU_o 217 _ rfl))
        · refine gQ_v0 (A := Fw W g) (of_185 hg_o hU_o rfl (Fw_w h501175_o rfl (hU_o 217 _ rfl))) (fun s5 h501186_o => ?_)
          refine gQ_v1 (A := Fw W g) (of_202 hg_o hU_o rfl h501186_o) (fun v8 s7 h501187_o => ?_)
          refine gQ_ite ?_ ?_
          · refine gQ_v1 (A := Fw W g) (of_156 hg_o hU_o rfl h501187_o) (fun v10 s9 h501188_o => ?_)
            unfold fb_219_113
            refine gQ_v0 (A := Fw W g) (of_186 hg_o hU_o rfl h501188_o) (fun s11 h501189_o => ?_)
            exact gQ_ret h501189_o
          · refine gQ_ite ?_ ?_
            · refine gQ_v1 (A := Fw W g) (of_156 hg_o hU_o rfl h501187_o) (fun v14 s13 h501190_o => ?_)
              unfold fb_219_113
              refine gQ_v0 (A := Fw W g) (of_186 hg_o hU_o rfl h501190_o) (fun s11 h501191_o => ?_)
              exact gQ_ret h501191_o
            · refine gQ_ite ?_ ?_
              · refine gQ_v1 (A := Fw W g) (of_156 hg_o hU_o rfl h501187_o) (fun v16 s15 h501192_o => ?_)
                unfold fb_219_113
                refine gQ_v0 (A := Fw W g) (of_186 hg_o hU_o rfl h501192_o) (fun s11 h501193_o => ?_)
                exact gQ_ret h501193_o
              · refine gQ_v1 (A := Fw W g) (of_156 hg_o hU_o rfl h501187_o) (fun v18 s17 h501194_o => ?_)
                unfold fb_219_113
                refine gQ_v0 (A := Fw W g) (of_186 hg_o hU_o rfl h501194_o) (fun s11 h501195_o => ?_)
                exact gQ_ret h501195_o

theorem of_220 {W : Nat → Nat → Bool} {g s : gS} {a0 : Nat} {a1 : Int} (hg_o : RF g) (hU_o : ∀ a k, wff a k = true → W a k = true) (ea0_o : a0 = 217) (h_o : Fw W g s) : gQ (f_220 a0 a1 s) (fun r => Fw W g r.2.2.2) := by
  subst ea0_o
  unfold f_220
  refine gQ_v1 (A := Fw W g) (of_150 hg_o hU_o  h_o) (fun v2 s1_l h501196_o => ?_)
  refine gQ_ite ?_ ?_
  · unfold fb_220_17
    dsimp only
    refine gQ_ite ?_ ?_
    · exact gQ_ret (Fw_w h501196_o rfl (hU_o 217 _ rfl))
    · refine gQ_v0 (A := Fw W g) (of_185 hg_o hU_o rfl (Fw_w h501196_o rfl (hU_o 217 _ rfl))) (fun s5 h501197_o => ?_)
      refine gQ_v1 (A := Fw W g) (of_202 hg_o hU_o rfl h501197_o) (fun v8 s7 h501198_o => ?_)
      refine gQ_v0 (A := Fw W g) (of_186 hg_o hU_o rfl h501198_o) (fun s10 h501199_o => ?_)
      exact gQ_ret h501199_o
  · unfold fb_220_17
    dsimp only
    refine gQ_ite ?_ ?_
    · exact gQ_ret (Fw_w h501196_o rfl (hU_o 217 _ rfl))
    · refine gQ_v0 (A := Fw W g) (of_185 hg_o hU_o rfl (Fw_w h501196_o rfl (hU_o 217 _ rfl))) (fun s5 h501200_o => ?_)
      refine gQ_v1 (A := Fw W g) (of_202 hg_o hU_o rfl h501200_o) (fun v8 s7 h501201_o => ?_)
      refine gQ_v0 (A := Fw W g) (of_186 hg_o hU_o rfl h501201_o) (fun s10 h501202_o => ?_)
      exact gQ_ret h501202_o

theorem of_221 {W : Nat → Nat → Bool} {g s : gS} {a0 : Nat} {a1 : Int} (hg_o : RF g) (hU_o : ∀ a k, wff a k = true → W a k = true) (ea0_o : a0 = 217) (h_o : Fw W g s) : gQ (f_221 a0 a1 s) (fun r => Fw W g r.2.2.2) := by
  subst ea0_o
  unfold f_221
  refine gQ_v1 (A := Fw W g) (of_150 hg_o hU_o  h_o) (fun v2 s1_l h501203_o => ?_)
  refine gQ_ite ?_ ?_
  · unfold fb_221_17
    dsimp only
    refine gQ_ite ?_ ?_
    · exact gQ_ret (Fw_w h501203_o rfl (hU_o 217 _ rfl))
    · refine gQ_v0 (A := Fw W g) (of_185 hg_o hU_o rfl (Fw_w h501203_o rfl (hU_o 217 _ rfl))) (fun s5 h501204_o => ?_)
      refine gQ_v1 (A := Fw W g) (of_202 hg_o hU_o rfl h501204_o) (fun v8 s7 h501205_o => ?_)
      refine gQ_v0 (A := Fw W g) (of_186 hg_o hU_o rfl h501205_o) (fun s10 h501206_o => ?_)
      exact gQ_ret h501206_o
  · unfold fb_221_17
    dsimp only
    refine gQ_ite ?_ ?_
    · exact gQ_ret (Fw_w h501203_o rfl (hU_o 217 _ rfl))
    · refine gQ_v0 (A := Fw W g) (of_185 hg_o hU_o rfl (Fw_w h501203_o rfl (hU_o 217 _ rfl))) (fun s5 h501207_o => ?_)
      refine gQ_v1 (A := Fw W g) (of_202 hg_o hU_o rfl h501207_o) (fun v8 s7 h501208_o => ?_)
      refine gQ_v0 (A := Fw W g) (of_186 hg_o hU_o rfl h501208_o) (fun s10 h501209_o => ?_)
      exact gQ_ret h501209_o

theorem of_222 {W : Nat → Nat → Bool} {g s : gS} {a0 : Nat} {a1 : Int} {a2 : Int} (hg_o : RF g) (hU_o : ∀ a k, wff a k = true → W a k = true) (ea0_o : a0 = 217) (h_o : Fw W g s) : gQ (f_222 a0 a1 a2 s) (fun r => Fw W g r.2.2.2) := by
  subst ea0_o
  unfold f_222
  refine gQ_v1 (A := Fw W g) (of_165 hg_o hU_o rfl h_o) (fun v2 s1_l h501210_o => ?_)
  refine gQ_ite ?_ ?_
  · exact gQ_ret h501210_o
  · refine gQ_v0 (A := Fw W g) (of_185 hg_o hU_o rfl h501210_o) (fun s4_l h501211_o => ?_)
    refine gQ_loop (fun y_l => y_l.1 = 217 ∧ Fw W g (y_l.2.2.2.2.2)) (fun y_l hy_o => ?_) ⟨rfl, h501211_o⟩
    obtain ⟨x501212_o, x501213_o, x501214_o, x501215_o, x501216_o, x501217_o⟩ := y_l
    obtain ⟨e501219_o, h501218_o⟩ := hy_o
    dsimp only at e501219_o h501218_o
    subst e501219_o
    show gQ (sb_222_19 217 x501213_o x501214_o x501215_o x501216_o x501217_o) _
    unfold sb_222_19
    refine gQ_ite ?_ ?_
    · refine gQ_map ?_
      unfold fb_222_89
      refine gQ_v0 (A := Fw W g) (of_186 hg_o hU_o rfl h501218_o) (fun s6_l h501220_o => ?_)
      exact gQ_ret h501220_o
    · refine gQ_ite ?_ ?_
      · refine gQ_ite ?_ ?_
        · refine gQ_v1 (A := Fw W g) (of_156 hg_o hU_o rfl h501218_o) (fun v9 s8 h501221_o => ?_)
          refine gQ_ite ?_ ?_
          · unfold fb_222_72
            unfold fb_222_75
            refine gQ_v1 (A := Fw W g) (of_202 hg_o hU_o rfl h501221_o) (fun v11 s10 h501222_o => ?_)
            exact gQ_ret ⟨rfl, h501222_o⟩
          · unfold fb_222_75
            refine gQ_v1 (A := Fw W g) (of_202 hg_o hU_o rfl h501221_o) (fun v11 s10 h501223_o => ?_)
            exact gQ_ret ⟨rfl, h501223_o⟩
        · refine gQ_v1 (A := Fw W g) (of_165 hg_o hU_o rfl h501218_o) (fun v13 s12 h501224_o => ?_)
          refine gQ_ite ?_ ?_
          · unfold fb_222_75
            refine gQ_v1 (A := Fw W g) (of_202 hg_o hU_o rfl h501224_o) (fun v11 s10 h501225_o => ?_)
            exact gQ_ret ⟨rfl, h501225_o⟩
          · refine gQ_v1 (A := Fw W g) (of_156 hg_o hU_o rfl h501224_o) (fun v16 s15 h501226_o => ?_)
            refine gQ_ite ?_ ?_
            · unfold fb_222_75
              refine gQ_v1 (A := Fw W g) (of_202 hg_o hU_o rfl h501226_o) (fun v11 s10 h501227_o => ?_)
              exact gQ_ret ⟨rfl, h501227_o⟩
            · unfold fb_222_72
              unfold fb_222_75
              refine gQ_v1 (A := Fw W g) (of_202 hg_o hU_o rfl h501226_o) (fun v11 s10 h501228_o => ?_)
              exact gQ_ret ⟨rfl, h501228_o⟩
      · refine gQ_map ?_
        unfold fb_222_89
        refine gQ_v0 (A := Fw W g) (of_186 hg_o hU_o rfl h501218_o) (fun s6_l h501229_o => ?_)
        exact gQ_ret h501229_o

theorem of_223 {W : Nat → Nat → Bool} {g s : gS} {a0 : Nat} {a1 : Int} (hg_o : RF g) (hU_o : ∀ a k, wff a k = true → W a k = true) (ea0_o : a0 = 217) (h_o : Fw W g s) : gQ (f_223 a0 a1 s) (fun r => Fw W g r.2.2.2) := by
  subst ea0_o
  unfold f_223
  refine gQ_v1 (A := Fw W g) (of_162 hg_o hU_o rfl h_o) (fun v2 s1_l h501230_o => ?_)
  refine gQ_ite ?_ ?_
  · unfold fb_223_14
    dsimp only
    refine gQ_ite ?_ ?_
    · exact gQ_ret (Fw_w h501230_o rfl (hU_o 217 _ rfl))
    · refine gQ_v1 (A := Fw W g) (of_222 hg_o hU_o rfl (Fw_w h501230_o rfl (hU_o 217 _ rfl))) (fun v6 s5 h501231_o => ?_)
      exact gQ_ret h501231_o
  · unfold fb_223_14
    dsimp only
    refine gQ_ite ?_ ?_
    · exact gQ_ret (Fw_w h501230_o rfl (hU_o 217 _ rfl))
    · refine gQ_v1 (A := Fw W g) (of_222 hg_o hU_o rfl (Fw_w h501230_o rfl (hU_o 217 _ rfl))) (fun v6 s5 h501232_o => ?_)
      exact gQ_ret h501232_o

theorem of_224 {W : Nat → Nat → Bool} {g s : gS} {a0 : Nat} {a1 : Int} (hg_o : RF g) (hU_o : ∀ a k, wff a k = true → W a k = true) (ea0_o : a0 = 217) (h_o : Fw W g s) : gQ (f_224 a0 a1 s) (fun r => Fw W g r.2.2.2) := by
  subst ea0_o
  unfold f_224
  refine gQ_v1 (A := Fw W g) (of_162 hg_o hU_o rfl h_o) (fun v2 s1_l h501233_o => ?_)
  refine gQ_ite ?_ ?_
  · unfold fb_224_14
    dsimp only
    refine gQ_ite ?_ ?_
    · exact gQ_ret (Fw_w h501233_o rfl (hU_o 217 _ rfl))
    · refine gQ_v1 (A := Fw W g) (of_222 hg_o hU_o rfl (Fw_w h501233_o rfl (hU_o 217 _ rfl))) (fun v6 s5 h501234_o => ?_)
      exact gQ_ret h501234_o
  · unfold fb_224_14
    dsimp only
    refine gQ_ite ?_ ?_
    · exact gQ_ret (Fw_w h501233_o rfl (hU_o 217 _ rfl))
    · refine gQ_v1 (A := Fw W g) (of_222 hg_o hU_o rfl (Fw_w h501233_o rfl (hU_o 217 _ rfl))) (fun v6 s5 h501235_o => ?_)
      exact gQ_ret h501235_o

theorem of_225 {W : Nat → Nat → Bool} {g s : gS} {a0 : Nat} {a1 : Int} (hg_o : RF g) (hU_o : ∀ a k, wff a k = true → W a k = true) (ea0_o : a0 = 217) (h_o : Fw W g s) : gQ (f_225 a0 a1 s) (fun r => Fw W g r.2.2.2) := by
  subst ea0_o
  unfold f_225
  refine gQ_v0 (A := Fw W g) (of_185 hg_o hU_o rfl h_o) (fun s1_l h501236_o => ?_)
  refine gQ_loop (fun y_l => y_l.1 = 217 ∧ Fw W g (y_l.2.2.2)) (fun y_l hy_o => ?_) ⟨rfl, h501236_o⟩
  obtain ⟨x501237_o, x501238_o, x501239_o, x501240_o⟩ := y_l
  obtain ⟨e501242_o, h501241_o⟩ := hy_o
  dsimp only at e501242_o h501241_o
  subst e501242_o
  show gQ (sb_225_6 217 x501238_o x501239_o x501240_o) _
  unfold sb_225_6
  dsimp only
  refine gQ_ite ?_ ?_
  · refine gQ_chk2 (fun ha501243_o hb501244_o => ?_)
    refine gQ_v1 (A := Fw W g) (of_202 hg_o hU_o rfl (Fw_w h501241_o (fr_r h501241_o rfl (rr_217_18 hg_o)) (hU_o 224 _ rfl))) (fun v5 s4_l h501245_o => ?_)
    exact gQ_ret ⟨rfl, h501245_o⟩
  · refine gQ_map ?_
    refine gQ_v0 (A := Fw W g) (of_186 hg_o hU_o rfl h501241_o) (fun s6_l h501246_o => ?_)
    refine gQ_v1 (A := Fw W g) (of_156 hg_o hU_o rfl h501246_o) (fun v9 s8 h501247_o => ?_)
    refine gQ_v1 (A := Fw W g) (of_156 hg_o hU_o rfl h501247_o) (fun v11 s10 h501248_o => ?_)
    refine gQ_loop (fun y_l => y_l.1 = 217 ∧ Fw W g (y_l.2.2.2.2)) (fun y_l hy_o => ?_) ⟨rfl, h501248_o⟩
    obtain ⟨x501249_o, x501250_o, x501251_o, x501252_o, x501253_o⟩ := y_l
    obtain ⟨e501255_o, h501254_o⟩ := hy_o
    dsimp only at e501255_o h501254_o
    subst e501255_o
    show gQ (sb_225_59 217 x501250_o x501251_o x501252_o x501253_o) _
    unfold sb_225_59
    dsimp only
    refine gQ_ite ?_ ?_
    · refine gQ_chk2 (fun ha501256_o hb501257_o => ?_)
      refine gQ_ite ?_ ?_
      · unfold fb_225_90
        dsimp only
        refine gQ_ite ?_ ?_
        · refine gQ_v1 (A := Fw W g) (of_155 hg_o hU_o rfl (Fw_w h501254_o (fr_r h501254_o rfl (rr_217_21 hg_o)) (hU_o 227 _ rfl))) (fun v14 s13 h501258_o => ?_)
          refine gQ_ite ?_ ?_
          · unfold fb_225_130
            dsimp only
            refine gQ_chk2 (fun ha501259_o hb501260_o => ?_)
            refine gQ_chk2 (fun ha501261_o hb501262_o => ?_)
            exact gQ_ret ⟨rfl, (Fw_w (Fw_w h501258_o (fr_r h501258_o rfl (rr_217_19 hg_o)) (hU_o 225 _ rfl)) (fr_r (Fw_w h501258_o (fr_r h501258_o rfl (rr_217_19 hg_o)) (hU_o 225 _ rfl)) rfl (rr_217_20 hg_o)) (hU_o 226 _ rfl))⟩
          · refine gQ_v1 (A := Fw W g) (of_155 hg_o hU_o rfl h501258_o) (fun v18 s17 h501263_o => ?_)
            refine gQ_chk2 (fun ha501264_o hb501265_o => ?_)
            unfold fb_225_130
            dsimp only
            refine gQ_chk2 (fun ha501266_o hb501267_o => ?_)
            refine gQ_chk2 (fun ha501268_o hb501269_o => ?_)
            exact gQ_ret ⟨rfl, (Fw_w (Fw_w (Fw_w h501263_o (fr_r h501258_o rfl (rr_217_21 hg_o)) (hU_o 227 _ rfl)) (fr_r (Fw_w h501263_o (fr_r h501258_o rfl (rr_217_21 hg_o)) (hU_o 227 _ rfl)) rfl (rr_217_19 hg_o)) (hU_o 225 _ rfl)) (fr_r (Fw_w (Fw_w h501263_o (fr_r h501258_o rfl (rr_217_21 hg_o)) (hU_o 227 _ rfl)) (fr_r (Fw_w h501263_o (fr_r h501258_o rfl (rr_217_21 hg_o)) (hU_o 227 _ rfl)) rfl (rr_217_19 hg_o)) (hU_o 225 _ rfl)) rfl (rr_217_20 hg_o)) (hU_o 226 _ rfl))⟩
        · unfold fb_225_130
          dsimp only
          refine gQ_chk2 (fun ha501270_o hb501271_o => ?_)
          refine gQ_chk2 (fun ha501272_o hb501273_o => ?_)
          exact gQ_ret ⟨rfl, (Fw_w (Fw_w (Fw_w h501254_o (fr_r h501254_o rfl (rr_217_21 hg_o)) (hU_o 227 _ rfl)) (fr_r (Fw_w h501254_o (fr_r h501254_o rfl (rr_217_21 hg_o)) (hU_o 227 _ rfl)) rfl (rr_217_19 hg_o)) (hU_o 225 _ rfl)) (fr_r (Fw_w (Fw_w h501254_o (fr_r h501254_o rfl (rr_217_21 hg_o)) (hU_o 227 _ rfl)) (fr_r (Fw_w h501254_o (fr_r h501254_o rfl (rr_217_21 hg_o)) (hU_o 227 _ rfl)) rfl (rr_217_19 hg_o)) (hU_o 225 _ rfl)) rfl (rr_217_20 hg_o)) (hU_o 226 _ rfl))⟩
      · unfold fb_225_90
        dsimp only
        refine gQ_ite ?_ ?_
        · refine gQ_v1 (A := Fw W g) (of_155 hg_o hU_o rfl (Fw_w h501254_o (fr_r h501254_o rfl (rr_217_21 hg_o)) (hU_o 227 _ rfl))) (fun v14 s13 h501274_o => ?_)
          refine gQ_ite ?_ ?_
          · unfold fb_225_130
            dsimp only
            refine gQ_chk2 (fun ha501275_o hb501276_o => ?_)
            refine gQ_chk2 (fun ha501277_o hb501278_o => ?_)
            exact gQ_ret ⟨rfl, (Fw_w (Fw_w h501274_o (fr_r h501274_o rfl (rr_217_19 hg_o)) (hU_o 225 _ rfl)) (fr_r (Fw_w h501274_o (fr_r h501274_o rfl (rr_217_19 hg_o)) (hU_o 225 _ rfl)) rfl (rr_217_20 hg_o)) (hU_o 226 _ rfl))⟩
          · refine gQ_v1 (A := Fw W g) (of_155 hg_o hU_o rfl h501274_o) (fun v18 s17 h501279_o => ?_)
            refine gQ_chk2 (fun ha501280_o hb501281_o => ?_)
            unfold fb_225_130
            dsimp only
            refine gQ_chk2 (fun ha501282_o hb501283_o => ?_)
            refine gQ_chk2 (fun ha501284_o hb501285_o => ?_)
            exact gQ_ret ⟨rfl, (Fw_w (Fw_w (Fw_w h501279_o (fr_r h501274_o rfl (rr_217_21 hg_o)) (hU_o 227 _ rfl)) (fr_r (Fw_w h501279_o (fr_r h501274_o rfl (rr_217_21 hg_o)) (hU_o 227 _ rfl)) rfl (rr_217_19 hg_o)) (hU_o 225 _ rfl)) (fr_r (Fw_w (Fw_w h501279_o (fr_r h501274_o rfl (rr_217_21 hg_o)) (hU_o 227 _ rfl)) (fr_r (Fw_w h501279_o (fr_r h501274_o rfl (rr_217_21 hg_o)) (hU_o 227 _ rfl)) rfl (rr_217_19 hg_o)) (hU_o 225 _ rfl)) rfl (rr_217_20 hg_o)) (hU_o 226 _ rfl))⟩
        · unfold fb_225_130
          dsimp only
          refine gQ_chk2 (fun ha501286_o hb501287_o => ?_)
          refine gQ_chk2 (fun ha501288_o hb501289_o => ?_)
          exact gQ_ret ⟨rfl, (Fw_w (Fw_w (Fw_w h501254_o (fr_r h501254_o rfl (rr_217_21 hg_o)) (hU_o 227 _ rfl)) (fr_r (Fw_w h501254_o (fr_r h501254_o rfl (rr_217_21 hg_o)) (hU_o 227 _ rfl)) rfl (rr_217_19 hg_o)) (hU_o 225 _ rfl)) (fr_r (Fw_w (Fw_w h501254_o (fr_r h501254_o rfl (rr_217_21 hg_o)) (hU_o 227 _ rfl)) (fr_r (Fw_w h501254_o (fr_r h501254_o rfl (rr_217_21 hg_o)) (hU_o 227 _ rfl)) rfl (rr_217_19 hg_o)) (hU_o 225 _ rfl)) rfl (rr_217_20 hg_o)) (hU_o 226 _ rfl))⟩
    · refine gQ_map ?_
      refine gQ_loop (fun y_l => y_l.1 = 217 ∧ Fw W g (y_l.2.2)) (fun y_l hy_o => ?_) ⟨rfl, h501254_o⟩
      obtain ⟨x501290_o, x501291_o, x501292_o⟩ := y_l
      obtain ⟨e501294_o, h501293_o⟩ := hy_o
      dsimp only at e501294_o h501293_o
      subst e501294_o
      show gQ (sb_225_155 217 x501291_o x501292_o) _
      unfold sb_225_155
      dsimp only
      refine gQ_ite ?_ ?_
      · refine gQ_chk2 (fun ha501295_o hb501296_o => ?_)
        exact gQ_ret ⟨rfl, (Fw_w h501293_o (fr_r h501293_o rfl (rr_217_22 hg_o)) (hU_o 228 _ rfl))⟩
      · refine gQ_map ?_
        exact gQ_ret h501293_o

theorem of_254 {W : Nat → Nat → Bool} {g s : gS} {a0 : Nat} {a1 : Int} {a2 : Int} (hg_o : RF g) (hU_o : ∀ a k, wff a k = true → W a k = true) (ea0_o : a0 = 217) (h_o : Fw W g s) : gQ (f_254 a0 a1 a2 s) (fun r => Fw W g r.2.2.2) := by
  subst ea0_o
  unfold f_254
  refine gQ_v1 (A := Fw W g) (of_150 hg_o hU_o  h_o) (fun v2 s1_l h501297_o => ?_)
  refine gQ_ite ?_ ?_
  · unfold fb_254_17
    dsimp only
    refine gQ_ite ?_ ?_
    · exact gQ_ret (Fw_w h501297_o rfl (hU_o 217 _ rfl))
    · refine gQ_v0 (A := Fw W g) (of_185 hg_o hU_o rfl (Fw_w h501297_o rfl (hU_o 217 _ rfl))) (fun s5 h501298_o => ?_)
      refine gQ_v1 (A := Fw W g) (of_202 hg_o hU_o rfl h501298_o) (fun v8 s7 h501299_o => ?_)
      refine gQ_ite ?_ ?_
      · unfold fb_254_62
        refine gQ_v0 (A := Fw W g) (of_186 hg_o hU_o rfl h501299_o) (fun s9 h501300_o => ?_)
        exact gQ_ret h501300_o
      · refine gQ_v1 (A := Fw W g) (of_252 hg_o hU_o rfl h501299_o) (fun v12 s11 h501301_o => ?_)
        refine gQ_v1 (A := Fw W g) (of_154 hg_o hU_o  h501301_o) (fun v14 s13 h501302_o => ?_)
        unfold fb_254_62
        refine gQ_v0 (A := Fw W g) (of_186 hg_o hU_o rfl h501302_o) (fun s9 h501303_o => ?_)
        exact gQ_ret h501303_o
  · unfold fb_254_17
    dsimp only
    refine gQ_ite ?_ ?_
    · exact gQ_ret (Fw_w h501297_o rfl (hU_o 217 _ rfl))
    · refine gQ_v0 (A := Fw W g) (of_185 hg_o hU_o rfl (Fw_w h501297_o rfl (hU_o 217 _ rfl))) (fun s5 h501304_o => ?_)
      refine gQ_v1 (A := Fw W g) (of_202 hg_o hU_o rfl h501304_o) (fun v8 s7 h501305_o => ?_)
      refine gQ_ite ?_ ?_
      · unfold fb_254_62
        refine gQ_v0 (A := Fw W g) (of_186 hg_o hU_o rfl h501305_o) (fun s9 h501306_o => ?_)
        exact gQ_ret h501306_o
      · refine gQ_v1 (A := Fw W g) (of_252 hg_o hU_o rfl h501305_o) (fun v12 s11 h501307_o => ?_)
        refine gQ_v1 (A := Fw W g) (of_154 hg_o hU_o  h501307_o) (fun v14 s13 h501308_o => ?_)
        unfold fb_254_62
        refine gQ_v0 (A := Fw W g) (of_186 hg_o hU_o rfl h501308_o) (fun s9 h501309_o => ?_)
        exact gQ_ret h501309_o

theorem of_255 {W : Nat → Nat → Bool} {g s : gS} {a0 : Nat} {a1 : Int} {a2 : Int} (hg_o : RF g) (hU_o : ∀ a k, wff a k = true → W a k = true) (ea0_o : a0 = 217) (h_o : Fw W g s) : gQ (f_255 a0 a1 a2 s) (fun r => Fw W g r.2.2.2) := by
  subst ea0_o
  unfold f_255
  refine gQ_v1 (A := Fw W g) (of_150 hg_o hU_o  h_o) (fun v2 s1_l h501310_o => ?_)
  refine gQ_ite ?_ ?_
  · unfold fb_255_17
    dsimp only
    refine gQ_ite ?_ ?_
    · exact gQ_ret (Fw_w h501310_o rfl (hU_o 217 _ rfl))
    · refine gQ_v0 (A := Fw W g) (of_185 hg_o hU_o rfl (Fw_w h501310_o rfl (hU_o 217 _ rfl))) (fun s5 h501311_o => ?_)
      refine gQ_loop (fun y_l => y_l.1 = 217 ∧ Fw W g (y_l.2.2.2.2.2)) (fun y_l hy_o => ?_) ⟨rfl, h501311_o⟩
      obtain ⟨x501312_o, x501313_o, x501314_o, x501315_o, x501316_o, x501317_o⟩ := y_l
      obtain ⟨e501319_o, h501318_o⟩ := hy_o
      dsimp only at e501319_o h501318_o
      subst e501319_o
      show gQ (sb_255_38 217 x501313_o x501314_o x501315_o x501316_o x501317_o) _
      unfold sb_255_38
      dsimp only
      refine gQ_ite ?_ ?_
      · refine gQ_map ?_
        exact gQ_ret h501318_o
      · refine gQ_v1 (A := Fw W g) (of_202 hg_o hU_o rfl (Fw_w h501318_o (fr_r h501318_o rfl (rr_217_1 hg_o)) (hU_o 218 _ rfl))) (fun v9 s8 h501320_o => ?_)
        refine gQ_v0 (A := Fw W g) (of_186 hg_o hU_o rfl h501320_o) (fun s11 h501321_o => ?_)
        refine gQ_ite ?_ ?_
        · exact gQ_ret ⟨rfl, h501321_o⟩
        · refine gQ_ite ?_ ?_
          · refine gQ_v1 (A := Fw W g) (of_151 hg_o hU_o  h501321_o) (fun v14 s13 h501322_o => ?_)
            exact gQ_ret ⟨rfl, h501322_o⟩
          · refine gQ_v1 (A := Fw W g) (of_152 hg_o hU_o  h501321_o) (fun v16 s15 h501323_o => ?_)
            exact gQ_ret ⟨rfl, h501323_o⟩
  · unfold fb_255_17
    dsimp only
    refine gQ_ite ?_ ?_
    · exact gQ_ret (Fw_w h501310_o rfl (hU_o 217 _ rfl))
    · refine gQ_v0 (A := Fw W g) (of_185 hg_o hU_o rfl (Fw_w h501310_o rfl (hU_o 217 _ rfl))) (fun s5 h501324_o => ?_)
      refine gQ_loop (fun y_l => y_l.1 = 217 ∧ Fw W g (y_l.2.2.2.2.2)) (fun y_l hy_o => ?_) ⟨rfl, h501324_o⟩
      obtain ⟨x501325_o, x501326_o, x501327_o, x501328_o, x501329_o, x501330_o⟩ := y_l
      obtain ⟨e501332_o, h501331_o⟩ := hy_o
      dsimp only at e501332_o h501331_o
      subst e501332_o
      show gQ (sb_255_38 217 x501326_o x501327_o x501328_o x501329_o x501330_o) _
      unfold sb_255_38
      dsimp only
      refine gQ_ite ?_ ?_
      · refine gQ_map ?_
        exact gQ_ret h501331_o
      · refine gQ_v1 (A := Fw W g) (of_202 hg_o hU_o rfl (Fw_w h501331_o (fr_r h501331_o rfl (rr_217_1 hg_o)) (hU_o 218 _ rfl))) (fun v9 s8 h501333_o => ?_)
        refine gQ_v0 (A := Fw W g) (of_186 hg_o hU_o rfl h501333_o) (fun s11 h501334_o => ?_)
        refine gQ_ite ?_ ?_
        · exact gQ_ret ⟨rfl, h501334_o⟩
        · refine gQ_ite ?_ ?_
          · refine gQ_v1 (A := Fw W g) (of_151 hg_o hU_o  h501334_o) (fun v14 s13 h501335_o => ?_)
            exact gQ_ret ⟨rfl, h501335_o⟩
          · refine gQ_v1 (A := Fw W g) (of_152 hg_o hU_o  h501334_o) (fun v16 s15 h501336_o => ?_)
            exact gQ_ret ⟨rfl, h501336_o⟩

theorem of_228 {W : Nat → Nat → Bool} {g s : gS} {a0 : Nat} {a1 : Int} {a2 : Int} {a3 : Int} {a4 : Int} (hg_o : RF g) (hU_o : ∀ a k, wff a k = true → W a k = true) (ea0_o : a0 = 217) (h_o : Fw W g s) : gQ (f_228 a0 a1 a2 a3 a4 s) (fun r => Fw W g r.2.2.2) := by
  subst ea0_o
  unfold f_228
  refine gQ_chk2 (fun ha501337_o hb501338_o => ?_)
  refine gQ_v1 (A := Fw W g) (of_151 hg_o hU_o  h_o) (fun v2 s1_l h501339_o => ?_)
  refine gQ_chk2 (fun ha501340_o hb501341_o => ?_)
  refine gQ_chk2 (fun ha501342_o hb501343_o => ?_)
  refine gQ_chk2 (fun ha501344_o hb501345_o => ?_)
  refine gQ_v1 (A := Fw W g) (of_151 hg_o hU_o  h501339_o) (fun v4_l s3_l h501346_o => ?_)
  refine gQ_v1 (A := Fw W g) (of_197 hg_o hU_o rfl h501346_o) (fun v6 s5 h501347_o => ?_)
  refine gQ_v1 (A := Fw W g) (of_151 hg_o hU_o  h501347_o) (fun v8 s7 h501348_o => ?_)
  refine gQ_v1 (A := Fw W g) (of_152 hg_o hU_o  h501348_o) (fun v10 s9 h501349_o => ?_)
  exact gQ_ret h501349_o

theorem of_227s {W : Nat → Nat → Bool} {g s : gS} {r_226 : Nat → Int → Int → Int → Int → gS → Option gO} {a0 : Nat} {a1 : Int} {a2 : Int} {a3 : Int} {a4 : Int} {a5 : Int} (hg_o : RF g) (hU_o : ∀ a k, wff a k = true → W a k = true) (ea0_o : a0 = 217) (hr_226 : ∀ {a1 a2 a3 a4 : Int} {s : gS}, Fw W g s → gQ (r_226 217 a1 a2 a3 a4 s) (fun r => Fw W g r.2.2.2)) (h_o : Fw W g s) : gQ (fo_227 r_226 a0 a1 a2 a3 a4 a5 s) (fun r => Fw W g r.2.2.2) := by
  subst ea0_o
  unfold fo_227
  refine gQ_v1 (A := Fw W g) (of_151 hg_o hU_o  h_o) (fun v2 s1_l h501350_o => ?_)
  refine gQ_v1 (A := Fw W g) (of_228 hg_o hU_o rfl h501350_o) (fun v4_l s3_l h501351_o => ?_)
  refine gQ_ite ?_ ?_
  · exact gQ_ret h501351_o
  · refine gQ_v1 (A := Fw W g) (hr_226 h501351_o) (fun v6 s5 h501352_o => ?_)
    exact gQ_ret h501352_o

theorem of_226s {W : Nat → Nat → Bool} {g s : gS} {r_227 : Nat → Int → Int → Int → Int → Int → gS → Option gO} {a0 : Nat} {a1 : Int} {a2 : Int} {a3 : Int} {a4 : Int} (hg_o : RF g) (hU_o : ∀ a k, wff a k = true → W a k = true) (ea0_o : a0 = 217) (hr_227 : ∀ {a1 a2 a3 a4 a5 : Int} {s : gS}, Fw W g s → gQ (r_227 217 a1 a2 a3 a4 a5 s) (fun r => Fw W g r.2.2.2)) (h_o : Fw W g s) : gQ (fo_226 r_227 a0 a1 a2 a3 a4 s) (fun r => Fw W g r.2.2.2) := by
  subst ea0_o
  unfold fo_226
  dsimp only
  refine gQ_ite ?_ ?_
  · exact gQ_ret h_o
  · refine gQ_chk2 (fun ha501353_o hb501354_o => ?_)
    refine gQ_ite ?_ ?_
    · refine gQ_loop (fun y_l => y_l.1 = 217 ∧ Fw W g (y_l.2.2.2.2.2.2.2.2)) (fun y_l hy_o => ?_) ⟨rfl, h_o⟩
      obtain ⟨x501355_o, x501356_o, x501357_o, x501358_o, x501359_o, x501360_o, x501361_o, x501362_o, x501363_o⟩ := y_l
      obtain ⟨e501365_o, h501364_o⟩ := hy_o
      dsimp only at e501365_o h501364_o
      subst e501365_o
      show gQ (sb_226_48 r_227 217 x501356_o x501357_o x501358_o x501359_o x501360_o x501361_o x501362_o x501363_o) _
      unfold sb_226_48
      dsimp only
      refine gQ_ite ?_ ?_
      · refine gQ_map ?_
        refine gQ_chk2 (fun ha501366_o hb501367_o => ?_)
        exact gQ_ret (Fw_w h501364_o (fr_r h501364_o rfl (rr_217_22 hg_o)) (hU_o 228 _ rfl))
      · refine gQ_v1 (A := Fw W g) (hr_227 h501364_o) (fun v4_l s3_l h501368_o => ?_)
        refine gQ_v1 (A := Fw W g) (of_152 hg_o hU_o  h501368_o) (fun v6 s5 h501369_o => ?_)
        exact gQ_ret ⟨rfl, h501369_o⟩
    · refine gQ_chk2 (fun ha501370_o hb501371_o => ?_)
      exact gQ_ret h_o

theorem of_226n {W : Nat → Nat → Bool} {g : gS} (hg_o : RF g) (hU_o : ∀ a k, wff a k = true → W a k = true) (n : Nat) : (∀ {a1 a2 a3 a4 : Int} {s : gS}, Fw W g s → gQ (fn_226 n 217 a1 a2 a3 a4 s) (fun r => Fw W g r.2.2.2)) ∧ (∀ {a1 a2 a3 a4 a5 : Int} {s : gS}, Fw W g s → gQ (fn_227 n 217 a1 a2 a3 a4 a5 s) (fun r => Fw W g r.2.2.2)) := by
  induction n with
  | zero => exact ⟨fun _ => gQ_none, fun _ => gQ_none⟩
  | succ n ih_l =>
    exact ⟨fun {a1 a2 a3 a4 s} hh_o => (of_226s hg_o hU_o rfl (fun h_l => ih_l.2 h_l) hh_o : gQ (fo_226 (rg_226 n).2 217 a1 a2 a3 a4 s) _), fun {a1 a2 a3 a4 a5 s} hh_o => (of_227s hg_o hU_o rfl (fun h_l => ih_l.1 h_l) hh_o : gQ (fo_227 (rg_226 n).1 217 a1 a2 a3 a4 a5 s) _)⟩
theorem of_226 {W : Nat → Nat → Bool} {g s : gS} {a0 : Nat} {a1 a2 a3 a4 : Int} (hg_o : RF g) (hU_o : ∀ a k, wff a k = true → W a k = true) (ea0_o : a0 = 217) (h_o : Fw W g s) : gQ (f_226 a0 a1 a2 a3 a4 s) (fun r => Fw W g r.2.2.2) := by
  subst ea0_o
  exact (of_226n hg_o hU_o 64).1 h_o
theorem of_227 {W : Nat → Nat → Bool} {g s : gS} {a0 : Nat} {a1 a2 a3 a4 a5 : Int} (hg_o : RF g) (hU_o : ∀ a k, wff a k = true → W a k = true) (ea0_o : a0 = 217) (h_o : Fw W g s) : gQ (f_227 a0 a1 a2 a3 a4 a5 s) (fun r => Fw W g r.2.2.2) := by
  subst ea0_o
  exact (of_226n hg_o hU_o 64).2 h_o

theorem of_229 {W : Nat → Nat → Bool} {g s : gS} {a0 : Nat} {a1 : Int} {a2 : Int} (hg_o : RF g) (hU_o : ∀ a k, wff a k = true → W a k = true) (ea0_o : a0 = 217) (h_o : Fw W g s) : gQ (f_229 a0 a1 a2 s) (fun r => Fw W g r.2.2.2) := by
  subst ea0_o
  unfold f_229
  refine gQ_v1 (A := Fw W g) (of_162 hg_o hU_o rfl h_o) (fun v2 s1_l h501372_o => ?_)
  refine gQ_ite ?_ ?_
  · unfold fb_229_33
    dsimp only
    refine gQ_ite ?_ ?_
    · exact gQ_ret (Fw_w h501372_o rfl (hU_o 217 _ rfl))
    · refine gQ_v1 (A := Fw W g) (of_165 hg_o hU_o rfl (Fw_w h501372_o rfl (hU_o 217 _ rfl))) (fun v6 s5 h501373_o => ?_)
      refine gQ_ite ?_ ?_
      · exact gQ_ret h501373_o
      · refine gQ_v0 (A := Fw W g) (of_225 hg_o hU_o rfl h501373_o) (fun s8 h501374_o => ?_)
        refine gQ_v1 (A := Fw W g) (of_156 hg_o hU_o rfl h501374_o) (fun v11 s10 h501375_o => ?_)
        refine gQ_v1 (A := Fw W g) (of_156 hg_o hU_o rfl h501375_o) (fun v13 s12 h501376_o => ?_)
        refine gQ_ite ?_ ?_
        · refine gQ_v1 (A := Fw W g) (of_226 hg_o hU_o rfl h501376_o) (fun v15 s14 h501377_o => ?_)
          exact gQ_ret h501377_o
        · refine gQ_loop (fun y_l => y_l.1 = 217 ∧ Fw W g (y_l.2.2.2.2.2.2)) (fun y_l hy_o => ?_) ⟨rfl, h501376_o⟩
          obtain ⟨x501378_o, x501379_o, x501380_o, x501381_o, x501382_o, x501383_o, x501384_o⟩ := y_l
          obtain ⟨e501386_o, h501385_o⟩ := hy_o
          dsimp only at e501386_o h501385_o
          subst e501386_o
          show gQ (sb_229_93 217 x501379_o x501380_o x501381_o x501382_o x501383_o x501384_o) _
          unfold sb_229_93
          refine gQ_ite ?_ ?_
          · refine gQ_map ?_
            exact gQ_ret h501385_o
          · refine gQ_loop (fun y_l => y_l.1 = 217 ∧ Fw W g (y_l.2.2.2.2.2.2.2)) (fun y_l hy_o => ?_) ⟨rfl, h501385_o⟩
            obtain ⟨x501387_o, x501388_o, x501389_o, x501390_o, x501391_o, x501392_o, x501393_o, x501394_o⟩ := y_l
            obtain ⟨e501396_o, h501395_o⟩ := hy_o
            dsimp only at e501396_o h501395_o
            subst e501396_o
            show gQ (sb_229_102 217 x501388_o x501389_o x501390_o x501391_o x501392_o x501393_o x501394_o) _
            unfold sb_229_102
            refine gQ_v1 (A := Fw W g) (of_227 hg_o hU_o rfl h501395_o) (fun v17 s16 h501397_o => ?_)
            refine gQ_v1 (A := Fw W g) (of_226 hg_o hU_o rfl h501397_o) (fun v19 s18 h501398_o => ?_)
            refine gQ_ite ?_ ?_
            · refine gQ_map ?_
              refine gQ_ite ?_ ?_
              · refine gQ_map ?_
                exact gQ_ret h501398_o
              · refine gQ_v1 (A := Fw W g) (of_151 hg_o hU_o  h501398_o) (fun v21 s20 h501399_o => ?_)
                refine gQ_v1 (A := Fw W g) (of_228 hg_o hU_o rfl h501399_o) (fun v23 s22 h501400_o => ?_)
                refine gQ_ite ?_ ?_
                · refine gQ_map ?_
                  exact gQ_ret h501400_o
                · exact gQ_ret ⟨rfl, h501400_o⟩
            · exact gQ_ret ⟨rfl, h501398_o⟩
  · refine gQ_ite ?_ ?_
    · unfold fb_229_32
      unfold fb_229_33
      dsimp only
      refine gQ_ite ?_ ?_
      · exact gQ_ret (Fw_w h501372_o rfl (hU_o 217 _ rfl))
      · refine gQ_v1 (A := Fw W g) (of_165 hg_o hU_o rfl (Fw_w h501372_o rfl (hU_o 217 _ rfl))) (fun v6 s5 h501401_o => ?_)
        refine gQ_ite ?_ ?_
        · exact gQ_ret h501401_o
        · refine gQ_v0 (A := Fw W g) (of_225 hg_o hU_o rfl h501401_o) (fun s8 h501402_o => ?_)
          refine gQ_v1 (A := Fw W g) (of_156 hg_o hU_o rfl h501402_o) (fun v11 s10 h501403_o => ?_)
          refine gQ_v1 (A := Fw W g) (of_156 hg_o hU_o rfl h501403_o) (fun v13 s12 h501404_o => ?_)
          refine gQ_ite ?_ ?_
          · refine gQ_v1 (A := Fw W g) (of_226 hg_o hU_o rfl h501404_o) (fun v15 s14 h501405_o => ?_)
            exact gQ_ret h501405_o
          · refine gQ_loop (fun y_l => y_l.1 = 217 ∧ Fw W g (y_l.2.2.2.2.2.2)) (fun y_l hy_o => ?_) ⟨rfl, h501404_o⟩
            obtain ⟨x501406_o, x501407_o, x501408_o, x501409_o, x501410_o, x501411_o, x501412_o⟩ := y_l
            obtain ⟨e501414_o, h501413_o⟩ := hy_o
            dsimp only at e501414_o h501413_o
            subst e501414_o
            show gQ (sb_229_93 217 x501407_o x501408_o x501409_o x501410_o x501411_o x501412_o) _
            unfold sb_229_93
            refine gQ_ite ?_ ?_
            · refine gQ_map ?_
              exact gQ_ret h501413_o
            · refine gQ_loop (fun y_l => y_l.1 = 217 ∧ Fw W g (y_l.2.2.2.2.2.2.2)) (fun y_l hy_o => ?_) ⟨rfl, h501413_o⟩
              obtain ⟨x501415_o, x501416_o, x501417_o, x501418_o, x501419_o, x501420_o, x501421_o, x501422_o⟩ := y_l
              obtain ⟨e501424_o, h501423_o⟩ := hy_o
              dsimp only at e501424_o h501423_o
              subst e501424_o
              show gQ (sb_229_102 217 x501416_o x501417_o x501418_o x501419_o x501420_o x501421_o x501422_o) _
              unfold sb_229_102
              refine gQ_v1 (A := Fw W g) (of_227 hg_o hU_o rfl h501423_o) (fun v17 s16 h501425_o => ?_)
              refine gQ_v1 (A := Fw W g) (of_226 hg_o hU_o rfl h501425_o) (fun v19 s18 h501426_o => ?_)
              refine gQ_ite ?_ ?_
              · refine gQ_map ?_
                refine gQ_ite ?_ ?_
                · refine gQ_map ?_
                  exact gQ_ret h501426_o
                · refine gQ_v1 (A := Fw W g) (of_151 hg_o hU_o  h501426_o) (fun v21 s20 h501427_o => ?_)
                  refine gQ_v1 (A := Fw W g) (of_228 hg_o hU_o rfl h501427_o) (fun v23 s22 h501428_o => ?_)
                  refine gQ_ite ?_ ?_
                  · refine gQ_map ?_
                    exact gQ_ret h501428_o
                  · exact gQ_ret ⟨rfl, h501428_o⟩
              · exact gQ_ret ⟨rfl, h501426_o⟩
    · refine gQ_v1 (A := Fw W g) (of_150 hg_o hU_o  h501372_o) (fun v25 s24 h501429_o => ?_)
      refine gQ_ite ?_ ?_
      · unfold fb_229_33
        dsimp only
        refine gQ_ite ?_ ?_
        · exact gQ_ret (Fw_w h501429_o rfl (hU_o 217 _ rfl))
        · refine gQ_v1 (A := Fw W g) (of_165 hg_o hU_o rfl (Fw_w h501429_o rfl (hU_o 217 _ rfl))) (fun v6 s5 h501430_o => ?_)
          refine gQ_ite ?_ ?_
          · exact gQ_ret h501430_o
          · refine gQ_v0 (A := Fw W g) (of_225 hg_o hU_o rfl h501430_o) (fun s8 h501431_o => ?_)
            refine gQ_v1 (A := Fw W g) (of_156 hg_o hU_o rfl h501431_o) (fun v11 s10 h501432_o => ?_)
            refine gQ_v1 (A := Fw W g) (of_156 hg_o hU_o rfl h501432_o) (fun v13 s12 h501433_o => ?_)
            refine gQ_ite ?_ ?_
            · refine gQ_v1 (A := Fw W g) (of_226 hg_o hU_o rfl h501433_o) (fun v15 s14 h501434_o => ?_)
              exact gQ_ret h501434_o
            · refine gQ_loop (fun y_l => y_l.1 = 217 ∧ Fw W g (y_l.2.2.2.2.2.2)) (fun y_l hy_o => ?_) ⟨rfl, h501433_o⟩
              obtain ⟨x501435_o, x501436_o, x501437_o, x501438_o, x501439_o, x501440_o, x501441_o⟩ := y_l
              obtain ⟨e501443_o, h501442_o⟩ := hy_o
              dsimp only at e501443_o h501442_o
              subst e501443_o
              show gQ (sb_229_93 217 x501436_o x501437_o x501438_o x501439_o x501440_o x501441_o) _
              unfold sb_229_93
              refine gQ_ite ?_ ?_
              · refine gQ_map ?_
                exact gQ_ret h501442_o
              · refine gQ_loop (fun y_l => y_l.1 = 217 ∧ Fw W g (y_l.2.2.2.2.2.2.2)) (fun y_l hy_o => ?_) ⟨rfl, h501442_o⟩
                obtain ⟨x501444_o, x501445_o, x501446_o, x501447_o, x501448_o, x501449_o, x501450_o, x501451_o⟩ := y_l
                obtain ⟨e501453_o, h501452_o⟩ := hy_o
                dsimp only at e501453_o h501452_o
                subst e501453_o
                show gQ (sb_229_102 217 x501445_o x501446_o x501447_o x501448_o x501449_o x501450_o x501451_o) _
                unfold sb_229_102
                refine gQ_v1 (A := Fw W g) (of_227 hg_o hU_o rfl h501452_o) (fun v17 s16 h501454_o => ?_)
                refine gQ_v1 (A := Fw W g) (of_226 hg_o hU_o rfl h501454_o) (fun v19 s18 h501455_o => ?_)
                refine gQ_ite ?_ ?_
                · refine gQ_map ?_
                  refine gQ_ite ?_ ?_
                  · refine gQ_map ?_
                    exact gQ_ret h501455_o
                  · refine gQ_v1 (A := Fw W g) (of_151 hg_o hU_o  h501455_o) (fun v21 s20 h501456_o => ?_)
                    refine gQ_v1 (A := Fw W g) (of_228 hg_o hU_o rfl h501456_o) (fun v23 s22 h501457_o => ?_)
                    refine gQ_ite ?_ ?_
                    · refine gQ_map ?_
                      exact gQ_ret h501457_o
                    · exact gQ_ret ⟨rfl, h501457_o⟩
                · exact gQ_ret ⟨rfl, h501455_o⟩
      · unfold fb_229_32
        unfold fb_229_33
        dsimp only
        refine gQ_ite ?_ ?_
        · exact gQ_ret (Fw_w h501429_o rfl (hU_o 217 _ rfl))
        · refine gQ_v1 (A := Fw W g) (of_165 hg_o hU_o rfl (Fw_w h501429_o rfl (hU_o 217 _ rfl))) (fun v6 s5 h501458_o => ?_)
          refine gQ_ite ?_ ?_
          · exact gQ_ret h501458_o
          · refine gQ_v0 (A := Fw W g) (of_225 hg_o hU_o rfl h501458_o) (fun s8 h501459_o => ?_)
            refine gQ_v1 (A := Fw W g) (of_156 hg_o hU_o rfl h501459_o) (fun v11 s10 h501460_o => ?_)
            refine gQ_v1 (A := Fw W g) (of_156 hg_o hU_o rfl h501460_o) (fun v13 s12 h501461_o => ?_)
            refine gQ_ite ?_ ?_
            · refine gQ_v1 (A := Fw W g) (of_226 hg_o hU_o rfl h501461_o) (fun v15 s14 h501462_o => ?_)
              exact gQ_ret h501462_o
            · refine gQ_loop (fun y_l => y_l.1 = 217 ∧ Fw W g (y_l.2.2.2.2.2.2)) (fun y_l hy_o => ?_) ⟨rfl, h501461_o⟩
              obtain ⟨x501463_o, x501464_o, x501465_o, x501466_o, x501467_o, x501468_o, x501469_o⟩ := y_l
              obtain ⟨e501471_o, h501470_o⟩ := hy_o
              dsimp only at e501471_o h501470_o
              subst e501471_o
              show gQ (sb_229_93 217 x501464_o x501465_o x501466_o x501467_o x501468_o x501469_o) _
              unfold sb_229_93
              refine gQ_ite ?_ ?_
              · refine gQ_map ?_
                exact gQ_ret h501470_o
              · refine gQ_loop (fun y_l => y_l.1 = 217 ∧ Fw W g (y_l.2.2.2.2.2.2.2)) (fun y_l hy_o => ?_) ⟨rfl, h501470_o⟩
                obtain ⟨x501472_o, x501473_o, x501474_o, x501475_o, x501476_o, x501477_o, x501478_o, x501479_o⟩ := y_l
                obtain ⟨e501481_o, h501480_o⟩ := hy_o
                dsimp only at e501481_o h501480_o
                subst e501481_o
                show gQ (sb_229_102 217 x501473_o x501474_o x501475_o x501476_o x501477_o x501478_o x501479_o) _
                unfold sb_229_102
                refine gQ_v1 (A := Fw W g) (of_227 hg_o hU_o rfl h501480_o) (fun v17 s16 h501482_o => ?_)
                refine gQ_v1 (A := Fw W g) (of_226 hg_o hU_o rfl h501482_o) (fun v19 s18 h501483_o => ?_)
                refine gQ_ite ?_ ?_
                · refine gQ_map ?_
                  refine gQ_ite ?_ ?_
                  · refine gQ_map ?_
                    exact gQ_ret h501483_o
                  · refine gQ_v1 (A := Fw W g) (of_151 hg_o hU_o  h501483_o) (fun v21 s20 h501484_o => ?_)
                    refine gQ_v1 (A := Fw W g) (of_228 hg_o hU_o rfl h501484_o) (fun v23 s22 h501485_o => ?_)
                    refine gQ_ite ?_ ?_
                    · refine gQ_map ?_
                      exact gQ_ret h501485_o
                    · exact gQ_ret ⟨rfl, h501485_o⟩
                · exact gQ_ret ⟨rfl, h501483_o⟩

theorem of_230 {W : Nat → Nat → Bool} {g s : gS} {a0 : Nat} {a1 : Int} {a2 : Int} (hg_o : RF g) (hU_o : ∀ a k, wff a k = true → W a k = true) (ea0_o : a0 = 217) (h_o : Fw W g s) : gQ (f_230 a0 a1 a2 s) (fun r => Fw W g r.2.2.2) := by
  subst ea0_o
  unfold f_230
  refine gQ_v1 (A := Fw W g) (of_162 hg_o hU_o rfl h_o) (fun v2 s1_l h501486_o => ?_)
  refine gQ_ite ?_ ?_
  · unfold fb_230_28
    dsimp only
    refine gQ_ite ?_ ?_
    · exact gQ_ret (Fw_w h501486_o rfl (hU_o 217 _ rfl))
    · refine gQ_v1 (A := Fw W g) (of_165 hg_o hU_o rfl (Fw_w h501486_o rfl (hU_o 217 _ rfl))) (fun v6 s5 h501487_o => ?_)
      refine gQ_ite ?_ ?_
      · exact gQ_ret h501487_o
      · refine gQ_v0 (A := Fw W g) (of_225 hg_o hU_o rfl h501487_o) (fun s8 h501488_o => ?_)
        refine gQ_loop (fun y_l => y_l.1 = 217 ∧ Fw W g (y_l.2.2.2.2)) (fun y_l hy_o => ?_) ⟨rfl, h501488_o⟩
        obtain ⟨x501489_o, x501490_o, x501491_o, x501492_o, x501493_o⟩ := y_l
        obtain ⟨e501495_o, h501494_o⟩ := hy_o
        dsimp only at e501495_o h501494_o
        subst e501495_o
        show gQ (sb_230_57 217 x501490_o x501491_o x501492_o x501493_o) _
        unfold sb_230_57
        refine gQ_ite ?_ ?_
        · refine gQ_map ?_
          exact gQ_ret h501494_o
        · refine gQ_v1 (A := Fw W g) (of_156 hg_o hU_o rfl h501494_o) (fun v11 s10 h501496_o => ?_)
          refine gQ_v1 (A := Fw W g) (of_226 hg_o hU_o rfl h501496_o) (fun v13 s12 h501497_o => ?_)
          refine gQ_ite ?_ ?_
          · exact gQ_ret ⟨rfl, h501497_o⟩
          · refine gQ_map ?_
            exact gQ_ret h501497_o
  · refine gQ_v1 (A := Fw W g) (of_150 hg_o hU_o  h501486_o) (fun v15 s14 h501498_o => ?_)
    refine gQ_ite ?_ ?_
    · unfold fb_230_28
      dsimp only
      refine gQ_ite ?_ ?_
      · exact gQ_ret (Fw_w h501498_o rfl (hU_o 217 _ rfl))
      · refine gQ_v1 (A := Fw W g) (of_165 hg_o hU_o rfl (Fw_w h501498_o rfl (hU_o 217 _ rfl))) (fun v6 s5 h501499_o => ?_)
        refine gQ_ite ?_ ?_
        · exact gQ_ret h501499_o
        · refine gQ_v0 (A := Fw W g) (of_225 hg_o hU_o rfl h501499_o) (fun s8 h501500_o => ?_)
          refine gQ_loop (fun y_l => y_l.1 = 217 ∧ Fw W g (y_l.2.2.2.2)) (fun y_l hy_o => ?_) ⟨rfl, h501500_o⟩
          obtain ⟨x501501_o, x501502_o, x501503_o, x501504_o, x501505_o⟩ := y_l
          obtain ⟨e501507_o, h501506_o⟩ := hy_o
          dsimp only at e501507_o h501506_o
          subst e501507_o
          show gQ (sb_230_57 217 x501502_o x501503_o x501504_o x501505_o) _
          unfold sb_230_57
          refine gQ_ite ?_ ?_
          · refine gQ_map ?_
            exact gQ_ret h501506_o
          · refine gQ_v1 (A := Fw W g) (of_156 hg_o hU_o rfl h501506_o) (fun v11 s10 h501508_o => ?_)
            refine gQ_v1 (A := Fw W g) (of_226 hg_o hU_o rfl h501508_o) (fun v13 s12 h501509_o => ?_)
            refine gQ_ite ?_ ?_
            · exact gQ_ret ⟨rfl, h501509_o⟩
            · refine gQ_map ?_
              exact gQ_ret h501509_o
    · unfold fb_230_28
      dsimp only
      refine gQ_ite ?_ ?_
      · exact gQ_ret (Fw_w h501498_o rfl (hU_o 217 _ rfl))
      · refine gQ_v1 (A := Fw W g) (of_165 hg_o hU_o rfl (Fw_w h501498_o rfl (hU_o 217 _ rfl))) (fun v6 s5 h501510_o => ?_)
        refine gQ_ite ?_ ?_
        · exact gQ_ret h501510_o
        · refine gQ_v0 (A := Fw W g) (of_225 hg_o hU_o rfl h501510_o) (fun s8 h501511_o => ?_)
          refine gQ_loop (fun y_l => y_l.1 = 217 ∧ Fw W g (y_l.2.2.2.2)) (fun y_l hy_o => ?_) ⟨rfl, h501511_o⟩
          obtain ⟨x501512_o, x501513_o, x501514_o, x501515_o, x501516_o⟩ := y_l
          obtain ⟨e501518_o, h501517_o⟩ := hy_o
          dsimp only at e501518_o h501517_o
          subst e501518_o
          show gQ (sb_230_57 217 x501513_o x501514_o x501515_o x501516_o) _
          unfold sb_230_57
          refine gQ_ite ?_ ?_
          · refine gQ_map ?_
            exact gQ_ret h501517_o
          · refine gQ_v1 (A := Fw W g) (of_156 hg_o hU_o rfl h501517_o) (fun v11 s10 h501519_o => ?_)
            refine gQ_v1 (A := Fw W g) (of_226 hg_o hU_o rfl h501519_o) (fun v13 s12 h501520_o => ?_)
            refine gQ_ite ?_ ?_
            · exact gQ_ret ⟨rfl, h501520_o⟩
            · refine gQ_map ?_
              exact gQ_ret h501520_o

theorem of_166 {W : Nat → Nat → Bool} {g s : gS} {a0 : Nat} {a1 : Int} {a2 : Int} {a3 : Int} {a4 : Int} {a5 : Int} (hg_o : RF g) (hU_o : ∀ a k, wff a k = true → W a k = true) (ea0_o : a0 = 217) (h_o : Fw W g s) : gQ (f_166 a0 a1 a2 a3 a4 a5 s) (fun r => Fw W g r.2.2.2) := by
  subst ea0_o
  unfold f_166
  dsimp only
  refine gQ_ite ?_ ?_
  · exact gQ_ret (Fw_w h_o rfl (hU_o 217 _ rfl))
  · refine gQ_loop (fun y_l => y_l.1 = 217 ∧ Fw W g (y_l.2.2.2.2.2.2.2)) (fun y_l hy_o => ?_) ⟨rfl, (Fw_w h_o rfl (hU_o 217 _ rfl))⟩
    obtain ⟨x501521_o, x501522_o, x501523_o, x501524_o, x501525_o, x501526_o, x501527_o, x501528_o⟩ := y_l
    obtain ⟨e501530_o, h501529_o⟩ := hy_o
    dsimp only at e501530_o h501529_o
    subst e501530_o
    show gQ (sb_166_23 217 x501522_o x501523_o x501524_o x501525_o x501526_o x501527_o x501528_o) _
    unfold sb_166_23
    refine gQ_ite ?_ ?_
    · refine gQ_ite ?_ ?_
      · unfold fb_166_76
        dsimp only
        refine gQ_chk2 (fun ha501531_o hb501532_o => ?_)
        exact gQ_ret ⟨rfl, (Fw_w (Fw_w h501529_o (fr_r h501529_o rfl (rr_217_7 hg_o)) (hU_o 222 _ rfl)) rfl (hU_o 217 _ rfl))⟩
      · refine gQ_ite ?_ ?_
        · unfold fb_166_76
          dsimp only
          refine gQ_chk2 (fun ha501533_o hb501534_o => ?_)
          exact gQ_ret ⟨rfl, (Fw_w (Fw_w h501529_o (fr_r h501529_o rfl (rr_217_7 hg_o)) (hU_o 222 _ rfl)) rfl (hU_o 217 _ rfl))⟩
        · refine gQ_ite ?_ ?_
          · unfold fb_166_76
            dsimp only
            refine gQ_chk2 (fun ha501535_o hb501536_o => ?_)
            exact gQ_ret ⟨rfl, (Fw_w (Fw_w h501529_o (fr_r h501529_o rfl (rr_217_7 hg_o)) (hU_o 222 _ rfl)) rfl (hU_o 217 _ rfl))⟩
          · refine gQ_ite ?_ ?_
            · unfold fb_166_76
              dsimp only
              refine gQ_chk2 (fun ha501537_o hb501538_o => ?_)
              exact gQ_ret ⟨rfl, (Fw_w (Fw_w h501529_o (fr_r h501529_o rfl (rr_217_7 hg_o)) (hU_o 222 _ rfl)) rfl (hU_o 217 _ rfl))⟩
            · unfold fb_166_76
              dsimp only
              refine gQ_chk2 (fun ha501539_o hb501540_o => ?_)
              exact gQ_ret ⟨rfl, (Fw_w (Fw_w h501529_o (fr_r h501529_o rfl (rr_217_7 hg_o)) (hU_o 222 _ rfl)) rfl (hU_o 217 _ rfl))⟩
    · refine gQ_map ?_
      exact gQ_ret h501529_o

theorem of_167 {W : Nat → Nat → Bool} {g s : gS} {a0 : Nat} {a1 : Int} (hg_o : RF g) (hU_o : ∀ a k, wff a k = true → W a k = true) (ea0_o : a0 = 217) (h_o : Fw W g s) : gQ (f_167 a0 a1 s) (fun r => Fw W g r.2.2.2) := by
  subst ea0_o
  unfold f_167
  dsimp only
  refine gQ_v1 (A := Fw W g) (of_150 hg_o hU_o  (Fw_w h_o rfl (hU_o 217 _ rfl))) (fun v3 s2_l h501541_o => ?_)
  refine gQ_ite ?_ ?_
  · exact gQ_ret h501541_o
  · exact gQ_ret (Fw_w h501541_o rfl (hU_o 217 _ rfl))

theorem of_211 {W : Nat → Nat → Bool} {g s : gS} {a0 : Nat} {a1 : Int} (hg_o : RF g) (hU_o : ∀ a k, wff a k = true → W a k = true) (ea0_o : a0 = 217) (h_o : Fw W g s) : gQ (f_211 a0 a1 s) (fun r => Fw W g r.2.2.2) := by
  subst ea0_o
  unfold f_211
  refine gQ_v1 (A := Fw W g) (of_162 hg_o hU_o rfl h_o) (fun v2 s1_l h501542_o => ?_)
  refine gQ_ite ?_ ?_
  · unfold fb_211_35
    dsimp only
    refine gQ_ite ?_ ?_
    · exact gQ_ret (Fw_w h501542_o rfl (hU_o 217 _ rfl))
    · refine gQ_v0 (A := Fw W g) (of_209 hg_o hU_o rfl (Fw_w h501542_o rfl (hU_o 217 _ rfl))) (fun s5 h501543_o => ?_)
      refine gQ_v1 (A := Fw W g) (of_156 hg_o hU_o rfl h501543_o) (fun v8 s7 h501544_o => ?_)
      refine gQ_v0 (A := Fw W g) (of_157 hg_o hU_o rfl h501544_o) (fun s9 h501545_o => ?_)
      refine gQ_v1 (A := Fw W g) (of_156 hg_o hU_o rfl h501545_o) (fun v12 s11 h501546_o => ?_)
      refine gQ_v1 (A := Fw W g) (of_151 hg_o hU_o  h501546_o) (fun v14 s13 h501547_o => ?_)
      refine gQ_v0 (A := Fw W g) (of_157 hg_o hU_o rfl h501547_o) (fun s15 h501548_o => ?_)
      refine gQ_v0 (A := Fw W g) (of_210 hg_o hU_o rfl h501548_o) (fun s17 h501549_o => ?_)
      refine gQ_v1 (A := Fw W g) (of_156 hg_o hU_o rfl h501549_o) (fun v20 s19 h501550_o => ?_)
      exact gQ_ret h501550_o
  · refine gQ_v1 (A := Fw W g) (of_165 hg_o hU_o rfl h501542_o) (fun v22 s21 h501551_o => ?_)
    refine gQ_ite ?_ ?_
    · unfold fb_211_35
      dsimp only
      refine gQ_ite ?_ ?_
      · exact gQ_ret (Fw_w h501551_o rfl (hU_o 217 _ rfl))
      · refine gQ_v0 (A := Fw W g) (of_209 hg_o hU_o rfl (Fw_w h501551_o rfl (hU_o 217 _ rfl))) (fun s5 h501552_o => ?_)
        refine gQ_v1 (A := Fw W g) (of_156 hg_o hU_o rfl h501552_o) (fun v8 s7 h501553_o => ?_)
        refine gQ_v0 (A := Fw W g) (of_157 hg_o hU_o rfl h501553_o) (fun s9 h501554_o => ?_)
        refine gQ_v1 (A := Fw W g) (of_156 hg_o hU_o rfl h501554_o) (fun v12 s11 h501555_o => ?_)
        refine gQ_v1 (A := Fw W g) (of_151 hg_o hU_o  h501555_o) (fun v14 s13 h501556_o => ?_)
        refine gQ_v0 (A := Fw W g) (of_157 hg_o hU_o rfl h501556_o) (fun s15 h501557_o => ?_)
        refine gQ_v0 (A := Fw W g) (of_210 hg_o hU_o rfl h501557_o) (fun s17 h501558_o => ?_)
        refine gQ_v1 (A := Fw W g) (of_156 hg_o hU_o rfl h501558_o) (fun v20 s19 h501559_o => ?_)
        exact gQ_ret h501559_o
    · refine gQ_v1 (A := Fw W g) (of_156 hg_o hU_o rfl h501551_o) (fun v25 s24 h501560_o => ?_)
      refine gQ_ite ?_ ?_
      · unfold fb_211_35
        dsimp only
        refine gQ_ite ?_ ?_
        · exact gQ_ret (Fw_w h501560_o rfl (hU_o 217 _ rfl))
        · refine gQ_v0 (A := Fw W g) (of_209 hg_o hU_o rfl (Fw_w h501560_o rfl (hU_o 217 _ rfl))) (fun s5 h501561_o => ?_)
          refine gQ_v1 (A := Fw W g) (of_156 hg_o hU_o rfl h501561_o) (fun v8 s7 h501562_o => ?_)
          refine gQ_v0 (A := Fw W g) (of_157 hg_o hU_o rfl h501562_o) (fun s9 h501563_o => ?_)
          refine gQ_v1 (A := Fw W g) (of_156 hg_o hU_o rfl h501563_o) (fun v12 s11 h501564_o => ?_)
          refine gQ_v1 (A := Fw W g) (of_151 hg_o hU_o  h501564_o) (fun v14 s13 h501565_o => ?_)
          refine gQ_v0 (A := Fw W g) (of_157 hg_o hU_o rfl h501565_o) (fun s15 h501566_o => ?_)
          refine gQ_v0 (A := Fw W g) (of_210 hg_o hU_o rfl h501566_o) (fun s17 h501567_o => ?_)
          refine gQ_v1 (A := Fw W g) (of_156 hg_o hU_o rfl h501567_o) (fun v20 s19 h501568_o => ?_)
          exact gQ_ret h501568_o
      · unfold fb_211_35
        dsimp only
        refine gQ_ite ?_ ?_
        · exact gQ_ret (Fw_w h501560_o rfl (hU_o 217 _ rfl))
        · refine gQ_v0 (A := Fw W g) (of_209 hg_o hU_o rfl (Fw_w h501560_o rfl (hU_o 217 _ rfl))) (fun s5 h501569_o => ?_)
          refine gQ_v1 (A := Fw W g) (of_156 hg_o hU_o rfl h501569_o) (fun v8 s7 h501570_o => ?_)
          refine gQ_v0 (A := Fw W g) (of_157 hg_o hU_o rfl h501570_o) (fun s9 h501571_o => ?_)
          refine gQ_v1 (A := Fw W g) (of_156 hg_o hU_o rfl h501571_o) (fun v12 s11 h501572_o => ?_)
          refine gQ_v1 (A := Fw W g) (of_151 hg_o hU_o  h501572_o) (fun v14 s13 h501573_o => ?_)
          refine gQ_v0 (A := Fw W g) (of_157 hg_o hU_o rfl h501573_o) (fun s15 h501574_o => ?_)
          refine gQ_v0 (A := Fw W g) (of_210 hg_o hU_o rfl h501574_o) (fun s17 h501575_o => ?_)
          refine gQ_v1 (A := Fw W g) (of_156 hg_o hU_o rfl h501575_o) (fun v20 s19 h501576_o => ?_)
          exact gQ_ret h501576_o

theorem of_213 {W : Nat → Nat → Bool} {g s : gS} {a0 : Nat} {a1 : Int} {a2 : Int} (hg_o : RF g) (hU_o : ∀ a k, wff a k = true → W a k = true) (ea0_o : a0 = 217) (h_o : Fw W g s) : gQ (f_213 a0 a1 a2 s) (fun r => Fw W g r.2.2.2) := by
  subst ea0_o
  unfold f_213
  refine gQ_v1 (A := Fw W g) (of_162 hg_o hU_o rfl h_o) (fun v2 s1_l h501577_o => ?_)
  refine gQ_ite ?_ ?_
  · unfold fb_213_34
    dsimp only
    refine gQ_ite ?_ ?_
    · exact gQ_ret (Fw_w h501577_o rfl (hU_o 217 _ rfl))
    · refine gQ_v0 (A := Fw W g) (of_209 hg_o hU_o rfl (Fw_w h501577_o rfl (hU_o 217 _ rfl))) (fun s5 h501578_o => ?_)
      refine gQ_v1 (A := Fw W g) (of_158 hg_o hU_o rfl h501578_o) (fun v8 s7 h501579_o => ?_)
      refine gQ_v0 (A := Fw W g) (of_200 hg_o hU_o rfl h501579_o) (fun s9 h501580_o => ?_)
      refine gQ_v1 (A := Fw W g) (of_156 hg_o hU_o rfl h501580_o) (fun v12 s11 h501581_o => ?_)
      refine gQ_v1 (A := Fw W g) (of_212 hg_o hU_o rfl h501581_o) (fun v14 s13 h501582_o => ?_)
      refine gQ_ite ?_ ?_
      · refine gQ_v1 (A := Fw W g) (of_156 hg_o hU_o rfl h501582_o) (fun v17 s16 h501583_o => ?_)
        refine gQ_v1 (A := Fw W g) (of_151 hg_o hU_o  h501583_o) (fun v19 s18 h501584_o => ?_)
        unfold fb_213_102
        refine gQ_v0 (A := Fw W g) (of_157 hg_o hU_o rfl h501584_o) (fun s20 h501585_o => ?_)
        refine gQ_v1 (A := Fw W g) (of_156 hg_o hU_o rfl h501585_o) (fun v23 s22 h501586_o => ?_)
        refine gQ_ite ?_ ?_
        · refine gQ_v0 (A := Fw W g) (of_157 hg_o hU_o rfl h501586_o) (fun s24 h501587_o => ?_)
          unfold fb_213_128
          refine gQ_ite ?_ ?_
          · unfold fb_213_139
            refine gQ_v0 (A := Fw W g) (of_210 hg_o hU_o rfl h501587_o) (fun s26 h501588_o => ?_)
            refine gQ_bool ?_
            exact gQ_ret h501588_o
          · unfold fb_213_139
            refine gQ_v0 (A := Fw W g) (of_210 hg_o hU_o rfl h501587_o) (fun s26 h501589_o => ?_)
            refine gQ_bool ?_
            exact gQ_ret h501589_o
        · unfold fb_213_128
          refine gQ_ite ?_ ?_
          · unfold fb_213_139
            refine gQ_v0 (A := Fw W g) (of_210 hg_o hU_o rfl h501586_o) (fun s26 h501590_o => ?_)
            refine gQ_bool ?_
            exact gQ_ret h501590_o
          · unfold fb_213_139
            refine gQ_v0 (A := Fw W g) (of_210 hg_o hU_o rfl h501586_o) (fun s26 h501591_o => ?_)
            refine gQ_bool ?_
            exact gQ_ret h501591_o
      · refine gQ_v1 (A := Fw W g) (of_156 hg_o hU_o rfl h501582_o) (fun v29 s28 h501592_o => ?_)
        unfold fb_213_102
        refine gQ_v0 (A := Fw W g) (of_157 hg_o hU_o rfl h501592_o) (fun s20 h501593_o => ?_)
        refine gQ_v1 (A := Fw W g) (of_156 hg_o hU_o rfl h501593_o) (fun v23 s22 h501594_o => ?_)
        refine gQ_ite ?_ ?_
        · refine gQ_v0 (A := Fw W g) (of_157 hg_o hU_o rfl h501594_o) (fun s24 h501595_o => ?_)
          unfold fb_213_128
          refine gQ_ite ?_ ?_
          · unfold fb_213_139
            refine gQ_v0 (A := Fw W g) (of_210 hg_o hU_o rfl h501595_o) (fun s26 h501596_o => ?_)
            refine gQ_bool ?_
            exact gQ_ret h501596_o
          · unfold fb_213_139
            refine gQ_v0 (A := Fw W g) (of_210 hg_o hU_o rfl h501595_o) (fun s26 h501597_o => ?_)
            refine gQ_bool ?_
            exact gQ_ret h501597_o
        · unfold fb_213_128
          refine gQ_ite ?_ ?_
          · unfold fb_213_139
            refine gQ_v0 (A := Fw W g) (of_210 hg_o hU_o rfl h501594_o) (fun s26 h501598_o => ?_)
            refine gQ_bool ?_
            exact gQ_ret h501598_o
          · unfold fb_213_139
            refine gQ_v0 (A := Fw W g) (of_210 hg_o hU_o rfl h501594_o) (fun s26 h501599_o => ?_)
            refine gQ_bool ?_
            exact gQ_ret h501599_o
  · refine gQ_v1 (A := Fw W g) (of_163 hg_o hU_o rfl h501577_o) (fun v31 s30 h501600_o => ?_)
    refine gQ_ite ?_ ?_
    · unfold fb_213_34
      dsimp only
      refine gQ_ite ?_ ?_
      · exact gQ_ret (Fw_w h501600_o rfl (hU_o 217 _ rfl))
      · refine gQ_v0 (A := Fw W g) (of_209 hg_o hU_o rfl (Fw_w h501600_o rfl (hU_o 217 _ rfl))) (fun s5 h501601_o => ?_)
        refine gQ_v1 (A := Fw W g) (of_158 hg_o hU_o rfl h501601_o) (fun v8 s7 h501602_o => ?_)
        refine gQ_v0 (A := Fw W g) (of_200 hg_o hU_o rfl h501602_o) (fun s9 h501603_o => ?_)
        refine gQ_v1 (A := Fw W g) (of_156 hg_o hU_o rfl h501603_o) (fun v12 s11 h501604_o => ?_)
        refine gQ_v1 (A := Fw W g) (of_212 hg_o hU_o rfl h501604_o) (fun v14 s13 h501605_o => ?_)
        refine gQ_ite ?_ ?_
        · refine gQ_v1 (A := Fw W g) (of_156 hg_o hU_o rfl h501605_o) (fun v17 s16 h501606_o => ?_)
          refine gQ_v1 (A := Fw W g) (of_151 hg_o hU_o  h501606_o) (fun v19 s18 h501607_o => ?_)
          unfold fb_213_102
          refine gQ_v0 (A := Fw W g) (of_157 hg_o hU_o rfl h501607_o) (fun s20 h501608_o => ?_)
          refine gQ_v1 (A := Fw W g) (of_156 hg_o hU_o rfl h501608_o) (fun v23 s22 h501609_o => ?_)
          refine gQ_ite ?_ ?_
          · refine gQ_v0 (A := Fw W g) (of_157 hg_o hU_o rfl h501609_o) (fun s24 h501610_o => ?_)
            unfold fb_213_128
            refine gQ_ite ?_ ?_
            · unfold fb_213_139
              refine gQ_v0 (A := Fw W g) (of_210 hg_o hU_o rfl h501610_o) (fun s26 h501611_o => ?_)
              refine gQ_bool ?_
              exact gQ_ret h501611_o
            · unfold fb_213_139
              refine gQ_v0 (A := Fw W g) (of_210 hg_o hU_o rfl h501610_o) (fun s26 h501612_o => ?_)
              refine gQ_bool ?_
              exact gQ_ret h501612_o
          · unfold fb_213_128
            refine gQ_ite ?_ ?_
            · unfold fb_213_139
              refine gQ_v0 (A := Fw W g) (of_210 hg_o hU_o rfl h501609_o) (fun s26 h501613_o => ?_)
              refine gQ_bool ?_
              exact gQ_ret h501613_o
            · unfold fb_213_139
              refine gQ_v0 (A := Fw W g) (of_210 hg_o hU_o rfl h501609_o) (fun s26 h501614_o => ?_)
              refine gQ_bool ?_
              exact gQ_ret h501614_o
        · refine gQ_v1 (A := Fw W g) (of_156 hg_o hU_o rfl h501605_o) (fun v29 s28 h501615_o => ?_)
          unfold fb_213_102
          refine gQ_v0 (A := Fw W g) (of_157 hg_o hU_o rfl h501615_o) (fun s20 h501616_o => ?_)
          refine gQ_v1 (A := Fw W g) (of_156 hg_o hU_o rfl h501616_o) (fun v23 s22 h501617_o => ?_)
          refine gQ_ite ?_ ?_
          · refine gQ_v0 (A := Fw W g) (of_157 hg_o hU_o rfl h501617_o) (fun s24 h501618_o => ?_)
            unfold fb_213_128
            refine gQ_ite ?_ ?_
            · unfold fb_213_139
              refine gQ_v0 (A := Fw W g) (of_210 hg_o hU_o rfl h501618_o) (fun s26 h501619_o => ?_)
              refine gQ_bool ?_
              exact gQ_ret h501619_o
            · unfold fb_213_139
              refine gQ_v0 (A := Fw W g) (of_210 hg_o hU_o rfl h501618_o) (fun s26 h501620_o => ?_)
              refine gQ_bool ?_
              exact gQ_ret h501620_o
          · unfold fb_213_128
            refine gQ_ite ?_ ?_
            · unfold fb_213_139
              refine gQ_v0 (A := Fw W g) (of_210 hg_o hU_o rfl h501617_o) (fun s26 h501621_o => ?_)
              refine gQ_bool ?_
              exact gQ_ret h501621_o
            · unfold fb_213_139
              refine gQ_v0 (A := Fw W g) (of_210 hg_o hU_o rfl h501617_o) (fun s26 h501622_o => ?_)
              refine gQ_bool ?_
              exact gQ_ret h501622_o
    · refine gQ_v1 (A := Fw W g) (of_165 hg_o hU_o rfl h501600_o) (fun v34 s33 h501623_o => ?_)
      refine gQ_ite ?_ ?_
      · unfold fb_213_34
        dsimp only
        refine gQ_ite ?_ ?_
        · exact gQ_ret (Fw_w h501623_o rfl (hU_o 217 _ rfl))
        · refine gQ_v0 (A := Fw W g) (of_209 hg_o hU_o rfl (Fw_w h501623_o rfl (hU_o 217 _ rfl))) (fun s5 h501624_o => ?_)
          refine gQ_v1 (A := Fw W g) (of_158 hg_o hU_o rfl h501624_o) (fun v8 s7 h501625_o => ?_)
          refine gQ_v0 (A := Fw W g) (of_200 hg_o hU_o rfl h501625_o) (fun s9 h501626_o => ?_)
          refine gQ_v1 (A := Fw W g) (of_156 hg_o hU_o rfl h501626_o) (fun v12 s11 h501627_o => ?_)
          refine gQ_v1 (A := Fw W g) (of_212 hg_o hU_o rfl h501627_o) (fun v14 s13 h501628_o => ?_)
          refine gQ_ite ?_ ?_
          · refine gQ_v1 (A := Fw W g) (of_156 hg_o hU_o rfl h501628_o) (fun v17 s16 h501629_o => ?_)
            refine gQ_v1 (A := Fw W g) (of_151 hg_o hU_o  h501629_o) (fun v19 s18 h501630_o => ?_)
            unfold fb_213_102
            refine gQ_v0 (A := Fw W g) (of_157 hg_o hU_o rfl h501630_o) (fun s20 h501631_o => ?_)
            refine gQ_v1 (A := Fw W g) (of_156 hg_o hU_o rfl h501631_o) (fun v23 s22 h501632_o => ?_)
            refine gQ_ite ?_ ?_
            · refine gQ_v0 (A := Fw W g) (of_157 hg_o hU_o rfl h501632_o) (fun s24 h501633_o => ?_)
              unfold fb_213_128
              refine gQ_ite ?_ ?_
              · unfold fb_213_139
                refine gQ_v0 (A := Fw W g) (of_210 hg_o hU_o rfl h501633_o) (fun s26 h501634_o => ?_)
                refine gQ_bool ?_
                exact gQ_ret h501634_o
              · unfold fb_213_139
                refine gQ_v0 (A := Fw W g) (of_210 hg_o hU_o rfl h501633_o) (fun s26 h501635_o => ?_)
                refine gQ_bool ?_
                exact gQ_ret h501635_o
            · unfold fb_213_128
              refine gQ_ite ?_ ?_
              · unfold fb_213_139
                refine gQ_v0 (A := Fw W g) (of_210 hg_o hU_o rfl h501632_o) (fun s26 h501636_o => ?_)
                refine gQ_bool ?_
                exact gQ_ret h501636_o
              · unfold fb_213_139
                refine gQ_v0 (A := Fw W g) (of_210 hg_o hU_o rfl h501632_o) (fun s26 h501637_o => ?_)
                refine gQ_bool ?_
                exact gQ_ret h501637_o
          · refine gQ_v1 (A := Fw W g) (of_156 hg_o hU_o rfl h501628_o) (fun v29 s28 h501638_o => ?_)
            unfold fb_213_102
            refine gQ_v0 (A := Fw W g) (of_157 hg_o hU_o rfl h501638_o) (fun s20 h501639_o => ?_)
            refine gQ_v1 (A := Fw W g) (of_156 hg_o hU_o rfl h501639_o) (fun v23 s22 h501640_o => ?_)
            refine gQ_ite ?_ ?_
            · refine gQ_v0 (A := Fw W g) (of_157 hg_o hU_o rfl h501640_o) (fun s24 h501641_o => ?_)
              unfold fb_213_128
              refine gQ_ite ?_ ?_
              · unfold fb_213_139
                refine gQ_v0 (A := Fw W g) (of_210 hg_o hU_o rfl h501641_o) (fun s26 h501642_o => ?_)
                refine gQ_bool ?_
                exact gQ_ret h501642_o
              · unfold fb_213_139
                refine gQ_v0 (A := Fw W g) (of_210 hg_o hU_o rfl h501641_o) (fun s26 h501643_o => ?_)
                refine gQ_bool ?_
                exact gQ_ret h501643_o
            · unfold fb_213_128
              refine gQ_ite ?_ ?_
              · unfold fb_213_139
                refine gQ_v0 (A := Fw W g) (of_210 hg_o hU_o rfl h501640_o) (fun s26 h501644_o => ?_)
                refine gQ_bool ?_
                exact gQ_ret h501644_o
              · unfold fb_213_139
                refine gQ_v0 (A := Fw W g) (of_210 hg_o hU_o rfl h501640_o) (fun s26 h501645_o => ?_)
                refine gQ_bool ?_
                exact gQ_ret h501645_o
      · unfold fb_213_34
        dsimp only
        refine gQ_ite ?_ ?_
        · exact gQ_ret (Fw_w h501623_o rfl (hU_o 217 _ rfl))
        · refine gQ_v0 (A := Fw W g) (of_209 hg_o hU_o rfl (Fw_w h501623_o rfl (hU_o 217 _ rfl))) (fun s5 h501646_o => ?_)
          refine gQ_v1 (A := Fw W g) (of_158 hg_o hU_o rfl h501646_o) (fun v8 s7 h501647_o => ?_)
          refine gQ_v0 (A := Fw W g) (of_200 hg_o hU_o rfl h501647_o) (fun s9 h501648_o => ?_)
          refine gQ_v1 (A := Fw W g) (of_156 hg_o hU_o rfl h501648_o) (fun v12 s11 h501649_o => ?_)
          refine gQ_v1 (A := Fw W g) (of_212 hg_o hU_o rfl h501649_o) (fun v14 s13 h501650_o => ?_)
          refine gQ_ite ?_ ?_
          · refine gQ_v1 (A := Fw W g) (of_156 hg_o hU_o rfl h501650_o) (fun v17 s16 h501651_o => ?_)
            refine gQ_v1 (A := Fw W g) (of_151 hg_o hU_o  h501651_o) (fun v19 s18 h501652_o => ?_)
            unfold fb_213_102
            refine gQ_v0 (A := Fw W g) (of_157 hg_o hU_o rfl h501652_o) (fun s20 h501653_o => ?_)
            refine gQ_v1 (A := Fw W g) (of_156 hg_o hU_o rfl h501653_o) (fun v23 s22 h501654_o => ?_)
            refine gQ_ite ?_ ?_
            · refine gQ_v0 (A := Fw W g) (of_157 hg_o hU_o rfl h501654_o) (fun s24 h501655_o => ?_)
              unfold fb_213_128
              refine gQ_ite ?_ ?_
              · unfold fb_213_139
                refine gQ_v0 (A := Fw W g) (of_210 hg_o hU_o rfl h501655_o) (fun s26 h501656_o => ?_)
                refine gQ_bool ?_
                exact gQ_ret h501656_o
              · unfold fb_213_139
                refine gQ_v0 (A := Fw W g) (of_210 hg_o hU_o rfl h501655_o) (fun s26 h501657_o => ?_)
                refine gQ_bool ?_
                exact gQ_ret h501657_o
            · unfold fb_213_128
              refine gQ_ite ?_ ?_
              · unfold fb_213_139
                refine gQ_v0 (A := Fw W g) (of_210 hg_o hU_o rfl h501654_o) (fun s26 h501658_o => ?_)
                refine gQ_bool ?_
                exact gQ_ret h501658_o
              · unfold fb_213_139
                refine gQ_v0 (A := Fw W g) (of_210 hg_o hU_o rfl h501654_o) (fun s26 h501659_o => ?_)
                refine gQ_bool ?_
                exact gQ_ret h501659_o
          · refine gQ_v1 (A := Fw W g) (of_156 hg_o hU_o rfl h501650_o) (fun v29 s28 h501660_o => ?_)
            unfold fb_213_102
            refine gQ_v0 (A := Fw W g) (of_157 hg_o hU_o rfl h501660_o) (fun s20 h501661_o => ?_)
            refine gQ_v1 (A := Fw W g) (of_156 hg_o hU_o rfl h501661_o) (fun v23 s22 h501662_o => ?_)
            refine gQ_ite ?_ ?_
            · refine gQ_v0 (A := Fw W g) (of_157 hg_o hU_o rfl h501662_o) (fun s24 h501663_o => ?_)
              unfold fb_213_128
              refine gQ_ite ?_ ?_
              · unfold fb_213_139
                refine gQ_v0 (A := Fw W g) (of_210 hg_o hU_o rfl h501663_o) (fun s26 h501664_o => ?_)
                refine gQ_bool ?_
                exact gQ_ret h501664_o
              · unfold fb_213_139
                refine gQ_v0 (A := Fw W g) (of_210 hg_o hU_o rfl h501663_o) (fun s26 h501665_o => ?_)
                refine gQ_bool ?_
                exact gQ_ret h501665_o
            · unfold fb_213_128
              refine gQ_ite ?_ ?_
              · unfold fb_213_139
                refine gQ_v0 (A := Fw W g) (of_210 hg_o hU_o rfl h501662_o) (fun s26 h501666_o => ?_)
                refine gQ_bool ?_
                exact gQ_ret h501666_o
              · unfold fb_213_139
                refine gQ_v0 (A := Fw W g) (of_210 hg_o hU_o rfl h501662_o) (fun s26 h501667_o => ?_)
                refine gQ_bool ?_
                exact gQ_ret h501667_o

theorem of_214 {W : Nat → Nat → Bool} {g s : gS} {a0 : Nat} {a1 : Int} (hg_o : RF g) (hU_o : ∀ a k, wff a k = true → W a k = true) (ea0_o : a0 = 217) (h_o : Fw W g s) : gQ (f_214 a0 a1 s) (fun r => Fw W g r.2.2.2) := by
  subst ea0_o
  unfold f_214
  refine gQ_v1 (A := Fw W g) (of_162 hg_o hU_o rfl h_o) (fun v2 s1_l h501668_o => ?_)
  refine gQ_ite ?_ ?_
  · unfold fb_214_35
    dsimp only
    refine gQ_ite ?_ ?_
    · exact gQ_ret (Fw_w h501668_o rfl (hU_o 217 _ rfl))
    · refine gQ_v0 (A := Fw W g) (of_209 hg_o hU_o rfl (Fw_w h501668_o rfl (hU_o 217 _ rfl))) (fun s5 h501669_o => ?_)
      refine gQ_v0 (A := Fw W g) (of_157 hg_o hU_o rfl h501669_o) (fun s7 h501670_o => ?_)
      refine gQ_v1 (A := Fw W g) (of_156 hg_o hU_o rfl h501670_o) (fun v10 s9 h501671_o => ?_)
      exact gQ_ret h501671_o
  · refine gQ_v1 (A := Fw W g) (of_165 hg_o hU_o rfl h501668_o) (fun v12 s11 h501672_o => ?_)
    refine gQ_ite ?_ ?_
    · unfold fb_214_35
      dsimp only
      refine gQ_ite ?_ ?_
      · exact gQ_ret (Fw_w h501672_o rfl (hU_o 217 _ rfl))
      · refine gQ_v0 (A := Fw W g) (of_209 hg_o hU_o rfl (Fw_w h501672_o rfl (hU_o 217 _ rfl))) (fun s5 h501673_o => ?_)
        refine gQ_v0 (A := Fw W g) (of_157 hg_o hU_o rfl h501673_o) (fun s7 h501674_o => ?_)
        refine gQ_v1 (A := Fw W g) (of_156 hg_o hU_o rfl h501674_o) (fun v10 s9 h501675_o => ?_)
        exact gQ_ret h501675_o
    · refine gQ_v1 (A := Fw W g) (of_156 hg_o hU_o rfl h501672_o) (fun v15 s14 h501676_o => ?_)
      refine gQ_ite ?_ ?_
      · unfold fb_214_35
        dsimp only
        refine gQ_ite ?_ ?_
        · exact gQ_ret (Fw_w h501676_o rfl (hU_o 217 _ rfl))
        · refine gQ_v0 (A := Fw W g) (of_209 hg_o hU_o rfl (Fw_w h501676_o rfl (hU_o 217 _ rfl))) (fun s5 h501677_o => ?_)
          refine gQ_v0 (A := Fw W g) (of_157 hg_o hU_o rfl h501677_o) (fun s7 h501678_o => ?_)
          refine gQ_v1 (A := Fw W g) (of_156 hg_o hU_o rfl h501678_o) (fun v10 s9 h501679_o => ?_)
          exact gQ_ret h501679_o
      · unfold fb_214_35
        dsimp only
        refine gQ_ite ?_ ?_
        · exact gQ_ret (Fw_w h501676_o rfl (hU_o 217 _ rfl))
        · refine gQ_v0 (A := Fw W g) (of_209 hg_o hU_o rfl (Fw_w h501676_o rfl (hU_o 217 _ rfl))) (fun s5 h501680_o => ?_)
          refine gQ_v0 (A := Fw W g) (of_157 hg_o hU_o rfl h501680_o) (fun s7 h501681_o => ?_)
          refine gQ_v1 (A := Fw W g) (of_156 hg_o hU_o rfl h501681_o) (fun v10 s9 h501682_o => ?_)
          exact gQ_ret h501682_o

theorem of_215 {W : Nat → Nat → Bool} {g s : gS} {a0 : Nat} {a1 : Int} {a2 : Int} {a3 : Int} (hg_o : RF g) (hU_o : ∀ a k, wff a k = true → W a k = true) (ea0_o : a0 = 217) (h_o : Fw W g s) : gQ (f_215 a0 a1 a2 a3 s) (fun r => Fw W g r.2.2.2) := by
  subst ea0_o
  unfold f_215
  refine gQ_v1 (A := Fw W g) (of_162 hg_o hU_o rfl h_o) (fun v2 s1_l h501683_o => ?_)
  refine gQ_ite ?_ ?_
  · unfold fb_215_52
    dsimp only
    refine gQ_ite ?_ ?_
    · exact gQ_ret (Fw_w h501683_o rfl (hU_o 217 _ rfl))
    · refine gQ_v0 (A := Fw W g) (of_209 hg_o hU_o rfl (Fw_w h501683_o rfl (hU_o 217 _ rfl))) (fun s5 h501684_o => ?_)
      refine gQ_chk2 (fun ha501685_o hb501686_o => ?_)
      refine gQ_chk2 (fun ha501687_o hb501688_o => ?_)
      refine gQ_chk2 (fun ha501689_o hb501690_o => ?_)
      refine gQ_v1 (A := Fw W g) (of_156 hg_o hU_o rfl (Fw_w h501684_o (fr_r h501684_o rfl (rr_217_1 hg_o)) (hU_o 218 _ rfl))) (fun v9 s8 h501691_o => ?_)
      refine gQ_chk2 (fun ha501692_o hb501693_o => ?_)
      refine gQ_v1 (A := Fw W g) (of_151 hg_o hU_o  (Fw_w h501691_o (fr_r (Fw_w h501684_o (fr_r h501684_o rfl (rr_217_1 hg_o)) (hU_o 218 _ rfl)) rfl (rr_217_1 hg_o)) (hU_o 218 _ rfl))) (fun v12 s11 h501694_o => ?_)
      refine gQ_v0 (A := Fw W g) (of_157 hg_o hU_o rfl (Fw_w h501694_o (fr_r (Fw_w h501691_o (fr_r (Fw_w h501684_o (fr_r h501684_o rfl (rr_217_1 hg_o)) (hU_o 218 _ rfl)) rfl (rr_217_1 hg_o)) (hU_o 218 _ rfl)) rfl (rr_217_1 hg_o)) (hU_o 218 _ rfl))) (fun s14 h501695_o => ?_)
      exact gQ_ret h501695_o
  · refine gQ_v1 (A := Fw W g) (of_164 hg_o hU_o rfl h501683_o) (fun v17 s16 h501696_o => ?_)
    refine gQ_ite ?_ ?_
    · unfold fb_215_52
      dsimp only
      refine gQ_ite ?_ ?_
      · exact gQ_ret (Fw_w h501696_o rfl (hU_o 217 _ rfl))
      · refine gQ_v0 (A := Fw W g) (of_209 hg_o hU_o rfl (Fw_w h501696_o rfl (hU_o 217 _ rfl))) (fun s5 h501697_o => ?_)
        refine gQ_chk2 (fun ha501698_o hb501699_o => ?_)
        refine gQ_chk2 (fun ha501700_o hb501701_o => ?_)
        refine gQ_chk2 (fun ha501702_o hb501703_o => ?_)
        refine gQ_v1 (A := Fw W g) (of_156 hg_o hU_o rfl (Fw_w h501697_o (fr_r h501697_o rfl (rr_217_1 hg_o)) (hU_o 218 _ rfl))) (fun v9 s8 h501704_o => ?_)
        refine gQ_chk2 (fun ha501705_o hb501706_o => ?_)
        refine gQ_v1 (A := Fw W g) (of_151 hg_o hU_o  (Fw_w h501704_o (fr_r (Fw_w h501697_o (fr_r h501697_o rfl (rr_217_1 hg_o)) (hU_o 218 _ rfl)) rfl (rr_217_1 hg_o)) (hU_o 218 _ rfl))) (fun v12 s11 h501707_o => ?_)
        refine gQ_v0 (A := Fw W g) (of_157 hg_o hU_o rfl (Fw_w h501707_o (fr_r (Fw_w h501704_o (fr_r (Fw_w h501697_o (fr_r h501697_o rfl (rr_217_1 hg_o)) (hU_o 218 _ rfl)) rfl (rr_217_1 hg_o)) (hU_o 218 _ rfl)) rfl (rr_217_1 hg_o)) (hU_o 218 _ rfl))) (fun s14 h501708_o => ?_)
        exact gQ_ret h501708_o
    · refine gQ_v1 (A := Fw W g) (of_160 hg_o hU_o rfl h501696_o) (fun v20 s19 h501709_o => ?_)
      refine gQ_v1 (A := Fw W g) (of_150 hg_o hU_o  h501709_o) (fun v22 s21 h501710_o => ?_)
      refine gQ_ite ?_ ?_
      · unfold fb_215_52
        dsimp only
        refine gQ_ite ?_ ?_
        · exact gQ_ret (Fw_w h501710_o rfl (hU_o 217 _ rfl))
        · refine gQ_v0 (A := Fw W g) (of_209 hg_o hU_o rfl (Fw_w h501710_o rfl (hU_o 217 _ rfl))) (fun s5 h501711_o => ?_)
          refine gQ_chk2 (fun ha501712_o hb501713_o => ?_)
          refine gQ_chk2 (fun ha501714_o hb501715_o => ?_)
          refine gQ_chk2 (fun ha501716_o hb501717_o => ?_)
          refine gQ_v1 (A := Fw W g) (of_156 hg_o hU_o rfl (Fw_w h501711_o (fr_r h501711_o rfl (rr_217_1 hg_o)) (hU_o 218 _ rfl))) (fun v9 s8 h501718_o => ?_)
          refine gQ_chk2 (fun ha501719_o hb501720_o => ?_)
          refine gQ_v1 (A := Fw W g) (of_151 hg_o hU_o  (Fw_w h501718_o (fr_r (Fw_w h501711_o (fr_r h501711_o rfl (rr_217_1 hg_o)) (hU_o 218 _ rfl)) rfl (rr_217_1 hg_o)) (hU_o 218 _ rfl))) (fun v12 s11 h501721_o => ?_)
          refine gQ_v0 (A := Fw W g) (of_157 hg_o hU_o rfl (Fw_w h501721_o (fr_r (Fw_w h501718_o (fr_r (Fw_w h501711_o (fr_r h501711_o rfl (rr_217_1 hg_o)) (hU_o 218 _ rfl)) rfl (rr_217_1 hg_o)) (hU_o 218 _ rfl)) rfl (rr_217_1 hg_o)) (hU_o 218 _ rfl))) (fun s14 h501722_o => ?_)
          exact gQ_ret h501722_o
      · refine gQ_v1 (A := Fw W g) (of_165 hg_o hU_o rfl h501710_o) (fun v25 s24 h501723_o => ?_)
        refine gQ_ite ?_ ?_
        · unfold fb_215_52
          dsimp only
          refine gQ_ite ?_ ?_
          · exact gQ_ret (Fw_w h501723_o rfl (hU_o 217 _ rfl))
          · refine gQ_v0 (A := Fw W g) (of_209 hg_o hU_o rfl (Fw_w h501723_o rfl (hU_o 217 _ rfl))) (fun s5 h501724_o => ?_)
            refine gQ_chk2 (fun ha501725_o hb501726_o => ?_)
            refine gQ_chk2 (fun ha501727_o hb501728_o => ?_)
            refine gQ_chk2 (fun ha501729_o hb501730_o => ?_)
            refine gQ_v1 (A := Fw W g) (of_156 hg_o hU_o rfl (Fw_w h501724_o (fr_r h501724_o rfl (rr_217_1 hg_o)) (hU_o 218 _ rfl))) (fun v9 s8 h501731_o => ?_)
            refine gQ_chk2 (fun ha501732_o hb501733_o => ?_)
            refine gQ_v1 (A := Fw W g) (of_151 hg_o hU_o  (Fw_w h501731_o (fr_r (Fw_w h501724_o (fr_r h501724_o rfl (rr_217_1 hg_o)) (hU_o 218 _ rfl)) rfl (rr_217_1 hg_o)) (hU_o 218 _ rfl))) (fun v12 s11 h501734_o => ?_)
            refine gQ_v0 (A := Fw W g) (of_157 hg_o hU_o rfl (Fw_w h501734_o (fr_r (Fw_w h501731_o (fr_r (Fw_w h501724_o (fr_r h501724_o rfl (rr_217_1 hg_o)) (hU_o 218 _ rfl)) rfl (rr_217_1 hg_o)) (hU_o 218 _ rfl)) rfl (rr_217_1 hg_o)) (hU_o 218 _ rfl))) (fun s14 h501735_o => ?_)
            exact gQ_ret h501735_o
        · unfold fb_215_52
          dsimp only
          refine gQ_ite ?_ ?_
          · exact gQ_ret (Fw_w h501723_o rfl (hU_o 217 _ rfl))
          · refine gQ_v0 (A := Fw W g) (of_209 hg_o hU_o rfl (Fw_w h501723_o rfl (hU_o 217 _ rfl))) (fun s5 h501736_o => ?_)
            refine gQ_chk2 (fun ha501737_o hb501738_o => ?_)
            refine gQ_chk2 (fun ha501739_o hb501740_o => ?_)
            refine gQ_chk2 (fun ha501741_o hb501742_o => ?_)
            refine gQ_v1 (A := Fw W g) (of_156 hg_o hU_o rfl (Fw_w h501736_o (fr_r h501736_o rfl (rr_217_1 hg_o)) (hU_o 218 _ rfl))) (fun v9 s8 h501743_o => ?_)
            refine gQ_chk2 (fun ha501744_o hb501745_o => ?_)
            refine gQ_v1 (A := Fw W g) (of_151 hg_o hU_o  (Fw_w h501743_o (fr_r (Fw_w h501736_o (fr_r h501736_o rfl (rr_217_1 hg_o)) (hU_o 218 _ rfl)) rfl (rr_217_1 hg_o)) (hU_o 218 _ rfl))) (fun v12 s11 h501746_o => ?_)
            refine gQ_v0 (A := Fw W g) (of_157 hg_o hU_o rfl (Fw_w h501746_o (fr_r (Fw_w h501743_o (fr_r (Fw_w h501736_o (fr_r h501736_o rfl (rr_217_1 hg_o)) (hU_o 218 _ rfl)) rfl (rr_217_1 hg_o)) (hU_o 218 _ rfl)) rfl (rr_217_1 hg_o)) (hU_o 218 _ rfl))) (fun s14 h501747_o => ?_)
            exact gQ_ret h501747_o

theorem of_216 {W : Nat → Nat → Bool} {g s : gS} {a0 : Nat} {a1 : Int} {a2 : Int} (hg_o : RF g) (hU_o : ∀ a k, wff a k = true → W a k = true) (ea0_o : a0 = 217) (h_o : Fw W g s) : gQ (f_216 a0 a1 a2 s) (fun r => Fw W g r.2.2.2) := by
  subst ea0_o
  unfold f_216
  refine gQ_v1 (A := Fw W g) (of_161 hg_o hU_o rfl h_o) (fun v2 s1_l h501748_o => ?_)
  refine gQ_ite ?_ ?_
  · unfold fb_216_50
    dsimp only
    refine gQ_ite ?_ ?_
    · exact gQ_ret (Fw_w h501748_o rfl (hU_o 217 _ rfl))
    · refine gQ_v0 (A := Fw W g) (of_209 hg_o hU_o rfl (Fw_w h501748_o rfl (hU_o 217 _ rfl))) (fun s5 h501749_o => ?_)
      refine gQ_chk2 (fun ha501750_o hb501751_o => ?_)
      refine gQ_chk2 (fun ha501752_o hb501753_o => ?_)
      refine gQ_chk2 (fun ha501754_o hb501755_o => ?_)
      refine gQ_chk2 (fun ha501756_o hb501757_o => ?_)
      refine gQ_v1 (A := Fw W g) (of_160 hg_o hU_o rfl (Fw_w (Fw_w h501749_o (fr_r h501749_o rfl (rr_217_1 hg_o)) (hU_o 218 _ rfl)) (fr_r (Fw_w h501749_o (fr_r h501749_o rfl (rr_217_1 hg_o)) (hU_o 218 _ rfl)) rfl (rr_217_1 hg_o)) (hU_o 218 _ rfl))) (fun v10 s9 h501758_o => ?_)
      exact gQ_ret h501758_o
  · refine gQ_v1 (A := Fw W g) (of_164 hg_o hU_o rfl h501748_o) (fun v12 s11 h501759_o => ?_)
    refine gQ_ite ?_ ?_
    · unfold fb_216_50
      dsimp only
      refine gQ_ite ?_ ?_
      · exact gQ_ret (Fw_w h501759_o rfl (hU_o 217 _ rfl))
      · refine gQ_v0 (A := Fw W g) (of_209 hg_o hU_o rfl (Fw_w h501759_o rfl (hU_o 217 _ rfl))) (fun s5 h501760_o => ?_)
        refine gQ_chk2 (fun ha501761_o hb501762_o => ?_)
        refine gQ_chk2 (fun ha501763_o hb501764_o => ?_)
        refine gQ_chk2 (fun ha501765_o hb501766_o => ?_)
        refine gQ_chk2 (fun ha501767_o hb501768_o => ?_)
        refine gQ_v1 (A := Fw W g) (of_160 hg_o hU_o rfl (Fw_w (Fw_w h501760_o (fr_r h501760_o rfl (rr_217_1 hg_o)) (hU_o 218 _ rfl)) (fr_r (Fw_w h501760_o (fr_r h501760_o rfl (rr_217_1 hg_o)) (hU_o 218 _ rfl)) rfl (rr_217_1 hg_o)) (hU_o 218 _ rfl))) (fun v10 s9 h501769_o => ?_)
        exact gQ_ret h501769_o
    · refine gQ_v1 (A := Fw W g) (of_160 hg_o hU_o rfl h501759_o) (fun v15 s14 h501770_o => ?_)
      refine gQ_v1 (A := Fw W g) (of_153 hg_o hU_o  h501770_o) (fun v17 s16 h501771_o => ?_)
      refine gQ_ite ?_ ?_
      · refine gQ_v1 (A := Fw W g) (of_160 hg_o hU_o rfl h501771_o) (fun v20 s19 h501772_o => ?_)
        refine gQ_ite ?_ ?_
        · unfold fb_216_50
          dsimp only
          refine gQ_ite ?_ ?_
          · exact gQ_ret (Fw_w h501772_o rfl (hU_o 217 _ rfl))
          · refine gQ_v0 (A := Fw W g) (of_209 hg_o hU_o rfl (Fw_w h501772_o rfl (hU_o 217 _ rfl))) (fun s5 h501773_o => ?_)
            refine gQ_chk2 (fun ha501774_o hb501775_o => ?_)
            refine gQ_chk2 (fun ha501776_o hb501777_o => ?_)
            refine gQ_chk2 (fun ha501778_o hb501779_o => ?_)
            refine gQ_chk2 (fun ha501780_o hb501781_o => ?_)
            refine gQ_v1 (A := Fw W g) (of_160 hg_o hU_o rfl (Fw_w (Fw_w h501773_o (fr_r h501773_o rfl (rr_217_1 hg_o)) (hU_o 218 _ rfl)) (fr_r (Fw_w h501773_o (fr_r h501773_o rfl (rr_217_1 hg_o)) (hU_o 218 _ rfl)) rfl (rr_217_1 hg_o)) (hU_o 218 _ rfl))) (fun v10 s9 h501782_o => ?_)
            exact gQ_ret h501782_o
        · unfold fb_216_50
          dsimp only
          refine gQ_ite ?_ ?_
          · exact gQ_ret (Fw_w h501772_o rfl (hU_o 217 _ rfl))
          · refine gQ_v0 (A := Fw W g) (of_209 hg_o hU_o rfl (Fw_w h501772_o rfl (hU_o 217 _ rfl))) (fun s5 h501783_o => ?_)
            refine gQ_chk2 (fun ha501784_o hb501785_o => ?_)
            refine gQ_chk2 (fun ha501786_o hb501787_o => ?_)
            refine gQ_chk2 (fun ha501788_o hb501789_o => ?_)
            refine gQ_chk2 (fun ha501790_o hb501791_o => ?_)
            refine gQ_v1 (A := Fw W g) (of_160 hg_o hU_o rfl (Fw_w (Fw_w h501783_o (fr_r h501783_o rfl (rr_217_1 hg_o)) (hU_o 218 _ rfl)) (fr_r (Fw_w h501783_o (fr_r h501783_o rfl (rr_217_1 hg_o)) (hU_o 218 _ rfl)) rfl (rr_217_1 hg_o)) (hU_o 218 _ rfl))) (fun v10 s9 h501792_o => ?_)
            exact gQ_ret h501792_o
      · unfold fb_216_50
        dsimp only
        refine gQ_ite ?_ ?_
        · exact gQ_ret (Fw_w h501771_o rfl (hU_o 217 _ rfl))
        · refine gQ_v0 (A := Fw W g) (of_209 hg_o hU_o rfl (Fw_w h501771_o rfl (hU_o 217 _ rfl))) (fun s5 h501793_o => ?_)
          refine gQ_chk2 (fun ha501794_o hb501795_o => ?_)
          refine gQ_chk2 (fun ha501796_o hb501797_o => ?_)
          refine gQ_chk2 (fun ha501798_o hb501799_o => ?_)
          refine gQ_chk2 (fun ha501800_o hb501801_o => ?_)
          refine gQ_v1 (A := Fw W g) (of_160 hg_o hU_o rfl (Fw_w (Fw_w h501793_o (fr_r h501793_o rfl (rr_217_1 hg_o)) (hU_o 218 _ rfl)) (fr_r (Fw_w h501793_o (fr_r h501793_o rfl (rr_217_1 hg_o)) (hU_o 218 _ rfl)) rfl (rr_217_1 hg_o)) (hU_o 218 _ rfl))) (fun v10 s9 h501802_o => ?_)
          exact gQ_ret h501802_o

theorem of_217 {W : Nat → Nat → Bool} {g s : gS} {a0 : Nat} {a1 : Int} (hg_o : RF g) (hU_o : ∀ a k, wff a k = true → W a k = true) (ea0_o : a0 = 217) (h_o : Fw W g s) : gQ (f_217 a0 a1 s) (fun r => Fw W g r.2.2.2) := by
  subst ea0_o
  unfold f_217
  refine gQ_v1 (A := Fw W g) (of_151 hg_o hU_o  h_o) (fun v2 s1_l h501803_o => ?_)
  refine gQ_v1 (A := Fw W g) (of_150 hg_o hU_o  h501803_o) (fun v4_l s3_l h501804_o => ?_)
  refine gQ_ite ?_ ?_
  · unfold fb_217_31
    dsimp only
    refine gQ_ite ?_ ?_
    · exact gQ_ret (Fw_w h501804_o rfl (hU_o 217 _ rfl))
    · refine gQ_v0 (A := Fw W g) (of_209 hg_o hU_o rfl (Fw_w h501804_o rfl (hU_o 217 _ rfl))) (fun s7 h501805_o => ?_)
      exact gQ_ret (Fw_w (Fw_w h501805_o (fr_r h501805_o rfl (rr_217_1 hg_o)) (hU_o 218 _ rfl)) (fr_r (Fw_w h501805_o (fr_r h501805_o rfl (rr_217_1 hg_o)) (hU_o 218 _ rfl)) rfl (rr_217_1 hg_o)) (hU_o 218 _ rfl))
  · unfold fb_217_31
    dsimp only
    refine gQ_ite ?_ ?_
    · exact gQ_ret (Fw_w h501804_o rfl (hU_o 217 _ rfl))
    · refine gQ_v0 (A := Fw W g) (of_209 hg_o hU_o rfl (Fw_w h501804_o rfl (hU_o 217 _ rfl))) (fun s7 h501806_o => ?_)
      exact gQ_ret (Fw_w (Fw_w h501806_o (fr_r h501806_o rfl (rr_217_1 hg_o)) (hU_o 218 _ rfl)) (fr_r (Fw_w h501806_o (fr_r h501806_o rfl (rr_217_1 hg_o)) (hU_o 218 _ rfl)) rfl (rr_217_1 hg_o)) (hU_o 218 _ rfl))

theorem of_218 {W : Nat → Nat → Bool} {g s : gS} {a0 : Nat} {a1 : Int} (hg_o : RF g) (hU_o : ∀ a k, wff a k = true → W a k = true) (ea0_o : a0 = 217) (h_o : Fw W g s) : gQ (f_218 a0 a1 s) (fun r => Fw W g r.2.2.2) := by
  subst ea0_o
  unfold f_218
  refine gQ_v1 (A := Fw W g) (of_150 hg_o hU_o  h_o) (fun v2 s1_l h501807_o => ?_)
  refine gQ_ite ?_ ?_
  · unfold fb_218_17
    dsimp only
    refine gQ_ite ?_ ?_
    · exact gQ_ret (Fw_w h501807_o rfl (hU_o 217 _ rfl))
    · refine gQ_v0 (A := Fw W g) (of_209 hg_o hU_o rfl (Fw_w h501807_o rfl (hU_o 217 _ rfl))) (fun s5 h501808_o => ?_)
      refine gQ_v1 (A := Fw W g) (of_202 hg_o hU_o rfl h501808_o) (fun v8 s7 h501809_o => ?_)
      exact gQ_ret h501809_o
  · unfold fb_218_17
    dsimp only
    refine gQ_ite ?_ ?_
    · exact gQ_ret (Fw_w h501807_o rfl (hU_o 217 _ rfl))
    · refine gQ_v0 (A := Fw W g) (of_209 hg_o hU_o rfl (Fw_w h501807_o rfl (hU_o 217 _ rfl))) (fun s5 h501810_o => ?_)
      refine gQ_v1 (A := Fw W g) (of_202 hg_o hU_o rfl h501810_o) (fun v8 s7 h501811_o => ?_)
      exact gQ_ret h501811_o

theorem of_259 {W : Nat → Nat → Bool} {g s : gS} {a0 : Nat} {a1 : Int} (hg_o : RF g) (hU_o : ∀ a k, wff a k = true → W a k = true) (ea0_o : a0 = 217) (h_o : Fw W g s) : gQ (f_259 a0 a1 s) (fun r => Fw W g r.2.2.2) := by
  subst ea0_o
  unfold f_259
  dsimp only
  exact gQ_ret (Fw_w (Fw_w h_o rfl (hU_o 217 _ rfl)) (fr_r (Fw_w h_o rfl (hU_o 217 _ rfl)) rfl (rr_217_1 hg_o)) (hU_o 218 _ rfl))

theorem of_260 {W : Nat → Nat → Bool} {g s : gS} {a0 : Nat} (hg_o : RF g) (hU_o : ∀ a k, wff a k = true → W a k = true) (ea0_o : a0 = 217) (h_o : Fw W g s) : gQ (f_260 a0 s) (fun r => Fw W g r.2.2.2) := by
  subst ea0_o
  unfold f_260
  dsimp only
  refine gQ_ite ?_ ?_
  · exact gQ_ret (Fw_w h_o rfl (hU_o 217 _ rfl))
  · refine gQ_loop (fun y_l => y_l.1 = 217 ∧ Fw W g (y_l.2.2)) (fun y_l hy_o => ?_) ⟨rfl, (Fw_w (Fw_w h_o rfl (hU_o 217 _ rfl)) rfl (hU_o 217 _ rfl))⟩
    obtain ⟨x501812_o, x501813_o, x501814_o⟩ := y_l
    obtain ⟨e501816_o, h501815_o⟩ := hy_o
    dsimp only at e501816_o h501815_o
    subst e501816_o
    show gQ (sb_260_26 217 x501813_o x501814_o) _
    unfold sb_260_26
    dsimp only
    refine gQ_ite ?_ ?_
    · refine gQ_chk2 (fun ha501817_o hb501818_o => ?_)
      refine gQ_chk2 (fun ha501819_o hb501820_o => ?_)
      exact gQ_ret ⟨rfl, (Fw_w h501815_o (fr_r h501815_o rfl (rr_217_1 hg_o)) (hU_o 218 _ rfl))⟩
    · refine gQ_map ?_
      exact gQ_ret h501815_o

theorem of_261 {W : Nat → Nat → Bool} {g s : gS} {a0 : Nat} (hg_o : RF g) (hU_o : ∀ a k, wff a k = true → W a k = true) (ea0_o : a0 = 217) (h_o : Fw W g s) : gQ (f_261 a0 s) (fun r => Fw W g r.2.2.2) := by
  subst ea0_o
  unfold f_261
  dsimp only
  refine gQ_loop (fun y_l => y_l.1 = 217 ∧ Fw W g (y_l.2.2)) (fun y_l hy_o => ?_) ⟨rfl, (Fw_w h_o rfl (hU_o 217 _ rfl))⟩
  obtain ⟨x501821_o, x501822_o, x501823_o⟩ := y_l
  obtain ⟨e501825_o, h501824_o⟩ := hy_o
  dsimp only at e501825_o h501824_o
  subst e501825_o
  show gQ (sb_261_7 217 x501822_o x501823_o) _
  unfold sb_261_7
  dsimp only
  refine gQ_ite ?_ ?_
  · refine gQ_chk2 (fun ha501826_o hb501827_o => ?_)
    refine gQ_chk2 (fun ha501828_o hb501829_o => ?_)
    exact gQ_ret ⟨rfl, (Fw_w h501824_o (fr_r h501824_o rfl (rr_217_2 hg_o)) (hU_o 219 _ rfl))⟩
  · refine gQ_map ?_
    refine gQ_bool ?_
    exact gQ_ret (Fw_w h501824_o rfl (hU_o 217 _ rfl))

theorem of_262 {W : Nat → Nat → Bool} {g s : gS} {a0 : Nat} (hg_o : RF g) (hU_o : ∀ a k, wff a k = true → W a k = true) (ea0_o : a0 = 217) (h_o : Fw W g s) : gQ (f_262 a0 s) (fun r => Fw W g r.2.2.2) := by
  subst ea0_o
  unfold f_262
  dsimp only
  refine gQ_ite ?_ ?_
  · exact gQ_ret (Fw_w h_o rfl (hU_o 217 _ rfl))
  · refine gQ_loop (fun y_l => y_l.1 = 217 ∧ Fw W g (y_l.2.2)) (fun y_l hy_o => ?_) ⟨rfl, (Fw_w h_o rfl (hU_o 217 _ rfl))⟩
    obtain ⟨x501830_o, x501831_o, x501832_o⟩ := y_l
    obtain ⟨e501834_o, h501833_o⟩ := hy_o
    dsimp only at e501834_o h501833_o
    subst e501834_o
    show gQ (sb_262_16 217 x501831_o x501832_o) _
    unfold sb_262_16
    dsimp only
    refine gQ_ite ?_ ?_
    · refine gQ_chk2 (fun ha501835_o hb501836_o => ?_)
      refine gQ_chk2 (fun ha501837_o hb501838_o => ?_)
      exact gQ_ret ⟨rfl, (Fw_w h501833_o (fr_r h501833_o rfl (rr_217_1 hg_o)) (hU_o 218 _ rfl))⟩
    · refine gQ_map ?_
      exact gQ_ret (Fw_w h501833_o rfl (hU_o 217 _ rfl))

end
section
/-! fault: the same place on both sides -/
def Fau (s : gS) : Prop := gI s 0 16 = gI s 217 12
def posn {α : Type} (x : Nat ⊕ α) : Int := match x with
  | Sum.inl q => (q : Int)
  | Sum.inr _ => -1
section Rg
variable {s t u z : gS} {p : gP} {a b c d e x y v w0 n : Int} {k : Nat} {W : Nat → Nat → Bool} {F : gS → Option gO}
theorem Fau_e (h : Fau s) (h1 : gI t 0 16 = gI s 0 16) (h2 : gI t 217 12 = gI s 217 12) : Fau t := h1.trans (h.trans h2.symm)
theorem Fau_fw (hn : 232 ≤ gn s) (h : Fau s) (hf : Fw W s t) (w1 : W 0 16 = false) (w2 : W 217 12 = false) : Fau t := Fau_e h (hf.2.2 0 16 (by omega) w1) (hf.2.2 217 12 (by omega) w2)
theorem Fau_w {A K : Nat} {v : Int} (h : Fau s) (h1 : ¬ (A = 0 ∧ K = 16)) (h2 : ¬ (A = 217 ∧ K = 12)) : Fau (gw s A K v) := by
  refine Fau_e h ?_ ?_
  · show (if 0 = A ∧ 16 = K then v else gI s 0 16) = _
    rw [if_neg (by omega)]
  · show (if 217 = A ∧ 12 = K then v else gI s 217 12) = _
    rw [if_neg (by omega)]
theorem Fau_231 {K : Nat} {v : Int} (h : Fau s) : Fau (gw s 231 K v) := Fau_w h (by omega) (by omega)
/-- the class's queries and acts -/
theorem fq (hJ : J p s) (h : Fau s) {z : Option gO} (hz : gQ z (fun r => Fw csq s r.2.2.2)) : gQ z (fun r => Fau r.2.2.2) := fun r hr => Fau_fw hJ.1.1 h (hz r hr) rfl rfl
theorem fC (hJ : J p s) (h : Fau s) {z : Option gO} (hz : gQ z (fun r => Fw WC s r.2.2.2)) : gQ z (fun r => Fau r.2.2.2) := fun r hr => Fau_fw hJ.1.1 h (hz r hr) rfl rfl
theorem wfi : ∀ a k, wff a k = true → wff a k = true := fun _ _ h_l => h_l
theorem fm (hJ : J p s) (h : Fau s) {z : Option gO} (hz : gQ z (fun r => Fw wff s r.2.2.2)) : gQ z (fun r => Fau r.2.2.2) := fun r hr => Fau_fw hJ.1.1 h (hz r hr) rfl rfl
theorem Jw (hJ : J p s) : Fw wff s s := Fw_rf hJ.1.1
theorem fi_96 (hJ : J p s) (hX : RX s) (h : Fau s) : gQ (f_96 0 x s) (fun r => Fau r.2.2.2) := by
  obtain ⟨c_l, n_l, P_l, hc_l, hm_l, ho, hp, hr, h8⟩ := Rx_data hX.2
  exact fC hJ h (fun r hr => (ca_96 hJ hX.1 h8 ho hp hc_l r hr).1)
theorem fi_97 (hJ : J p s) (hX : RX s) (h : Fau s) : gQ (f_97 0 x y s) (fun r => Fau r.2.2.2) := by
  obtain ⟨c_l, n_l, P_l, hc_l, hm_l, ho, hp, hr, h8⟩ := Rx_data hX.2
  exact fC hJ h (fun r hr => (ca_97 hJ hX.1 h8 ho hp hc_l r hr).1)
theorem fi_98 (hJ : J p s) (hX : RX s) (h : Fau s) : gQ (f_98 0 x s) (fun r => Fau r.2.2.2) := by
  obtain ⟨c_l, n_l, P_l, hc_l, hm_l, ho, hp, hr, h8⟩ := Rx_data hX.2
  exact fC hJ h (fun r hr => (ca_98 hJ hX.1 h8 ho hp hc_l r hr).1)
theorem fi_99 (hJ : J p s) (hX : RX s) (h : Fau s) : gQ (f_99 0 x y v s) (fun r => Fau r.2.2.2) := by
  obtain ⟨c_l, n_l, P_l, hc_l, hm_l, ho, hp, hr, h8⟩ := Rx_data hX.2
  exact fC hJ h (fun r hr => (ca_99 hJ hX.1 h8 ho hp hc_l r hr).1)
theorem fi_100 (hJ : J p s) (hX : RX s) (h : Fau s) : gQ (f_100 0 x y s) (fun r => Fau r.2.2.2) := by
  obtain ⟨c_l, n_l, P_l, hc_l, hm_l, ho, hp, hr, h8⟩ := Rx_data hX.2
  exact fC hJ h (fun r hr => (ca_100 hJ hX.1 h8 ho hp hc_l r hr).1)
theorem fi_101 (hJ : J p s) (hX : RX s) (h : Fau s) : gQ (f_101 0 x s) (fun r => Fau r.2.2.2) := by
  obtain ⟨c_l, n_l, P_l, hc_l, hm_l, ho, hp, hr, h8⟩ := Rx_data hX.2
  exact fC hJ h (fun r hr => (ca_101 hJ ho hp hc_l r hr).1)
theorem fi_102 (hJ : J p s) (hX : RX s) (h : Fau s) : gQ (f_102 0 x s) (fun r => Fau r.2.2.2) := by
  obtain ⟨c_l, n_l, P_l, hc_l, hm_l, ho, hp, hr, h8⟩ := Rx_data hX.2
  obtain ⟨T, hT_l⟩ := hr.2
  exact fC hJ h (fun r hr => (ca_102 hJ hT_l ho hp hc_l r hr).1)
theorem ft_129 (hJ : J p s) (hX : RX s) (h : Fau s) : gQ (f_129 0 x s) (fun r => Fau r.2.2.2) := by
  unfold f_129
  dsimp only
  rw [(rr_0_5 hJ.1.2.1).2]
  exact gQ_ret (Fau_w h (by omega) (by omega))
theorem ft_130 (hJ : J p s) (hX : RX s) (h : Fau s) : gQ (f_130 0 s) (fun r => Fau r.2.2.2) := by
  obtain ⟨c_l, n_l, P_l, hc_l, hm_l, ho, hp, hr, h8⟩ := Rx_data hX.2
  exact fC hJ h (fun r hr => (ct_130 hJ.1.2.1 hJ.1.1 hp hc_l r hr).1)
theorem ft_131 (hJ : J p s) (h : Fau s) : gQ (f_131 0 s) (fun r => Fau r.2.2.2) := by
  have hg : RF s := hJ.1.2.1
  obtain ⟨b1, b2, b3, b4, b5, b6⟩ := k0_b
  unfold f_131
  rw [(rr_0_10 hg).2, (rr_0_4 hg).2]
  refine gQ_v0 (A := fun z_l => BC 54 9 s z_l) (fun r hr => (gQ_T (s_1 hg ⟨by decide, b3⟩ ⟨by decide, b1⟩ (by decide)) r hr).2) (fun s1_l h1 => ?_)
  have hg1 : RF s1_l := RF_bc hg b3 h1
  rw [(rr_0_11 hg1).2, (rr_0_5 hg1).2]
  refine gQ_v0 (A := fun z_l => FC 60 15 s1_l z_l) (fun r hr => (gQ_T (s_22 hg1 ⟨by decide, b6⟩ ⟨by decide, b4⟩ (by decide)) r hr).2) (fun s3_l h3 => ?_)
  refine gQ_bool (gQ_ret ?_)
  dsimp only
  exact Fau_w (Fau_e h (ci_f h1 h3 (by omega) (by omega)) (ci_f h1 h3 (by omega) (by omega))) (by omega) (by omega)
theorem ft_132 (hJ : J p s) (h : Fau s) : gQ (f_132 0 s) (fun r => Fau r.2.2.2) := by
  have hg : RF s := hJ.1.2.1
  obtain ⟨b1, b2, b3, b4, b5, b6⟩ := k0_b
  unfold f_132
  refine gQ_ite (gQ_ret h) ?_
  rw [(rr_0_10 hg).2, (rr_0_4 hg).2]
  refine gQ_v0 (A := fun z_l => BC 9 54 s z_l) (fun r hr => (gQ_T (s_1 hg ⟨by decide, b1⟩ ⟨by decide, b3⟩ (by decide)) r hr).2) (fun s1_l h1 => ?_)
  have hg1 : RF s1_l := RF_bc hg b1 h1
  rw [(rr_0_11 hg1).2, (rr_0_5 hg1).2]
  refine gQ_v0 (A := fun z_l => FC 15 60 s1_l z_l) (fun r hr => (gQ_T (s_22 hg1 ⟨by decide, b4⟩ ⟨by decide, b6⟩ (by decide)) r hr).2) (fun s3_l h3 => ?_)
  refine gQ_ret ?_
  dsimp only
  exact Fau_w (Fau_e h (ci_f h1 h3 (by omega) (by omega)) (ci_f h1 h3 (by omega) (by omega))) (by omega) (by omega)
theorem ft_87 (hJ : J p s) (h : Fau s) : gQ (f_87 0 a b c d e s) (fun r => Fau r.2.2.2) := by
  have hg : RF s := hJ.1.2.1
  have r0 : gR s 0 0 = 1 := (rr_0_0 hg).2
  have hl : gI s 1 1 = p.2.1 := hJ.2.2.1
  have hb_l := J_f hJ (kd := 10) (a := 1) (i := 1) t10 rfl (fun z_l => by cases z_l) (x := 0) (y := 400) rfl
  by_cases c0 : 380 < p.2.1
  · unfold f_87
    rw [r0, hl, g32_eq (v := p.2.1 + 20) (by omega) (by omega), if_pos (by omega)]
    exact gQ_ret h
  · intro r hr
    obtain ⟨h1, h2, h3, h4⟩ := x_87 hg (l := p.2.1.toNat) (by omega) (by omega) r hr
    exact Fau_e h (h4 0 16 (by omega) (by omega)) (h4 217 12 (by omega) (by omega))
theorem ft_88 (hJ : J p s) (h : Fau s) : gQ (f_88 0 n s) (fun r => Fau r.2.2.2) := by
  have r0 : gR s 0 0 = 1 := (rr_0_0 hJ.1.2.1).2
  unfold f_88
  dsimp only
  rw [r0]
  exact gQ_ite (gQ_ret h) (gQ_ite (gQ_ret h) (gQ_ret (Fau_w h (by omega) (by omega))))
/-- book, the class -/
theorem b89w (hg : RF u) (hn : 232 ≤ gn u) : gQ (fb_89_54 0 v w0 0 u) (fun r => gI r.2.2.2 0 16 = w0) := by
  obtain ⟨b1, b2, b3, b4, b5, b6⟩ := k0_b
  unfold fb_89_54
  dsimp only
  have hg8 : RF (gw u 0 16 w0) := RF_sm hg rfl
  rw [(rr_0_0 hg8).2]
  have hg9 : RF (gw (gw u 0 16 w0) 1 1 0) := RF_sm hg rfl
  have hn9 : 232 ≤ gn (gw (gw u 0 16 w0) 1 1 0) := hn
  have i9_l : gI (gw (gw u 0 16 w0) 1 1 0) 0 16 = w0 := (rd_a rfl (by decide)).trans (rd_same rfl)
  generalize gw (gw u 0 16 w0) 1 1 0 = s9 at *
  refine gQ_ite (gQ_ret ((gI_nw hn9 (by decide)).trans i9_l)) ?_
  rw [(rr_0_4 hg9).2, (rr_0_8 hg9).2]
  refine gQ_ite ?_ (gQ_ret ((gI_nw hn9 (by decide)).trans i9_l))
  refine gQ_v0 (A := fun z_l => BC 9 36 s9 z_l) (fun r hr => (gQ_T (s_1 hg9 ⟨by decide, b1⟩ ⟨by decide, b2⟩ (by decide)) r hr).2) (fun s10 h10 => ?_)
  have hg10 : RF s10 := RF_bc hg9 b1 h10
  rw [(rr_0_4 hg10).2]
  have i10_l : gI s10 0 16 = w0 := ((h10.2 0 16).2 (fun z_l => by have := bkb z_l; omega)).trans i9_l
  have hg12 : RF (gw s10 9 10 (g32 (gI s10 9 10 + 1))) := RF_sm hg10 rfl
  have i12_l : gI (gw s10 9 10 (g32 (gI s10 9 10 + 1))) 0 16 = w0 := (rd_a rfl (by decide)).trans i10_l
  generalize gw s10 9 10 (g32 (gI s10 9 10 + 1)) = s12 at *
  rw [(rr_0_5 hg12).2, (rr_0_9 hg12).2]
  refine gQ_v0 (A := fun z_l => CC 15 42 s12 z_l) (fun r hr => (gQ_T (s_23 hg12 ⟨by decide, b4⟩ ⟨by decide, b5⟩ (by decide)) r hr).2) (fun s13 h13 => ?_)
  refine gQ_ret ?_
  dsimp only
  exact (rd_k (a := 0) (k := 16) rfl (by decide)).trans (((h13.2 0 16).2 (fun z_l => by have := blk (Or.inl z_l); omega)).trans i12_l)
theorem fb89 (hJ : J p s) (h : Rt s) : gQ (f_89 0 s) (fun r => gI r.2.2.2 0 16 = posn (rdb (gI s 222) p.2.1.toNat (gI s 218))) := by
  have hg : RF s := hJ.1.2.1
  have hl : gI s 1 1 = p.2.1 := hJ.2.2.1
  have hb_l := J_f hJ (kd := 10) (a := 1) (i := 1) t10 rfl (fun z_l => by cases z_l) (x := 0) (y := 400) rfl
  obtain ⟨b1, b2, b3, b4, b5, b6⟩ := k0_b
  unfold f_89
  rw [(rr_0_8 hg).2, (rr_0_4 hg).2]
  refine gQ_v0 (A := fun z_l => BC 36 9 s z_l) (fun r hr => (gQ_T (s_1 hg ⟨by decide, b2⟩ ⟨by decide, b1⟩ (by decide)) r hr).2) (fun s1_l h1 => ?_)
  have hg1 : RF s1_l := RF_bc hg b2 h1
  rw [(rr_0_9 hg1).2, (rr_0_5 hg1).2]
  refine gQ_v0 (A := fun z_l => CC 42 15 s1_l z_l) (fun r hr => (gQ_T (s_23 hg1 ⟨by decide, b5⟩ ⟨by decide, b4⟩ (by decide)) r hr).2) (fun s3_l h3 => ?_)
  have hg3 : RF s3_l := RF_sm hg1 h3.1.2.2
  rw [(rr_0_2 hg3).2, (rr_0_8 hg3).2, (rr_0_9 hg3).2]
  have f3_l : ∀ a_l k_l, ¬ (36 ≤ a_l ∧ a_l < 54) → gI s3_l a_l k_l = gI s a_l k_l := fun a_l k_l ha_l => cc_f h1 h3 (by omega) (by omega)
  have hV : ∀ k_l, Tx k_l → cv s3_l 36 42 k_l = gI s 218 k_l := fun k_l hk => (cc_c h1 h3 (by omega) (by omega) hk).trans (h.1 k_l hk).1.symm
  have hT_l : Tp s3_l (gI s 222) p.2.1.toNat := by
    refine ⟨(hg3 1 0 (by decide) (by decide +kernel)).trans (by decide +kernel), ?_, by omega, fun j_l => ?_⟩
    · rw [f3_l 1 1 (by omega), hl]
      omega
    · rw [f3_l 2 j_l (by omega)]
      exact h.2.1 j_l
  have hR : Rg (cv s3_l 36 42) := by
    have m_l : ∀ k_l x_l y_l, arn 218 k_l = some (x_l, y_l) → x_l ≤ gI s 218 k_l ∧ gI s 218 k_l ≤ y_l := fun k_l x_l y_l hk => J_ra hJ (a := 218) (k := k_l) (by decide) (by rw [k0_sp.2.2.2.1]; decide) hk
    refine ⟨?_, ?_, ?_, ?_⟩
    · rw [hV 3 Tx_n.2.1]
      exact m_l 3 0 8 rfl
    · rw [hV 4 Tx_n.2.2.1]
      exact m_l 4 0 6 rfl
    · rw [hV 5 Tx_n.2.2.2.1]
      exact m_l 5 0 6 rfl
    · rw [hV 6 Tx_n.2.2.2.2]
      exact m_l 6 0 6 rfl
  have hS_l := rdb_S (L := gI s 222) (e := p.2.1.toNat) (S := Tx) Tx_n.2.1 Tx_n.2.2.1 Tx_n.2.2.2.1 Tx_n.2.2.2.2 hV
  refine gQ_w1 (A := fun v_l u_l => Df s3_l u_l ∧ ((v_l = 0 ∧ ∃ q_l : Nat, rdb (gI s 222) p.2.1.toNat (cv s3_l 36 42) = Sum.inl q_l ∧ gI u_l 1 3 = (q_l : Int)) ∨ (v_l = 1 ∧ ∃ W_l, rdb (gI s 222) p.2.1.toNat (cv s3_l 36 42) = Sum.inr W_l))) (fun r hr => ?_) (fun v_l u_l hu => ?_)
  · obtain ⟨x1_l, x2_l, x3⟩ := gQ_T (c_11 hT_l (Rd_RF hg3) hR) r hr
    refine ⟨x2_l, ?_⟩
    rcases x3 with ⟨q_l, y1, y2, y3⟩ | ⟨W_l, y1, y2, y3⟩
    · exact Or.inl ⟨y2, q_l, y1, y3⟩
    · exact Or.inr ⟨y2, W_l, y1⟩
  obtain ⟨hD, hv⟩ := hu
  have hgu : RF u_l := fun a_l k_l ha_l hz => (hD.1.2.2 a_l k_l).trans (hg3 a_l k_l ha_l hz)
  have hnu : 232 ≤ gn u_l := by
    rw [hD.1.1]
    show 232 ≤ s3_l.1
    rw [h3.1.1, h1.1.1]
    exact hJ.1.1
  rcases hv with ⟨v0_l, q_l, y1, y3⟩ | ⟨v1_l, W_l, y1⟩
  · rw [if_pos v0_l, (rr_0_0 hgu).2, y3]
    refine gQ_mo (b89w hgu hnu) (fun r hr => hr.trans ?_)
    rcases hS_l with ⟨q', z1, z2⟩ | ⟨W_l, W', z1, z2, z3⟩
    · rw [z1] at y1
      cases y1
      rw [z2]
      rfl
    · rw [z1] at y1
      cases y1
  · rw [if_neg (by omega)]
    refine gQ_mo (b89w hgu hnu) (fun r hr => hr.trans ?_)
    rcases hS_l with ⟨q', z1, z2⟩ | ⟨W1_l, W', z1, z2, z3⟩
    · rw [z1] at y1
      cases y1
    · rw [z2]
      rfl
/-- book, the model -/
theorem fb43 (hr : gR u 217 1 = 218) (h4 : gR u 217 4 = 220) : gQ (fb_187_43 217 w0 217 u) (fun r => gI r.2.2.2 217 12 = gI u 217 12 ∧ gI r.2.2.2 0 16 = gI u 0 16) := by
  have e1_l : gI (gw u 217 0 w0) 217 12 = gI u 217 12 := rd_k (a := 217) (k := 12) rfl (by decide)
  have e2_l : gI (gw u 217 0 w0) 0 16 = gI u 0 16 := rd_a rfl (by decide)
  have r1_l : gR (gw u 217 0 w0) 217 1 = 218 := hr
  have r4 : gR (gw u 217 0 w0) 217 4 = 220 := h4
  unfold fb_187_43
  dsimp only
  generalize gw u 217 0 w0 = s7 at *
  refine gQ_ite ?_ ?_
  · refine gQ_v0 (A := fun z_l => ∀ a k, ¬ (a = 218 ∧ k < 340) → gI z_l a k = gI s7 a k) (fun r hr => (x_186 r1_l r4 r hr).2.2) (fun s8 h8 => ?_)
    exact gQ_ret ⟨(h8 217 12 (by omega)).trans e1_l, (h8 0 16 (by omega)).trans e2_l⟩
  · rw [r1_l]
    refine gQ_ret ⟨?_, ?_⟩
    · dsimp only
      exact (rd_k (a := 217) (k := 12) rfl (by decide)).trans ((rd_a rfl (by decide)).trans e1_l)
    · dsimp only
      exact (rd_a rfl (by decide)).trans ((rd_a rfl (by decide)).trans e2_l)
theorem fm187 (hp : -1 ≤ p.1 ∧ p.1 ≤ 0) (hJ : J p s) : gQ (f_187 217 s) (fun r => gI r.2.2.2 217 12 = posn (rdb (gI s 222) p.2.2.1.toNat (gI s 218)) ∧ gI r.2.2.2 0 16 = gI s 0 16) := by
  have hg : RF s := hJ.1.2.1
  have hl : gI s 217 8 = p.2.2.1 := hJ.2.2.2.1
  have hb8 := J_f hJ (kd := 12) (a := 217) (i := 8) t217 rfl (fun z_l => by cases z_l) (x := 0) (y := 400) rfl
  have hL : ∀ k_l, 0 ≤ gI s 222 k_l ∧ gI s 222 k_l ≤ 255 := fun k_l => J_ra hJ (a := 222) (k := k_l) (by decide) (by rw [k0_sp.2.1]; decide) rfl
  have m_l : ∀ k_l x_l y_l, arn 218 k_l = some (x_l, y_l) → x_l ≤ gI s 218 k_l ∧ gI s 218 k_l ≤ y_l := fun k_l x_l y_l hk => J_ra hJ (a := 218) (k := k_l) (by decide) (by rw [k0_sp.2.2.2.1]; decide) hk
  have hR : Rg (gI s 218) := ⟨m_l 3 0 8 rfl, m_l 4 0 6 rfl, m_l 5 0 6 rfl, m_l 6 0 6 rfl⟩
  unfold f_187
  refine gQ_v0 (A := fun z_l => (Sm s z_l ∧ Asd z_l ∧ ∀ a_l k_l, a_l ≠ 220 → gI z_l a_l k_l = gI s a_l k_l) ∧ J p z_l) (fun r hr => ⟨x_185 (rr_217_1 hg).2 (rr_217_4 hg).2 r hr, (gQ_T (d_185 hp hJ t217) r hr).2⟩) (fun s1_l h1 => ?_)
  obtain ⟨⟨x1_l, x2_l, x3⟩, j1⟩ := h1
  refine gQ_v0 (A := fun z_l => (Sm s1_l z_l ∧ (gI z_l 217 12 = -1 ∧ gI z_l 217 9 = -1 ∧ gI z_l 217 10 = gI s 217 8 ∧ gI z_l 217 11 = 0) ∧ ∀ a_l k_l, ¬ (a_l = 217 ∧ 8 ≤ k_l) → gI z_l a_l k_l = gI s1_l a_l k_l) ∧ J (p.1, p.2.1, 0, p.2.2.2.1, p.2.2.2.2) z_l) (fun r hr => ⟨?_, (gQ_T (d_183 hp j1 t217) r hr).2⟩) (fun s3_l h3 => ?_)
  · unfold f_183 at hr
    dsimp only at hr
    cases hr
    dsimp only
    refine ⟨⟨rfl, rfl, rfl⟩, ⟨?_, ?_, ?_, ?_⟩, fun a_l k_l hz => ?_⟩
    · simp only [rdw]
      rfl
    · simp only [rdw]
      rfl
    · simp only [rdw]
      exact x3 217 8 (by decide)
    · simp only [rdw]
      rfl
    · simp only [rdw]
      rw [if_neg (by omega), if_neg (by omega), if_neg (by omega), if_neg (by omega), if_neg (by omega), if_neg (by omega)]
  obtain ⟨⟨y1, ⟨y2, y3, y4, y5⟩, y6⟩, j3_l⟩ := h3
  have hg3 : RF s3_l := j3_l.1.2.1
  have i3_l : ∀ a_l k_l, a_l ≠ 220 → ¬ (a_l = 217 ∧ 8 ≤ k_l) → gI s3_l a_l k_l = gI s a_l k_l := fun a_l k_l ha_l hz => (y6 a_l k_l hz).trans (x3 a_l k_l ha_l)
  have g18 : gI s3_l 218 = gI s 218 := funext fun k_l => i3_l 218 k_l (by decide) (by omega)
  have hM_l : Mp s3_l (gI s 222) p.2.2.1.toNat := by
    refine ⟨⟨?_, by omega⟩, ⟨(rr_217_1 hg3).2, (rr_217_7 hg3).2⟩, fun k_l hk => ?_⟩
    · rw [y4, hl]
      omega
    · unfold f_168
      rw [if_pos y3, (rr_217_7 hg3).2, Int.toNat_natCast]
      unfold gchk
      rw [if_pos (by omega), i3_l 222 k_l (by decide) (by omega)]
  have hT_l := m_184 hL hM_l y5 y2 y3 j3_l (by rw [g18]; exact hR)
  rw [g18] at hT_l
  refine gQ_w1 (A := fun _ z_l => Mf s3_l z_l ∧ gI z_l 217 12 = posn (rdb (gI s 222) p.2.2.1.toNat (gI s 218))) (fun r hr => ?_) (fun v6 s5 h5 => ?_)
  · obtain ⟨-, q1_l, q2_l⟩ := gQ_T hT_l r hr
    refine ⟨q1_l, ?_⟩
    rcases q2_l with ⟨q_l, z1, z2⟩ | ⟨W_l, z1, z2, -⟩
    · rw [z1, z2]
      rfl
    · rw [z1, z2]
      rfl
  obtain ⟨f5_l, h12⟩ := h5
  have r1_l : gR s5 217 1 = 218 := (f5_l.1.2.2 217 1).trans (rr_217_1 hg3).2
  have r4 : gR s5 217 4 = 220 := (f5_l.1.2.2 217 4).trans (rr_217_4 hg3).2
  have e16_l : gI s5 0 16 = gI s 0 16 := (f5_l.2 0 16 (by omega) (by omega)).trans (i3_l 0 16 (by decide) (by omega))
  have fin_l : ∀ w0_l, gQ (fb_187_43 217 w0_l 217 s5) (fun r => gI r.2.2.2 217 12 = posn (rdb (gI s 222) p.2.2.1.toNat (gI s 218)) ∧ gI r.2.2.2 0 16 = gI s 0 16) := fun w0_l => gQ_mo (fb43 r1_l r4) (fun r hr => ⟨hr.1.trans h12, hr.2.trans e16_l⟩)
  exact gQ_ite (gQ_ite (fin_l _) (fin_l _)) (fin_l _)
/-- law, the class -/
theorem b90w {B : Nat} (h0 : gR u 0 0 = 1) (hn : 232 ≤ gn u) : gQ (fb_90_24 0 B w0 0 u) (fun r => gI r.2.2.2 0 16 = w0) := by
  unfold fb_90_24
  dsimp only
  rw [show gR (gw u 0 16 w0) 0 0 = 1 from h0]
  have hn4 : 232 ≤ gn (gw (gw u 0 16 w0) 1 1 0) := hn
  have i4_l : gI (gw (gw u 0 16 w0) 1 1 0) 0 16 = w0 := (rd_a rfl (by decide)).trans (rd_same rfl)
  generalize gw (gw u 0 16 w0) 1 1 0 = s4 at *
  refine gQ_ite (gQ_ret ((gI_nw hn4 (by decide)).trans i4_l)) (gQ_ite gQ_none (gQ_ret ?_))
  dsimp only
  exact (rd_k (a := 0) (k := 16) rfl (by decide)).trans i4_l
theorem fb90 (hJ : J p s) (h : Rt s) : gQ (f_90 0 s) (fun r => gI r.2.2.2 0 16 = posn (lwp (gI s 222) p.2.1.toNat)) := by
  have hg : RF s := hJ.1.2.1
  have hn : 232 ≤ gn s := hJ.1.1
  unfold f_90
  rw [(rr_0_3 hg).2]
  refine gQ_wr (A := fun v_l u_l => Fw WR s u_l ∧ ((v_l = 0 ∧ gI u_l 1 3 = posn (lwp (gI s 222) p.2.1.toNat)) ∨ (v_l ≠ 0 ∧ (-1 : Int) = posn (lwp (gI s 222) p.2.1.toNat)))) (fun r hr => ?_) (fun v_l u_l hu => ?_)
  · obtain ⟨x1_l, x2_l⟩ := c_44 (Tp_R hJ h) ⟨(rr_7_0 hg).2, (rr_7_1 hg).2⟩ hn r hr
    refine ⟨o_44 hg uq rfl (Fw_rf hn) r hr, ?_⟩
    rcases x2_l with ⟨y1, q_l, y2, y3⟩ | ⟨y1, y2, y_l, k_l, y3, y4⟩
    · refine Or.inl ⟨y1, ?_⟩
      rw [y2, y3]
      rfl
    · refine Or.inr ⟨y1, ?_⟩
      rw [y3]
      rfl
  obtain ⟨hF, hv⟩ := hu
  have r0 : gR u_l 0 0 = 1 := fr_r hF rfl (rr_0_0 hg)
  have hnu : 232 ≤ gn u_l := Nat.le_trans hn hF.1.2.1
  rcases hv with ⟨v0_l, hq⟩ | ⟨v1_l, hq⟩
  · rw [if_pos v0_l, r0]
    exact gQ_mo (b90w r0 hnu) (fun r hr => hr.trans hq)
  · rw [if_neg v1_l]
    exact gQ_mo (b90w r0 hnu) (fun r hr => hr.trans hq)
/-- law, the model -/
theorem fm195 {L : Nat → Int} {E : Nat} (hJ : J p u) (hL : gI u 222 = L) (he : gI u 217 8 = (E : Int)) : gQ (f_195 217 u) (fun q => gI q.2.2.2 217 12 = posn (lwp L E) ∧ gI q.2.2.2 0 16 = gI u 0 16) := by
  have hg : RF u := hJ.1.2.1
  have hb8 := J_f hJ (kd := 12) (a := 217) (i := 8) t217 rfl (fun z_l => by cases z_l) (x := 0) (y := 400) rfl
  have hB_l : ∀ k_l, 0 ≤ L k_l ∧ L k_l ≤ 255 := fun k_l => by
    rw [← hL]
    exact J_ra hJ (a := 222) (k := k_l) (by decide) (by rw [k0_sp.2.1]; decide) rfl
  unfold f_195
  refine gQ_v0 (A := fun z_l => Sm u z_l ∧ (gI z_l 217 12 = -1 ∧ gI z_l 217 9 = -1 ∧ gI z_l 217 10 = gI u 217 8 ∧ gI z_l 217 11 = 0 ∧ gI z_l 217 13 = 0) ∧ ∀ a_l k_l, ¬ (a_l = 217 ∧ 8 ≤ k_l) → gI z_l a_l k_l = gI u a_l k_l) (fun r_l hr => ?_) (fun s1_l h1 => ?_)
  · unfold f_183 at hr
    dsimp only at hr
    cases hr
    dsimp only
    refine ⟨⟨rfl, rfl, rfl⟩, ⟨?_, ?_, ?_, ?_, ?_⟩, fun a_l k_l hz => ?_⟩
    · simp only [rdw]
      rfl
    · simp only [rdw]
      rfl
    · simp only [rdw]
      rfl
    · simp only [rdw]
      rfl
    · simp only [rdw]
      rfl
    · simp only [rdw]
      rw [if_neg (by omega), if_neg (by omega), if_neg (by omega), if_neg (by omega), if_neg (by omega), if_neg (by omega)]
  obtain ⟨y1, ⟨y2, y3, y4, y5, y6⟩, y7⟩ := h1
  have hg1 : RF s1_l := RF_sm hg y1.2.2
  have hM_l : Mp s1_l L E := by
    refine ⟨⟨y4.trans he, by omega⟩, ⟨(rr_217_1 hg1).2, (rr_217_7 hg1).2⟩, fun k_l hk => ?_⟩
    unfold f_168
    rw [if_pos y3, (rr_217_7 hg1).2, Int.toNat_natCast]
    unfold gchk
    rw [if_pos (by omega), y7 222 k_l (by omega), hL]
  have hb_l := sk_b (L := L) (e := E) (a := 0) (Nat.zero_le E)
  have hk : Mk s1_l L E (sk L E 0) (fun i_l => if i_l < 7 then gI s1_l 223 i_l else if i_l = 7 then gI s1_l 217 15 else gI s1_l 217 16) := by
    refine ⟨⟨⟨hM_l, y2, 0, y5, Nat.zero_le E, rfl⟩, hb_l.2, by omega, hB_l⟩, (rr_217_14 hg1).2, fun i_l hi_l => ?_, rfl, rfl⟩
    dsimp only
    rw [if_pos hi_l]
  refine gQ_w1 (A := fun v_l z_l => Fl7 s1_l z_l ∧ gI z_l 217 12 = posn (lwp L E)) (fun r_l hr => ?_) (fun v4_l s3_l h3 => ?_)
  · obtain ⟨x1_l, x2_l⟩ := j184 hk y6 r_l hr
    refine ⟨x1_l, ?_⟩
    rcases x2_l with ⟨q, q1_l, q2_l⟩ | ⟨y_l, k_l, q1_l, q2_l, -⟩
    · rw [q1_l, q2_l]
      rfl
    · rw [q1_l, q2_l]
      rfl
  obtain ⟨hF3, h12⟩ := h3
  have b16_l : gI s3_l 0 16 = gI u 0 16 := (hF3.2 0 16 (by omega)).trans (y7 0 16 (by omega))
  have r3 : gR s3_l 217 1 = 218 := (hF3.1.2.2 217 1).trans (rr_217_1 hg1).2
  have fin_l : ∀ w0_l, gQ (fb_195_24 217 v4_l w0_l 217 s3_l) (fun q => gI q.2.2.2 217 12 = posn (lwp L E) ∧ gI q.2.2.2 0 16 = gI u 0 16) := fun w0_l => by
    have r5_l : gR (gw s3_l 217 0 w0_l) 217 1 = 218 := r3
    have e5_l : gI (gw s3_l 217 0 w0_l) 217 12 = posn (lwp L E) := (rd_k (a := 217) (k := 12) rfl (by decide)).trans h12
    have b5 : gI (gw s3_l 217 0 w0_l) 0 16 = gI u 0 16 := (rd_a rfl (by decide)).trans b16_l
    unfold fb_195_24
    dsimp only
    generalize gw s3_l 217 0 w0_l = s5 at *
    refine gQ_ite (gQ_ret ⟨e5_l, b5⟩) ?_
    have r6 : gR (gw s5 218 1 v4_l) 217 1 = 218 := r5_l
    rw [r5_l, r6]
    refine gQ_loop (fun y_l => y_l.1 = 217 ∧ y_l.2.2.2.2.2.2 = s5.2.2.2 ∧ gI y_l.2.2.2 217 12 = posn (lwp L E) ∧ gI y_l.2.2.2 0 16 = gI u 0 16) (fun y_l hy => ?_) ⟨rfl, rfl, ?_, ?_⟩
    · obtain ⟨z0, z1, x2_l, t_l⟩ := y_l
      obtain ⟨p0_l, p2_l, p3_l, p4_l⟩ := hy
      dsimp only at p0_l p2_l p3_l p4_l
      subst p0_l
      have rt : gR t_l 217 1 = 218 := by
        show t_l.2.2.2 217 1 = 218
        rw [p2_l]
        exact r5_l
      show gQ (sb_195_55 217 z1 x2_l t_l) _
      unfold sb_195_55
      dsimp only
      rw [rt]
      refine gQ_ite (gQ_chk (gQ_chk (gQ_ret ⟨rfl, p2_l, (rd_a rfl (by decide)).trans p3_l, (rd_a rfl (by decide)).trans p4_l⟩))) (gQ_map (gQ_ret ⟨(rd_k (a := 217) (k := 12) rfl (by decide)).trans p3_l, (rd_a rfl (by decide)).trans p4_l⟩))
    · exact (rd_a (a := 217) rfl (by decide)).trans ((rd_a (a := 217) rfl (by decide)).trans e5_l)
    · exact (rd_a (a := 0) rfl (by decide)).trans ((rd_a (a := 0) rfl (by decide)).trans b5)
  exact gQ_ite (fin_l _) (fin_l _)
/-- book and law: class, then model -/
theorem fz_276 (hl : p.2.1 = p.2.2.1) (hJ : J p s) (h : Rt s) : gQ (f_276 0 231 s) (fun r => ∀ p', J p' r.2.2.2 → (-1 ≤ p'.1 ∧ p'.1 ≤ 0) → gQ (f_187 217 r.2.2.2) (fun q => Fau q.2.2.2)) := by
  have hl8 : gI s 217 8 = p.2.2.1 := hJ.2.2.2.1
  have fin_l : ∀ u_l, (gI u_l 0 16 = posn (rdb (gI s 222) p.2.1.toNat (gI s 218))) → (∀ a_l k_l, 217 ≤ a_l → a_l < 231 → gI u_l a_l k_l = gI s a_l k_l) → ∀ p', J p' u_l → (-1 ≤ p'.1 ∧ p'.1 ≤ 0) → gQ (f_187 217 u_l) (fun q => Fau q.2.2.2) := fun u_l h16_l hu p' hj hp q hq => by
    obtain ⟨q1_l, q2_l⟩ := fm187 hp hj q hq
    have e8 : p'.2.2.1 = p.2.1 := (hj.2.2.2.1).symm.trans ((hu 217 8 (by decide) (by decide)).trans (hl8.trans hl.symm))
    rw [show gI u_l 222 = gI s 222 from funext fun k_l => hu 222 k_l (by decide) (by decide), show gI u_l 218 = gI s 218 from funext fun k_l => hu 218 k_l (by decide) (by decide), e8] at q1_l
    exact (q2_l.trans h16_l).trans q1_l.symm
  have hb_l : gQ (f_89 0 s) (fun r => gI r.2.2.2 0 16 = posn (rdb (gI s 222) p.2.1.toNat (gI s 218)) ∧ ∀ a_l k_l, 217 ≤ a_l → a_l < 231 → gI r.2.2.2 a_l k_l = gI s a_l k_l) := fun r hr => ⟨fb89 hJ h r hr, fun a_l k_l h1 h2 => (rb_89 hJ h r hr).1 a_l k_l (by omega) (by omega) (by omega) (by omega) (by omega)⟩
  unfold f_276
  refine gQ_d1 hb_l (fun r hr c_l => ?_) (fun r hr c_l => ?_)
  · obtain ⟨x1_l, x2_l⟩ := hr
    refine gQ_chk (gQ_ret (fin_l _ ((rd_a rfl (by decide)).trans x1_l) (fun a_l k_l h1 h2 => (rd_a rfl (by omega)).trans (x2_l a_l k_l h1 h2))))
  · obtain ⟨x1_l, x2_l⟩ := hr
    exact gQ_ite (gQ_ret (fin_l _ x1_l x2_l)) (gQ_ite (gQ_ret (fin_l _ x1_l x2_l)) gQ_none)
theorem fz_277 (hl : p.2.1 = p.2.2.1) (hJ : J p s) (h : Rt s) : gQ (f_277 0 231 s) (fun r => ∀ p', J p' r.2.2.2 → gQ (f_195 217 r.2.2.2) (fun q => Fau q.2.2.2)) := by
  have hl8 : gI s 217 8 = p.2.2.1 := hJ.2.2.2.1
  have hb8 := J_f hJ (kd := 12) (a := 217) (i := 8) t217 rfl (fun z_l => by cases z_l) (x := 0) (y := 400) rfl
  have fin_l : ∀ u_l, (gI u_l 0 16 = posn (lwp (gI s 222) p.2.1.toNat)) → E9 s u_l → ∀ p', J p' u_l → gQ (f_195 217 u_l) (fun q => Fau q.2.2.2) := fun u_l h16_l hu p' hj q hq => by
    obtain ⟨q1_l, q2_l⟩ := fm195 (L := gI s 222) (E := p.2.1.toNat) hj (funext fun k_l => hu 222 k_l (by decide) (by decide)) (by rw [hu 217 8 (by decide) (by decide), hl8, ← hl]; omega) q hq
    exact (q2_l.trans h16_l).trans q1_l.symm
  have hb_l : gQ (f_90 0 s) (fun r => gI r.2.2.2 0 16 = posn (lwp (gI s 222) p.2.1.toNat) ∧ E9 s r.2.2.2) := fun r hr => ⟨fb90 hJ h r hr, (c_90 hJ h r hr).1⟩
  unfold f_277
  refine gQ_d1 hb_l (fun r hr c_l => ?_) (fun r hr c_l => ?_)
  · obtain ⟨x1_l, x2_l⟩ := hr
    exact gQ_chk (gQ_ret (fin_l _ ((rd_a rfl (by decide)).trans x1_l) (fun a_l k_l h1 h2 => (rd_a rfl (by omega)).trans (x2_l a_l k_l h1 h2))))
  · obtain ⟨x1_l, x2_l⟩ := hr
    exact gQ_ite (gQ_ret (fin_l _ x1_l x2_l)) gQ_none
/-- fault itself -/
theorem cd_91 (hJ : J p s) (h : Fau s) : gQ (f_91 0 s) (fun r => ∀ p', J p' r.2.2.2 → gQ (f_196 217 r.2.2.2) (fun q => q.2.1 = r.2.1)) := by
  unfold f_91
  refine gQ_ret (fun p' hj => ?_)
  unfold f_196
  dsimp only
  refine gQ_ret ?_
  dsimp only
  exact (rd_k (a := 217) (k := 12) rfl (by decide)).trans h.symm
theorem xc_91 (hJ : J p s) (hX : RX s) (h : Fau s) : gQ (f_91 0 s) (fun r => Xc1 (f_196 217) r.2.1 r.2.2.2) := gQ_mo (cd_91 hJ h) (fun r hr p' hj _ => hr p' hj)
theorem Fau_start : Fau lw_s0 := by
  unfold Fau
  decide +kernel
end Rg

end
