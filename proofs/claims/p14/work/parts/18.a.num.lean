def gc32 (v : Int) : Prop := -2147483648 ≤ v ∧ v < 2147483648
def gc64 (v : Int) : Prop := -9223372036854775808 ≤ v ∧ v < 9223372036854775808
def g32 (v : Int) : Int := Int.bmod v 4294967296
def g64 (v : Int) : Int := Int.bmod v 18446744073709551616
def eI (v : Int) : Nat := (Int32.ofInt v).toBitVec.toNat
def eJ (v : Int) : Nat := (Int64.ofInt v).toBitVec.toNat
def gand (x y : Int) : Int := (Int32.ofInt x &&& Int32.ofInt y).toInt
def gor (x y : Int) : Int := (Int32.ofInt x ||| Int32.ofInt y).toInt
def gxor (x y : Int) : Int := (Int32.ofInt x ^^^ Int32.ofInt y).toInt
def gshl (x y : Int) : Int := (Int32.ofInt x <<< (Int32.ofInt y &&& 31)).toInt
def gshr (x y : Int) : Int := (Int32.ofInt x >>> (Int32.ofInt y &&& 31)).toInt
def gushr (x y : Int) : Int := (((Int32.ofInt x).toUInt32 >>> ((Int32.ofInt y).toUInt32 &&& Int32.toUInt32 31)).toInt32).toInt
def gdiv (x y : Int) : Int := (Int32.ofInt x / Int32.ofInt y).toInt
def grem (x y : Int) : Int := (Int32.ofInt x - Int32.ofInt x / Int32.ofInt y * Int32.ofInt y).toInt
def gi2c (x : Int) : Int := (((Int32.ofInt x).toUInt32 % 65536).toInt32).toInt
def gland (x y : Int) : Int := (Int64.ofInt x &&& Int64.ofInt y).toInt
def glor (x y : Int) : Int := (Int64.ofInt x ||| Int64.ofInt y).toInt
def gldiv (x y : Int) : Int := (Int64.ofInt x / Int64.ofInt y).toInt
def glshl (x y : Int) : Int := (Int64.ofInt x <<< ((Int32.ofInt y).toInt64 &&& 63)).toInt
def glshr (x y : Int) : Int := (Int64.ofInt x >>> ((Int32.ofInt y).toInt64 &&& 63)).toInt
def glushr (x y : Int) : Int := (((Int64.ofInt x).toUInt64 >>> ((Int32.ofInt y).toInt64.toUInt64 &&& Int64.toUInt64 63)).toInt64).toInt
def gcmp (x y : Int) : Int := if y < x then 1 else if x = y then 0 else -1
theorem gc32_t (z : Int32) : gc32 z.toInt := ⟨Int32.le_toInt z, Int32.toInt_lt z⟩
theorem gc64_t (z : Int64) : gc64 z.toInt := ⟨Int64.le_toInt z, Int64.toInt_lt z⟩
theorem gc32_b (v : Int) : gc32 (g32 v) := by
  have h := gc32_t (Int32.ofInt v)
  rw [Int32.toInt_ofInt] at h
  exact h
theorem gc64_b (v : Int) : gc64 (g64 v) := by
  have h := gc64_t (Int64.ofInt v)
  rw [Int64.toInt_ofInt] at h
  exact h
theorem gti {v : Int} (h : gc32 v) : (Int32.ofInt v).toInt = v := Int32.toInt_ofInt_of_le h.1 h.2
theorem gtl {v : Int} (h : gc64 v) : (Int64.ofInt v).toInt = v := Int64.toInt_ofInt_of_le h.1 h.2
theorem g32_id {v : Int} (h : gc32 v) : g32 v = v := by
  have h2 := gti h
  rw [Int32.toInt_ofInt] at h2
  exact h2
theorem g64_id {v : Int} (h : gc64 v) : g64 v = v := by
  have h2 := gtl h
  rw [Int64.toInt_ofInt] at h2
  exact h2
theorem g32_of (v : Int) : (Int32.ofInt v).toInt = g32 v := Int32.toInt_ofInt
theorem g64_of (v : Int) : (Int64.ofInt v).toInt = g64 v := Int64.toInt_ofInt
theorem gnI (v : Int) : nI (eI v) = Int32.ofInt v := es_nb _
theorem glN (v : Int) : lN (eJ v) = Int64.ofInt v := es_lb _
theorem geI (z : Int32) : eI z.toInt = z.toBitVec.toNat := by
  unfold eI
  rw [Int32.ofInt_toInt]
theorem geJ (z : Int64) : eJ z.toInt = z.toBitVec.toNat := by
  unfold eJ
  rw [Int64.ofInt_toInt]
theorem ges (z : Int32) : es_c z = (0, eI z.toInt) := by rw [es_c_eq, geI]
theorem gel (z : Int64) : es_lc z = (2, eJ z.toInt) := by rw [es_lc_eq, geJ]
theorem gbn (f : Int32 → Int32 → Int32) (F : es_F) (x y : Int) : es_bin f F (0, eI x) (0, eI y) = (0, eI (f (Int32.ofInt x) (Int32.ofInt y)).toInt) := by
  show es_c (f (nI (eI x)) (nI (eI y))) = _
  rw [gnI, gnI, ges]
theorem gun (f : Int32 → Int32) (F : es_F) (x : Int) : es_un f F (0, eI x) = (0, eI (f (Int32.ofInt x)).toInt) := by
  show es_c (f (nI (eI x))) = _
  rw [gnI, ges]
theorem glb (f : Int64 → Int64 → Int64) (x y : Int) : es_lbin f (2, eJ x) (2, eJ y) = (2, eJ (f (Int64.ofInt x) (Int64.ofInt y)).toInt) := by
  show es_lc (f (lN (eJ x)) (lN (eJ y))) = _
  rw [glN, glN, gel]
theorem g32_add (x y : Int) : (Int32.ofInt x + Int32.ofInt y).toInt = g32 (x + y) := by
  rw [← Int32.ofInt_add, g32_of]
theorem g32_sub (x y : Int) : (Int32.ofInt x - Int32.ofInt y).toInt = g32 (x - y) := by
  rw [← Int32.ofInt_sub, g32_of]
theorem g32_mul (x y : Int) : (Int32.ofInt x * Int32.ofInt y).toInt = g32 (x * y) := by
  rw [← Int32.ofInt_mul, g32_of]
theorem g32_neg (x : Int) : (-Int32.ofInt x).toInt = g32 (-x) := by
  rw [← Int32.ofInt_neg, g32_of]
theorem g64_add (x y : Int) : (Int64.ofInt x + Int64.ofInt y).toInt = g64 (x + y) := by
  rw [← Int64.ofInt_add, g64_of]
theorem g64_sub (x y : Int) : (Int64.ofInt x - Int64.ofInt y).toInt = g64 (x - y) := by
  rw [← Int64.ofInt_sub, g64_of]
theorem g64_mul (x y : Int) : (Int64.ofInt x * Int64.ofInt y).toInt = g64 (x * y) := by
  rw [← Int64.ofInt_mul, g64_of]
theorem gi2l {x : Int} (h : gc32 x) : (Int32.ofInt x).toInt64.toInt = x := by rw [Int32.toInt_toInt64, gti h]
theorem gc6432 {x : Int} (h : gc32 x) : gc64 x := by
  unfold gc32 at h
  unfold gc64
  omega
theorem gl2i {x : Int} (h : gc64 x) : (Int64.ofInt x).toInt32.toInt = g32 x := by
  rw [Int64.toInt_toInt32, gtl h]
  rfl
theorem glcmp {x y : Int} (hx : gc64 x) (hy : gc64 y) : (lg_cmp (Int64.ofInt x) (Int64.ofInt y)).toInt = gcmp x y := by
  unfold lg_cmp gcmp
  simp only [gt_iff_lt, Int64.lt_iff_toInt_lt, ← Int64.toInt_inj, gtl hx, gtl hy]
  split
  · rfl
  · split
    · rfl
    · rfl
theorem gbz {x : Int} (h : gc32 x) : es_bz (eI x) = (x + 2147483648).toNat := by
  rw [← es_zbn, gnI]
  unfold es_zb
  rw [gti h]
def gcp (op : es_Op) (x y : Int) : Bool := match op with
  | .eq => decide (x = y)
  | .ne => !decide (x = y)
  | .lt => decide (x < y)
  | .ge => decide (y ≤ x)
  | .gt => decide (y < x)
  | .le => decide (x ≤ y)
theorem gcpk (op : es_Op) {x y : Int} (hx : gc32 x) (hy : gc32 y) : es_cmp op (es_bz (eI x)) (es_bz (eI y)) = gcp op x y := by
  rw [gbz hx, gbz hy]
  unfold gc32 at hx hy
  have e1 : Nat.beq (x + 2147483648).toNat (y + 2147483648).toNat = decide (x = y) := by
    by_cases h : x = y
    · subst h; simp [es_beq.mpr rfl]
    · rw [es_beqf.mpr (by omega), decide_eq_false h]
  have e2 : ∀ u w : Int, -2147483648 ≤ u → -2147483648 ≤ w → Nat.blt (u + 2147483648).toNat (w + 2147483648).toNat = decide (u < w) := fun u w hu hw => by
    by_cases h : u < w
    · rw [es_blt.mpr (by omega), decide_eq_true h]
    · rw [decide_eq_false h]
      cases hb : Nat.blt (u + 2147483648).toNat (w + 2147483648).toNat
      · rfl
      · have := es_blt.mp hb; omega
  have e3 : ∀ u w : Int, -2147483648 ≤ u → -2147483648 ≤ w → Nat.ble (u + 2147483648).toNat (w + 2147483648).toNat = decide (u ≤ w) := fun u w hu hw => by
    by_cases h : u ≤ w
    · rw [Nat.ble_eq.mpr (by omega), decide_eq_true h]
    · rw [decide_eq_false h]
      cases hb : Nat.ble (u + 2147483648).toNat (w + 2147483648).toNat
      · rfl
      · have := Nat.ble_eq.mp hb; omega
  cases op
  · exact e1
  · show (!_) = _; rw [e1]; rfl
  · exact e2 x y hx.1 hy.1
  · exact e3 y x hy.1 hx.1
  · exact e2 y x hy.1 hx.1
  · exact e3 x y hx.1 hy.1
theorem gz0 {y : Int} (h : gc32 y) (h0 : y ≠ 0) : (!decide (nI (eI y) = 0)) = true := by
  rw [gnI]
  have : ¬ Int32.ofInt y = 0 := fun e => by
    have e2 := congrArg Int32.toInt e
    rw [gti h] at e2
    exact h0 e2
  simp [this]
theorem glz0 {y : Int} (h : gc64 y) (h0 : y ≠ 0) : (!decide (lN (eJ y) = 0)) = true := by
  rw [glN]
  have : ¬ Int64.ofInt y = 0 := fun e => by
    have e2 := congrArg Int64.toInt e
    rw [gtl h] at e2
    exact h0 e2
  simp [this]
theorem geN {n : Nat} (h : n < 2147483648) : eI (n : Int) = n := by
  unfold eI
  rw [Int32.toBitVec_ofInt]
  simp only [BitVec.toNat_ofInt]
  omega
