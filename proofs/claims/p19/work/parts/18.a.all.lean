section
noncomputable def gc32 (v : Int) : Prop := -2147483648 ≤ v ∧ v < 2147483648
noncomputable def gc64 (v : Int) : Prop := -9223372036854775808 ≤ v ∧ v < 9223372036854775808
noncomputable def g32 (v : Int) : Int := Int.bmod v 4294967296
noncomputable def g64 (v : Int) : Int := Int.bmod v 18446744073709551616
noncomputable def eI (v : Int) : Nat := (Int32.ofInt v).toBitVec.toNat
noncomputable def eJ (v : Int) : Nat := (Int64.ofInt v).toBitVec.toNat
noncomputable def gand (x y : Int) : Int := (Int32.ofInt x &&& Int32.ofInt y).toInt
noncomputable def gor (x y : Int) : Int := (Int32.ofInt x ||| Int32.ofInt y).toInt
noncomputable def gxor (x y : Int) : Int := (Int32.ofInt x ^^^ Int32.ofInt y).toInt
noncomputable def gshl (x y : Int) : Int := (Int32.ofInt x <<< (Int32.ofInt y &&& 31)).toInt
noncomputable def gshr (x y : Int) : Int := (Int32.ofInt x >>> (Int32.ofInt y &&& 31)).toInt
noncomputable def gushr (x y : Int) : Int := (((Int32.ofInt x).toUInt32 >>> ((Int32.ofInt y).toUInt32 &&& Int32.toUInt32 31)).toInt32).toInt
noncomputable def gdiv (x y : Int) : Int := (Int32.ofInt x / Int32.ofInt y).toInt
noncomputable def grem (x y : Int) : Int := (Int32.ofInt x - Int32.ofInt x / Int32.ofInt y * Int32.ofInt y).toInt
noncomputable def gi2c (x : Int) : Int := (((Int32.ofInt x).toUInt32 % 65536).toInt32).toInt
noncomputable def gland (x y : Int) : Int := (Int64.ofInt x &&& Int64.ofInt y).toInt
noncomputable def glor (x y : Int) : Int := (Int64.ofInt x ||| Int64.ofInt y).toInt
noncomputable def gldiv (x y : Int) : Int := (Int64.ofInt x / Int64.ofInt y).toInt
noncomputable def glshl (x y : Int) : Int := (Int64.ofInt x <<< ((Int32.ofInt y).toInt64 &&& 63)).toInt
noncomputable def glshr (x y : Int) : Int := (Int64.ofInt x >>> ((Int32.ofInt y).toInt64 &&& 63)).toInt
noncomputable def glushr (x y : Int) : Int := (((Int64.ofInt x).toUInt64 >>> ((Int32.ofInt y).toInt64.toUInt64 &&& Int64.toUInt64 63)).toInt64).toInt
noncomputable def gcmp (x y : Int) : Int := if y < x then 1 else if x = y then 0 else -1
theorem gc32_t (z : Int32) : gc32 z.toInt := ⟨Int32.le_toInt z, Int32.toInt_lt z⟩
theorem gc64_t (z : Int64) : gc64 z.toInt := ⟨Int64.le_toInt z, Int64.toInt_lt z⟩
theorem gc32_b (v : Int) : gc32 (g32 v) := by
  have h := gc32_t (Int32.ofInt v)
  rw [Int32.toInt_ofInt] at h
  exact h
theorem gti {v : Int} (h : gc32 v) : (Int32.ofInt v).toInt = v := Int32.toInt_ofInt_of_le h.1 h.2
theorem gtl {v : Int} (h : gc64 v) : (Int64.ofInt v).toInt = v := Int64.toInt_ofInt_of_le h.1 h.2
theorem g32_of (v : Int) : (Int32.ofInt v).toInt = g32 v := Int32.toInt_ofInt
theorem g64_of (v : Int) : (Int64.ofInt v).toInt = g64 v := Int64.toInt_ofInt
theorem gnI (v : Int) : nI (eI v) = Int32.ofInt v := es_nb _
theorem glN (v : Int) : lN (eJ v) = Int64.ofInt v := es_lb _
theorem geI (z : Int32) : eI z.toInt = z.toBitVec.toNat := by
  unfold eI
  rw [Int32.ofInt_toInt]
theorem geJ (z : Int64) : eJ z.toInt = z.toBitVec.toNat := by
  unfold eJ
  rw [Int64.ofInt_toInt]
theorem ges (z : Int32) : es_c z = (0, eI z.toInt) := by rw [es_c_eq, geI]
theorem gel (z : Int64) : es_lc z = (2, eJ z.toInt) := by rw [es_lc_eq, geJ]
theorem gbn (f : Int32 → Int32 → Int32) (F : es_F) (x y : Int) : es_bin f F (0, eI x) (0, eI y) = (0, eI (f (Int32.ofInt x) (Int32.ofInt y)).toInt) := by
  show es_c (f (nI (eI x)) (nI (eI y))) = _
  rw [gnI, gnI, ges]
theorem gun (f : Int32 → Int32) (F : es_F) (x : Int) : es_un f F (0, eI x) = (0, eI (f (Int32.ofInt x)).toInt) := by
  show es_c (f (nI (eI x))) = _
  rw [gnI, ges]
theorem glb (f : Int64 → Int64 → Int64) (x y : Int) : es_lbin f (2, eJ x) (2, eJ y) = (2, eJ (f (Int64.ofInt x) (Int64.ofInt y)).toInt) := by
  show es_lc (f (lN (eJ x)) (lN (eJ y))) = _
  rw [glN, glN, gel]
theorem g32_add (x y : Int) : (Int32.ofInt x + Int32.ofInt y).toInt = g32 (x + y) := by
  rw [← Int32.ofInt_add, g32_of]
theorem g32_sub (x y : Int) : (Int32.ofInt x - Int32.ofInt y).toInt = g32 (x - y) := by
  rw [← Int32.ofInt_sub, g32_of]
theorem g32_mul (x y : Int) : (Int32.ofInt x * Int32.ofInt y).toInt = g32 (x * y) := by
  rw [← Int32.ofInt_mul, g32_of]
theorem g32_neg (x : Int) : (-Int32.ofInt x).toInt = g32 (-x) := by
  rw [← Int32.ofInt_neg, g32_of]
theorem g64_add (x y : Int) : (Int64.ofInt x + Int64.ofInt y).toInt = g64 (x + y) := by
  rw [← Int64.ofInt_add, g64_of]
theorem g64_sub (x y : Int) : (Int64.ofInt x - Int64.ofInt y).toInt = g64 (x - y) := by
  rw [← Int64.ofInt_sub, g64_of]
theorem g64_mul (x y : Int) : (Int64.ofInt x * Int64.ofInt y).toInt = g64 (x * y) := by
  rw [← Int64.ofInt_mul, g64_of]
theorem gi2l {x : Int} (h : gc32 x) : (Int32.ofInt x).toInt64.toInt = x := by rw [Int32.toInt_toInt64, gti h]
theorem gc6432 {x : Int} (h : gc32 x) : gc64 x := by
  unfold gc32 at h
  unfold gc64
  omega
theorem gl2i {x : Int} (h : gc64 x) : (Int64.ofInt x).toInt32.toInt = g32 x := by
  rw [Int64.toInt_toInt32, gtl h]
  rfl
theorem glcmp {x y : Int} (hx : gc64 x) (hy : gc64 y) : (lg_cmp (Int64.ofInt x) (Int64.ofInt y)).toInt = gcmp x y := by
  unfold lg_cmp gcmp
  simp only [gt_iff_lt, Int64.lt_iff_toInt_lt, ← Int64.toInt_inj, gtl hx, gtl hy]
  split
  · rfl
  · split
    · rfl
    · rfl
theorem gbz {x : Int} (h : gc32 x) : es_bz (eI x) = (x + 2147483648).toNat := by
  rw [← es_zbn, gnI]
  unfold es_zb
  rw [gti h]
noncomputable def gcp (op : es_Op) (x y : Int) : Bool := match op with
  | .eq => decide (x = y)
  | .ne => !decide (x = y)
  | .lt => decide (x < y)
  | .ge => decide (y ≤ x)
  | .gt => decide (y < x)
  | .le => decide (x ≤ y)
theorem gcpk (op : es_Op) {x y : Int} (hx : gc32 x) (hy : gc32 y) : es_cmp op (es_bz (eI x)) (es_bz (eI y)) = gcp op x y := by
  rw [gbz hx, gbz hy]
  unfold gc32 at hx hy
  have e1 : Nat.beq (x + 2147483648).toNat (y + 2147483648).toNat = decide (x = y) := by
    by_cases h : x = y
    · subst h; simp [es_beq.mpr rfl]
    · rw [es_beqf.mpr (by omega), decide_eq_false h]
  have e2 : ∀ u w : Int, -2147483648 ≤ u → -2147483648 ≤ w → Nat.blt (u + 2147483648).toNat (w + 2147483648).toNat = decide (u < w) := fun u w hu hw => by
    by_cases h : u < w
    · rw [es_blt.mpr (by omega), decide_eq_true h]
    · rw [decide_eq_false h]
      cases hb : Nat.blt (u + 2147483648).toNat (w + 2147483648).toNat
      · rfl
      · have := es_blt.mp hb; omega
  have e3 : ∀ u w : Int, -2147483648 ≤ u → -2147483648 ≤ w → Nat.ble (u + 2147483648).toNat (w + 2147483648).toNat = decide (u ≤ w) := fun u w hu hw => by
    by_cases h : u ≤ w
    · rw [Nat.ble_eq.mpr (by omega), decide_eq_true h]
    · rw [decide_eq_false h]
      cases hb : Nat.ble (u + 2147483648).toNat (w + 2147483648).toNat
      · rfl
      · have := Nat.ble_eq.mp hb; omega
  cases op
  · exact e1
  · show (!_) = _; rw [e1]; rfl
  · exact e2 x y hx.1 hy.1
  · exact e3 y x hy.1 hx.1
  · exact e2 y x hy.1 hx.1
  · exact e3 x y hx.1 hy.1
theorem gz0 {y : Int} (h : gc32 y) (h0 : y ≠ 0) : (!decide (nI (eI y) = 0)) = true := by
  rw [gnI]
  have : ¬ Int32.ofInt y = 0 := fun e => by
    have e2 := congrArg Int32.toInt e
    rw [gti h] at e2
    exact h0 e2
  simp [this]
theorem glz0 {y : Int} (h : gc64 y) (h0 : y ≠ 0) : (!decide (lN (eJ y) = 0)) = true := by
  rw [glN]
  have : ¬ Int64.ofInt y = 0 := fun e => by
    have e2 := congrArg Int64.toInt e
    rw [gtl h] at e2
    exact h0 e2
  simp [this]
theorem geN {n : Nat} (h : n < 2147483648) : eI (n : Int) = n := by
  unfold eI
  rw [Int32.toBitVec_ofInt]
  simp only [BitVec.toNat_ofInt]
  omega

end
section
abbrev gV : Type := Nat × Int × Nat
abbrev gS : Type := Nat × (Nat → Nat) × (Nat → Nat → Int) × (Nat → Nat → Nat)
abbrev gO : Type := Nat × Int × Nat × gS
noncomputable def gn (s : gS) : Nat := s.1
noncomputable def gK (s : gS) (a : Nat) : Nat := s.2.1 a
noncomputable def gI (s : gS) (a k : Nat) : Int := s.2.2.1 a k
noncomputable def gR (s : gS) (a k : Nat) : Nat := s.2.2.2 a k
noncomputable def gw (s : gS) (a k : Nat) (v : Int) : gS := (s.1, s.2.1, fun a' k' => if a' = a ∧ k' = k then v else s.2.2.1 a' k', s.2.2.2)
noncomputable def gwr (s : gS) (a k r : Nat) : gS := (s.1, s.2.1, s.2.2.1, fun a' k' => if a' = a ∧ k' = k then r else s.2.2.2 a' k')
noncomputable def gnw (s : gS) (kd : Nat) : gS := (s.1 + 1, fun a => if a = s.1 then kd else s.2.1 a, fun a k => if a = s.1 then 0 else s.2.2.1 a k, fun a k => if a = s.1 then 0 else s.2.2.2 a k)
/-- a row of ints is written over from another -/
noncomputable def gcpy (s : gS) (a sp b dp n : Nat) : gS := (s.1, s.2.1, fun a' k' => if a' = b ∧ dp ≤ k' ∧ k' < dp + n then s.2.2.1 a (sp + (k' - dp)) else s.2.2.1 a' k', s.2.2.2)
noncomputable def gnfl : List Nat := [12, 1, 10, 3, 2, 3, 2, 6, 2, 11, 5, 17, 25]
noncomputable def gnf (k : Nat) : Nat := gnfl.getD k 0
/-- kinds: below 13 a class, 99 a thrown one, 100 + 8 len + t a row; of fields: 0 a number, 11, 12 perhaps nothing, 16 + kind -/
noncomputable def gfkl : List (List Nat) := [
  [180, 180, 180, 164, 164, 0, 0, 0, 0, 0, 0, 11],
  [26],
  [168, 164, 164, 22, 0, 0, 0, 0, 0, 0],
  [188, 372, 0],
  [0, 12],
  [26, 3316, 0],
  [2036, 0],
  [0, 0, 0, 0, 0, 0],
  [18, 3700],
  [19, 16, 23, 356, 356, 356, 356, 24117, 0, 0, 0],
  [3316, 0, 0, 0, 0],
  [26, 19, 17, 21, 16, 18, 25, 24, 16, 18, 16, 18, 215, 0, 0, 0, 0],
  [0, 6036, 6036, 0, 2836, 32756, 0, 3316, 0, 0, 0, 0, 0, 0, 172, 0, 0, 0, 356, 356, 356, 356, 248116, 630, 3700]]
noncomputable def gfk (k i : Nat) : Nat := (gfkl.getD k []).getD i 0
noncomputable def gL4 (k : Nat) : Nat := (k - 100) / 8
noncomputable def gT4 (k : Nat) : Nat := (k - 100) % 8
noncomputable def gf (v : gV) : es_V := match v.1 with
  | 0 => (0, eI v.2.1)
  | 1 => (0, eI v.2.1)
  | 2 => (2, eJ v.2.1)
  | 4 => (4, 0)
  | 5 => (5, 0)
  | 7 => (7, 0)
  | 8 => (8, v.2.2)
  | 9 => (9, v.2.2)
  | 10 => (10, 0)
  | 11 => if v.2.2 = 0 then (4, 0) else (3, v.2.2)
  | 12 => if v.2.2 = 0 then (4, 0) else (3, v.2.2)
  | _ => (3, v.2.2)
noncomputable def gok (s : gS) (v : gV) : Prop := match v.1 with
  | 0 => gc32 v.2.1
  | 1 => v.2.1 = 0 ∨ v.2.1 = 1
  | 2 => gc64 v.2.1
  | 8 => v.2.2 < 70
  | 11 => v.2.2 ≠ 0 → v.2.2 < gn s ∧ gK s v.2.2 = 4
  | 12 => v.2.2 ≠ 0 → v.2.2 < gn s ∧ ∃ n, n < 1000000 ∧ gK s v.2.2 = 100 + 8 * n
  | t => 16 ≤ t → v.2.2 < gn s ∧ gK s v.2.2 + 16 = t
/-- a field's value, an element's value -/
noncomputable def gfv (s : gS) (a k i : Nat) : gV := if gfk k i = 0 then (0, gI s a i, 0) else (gfk k i, 0, gR s a i)
noncomputable def gev (s : gS) (a t j : Nat) : gV := match t with
  | 0 => (0, gI s a j, 0)
  | 1 => (2, gI s a j, 0)
  | 2 => (0, gI s a j, 0)
  | 3 => (18, 0, gR s a j)
  | _ => (23, 0, gR s a j)
noncomputable def gobj (s : gS) (a : Nat) : es_O := if gK s a < 13 then (0, gK s a, (List.range (gnf (gK s a))).map (fun i => (i, gf (gfv s a (gK s a) i)))) else
  if gK s a < 100 then (1, 0, []) else (gT4 (gK s a) + 2, gL4 (gK s a), (List.range (gL4 (gK s a))).map (fun j => (j, gf (gev s a (gT4 (gK s a)) j))))
noncomputable def gH (s : gS) : List es_O := (List.range (gn s)).map (gobj s)
noncomputable def gwt (s : gS) : Prop := ∀ a, a < gn s → (gK s a < 13 → ∀ i, i < gnf (gK s a) → gok s (gfv s a (gK s a) i)) ∧ (100 ≤ gK s a → gL4 (gK s a) < 1000000 ∧ gT4 (gK s a) < 5 ∧ ∀ j, j < gL4 (gK s a) → gok s (gev s a (gT4 (gK s a)) j))
noncomputable def gext (s s' : gS) : Prop := gn s ≤ gn s' ∧ ∀ a, a < gn s → gK s' a = gK s a
theorem gext_rf (s : gS) : gext s s := ⟨Nat.le_refl _, fun _ _ => rfl⟩
theorem gext_tr {s t u : gS} (h1 : gext s t) (h2 : gext t u) : gext s u := ⟨Nat.le_trans h1.1 h2.1, fun a ha => (h2.2 a (Nat.lt_of_lt_of_le ha h1.1)).trans (h1.2 a ha)⟩
theorem gok_ext {s s' : gS} (h : gext s s') {v : gV} (hv : gok s v) : gok s' v := by
  obtain ⟨t, x, a⟩ := v
  have hgo : ∀ t, (16 ≤ t → a < gn s ∧ gK s a + 16 = t) → (16 ≤ t → a < gn s' ∧ gK s' a + 16 = t) := fun t h1 h2 => by
    obtain ⟨g1, g2⟩ := h1 h2
    exact ⟨Nat.lt_of_lt_of_le g1 h.1, by rw [h.2 a g1]; exact g2⟩
  match t, hv with
  | 0, hv => exact hv
  | 1, hv => exact hv
  | 2, hv => exact hv
  | 3, hv => exact hgo 3 hv
  | 4, hv => exact hgo 4 hv
  | 5, hv => exact hgo 5 hv
  | 6, hv => exact hgo 6 hv
  | 7, hv => exact hgo 7 hv
  | 8, hv => exact hv
  | 9, hv => exact hgo 9 hv
  | 10, hv => exact hgo 10 hv
  | 11, hv => exact fun h2 => ⟨Nat.lt_of_lt_of_le (hv h2).1 h.1, by show gK s' a = 4; rw [h.2 a (hv h2).1]; exact (hv h2).2⟩
  | 12, hv => exact fun h2 => ⟨Nat.lt_of_lt_of_le (hv h2).1 h.1, by show ∃ n, n < 1000000 ∧ gK s' a = 100 + 8 * n; rw [h.2 a (hv h2).1]; exact (hv h2).2⟩
  | t + 13, hv => exact hgo (t + 13) hv
theorem gok_i {s : gS} {v : Int} {a : Nat} : gok s (0, v, a) ↔ gc32 v := Iff.rfl
theorem gok_l {s : gS} {v : Int} {a : Nat} : gok s (2, v, a) ↔ gc64 v := Iff.rfl
theorem gok_r {s : gS} {t a : Nat} {v : Int} : gok s (t + 16, v, a) ↔ (a < gn s ∧ gK s a = t) := by
  constructor
  · intro h
    have h1 := h (Nat.le_add_left 16 t)
    exact ⟨h1.1, by have := h1.2; dsimp only at this; omega⟩
  · intro h h2
    exact ⟨h.1, by dsimp only; omega⟩
theorem gf_r (t a : Nat) (v : Int) : gf (t + 16, v, a) = (3, a) := rfl
theorem gf_2 (v : gV) : Nat.beq (gf v).1 2 = Nat.beq v.1 2 := by
  obtain ⟨t, x, a⟩ := v
  match t with
  | 0 => rfl
  | 1 => rfl
  | 2 => rfl
  | 3 => rfl
  | 4 => rfl
  | 5 => rfl
  | 6 => rfl
  | 7 => rfl
  | 8 => rfl
  | 9 => rfl
  | 10 => rfl
  | 11 =>
    show Nat.beq (if a = 0 then ((4, 0) : es_V) else (3, a)).1 2 = _
    by_cases h : a = 0
    · rw [if_pos h]; rfl
    · rw [if_neg h]; rfl
  | 12 =>
    show Nat.beq (if a = 0 then ((4, 0) : es_V) else (3, a)).1 2 = _
    by_cases h : a = 0
    · rw [if_pos h]; rfl
    · rw [if_neg h]; rfl
  | t + 13 => rfl
theorem grg {α : Type} (f : Nat → α) (k : Nat) : ∀ n, es_get ((List.range n).map (fun i => (i, f i))) k = if k < n then some (f k) else none := by
  intro n
  have hc : ∀ (l1 l2 : List (Nat × α)), es_get (l1 ++ l2) k = (match es_get l1 k with | some v => some v | none => es_get l2 k) := by
    intro l1 l2
    induction l1 with
    | nil => rfl
    | cons q t ih =>
      show (bif Nat.beq q.1 k then some q.2 else es_get (t ++ l2) k) = (match (bif Nat.beq q.1 k then some q.2 else es_get t k) with | some v => some v | none => es_get l2 k)
      cases Nat.beq q.1 k
      · exact ih
      · rfl
  induction n with
  | zero => rfl
  | succ n ih =>
    rw [List.range_succ, List.map_append, hc, ih]
    by_cases h1 : k < n
    · rw [if_pos h1, if_pos (by omega)]
    · rw [if_neg h1]
      dsimp only
      show (bif Nat.beq n k then some (f n) else none) = _
      by_cases h2 : n = k
      · subst h2
        rw [es_beq.mpr rfl, if_pos (by omega)]
        rfl
      · rw [es_beqf.mpr h2, if_neg (by omega)]
        rfl
theorem grs {α : Type} (f : Nat → α) (k : Nat) (v : α) : ∀ (l : List Nat), l.Nodup → k ∈ l → es_set (l.map (fun i => (i, f i))) k v = l.map (fun i => (i, if i = k then v else f i))
  | [], _, h => by cases h
  | j :: t, hn, h => by
    rw [List.nodup_cons] at hn
    show (bif Nat.beq j k then (k, v) :: t.map (fun i => (i, f i)) else (j, f j) :: es_set (t.map (fun i => (i, f i))) k v) = _
    rw [List.map_cons]
    by_cases h2 : j = k
    · subst h2
      rw [es_beq.mpr rfl, if_pos rfl]
      show (j, v) :: _ = _
      congr 1
      apply List.map_congr_left
      intro i hi
      rw [if_neg (fun e => hn.1 (by rw [← e]; exact hi))]
    · rw [es_beqf.mpr h2, if_neg h2]
      show (j, f j) :: _ = _
      rw [grs f k v t hn.2 (by
        rcases List.mem_cons.mp h with h3 | h3
        · exact absurd h3.symm h2
        · exact h3)]
theorem grn {α : Type} (f : Nat → α) {k n : Nat} (h : k < n) (v : α) : es_set ((List.range n).map (fun i => (i, f i))) k v = (List.range n).map (fun i => (i, if i = k then v else f i)) := grs f k v _ List.nodup_range (List.mem_range.mpr h)
theorem gH_len (s : gS) : (gH s).length = gn s := by unfold gH; rw [List.length_map, List.length_range]
theorem gH_at {s : gS} {a : Nat} (h : a < gn s) : (gH s)[a]? = some (gobj s a) := by
  unfold gH
  rw [List.getElem?_map, List.getElem?_range h]
  rfl
theorem gH_set {s s' : gS} {a : Nat} (hn : gn s' = gn s) (h : ∀ b, b < gn s → b ≠ a → gobj s' b = gobj s b) : gH s' = (gH s).set a (gobj s' a) := by
  apply List.ext_getElem?
  intro i
  by_cases hi : i < gn s
  · rw [gH_at (by rw [hn]; exact hi)]
    by_cases hia : a = i
    · subst hia
      rw [List.getElem?_set]
      simp [gH_len, hi]
    · rw [List.getElem?_set_ne hia, gH_at hi, h i hi (Ne.symm hia)]
  · rw [List.getElem?_eq_none (by rw [gH_len, hn]; omega), List.getElem?_eq_none (by rw [List.length_set, gH_len]; omega)]
theorem gH_new {s s' : gS} (hn : gn s' = gn s + 1) (h : ∀ b, b < gn s → gobj s' b = gobj s b) : gH s' = gH s ++ [gobj s' (gn s)] := by
  unfold gH
  rw [hn, List.range_succ, List.map_append]
  congr 1
  apply List.map_congr_left
  intro b hb
  exact h b (List.mem_range.mp hb)
theorem gobj_c {s : gS} {a k : Nat} (h : gK s a = k) (hk : k < 13) : gobj s a = (0, k, (List.range (gnf k)).map (fun i => (i, gf (gfv s a k i)))) := by
  unfold gobj
  rw [h, if_pos hk]
theorem gobj_a {s : gS} {a n t : Nat} (h : gK s a = 100 + 8 * n + t) (ht : t < 8) : gobj s a = (t + 2, n, (List.range n).map (fun j => (j, gf (gev s a t j)))) := by
  have e1 : gT4 (100 + 8 * n + t) = t := by unfold gT4; omega
  have e2 : gL4 (100 + 8 * n + t) = n := by unfold gL4; omega
  unfold gobj
  rw [h, if_neg (by omega), if_neg (by omega), e1, e2]
section Locals
noncomputable def gL (L : List (Nat × gV)) : es_L := L.map (fun q => (q.1, gf q.2))
noncomputable def gst (L : List (Nat × gV)) (i : Nat) (v : gV) : List (Nat × gV) := es_set (match i with
  | 0 => L
  | j + 1 => match es_get L j with
    | some w => bif Nat.beq w.1 2 then es_del L j else L
    | none => L) i v
theorem gL_get (L : List (Nat × gV)) (k : Nat) : es_get (gL L) k = (es_get L k).map gf := by
  induction L with
  | nil => rfl
  | cons q t ih =>
    show (bif Nat.beq q.1 k then some (gf q.2) else es_get (gL t) k) = (bif Nat.beq q.1 k then some q.2 else es_get t k).map gf
    cases Nat.beq q.1 k
    · exact ih
    · rfl
theorem gL_set (L : List (Nat × gV)) (k : Nat) (v : gV) : es_set (gL L) k (gf v) = gL (es_set L k v) := by
  induction L with
  | nil => rfl
  | cons q t ih =>
    show (bif Nat.beq q.1 k then (k, gf v) :: gL t else (q.1, gf q.2) :: es_set (gL t) k (gf v)) = gL (bif Nat.beq q.1 k then (k, v) :: t else q :: es_set t k v)
    cases Nat.beq q.1 k
    · show (q.1, gf q.2) :: es_set (gL t) k (gf v) = (q.1, gf q.2) :: gL (es_set t k v)
      rw [ih]
    · rfl
theorem gL_del (L : List (Nat × gV)) (k : Nat) : es_del (gL L) k = gL (es_del L k) := by
  induction L with
  | nil => rfl
  | cons q t ih =>
    show (bif Nat.beq q.1 k then es_del (gL t) k else (q.1, gf q.2) :: es_del (gL t) k) = gL (bif Nat.beq q.1 k then es_del t k else q :: es_del t k)
    cases Nat.beq q.1 k
    · show (q.1, gf q.2) :: es_del (gL t) k = (q.1, gf q.2) :: gL (es_del t k)
      rw [ih]
    · exact ih
theorem gL_st (L : List (Nat × gV)) (i : Nat) (v : gV) : es_st (gL L) i (gf v) = gL (gst L i v) := by
  unfold es_st gst
  cases i with
  | zero => exact gL_set L 0 v
  | succ j =>
    dsimp only
    rw [gL_get]
    cases es_get L j with
    | none => exact gL_set L (j + 1) v
    | some w =>
      dsimp only [Option.map_some]
      rw [gf_2]
      cases Nat.beq w.1 2
      · exact gL_set L (j + 1) v
      · show es_set (es_del (gL L) j) (j + 1) (gf v) = _
        rw [gL_del, gL_set]
        rfl
theorem gmem_set {α : Type} {L : List (Nat × α)} {k : Nat} {v : α} {q : Nat × α} (h : q ∈ es_set L k v) : q ∈ L ∨ q = (k, v) := by
  induction L with
  | nil =>
    right
    exact List.mem_singleton.mp h
  | cons p t ih =>
    unfold es_set at h
    cases hb : Nat.beq p.1 k
    · rw [hb] at h
      rcases List.mem_cons.mp (show q ∈ p :: es_set t k v from h) with h1 | h1
      · exact Or.inl (by rw [h1]; exact List.mem_cons_self)
      · rcases ih h1 with h2 | h2
        · exact Or.inl (List.mem_cons_of_mem _ h2)
        · exact Or.inr h2
    · rw [hb] at h
      rcases List.mem_cons.mp (show q ∈ (k, v) :: t from h) with h1 | h1
      · exact Or.inr h1
      · exact Or.inl (List.mem_cons_of_mem _ h1)
theorem gmem_del {α : Type} {L : List (Nat × α)} {k : Nat} {q : Nat × α} (h : q ∈ es_del L k) : q ∈ L := by
  induction L with
  | nil => exact h
  | cons p t ih =>
    unfold es_del at h
    cases hb : Nat.beq p.1 k
    · rw [hb] at h
      rcases List.mem_cons.mp (show q ∈ p :: es_del t k from h) with h1 | h1
      · rw [h1]; exact List.mem_cons_self
      · exact List.mem_cons_of_mem _ (ih h1)
    · rw [hb] at h
      exact List.mem_cons_of_mem _ (ih h)
theorem gmem_st {L : List (Nat × gV)} {i : Nat} {v : gV} {q : Nat × gV} (h : q ∈ gst L i v) : q ∈ L ∨ q = (i, v) := by
  unfold gst at h
  rcases gmem_set h with h1 | h1
  · left
    cases i with
    | zero => exact h1
    | succ j =>
      dsimp only at h1
      cases hg : es_get L j with
      | none => rw [hg] at h1; exact h1
      | some w =>
        rw [hg] at h1
        dsimp only at h1
        cases hb : Nat.beq w.1 2
        · rw [hb] at h1; exact h1
        · rw [hb] at h1; exact gmem_del h1
  · exact Or.inr h1
theorem gget_mem {α : Type} : ∀ {L : List (Nat × α)} {k : Nat} {v : α}, es_get L k = some v → (k, v) ∈ L
  | [], _, _, h => by cases h
  | q :: t, k, v, h => by
    unfold es_get at h
    cases hb : Nat.beq q.1 k
    · rw [hb] at h
      exact List.mem_cons_of_mem _ (gget_mem h)
    · rw [hb] at h
      cases h
      rw [← es_beq.mp hb]
      exact List.mem_cons_self
end Locals

end
section
abbrev gX : Type := (Nat → es_M) × List (String × Nat × String) × Nat × (Nat → es_K → List es_E → Prop) × es_F
noncomputable def gM0 (X : gX) : Nat → es_M := X.1
noncomputable def gts (X : gX) : List (String × Nat × String) := X.2.1
noncomputable def gSL (X : gX) : Nat := X.2.2.1
noncomputable def gRS (X : gX) : Nat → es_K → List es_E → Prop := X.2.2.2.1
noncomputable def gF (X : gX) : es_F := X.2.2.2.2
noncomputable def gdp (d : Nat) (T : es_M) : es_M := (T.1, T.2.1, T.2.2.1, T.2.2.2.1, T.2.2.2.2.1, T.2.2.2.2.2.1, T.2.2.2.2.2.2.1, 8 + d, es_mc T, es_ms T, 300 + 64 * d)
noncomputable def gME (ME0 : Nat → es_M) (M : Nat) : es_M := gdp (M / 512) (ME0 (M % 512))
theorem gME_at (ME0 : Nat → es_M) {m : Nat} (h : m < 512) (d : Nat) : gME ME0 (m + 512 * d) = gdp d (ME0 m) := by
  unfold gME
  rw [show (m + 512 * d) / 512 = d by omega, show (m + 512 * d) % 512 = m by omega]
theorem gcal_at {m' : Nat} (m d : Nat) (h : m < 512) (h' : m' < 512) : es_cal (m + 512 * (d + 1)) m' = m' + 512 * d := by
  unfold es_cal
  rw [show (m + 512 * (d + 1)) / 512 = d + 1 by omega, Nat.mod_eq_of_lt h']
  rfl
/-- the same heap, told otherwise -/
noncomputable def gEq (AH AH' : List es_O) : Prop := AH.length = AH'.length ∧ ∀ (i : Nat) (o : es_O), AH'[i]? = some o → ∃ o2 : es_O, AH[i]? = some o2 ∧ (o2 = o ∨ ∃ (t n : Nat) (c c2 : List (Nat × es_V)), o = (t + 2, n, c) ∧ o2 = (t + 2, n, c2) ∧ ∀ j, j < n → es_ad t c2 j = es_ad t c j)
noncomputable def gOK (X : gX) : Prop :=
  (∀ ih : Nat → es_K → Option (List es_E), (∀ M K ends, ih M K = some ends → gRS X M K ends) → ∀ M K ends, es_step (gME (gM0 X)) (gts X) (gSL X) ih M K = some ends → gRS X M K ends) ∧
  (∀ M pc (L L' : es_L) S AH F cs ss ends, (∀ i v, es_get L i = some v → es_get L' i = some v) → gRS X M (pc, L, S, AH, F, cs, ss) ends → gRS X M (pc, L', S, AH, F, cs, ss) ends) ∧
  (∀ M K, gRS X M K [(0, K)]) ∧
  (∀ M pc L S AH F cs ss cs' ss' ends, cs ≤ cs' → ss ≤ ss' → gRS X M (pc, L, S, AH, F, cs', ss') ends → gRS X M (pc, L, S, AH, F, cs, ss) ends) ∧ (gts X).length = 70 ∧
  ∀ M pc L S AH AH' F cs ss ends, gEq AH AH' → gRS X M (pc, L, S, AH', F, cs, ss) ends → gRS X M (pc, L, S, AH, F, cs, ss) ends
/-- rows that stand one behind another -/
noncomputable def gch (T : es_M) : Nat → List es_I → Bool
  | _, [] => true
  | pc, e :: r => (Nat.beq e.1 pc && decide (es_at (es_tab T) pc = some e)) && gch T (pc + e.2.2.1) r
noncomputable def gRt (T : es_M) : Nat := match es_rt T with
  | none => 99
  | some .int => 0
  | some .boolean => 1
  | some .long => 2
  | some (.object _) => 11
  | some (.array _) => 12
  | some _ => 0
noncomputable def gLf (X : gX) (T : es_M) (r : gO) : es_Lf := (r.1, (if r.1 = 1 then gf (gRt T, r.2.1, r.2.2.1) else (0, 0)), gH r.2.2.2, gF X)
noncomputable def gEnd (X : gX) (T : es_M) (m d : Nat) (s : gS) (r : gO) (K : es_K) : Prop :=
  ∃ E, gRS X (m + 512 * d) K [E] ∧ es_leaf (gdp d T) E = some (gLf X T r) ∧ gext s r.2.2.2 ∧ gwt r.2.2.2 ∧ (r.1 = 1 → gok r.2.2.2 (gRt T, r.2.1, r.2.2.1))
noncomputable def Go (X : gX) (T : es_M) (m d pc : Nat) (cd : List es_I) (L : List (Nat × gV)) (S : List gV) (s : gS) (cs ss : Nat) {Q : Type} (x : Option Q) (κ : Q → Option gO) : Prop :=
  gM0 X m = T → m < 512 → gch T pc cd = true → gwt s → (∀ q ∈ L, gok s q.2) → (∀ v ∈ S, gok s v) → ∀ r, x.bind κ = some r → gEnd X T m d s r (pc, gL L, S.map gf, gH s, gF X, cs, ss)
section GoR
variable {X : gX} {T : es_M} {m d pc pc' : Nat} {cd cd' : List es_I} {L L' : List (Nat × gV)} {S S' : List gV} {s s' : gS} {cs ss : Nat} {Q : Type} {x : Option Q} {κ : Q → Option gO}
theorem gch_hd {e : es_I} (h : gch T pc (e :: cd) = true) : es_at (es_tab T) pc = some e ∧ gch T (pc + e.2.2.1) cd = true := by
  unfold gch at h
  simp only [Bool.and_eq_true, es_beq, decide_eq_true_eq] at h
  exact ⟨h.1.2, h.2⟩
theorem gEnd_ext {r : gO} {K : es_K} (h : gext s s') (g : gEnd X T m d s' r K) : gEnd X T m d s r K := by
  obtain ⟨E, h1, h2, h3, h4⟩ := g
  exact ⟨E, h1, h2, gext_tr h h3, h4⟩
/-- another list of rows at the same place -/
theorem g_re (h : gch T pc cd' = true) (k : Go X T m d pc cd' L S s cs ss x κ) : Go X T m d pc cd L S s cs ss x κ :=
  fun h0 hm _ hw hl hs r hr => k h0 hm h hw hl hs r hr
/-- fewer locals -/
noncomputable def gwl (L : List (Nat × gV)) : List (Nat × gV) → Prop
  | [] => True
  | q :: t => es_get L q.1 = some q.2 ∧ gwl L t
theorem gwl_ok {L : List (Nat × gV)} : ∀ {L' : List (Nat × gV)}, gwl L L' → ∀ q ∈ L', es_get L q.1 = some q.2
  | [], _, q, hq => by cases hq
  | p :: t, h, q, hq => by
    rcases List.mem_cons.mp hq with rfl | h1
    · exact h.1
    · exact gwl_ok h.2 q h1
theorem g_wk (ok : gOK X) (L' : List (Nat × gV)) (hg : gwl L L') (k : Go X T m d pc cd L' S s cs ss x κ) : Go X T m d pc cd L S s cs ss x κ := by
  have hL := gwl_ok hg
  intro h0 hm hc hw hl hs r hr
  obtain ⟨E, h1, h2⟩ := k h0 hm hc hw (fun q hq => hl (q.1, q.2) (gget_mem (hL q hq))) hs r hr
  refine ⟨E, ok.2.1 _ _ _ _ _ _ _ _ _ _ (fun i v hv => ?_) h1, h2⟩
  rw [gL_get] at hv ⊢
  cases hg : es_get L' i with
  | none => rw [hg] at hv; cases hv
  | some w =>
    rw [hg] at hv
    rw [hL (i, w) (gget_mem hg)]
    exact hv
/-- more room -/
theorem g_wd (ok : gOK X) {cs' ss' : Nat} (h1 : Nat.ble cs cs' = true) (h2 : Nat.ble ss ss' = true) (k : Go X T m d pc cd L S s cs' ss' x κ) : Go X T m d pc cd L S s cs ss x κ := by
  intro h0 hm hc hw hl hs r hr
  obtain ⟨E, e1, e2⟩ := k h0 hm hc hw hl hs r hr
  exact ⟨E, ok.2.2.2.1 _ _ _ _ _ _ _ _ _ _ _ (Nat.ble_eq.mp h1) (Nat.ble_eq.mp h2) e1, e2⟩
theorem g_st (ok : gOK X) {r : gO} {K K' : es_K} (hs : ∀ ih : Nat → es_K → Option (List es_E), es_step (gME (gM0 X)) (gts X) (gSL X) ih (m + 512 * d) K = ih (m + 512 * d) K') (g : gEnd X T m d s r K') : gEnd X T m d s r K := by
  obtain ⟨E, h1, h2⟩ := g
  refine ⟨E, ok.1 (fun M K1 => @ite _ (M = m + 512 * d ∧ K1 = K') (Classical.propDecidable _) (some [E]) none) (fun M K1 ends he => ?_) _ _ _ ?_, h2⟩
  · by_cases hc : M = m + 512 * d ∧ K1 = K'
    · rw [if_pos hc] at he
      cases he
      rw [hc.1, hc.2]
      exact h1
    · rw [if_neg hc] at he
      cases he
  · rw [hs, if_pos ⟨rfl, rfl⟩]
theorem gtab {e : es_I} (h0 : gM0 X m = T) (hm : m < 512) (hat : es_at (es_tab T) pc = some e) : es_at (es_tab (gME (gM0 X) (m + 512 * d))) pc = some e := by
  rw [gME_at _ hm, h0]
  exact hat
theorem gmL (h0 : gM0 X m = T) (hm : m < 512) : es_mL (gME (gM0 X) (m + 512 * d)) = es_mL T := by
  rw [gME_at _ hm, h0]
  rfl
theorem gs_pure {ME : Nat → es_M} {strs : List (String × Nat × String)} {SL : Nat} {ih : Nat → es_K → Option (List es_E)} {M : Nat} {e : es_I} {Le Le' : es_L} {Se Se' : List es_V} {AH : List es_O} {F : es_F} (hat : es_at (es_tab (ME M)) pc = some e) (haux : e.2.2.2 = []) (hp : es_pure (es_mL (ME M)) e.2.1 pc Le Se F = some (pc', Le', Se')) :
    es_step ME strs SL ih M (pc, Le, Se, AH, F, cs, ss) = ih M (pc', Le', Se', AH, F, cs, ss) := by
  unfold es_step
  dsimp only
  rw [hat]
  dsimp only
  rw [haux]
  dsimp only
  rw [hp]
theorem gs_hs {ME : Nat → es_M} {strs : List (String × Nat × String)} {SL : Nat} {ih : Nat → es_K → Option (List es_E)} {M : Nat} {e : es_I} {Le : es_L} {Se : List es_V} {AH : List es_O} {F : es_F} {K' : es_K} (hat : es_at (es_tab (ME M)) pc = some e) (hpu : es_pure (es_mL (ME M)) e.2.1 pc Le Se F = none) (hax : ∀ a t, e.2.2.2 = a :: t → a ≠ 100 ∧ a ≠ 200 ∧ a ≠ 60) (hh : es_hs SL (ME M) e (pc, Le, Se, AH, F, cs, ss) = some K') :
    es_step ME strs SL ih M (pc, Le, Se, AH, F, cs, ss) = ih M K' := by
  unfold es_step
  dsimp only
  rw [hat]
  dsimp only
  split
  · rename_i h; exact absurd rfl (hax _ _ h).2.1
  · rename_i h; exact absurd rfl (hax _ _ h).1
  · rename_i h; exact absurd rfl (hax _ _ h).2.2
  · rw [hpu]
    dsimp only
    rw [hh]
theorem g_pure (ok : gOK X) {e : es_I} (haux : e.2.2.2 = []) (hp : gwt s → (∀ q ∈ L, gok s q.2) → (∀ v ∈ S, gok s v) → es_pure (es_mL T) e.2.1 pc (gL L) (S.map gf) (gF X) = some (pc', gL L', S'.map gf) ∧ (∀ q ∈ L', gok s q.2) ∧ ∀ v ∈ S', gok s v) (hc : gch T pc (e :: cd) = true → gch T pc' cd' = true) (k : Go X T m d pc' cd' L' S' s cs ss x κ) : Go X T m d pc (e :: cd) L S s cs ss x κ := by
  intro h0 hm hch hw hl hs r hr
  obtain ⟨h1, h2, h3⟩ := hp hw hl hs
  refine g_st ok (fun ih => ?_) (k h0 hm (hc hch) hw h2 h3 r hr)
  exact gs_pure (gtab h0 hm (gch_hd hch).1) haux (by rw [gmL h0 hm]; exact h1)
theorem gS1 {v : gV} (hs : ∀ v ∈ S, gok s v) (hv : gok s v) : ∀ w ∈ v :: S, gok s w := fun w hw => by
  rcases List.mem_cons.mp hw with rfl | h
  · exact hv
  · exact hs w h
theorem gS2 {v : gV} (hs : ∀ w ∈ v :: S, gok s w) : gok s v ∧ ∀ w ∈ S, gok s w := ⟨hs v List.mem_cons_self, fun w hw => hs w (List.mem_cons_of_mem _ hw)⟩
theorem gLs {i : Nat} {v : gV} (hl : ∀ q ∈ L, gok s q.2) (hv : gok s v) : ∀ q ∈ gst L i v, gok s q.2 := fun q hq => by
  rcases gmem_st hq with h | rfl
  · exact hl q h
  · exact hv
theorem gch1 {e : es_I} {n : Nat} (h : e.2.2.1 = n) : gch T pc (e :: cd) = true → gch T (pc + n) cd = true := fun hc => by
  rw [← h]
  exact (gch_hd hc).2
/-- constants -/
theorem g_iconst (ok : gOK X) {n : Int} {v : Int} (hv : (Int32.ofInt n).toInt = v) (k : Go X T m d (pc + 1) cd L ((0, v, 0) :: S) s cs ss x κ) : Go X T m d pc ((pc, .iconst n, 1, []) :: cd) L S s cs ss x κ :=
  g_pure ok rfl (fun hw hl hs => ⟨by show some (pc + 1, gL L, es_c (Int32.ofInt n) :: S.map gf) = _; rw [ges, hv]; rfl, hl, gS1 hs (by rw [← hv]; exact gc32_t _)⟩) (gch1 rfl) k
theorem g_bipush (ok : gOK X) {n : Int} {v : Int} (hv : ((Int8.ofInt n).toInt32).toInt = v) (k : Go X T m d (pc + 2) cd L ((0, v, 0) :: S) s cs ss x κ) : Go X T m d pc ((pc, .bipush n, 2, []) :: cd) L S s cs ss x κ :=
  g_pure ok rfl (fun hw hl hs => ⟨by show some (pc + 2, gL L, es_c ((Int8.ofInt n).toInt32) :: S.map gf) = _; rw [ges, hv]; rfl, hl, gS1 hs (by rw [← hv]; exact gc32_t _)⟩) (gch1 rfl) k
theorem g_sipush (ok : gOK X) {n : Int} {v : Int} (hv : ((Int16.ofInt n).toInt32).toInt = v) (k : Go X T m d (pc + 3) cd L ((0, v, 0) :: S) s cs ss x κ) : Go X T m d pc ((pc, .sipush n, 3, []) :: cd) L S s cs ss x κ :=
  g_pure ok rfl (fun hw hl hs => ⟨by show some (pc + 3, gL L, es_c ((Int16.ofInt n).toInt32) :: S.map gf) = _; rw [ges, hv]; rfl, hl, gS1 hs (by rw [← hv]; exact gc32_t _)⟩) (gch1 rfl) k
theorem g_lconst (ok : gOK X) {n : Fin 2} {v : Int} (hv : (Int64.ofNat (n : Nat)).toInt = v) (k : Go X T m d (pc + 1) cd L ((2, v, 0) :: S) s cs ss x κ) : Go X T m d pc ((pc, .lconst n, 1, []) :: cd) L S s cs ss x κ :=
  g_pure ok rfl (fun hw hl hs => ⟨by show some (pc + 1, gL L, es_lc (Int64.ofNat (n : Nat)) :: S.map gf) = _; rw [gel, hv]; rfl, hl, gS1 hs (by rw [← hv]; exact gc64_t _)⟩) (gch1 rfl) k
theorem g_null (ok : gOK X) (k : Go X T m d (pc + 1) cd L ((4, 0, 0) :: S) s cs ss x κ) : Go X T m d pc ((pc, .aconst_null, 1, []) :: cd) L S s cs ss x κ :=
  g_pure ok rfl (fun hw hl hs => ⟨rfl, hl, gS1 hs (show gok s (4, 0, 0) from fun h => absurd h (by decide))⟩) (gch1 rfl) k
/-- loads -/
theorem g_ld {t : es_V → Bool} {i n : Nat} {v : gV} (h : es_get L i = some v) (ht : t (gf v) = true) : es_ld t i n pc (gL L) (S.map gf) = some (pc + n, gL L, (v :: S).map gf) := by
  unfold es_ld
  rw [gL_get, h]
  dsimp only [Option.map_some]
  rw [ht]
  rfl
theorem g_iload_n (ok : gOK X) {i : Fin 4} {v : Int} {a : Nat} (h : es_get L i = some (0, v, a)) (k : Go X T m d (pc + 1) cd L ((0, v, a) :: S) s cs ss x κ) : Go X T m d pc ((pc, .iload_n i, 1, []) :: cd) L S s cs ss x κ :=
  g_pure ok rfl (fun hw hl hs => ⟨g_ld h rfl, hl, gS1 hs (hl _ (gget_mem h))⟩) (gch1 rfl) k
theorem g_iload (ok : gOK X) {i : Nat} {v : Int} {a : Nat} (h : es_get L i = some (0, v, a)) (k : Go X T m d (pc + 2) cd L ((0, v, a) :: S) s cs ss x κ) : Go X T m d pc ((pc, .iload i, 2, []) :: cd) L S s cs ss x κ :=
  g_pure ok rfl (fun hw hl hs => ⟨g_ld h rfl, hl, gS1 hs (hl _ (gget_mem h))⟩) (gch1 rfl) k
theorem g_lload_n (ok : gOK X) {i : Fin 4} {v : Int} {a : Nat} (h : es_get L i = some (2, v, a)) (k : Go X T m d (pc + 1) cd L ((2, v, a) :: S) s cs ss x κ) : Go X T m d pc ((pc, .lload_n i, 1, []) :: cd) L S s cs ss x κ :=
  g_pure ok rfl (fun hw hl hs => ⟨g_ld h rfl, hl, gS1 hs (hl _ (gget_mem h))⟩) (gch1 rfl) k
theorem g_lload (ok : gOK X) {i : Nat} {v : Int} {a : Nat} (h : es_get L i = some (2, v, a)) (k : Go X T m d (pc + 2) cd L ((2, v, a) :: S) s cs ss x κ) : Go X T m d pc ((pc, .lload i, 2, []) :: cd) L S s cs ss x κ :=
  g_pure ok rfl (fun hw hl hs => ⟨g_ld h rfl, hl, gS1 hs (hl _ (gget_mem h))⟩) (gch1 rfl) k
/-- what an aload takes -/
noncomputable def gtr (t : Nat) : Bool := Nat.ble 16 t || (Nat.beq t 4 || (Nat.beq t 5 || (Nat.beq t 8 || (Nat.beq t 9 || (Nat.beq t 11 || Nat.beq t 12)))))
theorem gtr_ok {v : gV} (h : gtr v.1 = true) : es_tr (gf v) = true := by
  obtain ⟨t, w, a⟩ := v
  have hn : ∀ b : Nat, es_tr (if b = 0 then ((4, 0) : es_V) else (3, b)) = true := fun b => by
    by_cases hb : b = 0
    · rw [if_pos hb]; rfl
    · rw [if_neg hb]; rfl
  match t, h with
  | 0, h => cases h
  | 1, h => cases h
  | 2, h => cases h
  | 3, h => cases h
  | 4, h => rfl
  | 5, h => rfl
  | 6, h => cases h
  | 7, h => cases h
  | 8, h => rfl
  | 9, h => rfl
  | 10, h => cases h
  | 11, h => exact hn a
  | 12, h => exact hn a
  | t + 13, h => rfl
theorem g_aload_n (ok : gOK X) {i : Fin 4} {v : gV} (h : es_get L i = some v) (ht : gtr v.1 = true) (k : Go X T m d (pc + 1) cd L (v :: S) s cs ss x κ) : Go X T m d pc ((pc, .aload_n i, 1, []) :: cd) L S s cs ss x κ :=
  g_pure ok rfl (fun hw hl hs => ⟨g_ld h (gtr_ok ht), hl, gS1 hs (hl _ (gget_mem h))⟩) (gch1 rfl) k
theorem g_aload (ok : gOK X) {i : Nat} {v : gV} (h : es_get L i = some v) (ht : gtr v.1 = true) (k : Go X T m d (pc + 2) cd L (v :: S) s cs ss x κ) : Go X T m d pc ((pc, .aload i, 2, []) :: cd) L S s cs ss x κ :=
  g_pure ok rfl (fun hw hl hs => ⟨g_ld h (gtr_ok ht), hl, gS1 hs (hl _ (gget_mem h))⟩) (gch1 rfl) k
/-- stores -/
theorem g_sto {t : es_V → Bool} {i n nL : Nat} {v : gV} (hn : Nat.blt i nL = true) (ht : t (gf v) = true) : es_sto t nL i n pc (gL L) ((v :: S).map gf) = some (pc + n, gL (gst L i v), S.map gf) := by
  show (bif t (gf v) && Nat.blt i nL then some (pc + n, es_st (gL L) i (gf v), S.map gf) else none) = _
  rw [ht, hn, gL_st]
  rfl
theorem g_istore_n (ok : gOK X) {i : Fin 4} {v : Int} {a : Nat} (hn : Nat.blt i (es_mL T) = true) (hL : gst L i (0, v, a) = L') (k : Go X T m d (pc + 1) cd L' S s cs ss x κ) : Go X T m d pc ((pc, .istore_n i, 1, []) :: cd) L ((0, v, a) :: S) s cs ss x κ := by
  subst hL
  exact g_pure ok rfl (fun hw hl hs => ⟨g_sto hn rfl, gLs hl (gS2 hs).1, (gS2 hs).2⟩) (gch1 rfl) k
theorem g_istore (ok : gOK X) {i : Nat} {v : Int} {a : Nat} (hn : Nat.blt i (es_mL T) = true) (hL : gst L i (0, v, a) = L') (k : Go X T m d (pc + 2) cd L' S s cs ss x κ) : Go X T m d pc ((pc, .istore i, 2, []) :: cd) L ((0, v, a) :: S) s cs ss x κ := by
  subst hL
  exact g_pure ok rfl (fun hw hl hs => ⟨g_sto hn rfl, gLs hl (gS2 hs).1, (gS2 hs).2⟩) (gch1 rfl) k
theorem gta_ok {v : gV} (h : (gtr v.1 || Nat.beq v.1 7) = true) : es_ta (gf v) = true := by
  unfold es_ta
  rw [Bool.or_eq_true] at h ⊢
  rcases h with h | h
  · exact Or.inl (gtr_ok h)
  · obtain ⟨t, w⟩ := v
    have e := es_beq.mp h
    dsimp only at e
    subst e
    exact Or.inr rfl
theorem g_astore_n (ok : gOK X) {i : Fin 4} {v : gV} (hn : Nat.blt i (es_mL T) = true) (ht : (gtr v.1 || Nat.beq v.1 7) = true) (hL : gst L i v = L') (k : Go X T m d (pc + 1) cd L' S s cs ss x κ) : Go X T m d pc ((pc, .astore_n i, 1, []) :: cd) L (v :: S) s cs ss x κ := by
  subst hL
  exact g_pure ok rfl (fun hw hl hs => ⟨g_sto hn (gta_ok ht), gLs hl (gS2 hs).1, (gS2 hs).2⟩) (gch1 rfl) k
theorem g_astore (ok : gOK X) {i : Nat} {v : gV} (hn : Nat.blt i (es_mL T) = true) (ht : (gtr v.1 || Nat.beq v.1 7) = true) (hL : gst L i v = L') (k : Go X T m d (pc + 2) cd L' S s cs ss x κ) : Go X T m d pc ((pc, .astore i, 2, []) :: cd) L (v :: S) s cs ss x κ := by
  subst hL
  exact g_pure ok rfl (fun hw hl hs => ⟨g_sto hn (gta_ok ht), gLs hl (gS2 hs).1, (gS2 hs).2⟩) (gch1 rfl) k
theorem g_lst {i n nL : Nat} {v : Int} {a : Nat} (hn : Nat.blt (i + 1) nL = true) : es_lst nL i n pc (gL L) (((2, v, a) :: S).map gf) = some (pc + n, gL (es_del (gst L i (2, v, a)) (i + 1)), S.map gf) := by
  show (bif Nat.beq 2 2 && Nat.blt (i + 1) nL then some (pc + n, es_del (es_st (gL L) i (gf (2, v, a))) (i + 1), S.map gf) else none) = _
  rw [hn, gL_st, gL_del]
  rfl
theorem g_lstore_n (ok : gOK X) {i : Fin 4} {v : Int} {a : Nat} (hn : Nat.blt (i + 1) (es_mL T) = true) (hL : es_del (gst L i (2, v, a)) (i + 1) = L') (k : Go X T m d (pc + 1) cd L' S s cs ss x κ) : Go X T m d pc ((pc, .lstore_n i, 1, []) :: cd) L ((2, v, a) :: S) s cs ss x κ := by
  subst hL
  exact g_pure ok rfl (fun hw hl hs => ⟨g_lst hn, fun q hq => gLs hl (gS2 hs).1 q (gmem_del hq), (gS2 hs).2⟩) (gch1 rfl) k
theorem g_lstore (ok : gOK X) {i : Nat} {v : Int} {a : Nat} (hn : Nat.blt (i + 1) (es_mL T) = true) (hL : es_del (gst L i (2, v, a)) (i + 1) = L') (k : Go X T m d (pc + 2) cd L' S s cs ss x κ) : Go X T m d pc ((pc, .lstore i, 2, []) :: cd) L ((2, v, a) :: S) s cs ss x κ := by
  subst hL
  exact g_pure ok rfl (fun hw hl hs => ⟨g_lst hn, fun q hq => gLs hl (gS2 hs).1 q (gmem_del hq), (gS2 hs).2⟩) (gch1 rfl) k
theorem g_iinc (ok : gOK X) {i : Nat} {n v : Int} {a : Nat} (h : es_get L i = some (0, v, a)) (hn : Nat.blt i (es_mL T) = true) (hL : gst L i (0, g32 (v + n), 0) = L') (k : Go X T m d (pc + 3) cd L' S s cs ss x κ) : Go X T m d pc ((pc, .iinc i n, 3, []) :: cd) L S s cs ss x κ := by
  subst hL
  refine g_pure ok rfl (fun hw hl hs => ⟨?_, gLs hl (gok_i.mpr (gc32_b _)), hs⟩) (gch1 rfl) k
  show (match es_get (gL L) i with
    | some v => bif es_ti v && Nat.blt i (es_mL T) then some (pc + 3, es_st (gL L) i (es_un (fun x => x + Int32.ofInt n) (gF X) v), S.map gf) else none
    | none => none) = _
  rw [gL_get, h]
  show (bif es_ti (0, eI v) && Nat.blt i (es_mL T) then some (pc + 3, es_st (gL L) i (es_un (fun x => x + Int32.ofInt n) (gF X) (0, eI v)), S.map gf) else none) = _
  rw [hn, gun, g32_add, ← gL_st]
  rfl
/-- arithmetic -/
theorem g_op2 (ok : gOK X) {ins : Instr} (f : Int32 → Int32 → Int32) (hf : ∀ nL pc L S F, es_pure nL ins pc L S F = es_i2 f pc L S F) {v w z : Int} {a b : Nat} (hz : (f (Int32.ofInt v) (Int32.ofInt w)).toInt = z) (k : Go X T m d (pc + 1) cd L ((0, z, 0) :: S) s cs ss x κ) : Go X T m d pc ((pc, ins, 1, []) :: cd) L ((0, w, b) :: (0, v, a) :: S) s cs ss x κ := by
  refine g_pure ok rfl (fun hw hl hs => ⟨?_, hl, gS1 (gS2 (gS2 hs).2).2 (gok_i.mpr (by rw [← hz]; exact gc32_t _))⟩) (gch1 rfl) k
  show es_pure (es_mL T) ins pc _ _ _ = _
  rw [hf]
  show some (pc + 1, gL L, es_bin f (gF X) (0, eI v) (0, eI w) :: S.map gf) = _
  rw [gbn, hz]
  rfl
theorem g_iadd (ok : gOK X) {v w : Int} {a b : Nat} (k : Go X T m d (pc + 1) cd L ((0, g32 (v + w), 0) :: S) s cs ss x κ) : Go X T m d pc ((pc, .iadd, 1, []) :: cd) L ((0, w, b) :: (0, v, a) :: S) s cs ss x κ := g_op2 ok (fun x y => x + y) (fun _ _ _ _ _ => rfl) (g32_add v w) k
theorem g_isub (ok : gOK X) {v w : Int} {a b : Nat} (k : Go X T m d (pc + 1) cd L ((0, g32 (v - w), 0) :: S) s cs ss x κ) : Go X T m d pc ((pc, .isub, 1, []) :: cd) L ((0, w, b) :: (0, v, a) :: S) s cs ss x κ := g_op2 ok (fun x y => x - y) (fun _ _ _ _ _ => rfl) (g32_sub v w) k
theorem g_imul (ok : gOK X) {v w : Int} {a b : Nat} (k : Go X T m d (pc + 1) cd L ((0, g32 (v * w), 0) :: S) s cs ss x κ) : Go X T m d pc ((pc, .imul, 1, []) :: cd) L ((0, w, b) :: (0, v, a) :: S) s cs ss x κ := g_op2 ok (fun x y => x * y) (fun _ _ _ _ _ => rfl) (g32_mul v w) k
theorem g_iand (ok : gOK X) {v w : Int} {a b : Nat} (k : Go X T m d (pc + 1) cd L ((0, gand v w, 0) :: S) s cs ss x κ) : Go X T m d pc ((pc, .iand, 1, []) :: cd) L ((0, w, b) :: (0, v, a) :: S) s cs ss x κ := g_op2 ok (fun x y => x &&& y) (fun _ _ _ _ _ => rfl) rfl k
theorem g_ior (ok : gOK X) {v w : Int} {a b : Nat} (k : Go X T m d (pc + 1) cd L ((0, gor v w, 0) :: S) s cs ss x κ) : Go X T m d pc ((pc, .ior, 1, []) :: cd) L ((0, w, b) :: (0, v, a) :: S) s cs ss x κ := g_op2 ok (fun x y => x ||| y) (fun _ _ _ _ _ => rfl) rfl k
theorem g_ixor (ok : gOK X) {v w : Int} {a b : Nat} (k : Go X T m d (pc + 1) cd L ((0, gxor v w, 0) :: S) s cs ss x κ) : Go X T m d pc ((pc, .ixor, 1, []) :: cd) L ((0, w, b) :: (0, v, a) :: S) s cs ss x κ := g_op2 ok (fun x y => x ^^^ y) (fun _ _ _ _ _ => rfl) rfl k
theorem g_ishl (ok : gOK X) {v w : Int} {a b : Nat} (k : Go X T m d (pc + 1) cd L ((0, gshl v w, 0) :: S) s cs ss x κ) : Go X T m d pc ((pc, .ishl, 1, []) :: cd) L ((0, w, b) :: (0, v, a) :: S) s cs ss x κ := g_op2 ok (fun x y => x <<< (y &&& 31)) (fun _ _ _ _ _ => rfl) rfl k
theorem g_ishr (ok : gOK X) {v w : Int} {a b : Nat} (k : Go X T m d (pc + 1) cd L ((0, gshr v w, 0) :: S) s cs ss x κ) : Go X T m d pc ((pc, .ishr, 1, []) :: cd) L ((0, w, b) :: (0, v, a) :: S) s cs ss x κ := g_op2 ok (fun x y => x >>> (y &&& 31)) (fun _ _ _ _ _ => rfl) rfl k
theorem g_iushr (ok : gOK X) {v w : Int} {a b : Nat} (k : Go X T m d (pc + 1) cd L ((0, gushr v w, 0) :: S) s cs ss x κ) : Go X T m d pc ((pc, .iushr, 1, []) :: cd) L ((0, w, b) :: (0, v, a) :: S) s cs ss x κ := g_op2 ok (fun x y => (x.toUInt32 >>> (y.toUInt32 &&& Int32.toUInt32 31)).toInt32) (fun _ _ _ _ _ => rfl) rfl k
theorem g_opd (ok : gOK X) {ins : Instr} (f : Int32 → Int32 → Int32) (hf : ∀ nL pc L S F, es_pure nL ins pc L S F = es_d2 f pc L S F) {v w z : Int} {a b : Nat} (h0 : w ≠ 0) (hz : (f (Int32.ofInt v) (Int32.ofInt w)).toInt = z) (k : Go X T m d (pc + 1) cd L ((0, z, 0) :: S) s cs ss x κ) : Go X T m d pc ((pc, ins, 1, []) :: cd) L ((0, w, b) :: (0, v, a) :: S) s cs ss x κ := by
  refine g_pure ok rfl (fun hw hl hs => ⟨?_, hl, gS1 (gS2 (gS2 hs).2).2 (gok_i.mpr (by rw [← hz]; exact gc32_t _))⟩) (gch1 rfl) k
  show es_pure (es_mL T) ins pc _ _ _ = _
  rw [hf]
  show (bif es_ti (0, eI v) && (es_ti (0, eI w) && !decide (nI (eI w) = 0)) then some (pc + 1, gL L, es_bin f (gF X) (0, eI v) (0, eI w) :: S.map gf) else none) = _
  rw [gz0 (gok_i.mp (gS2 hs).1) h0, gbn, hz]
  rfl
theorem g_idiv (ok : gOK X) {v w : Int} {a b : Nat} (h0 : w ≠ 0) (k : Go X T m d (pc + 1) cd L ((0, gdiv v w, 0) :: S) s cs ss x κ) : Go X T m d pc ((pc, .idiv, 1, []) :: cd) L ((0, w, b) :: (0, v, a) :: S) s cs ss x κ := g_opd ok (fun x y => x / y) (fun _ _ _ _ _ => rfl) h0 rfl k
theorem g_irem (ok : gOK X) {v w : Int} {a b : Nat} (h0 : w ≠ 0) (k : Go X T m d (pc + 1) cd L ((0, grem v w, 0) :: S) s cs ss x κ) : Go X T m d pc ((pc, .irem, 1, []) :: cd) L ((0, w, b) :: (0, v, a) :: S) s cs ss x κ := g_opd ok (fun x y => x - x / y * y) (fun _ _ _ _ _ => rfl) h0 rfl k
theorem g_ineg (ok : gOK X) {v : Int} {a : Nat} (k : Go X T m d (pc + 1) cd L ((0, g32 (-v), 0) :: S) s cs ss x κ) : Go X T m d pc ((pc, .ineg, 1, []) :: cd) L ((0, v, a) :: S) s cs ss x κ := by
  refine g_pure ok rfl (fun hw hl hs => ⟨?_, hl, gS1 (gS2 hs).2 (gok_i.mpr (gc32_b _))⟩) (gch1 rfl) k
  show some (pc + 1, gL L, es_un (fun x => -x) (gF X) (0, eI v) :: S.map gf) = _
  rw [gun, g32_neg]
  rfl
theorem g_i2c (ok : gOK X) {v : Int} {a : Nat} (k : Go X T m d (pc + 1) cd L ((0, gi2c v, 0) :: S) s cs ss x κ) : Go X T m d pc ((pc, .i2c, 1, []) :: cd) L ((0, v, a) :: S) s cs ss x κ := by
  refine g_pure ok rfl (fun hw hl hs => ⟨?_, hl, gS1 (gS2 hs).2 (gok_i.mpr (gc32_t _))⟩) (gch1 rfl) k
  show some (pc + 1, gL L, es_un (fun x => (x.toUInt32 % 65536).toInt32) (gF X) (0, eI v) :: S.map gf) = _
  rw [gun]
  rfl
theorem g_op2l (ok : gOK X) {ins : Instr} (f : Int64 → Int64 → Int64) (hf : ∀ nL pc L S F, es_pure nL ins pc L S F = es_l2 f pc L S) {v w z : Int} {a b : Nat} (hz : (f (Int64.ofInt v) (Int64.ofInt w)).toInt = z) (k : Go X T m d (pc + 1) cd L ((2, z, 0) :: S) s cs ss x κ) : Go X T m d pc ((pc, ins, 1, []) :: cd) L ((2, w, b) :: (2, v, a) :: S) s cs ss x κ := by
  refine g_pure ok rfl (fun hw hl hs => ⟨?_, hl, gS1 (gS2 (gS2 hs).2).2 (gok_l.mpr (by rw [← hz]; exact gc64_t _))⟩) (gch1 rfl) k
  show es_pure (es_mL T) ins pc _ _ _ = _
  rw [hf]
  show some (pc + 1, gL L, es_lbin f (2, eJ v) (2, eJ w) :: S.map gf) = _
  rw [glb, hz]
  rfl
theorem g_ladd (ok : gOK X) {v w : Int} {a b : Nat} (k : Go X T m d (pc + 1) cd L ((2, g64 (v + w), 0) :: S) s cs ss x κ) : Go X T m d pc ((pc, .ladd, 1, []) :: cd) L ((2, w, b) :: (2, v, a) :: S) s cs ss x κ := g_op2l ok (fun x y => x + y) (fun _ _ _ _ _ => rfl) (g64_add v w) k
theorem g_lsub (ok : gOK X) {v w : Int} {a b : Nat} (k : Go X T m d (pc + 1) cd L ((2, g64 (v - w), 0) :: S) s cs ss x κ) : Go X T m d pc ((pc, .lsub, 1, []) :: cd) L ((2, w, b) :: (2, v, a) :: S) s cs ss x κ := g_op2l ok (fun x y => x - y) (fun _ _ _ _ _ => rfl) (g64_sub v w) k
theorem g_lmul (ok : gOK X) {v w : Int} {a b : Nat} (k : Go X T m d (pc + 1) cd L ((2, g64 (v * w), 0) :: S) s cs ss x κ) : Go X T m d pc ((pc, .lmul, 1, []) :: cd) L ((2, w, b) :: (2, v, a) :: S) s cs ss x κ := g_op2l ok (fun x y => x * y) (fun _ _ _ _ _ => rfl) (g64_mul v w) k
theorem g_land (ok : gOK X) {v w : Int} {a b : Nat} (k : Go X T m d (pc + 1) cd L ((2, gland v w, 0) :: S) s cs ss x κ) : Go X T m d pc ((pc, .land, 1, []) :: cd) L ((2, w, b) :: (2, v, a) :: S) s cs ss x κ := g_op2l ok (fun x y => x &&& y) (fun _ _ _ _ _ => rfl) rfl k
theorem g_lor (ok : gOK X) {v w : Int} {a b : Nat} (k : Go X T m d (pc + 1) cd L ((2, glor v w, 0) :: S) s cs ss x κ) : Go X T m d pc ((pc, .lor, 1, []) :: cd) L ((2, w, b) :: (2, v, a) :: S) s cs ss x κ := g_op2l ok (fun x y => x ||| y) (fun _ _ _ _ _ => rfl) rfl k
theorem g_ldiv (ok : gOK X) {v w : Int} {a b : Nat} (h0 : w ≠ 0) (k : Go X T m d (pc + 1) cd L ((2, gldiv v w, 0) :: S) s cs ss x κ) : Go X T m d pc ((pc, .ldiv, 1, []) :: cd) L ((2, w, b) :: (2, v, a) :: S) s cs ss x κ := by
  refine g_pure ok rfl (fun hw hl hs => ⟨?_, hl, gS1 (gS2 (gS2 hs).2).2 (gok_l.mpr (gc64_t _))⟩) (gch1 rfl) k
  show (bif (Nat.beq 2 2 && Nat.beq 2 2) && !decide (lN (eJ w) = 0) then some (pc + 1, gL L, es_lbin (fun x y => x / y) (2, eJ v) (2, eJ w) :: S.map gf) else none) = _
  rw [glz0 (gok_l.mp (gS2 hs).1) h0, glb]
  rfl
theorem g_opls (ok : gOK X) {ins : Instr} (f : Int64 → Int32 → Int64) (hf : ∀ nL pc L S F, es_pure nL ins pc L S F = es_lsh f pc L S F) {v w : Int} {a b : Nat} {z : Int} (hz : (f (Int64.ofInt v) (Int32.ofInt w)).toInt = z) (k : Go X T m d (pc + 1) cd L ((2, z, 0) :: S) s cs ss x κ) : Go X T m d pc ((pc, ins, 1, []) :: cd) L ((0, w, b) :: (2, v, a) :: S) s cs ss x κ := by
  refine g_pure ok rfl (fun hw hl hs => ⟨?_, hl, gS1 (gS2 (gS2 hs).2).2 (gok_l.mpr (by rw [← hz]; exact gc64_t _))⟩) (gch1 rfl) k
  show es_pure (es_mL T) ins pc _ _ _ = _
  rw [hf]
  show some (pc + 1, gL L, es_lc (f (lN (eJ v)) (nI (eI w))) :: S.map gf) = _
  rw [glN, gnI, gel, hz]
  rfl
theorem g_lshl (ok : gOK X) {v w : Int} {a b : Nat} (k : Go X T m d (pc + 1) cd L ((2, glshl v w, 0) :: S) s cs ss x κ) : Go X T m d pc ((pc, .lshl, 1, []) :: cd) L ((0, w, b) :: (2, v, a) :: S) s cs ss x κ := g_opls ok (fun x y => x <<< (y.toInt64 &&& 63)) (fun _ _ _ _ _ => rfl) rfl k
theorem g_lshr (ok : gOK X) {v w : Int} {a b : Nat} (k : Go X T m d (pc + 1) cd L ((2, glshr v w, 0) :: S) s cs ss x κ) : Go X T m d pc ((pc, .lshr, 1, []) :: cd) L ((0, w, b) :: (2, v, a) :: S) s cs ss x κ := g_opls ok (fun x y => x >>> (y.toInt64 &&& 63)) (fun _ _ _ _ _ => rfl) rfl k
theorem g_lushr (ok : gOK X) {v w : Int} {a b : Nat} (k : Go X T m d (pc + 1) cd L ((2, glushr v w, 0) :: S) s cs ss x κ) : Go X T m d pc ((pc, .lushr, 1, []) :: cd) L ((0, w, b) :: (2, v, a) :: S) s cs ss x κ := g_opls ok (fun x y => (x.toUInt64 >>> (y.toInt64.toUInt64 &&& Int64.toUInt64 63)).toInt64) (fun _ _ _ _ _ => rfl) rfl k
theorem g_i2l (ok : gOK X) {v : Int} {a : Nat} (k : Go X T m d (pc + 1) cd L ((2, v, 0) :: S) s cs ss x κ) : Go X T m d pc ((pc, .i2l, 1, []) :: cd) L ((0, v, a) :: S) s cs ss x κ := by
  refine g_pure ok rfl (fun hw hl hs => ⟨?_, hl, gS1 (gS2 hs).2 (gok_l.mpr (gc6432 (gok_i.mp (gS2 hs).1)))⟩) (gch1 rfl) k
  show some (pc + 1, gL L, es_lc (nI (eI v)).toInt64 :: S.map gf) = _
  rw [gnI, gel, gi2l (gok_i.mp (gS2 hs).1)]
  rfl
theorem g_l2i (ok : gOK X) {v : Int} {a : Nat} (k : Go X T m d (pc + 1) cd L ((0, g32 v, 0) :: S) s cs ss x κ) : Go X T m d pc ((pc, .l2i, 1, []) :: cd) L ((2, v, a) :: S) s cs ss x κ := by
  refine g_pure ok rfl (fun hw hl hs => ⟨?_, hl, gS1 (gS2 hs).2 (gok_i.mpr (gc32_b _))⟩) (gch1 rfl) k
  show some (pc + 1, gL L, es_c (lN (eJ v)).toInt32 :: S.map gf) = _
  rw [glN, ges, gl2i (gok_l.mp (gS2 hs).1)]
  rfl
theorem g_lcmp (ok : gOK X) {v w : Int} {a b : Nat} (k : Go X T m d (pc + 1) cd L ((0, gcmp v w, 0) :: S) s cs ss x κ) : Go X T m d pc ((pc, .lcmp, 1, []) :: cd) L ((2, w, b) :: (2, v, a) :: S) s cs ss x κ := by
  refine g_pure ok rfl (fun hw hl hs => ⟨?_, hl, gS1 (gS2 (gS2 hs).2).2 (gok_i.mpr ?_)⟩) (gch1 rfl) k
  · show some (pc + 1, gL L, es_c (lg_cmp (lN (eJ v)) (lN (eJ w))) :: S.map gf) = _
    rw [glN, glN, ges, glcmp (gok_l.mp (gS2 (gS2 hs).2).1) (gok_l.mp (gS2 hs).1)]
    rfl
  · unfold gcmp gc32
    split
    · decide
    · split
      · decide
      · decide
/-- stack -/
theorem g_dup (ok : gOK X) {v : gV} (h2 : Nat.beq v.1 2 = false) (k : Go X T m d (pc + 1) cd L (v :: v :: S) s cs ss x κ) : Go X T m d pc ((pc, .dup, 1, []) :: cd) L (v :: S) s cs ss x κ := by
  refine g_pure ok rfl (fun hw hl hs => ⟨?_, hl, gS1 hs (gS2 hs).1⟩) (gch1 rfl) k
  show (bif Nat.beq (gf v).1 2 then none else some (pc + 1, gL L, gf v :: gf v :: S.map gf)) = _
  rw [gf_2, h2]
  rfl
theorem g_pop (ok : gOK X) {v : gV} (h2 : Nat.beq v.1 2 = false) (k : Go X T m d (pc + 1) cd L S s cs ss x κ) : Go X T m d pc ((pc, .pop, 1, []) :: cd) L (v :: S) s cs ss x κ := by
  refine g_pure ok rfl (fun hw hl hs => ⟨?_, hl, (gS2 hs).2⟩) (gch1 rfl) k
  show (bif Nat.beq (gf v).1 2 then none else some (pc + 1, gL L, S.map gf)) = _
  rw [gf_2, h2]
  rfl
theorem g_dup2 (ok : gOK X) {v w : gV} (h2 : Nat.beq v.1 2 = false) (h3 : Nat.beq w.1 2 = false) (k : Go X T m d (pc + 1) cd L (w :: v :: w :: v :: S) s cs ss x κ) : Go X T m d pc ((pc, .dup2, 1, []) :: cd) L (w :: v :: S) s cs ss x κ := by
  refine g_pure ok rfl (fun hw hl hs => ⟨?_, hl, gS1 (gS1 hs (gS2 (gS2 hs).2).1) (gS2 hs).1⟩) (gch1 rfl) k
  show (bif Nat.beq (gf v).1 2 || Nat.beq (gf w).1 2 then none else some (pc + 1, gL L, gf w :: gf v :: gf w :: gf v :: S.map gf)) = _
  rw [gf_2, gf_2, h2, h3]
  rfl
theorem g_goto (ok : gOK X) {off : Int} {t : Nat} (ht : es_to pc off = some t) (k : Go X T m d t [] L S s cs ss x κ) : Go X T m d pc ((pc, .goto off, 3, []) :: cd) L S s cs ss x κ := by
  refine g_pure ok rfl (fun hw hl hs => ⟨?_, hl, hs⟩) (fun _ => rfl) k
  show (match es_to pc off with | some t => some (t, gL L, S.map gf) | none => none) = _
  rw [ht]
end GoR

end
section
section GoH
variable {X : gX} {T : es_M} {m d pc pc' : Nat} {cd cd' : List es_I} {L L' : List (Nat × gV)} {S S' : List gV} {s s' : gS} {cs ss : Nat} {Q : Type} {x y : Option Q} {κ : Q → Option gO}
/-- a branch: the row's own test -/
theorem gbr (op : es_Op) {v w : Int} (F : es_F) (hv : gc32 v) (hw : gc32 w) : es_br F op (0, eI v) (0, eI w) = bif gcp op v w then [F] else [] := by
  show (bif es_cmp op (es_bz (eI v)) (es_bz (eI w)) then [F] else []) = _
  rw [gcpk op hv hw]
theorem gng (op : es_Op) (v w : Int) : gcp (es_ng op) v w = !gcp op v w := by
  cases op
  · rfl
  · show decide (v = w) = !!decide (v = w); rw [Bool.not_not]
  · show decide (w ≤ v) = !decide (v < w)
    by_cases h : v < w
    · rw [decide_eq_true h, decide_eq_false (by omega)]; rfl
    · rw [decide_eq_false h, decide_eq_true (by omega)]; rfl
  · show decide (v < w) = !decide (w ≤ v)
    by_cases h : v < w
    · rw [decide_eq_true h, decide_eq_false (by omega)]; rfl
    · rw [decide_eq_false h, decide_eq_true (by omega)]; rfl
  · show decide (v ≤ w) = !decide (w < v)
    by_cases h : w < v
    · rw [decide_eq_true h, decide_eq_false (by omega)]; rfl
    · rw [decide_eq_false h, decide_eq_true (by omega)]; rfl
  · show decide (w < v) = !decide (v ≤ w)
    by_cases h : w < v
    · rw [decide_eq_true h, decide_eq_false (by omega)]; rfl
    · rw [decide_eq_false h, decide_eq_true (by omega)]; rfl
theorem gs_if2 {ME : Nat → es_M} {strs : List (String × Nat × String)} {SL : Nat} {ih : Nat → es_K → Option (List es_E)} {M : Nat} {Le : es_L} {Se : List es_V} {AH : List es_O} {F : es_F} {op : es_Op} {off : Int} {v w : Int} {t : Nat} (hat : es_at (es_tab (ME M)) pc = some (pc, .if_icmp op off, 3, [])) (hv : gc32 v) (hw : gc32 w) (ht : es_to pc off = some t) :
    es_step ME strs SL ih M (pc, Le, (0, eI w) :: (0, eI v) :: Se, AH, F, cs, ss) = (bif gcp op v w then ih M (t, Le, Se, AH, F, cs, ss) else ih M (pc + 3, Le, Se, AH, F, cs, ss)) := by
  unfold es_step
  dsimp only
  rw [hat]
  dsimp only
  rw [show es_pure (es_mL (ME M)) (Instr.if_icmp op off) pc Le ((0, eI w) :: (0, eI v) :: Se) F = none from rfl, show es_hs SL (ME M) (pc, Instr.if_icmp op off, 3, []) (pc, Le, (0, eI w) :: (0, eI v) :: Se, AH, F, cs, ss) = none from rfl, ht]
  dsimp only
  rw [show (es_ti (0, eI v) && es_ti (0, eI w)) = true from rfl]
  dsimp only [cond_true]
  rw [gbr op F hv hw, gbr (es_ng op) F hv hw, gng]
  cases gcp op v w
  · simp only [es_cat, cond_false, Bool.not_false, cond_true]
    cases ih M (pc + 3, Le, Se, AH, F, cs, ss) with
    | none => rfl
    | some z => simp
  · simp only [es_cat, cond_false, Bool.not_true, cond_true]
    cases ih M (t, Le, Se, AH, F, cs, ss) with
    | none => rfl
    | some z => simp
theorem gs_if1 {ME : Nat → es_M} {strs : List (String × Nat × String)} {SL : Nat} {ih : Nat → es_K → Option (List es_E)} {M : Nat} {Le : es_L} {Se : List es_V} {AH : List es_O} {F : es_F} {op : es_Op} {off : Int} {v : Int} {t : Nat} (hat : es_at (es_tab (ME M)) pc = some (pc, .ifCond op off, 3, [])) (hv : gc32 v) (ht : es_to pc off = some t) :
    es_step ME strs SL ih M (pc, Le, (0, eI v) :: Se, AH, F, cs, ss) = (bif gcp op v 0 then ih M (t, Le, Se, AH, F, cs, ss) else ih M (pc + 3, Le, Se, AH, F, cs, ss)) := by
  have e0 : ((0, 0) : es_V) = (0, eI 0) := rfl
  unfold es_step
  dsimp only
  rw [hat]
  dsimp only
  rw [show es_pure (es_mL (ME M)) (Instr.ifCond op off) pc Le ((0, eI v) :: Se) F = none from rfl, show es_hs SL (ME M) (pc, Instr.ifCond op off, 3, []) (pc, Le, (0, eI v) :: Se, AH, F, cs, ss) = none from rfl, ht]
  dsimp only
  rw [show es_ti (0, eI v) = true from rfl]
  dsimp only [cond_true]
  rw [e0, gbr op F hv (by unfold gc32; decide), gbr (es_ng op) F hv (by unfold gc32; decide), gng]
  cases gcp op v 0
  · simp only [es_cat, cond_false, Bool.not_false, cond_true]
    cases ih M (pc + 3, Le, Se, AH, F, cs, ss) with
    | none => rfl
    | some z => simp
  · simp only [es_cat, cond_false, Bool.not_true, cond_true]
    cases ih M (t, Le, Se, AH, F, cs, ss) with
    | none => rfl
    | some z => simp
theorem g_br2 (ok : gOK X) {op : es_Op} {off : Int} {v w : Int} {a b : Nat} {t : Nat} (ht : es_to pc off = some t) (k1 : gcp op v w = true → Go X T m d t [] L S s cs ss x κ) (k2 : gcp op v w = false → Go X T m d (pc + 3) cd L S s cs ss x κ) : Go X T m d pc ((pc, .if_icmp op off, 3, []) :: cd) L ((0, w, b) :: (0, v, a) :: S) s cs ss x κ := by
  intro h0 hm hc hw hl hs r hr
  have h1 := gS2 hs
  have h2 := gS2 h1.2
  cases hb : gcp op v w
  · refine g_st ok (fun ih => ?_) (k2 hb h0 hm (gch_hd hc).2 hw hl h2.2 r hr)
    rw [show ((0, w, b) :: (0, v, a) :: S).map gf = (0, eI w) :: (0, eI v) :: S.map gf from rfl, gs_if2 (gtab h0 hm (gch_hd hc).1) (gok_i.mp h2.1) (gok_i.mp h1.1) ht, hb]
    rfl
  · refine g_st ok (fun ih => ?_) (k1 hb h0 hm rfl hw hl h2.2 r hr)
    rw [show ((0, w, b) :: (0, v, a) :: S).map gf = (0, eI w) :: (0, eI v) :: S.map gf from rfl, gs_if2 (gtab h0 hm (gch_hd hc).1) (gok_i.mp h2.1) (gok_i.mp h1.1) ht, hb]
    rfl
theorem g_br1 (ok : gOK X) {op : es_Op} {off : Int} {v : Int} {a : Nat} {t : Nat} (ht : es_to pc off = some t) (k1 : gcp op v 0 = true → Go X T m d t [] L S s cs ss x κ) (k2 : gcp op v 0 = false → Go X T m d (pc + 3) cd L S s cs ss x κ) : Go X T m d pc ((pc, .ifCond op off, 3, []) :: cd) L ((0, v, a) :: S) s cs ss x κ := by
  intro h0 hm hc hw hl hs r hr
  have h1 := gS2 hs
  cases hb : gcp op v 0
  · refine g_st ok (fun ih => ?_) (k2 hb h0 hm (gch_hd hc).2 hw hl h1.2 r hr)
    rw [show ((0, v, a) :: S).map gf = (0, eI v) :: S.map gf from rfl, gs_if1 (gtab h0 hm (gch_hd hc).1) (gok_i.mp h1.1) ht, hb]
    rfl
  · refine g_st ok (fun ih => ?_) (k1 hb h0 hm rfl hw hl h1.2 r hr)
    rw [show ((0, v, a) :: S).map gf = (0, eI v) :: S.map gf from rfl, gs_if1 (gtab h0 hm (gch_hd hc).1) (gok_i.mp h1.1) ht, hb]
    rfl
section Br
variable {off : Int} {v w : Int} {a b t : Nat}
theorem g_ic_eq (ok : gOK X) (ht : es_to pc off = some t) (k1 : v = w → Go X T m d t [] L S s cs ss x κ) (k2 : ¬ v = w → Go X T m d (pc + 3) cd L S s cs ss y κ) : Go X T m d pc ((pc, .if_icmp .eq off, 3, []) :: cd) L ((0, w, b) :: (0, v, a) :: S) s cs ss (if v = w then x else y) κ := by
  by_cases h : v = w
  · rw [if_pos h]; exact g_br2 ok ht (fun _ => k1 h) (fun hb => absurd h (of_decide_eq_false hb))
  · rw [if_neg h]; exact g_br2 ok ht (fun hb => absurd (of_decide_eq_true hb) h) (fun _ => k2 h)
theorem g_ic_ne (ok : gOK X) (ht : es_to pc off = some t) (k1 : v = w → Go X T m d (pc + 3) cd L S s cs ss x κ) (k2 : ¬ v = w → Go X T m d t [] L S s cs ss y κ) : Go X T m d pc ((pc, .if_icmp .ne off, 3, []) :: cd) L ((0, w, b) :: (0, v, a) :: S) s cs ss (if v = w then x else y) κ := by
  by_cases h : v = w
  · rw [if_pos h]; exact g_br2 ok ht (fun hb => absurd h (of_decide_eq_false (by simpa [gcp] using hb))) (fun _ => k1 h)
  · rw [if_neg h]; exact g_br2 ok ht (fun _ => k2 h) (fun hb => absurd (of_decide_eq_true (by simpa [gcp] using hb)) h)
theorem g_ic_lt (ok : gOK X) (ht : es_to pc off = some t) (k1 : v < w → Go X T m d t [] L S s cs ss x κ) (k2 : ¬ v < w → Go X T m d (pc + 3) cd L S s cs ss y κ) : Go X T m d pc ((pc, .if_icmp .lt off, 3, []) :: cd) L ((0, w, b) :: (0, v, a) :: S) s cs ss (if v < w then x else y) κ := by
  by_cases h : v < w
  · rw [if_pos h]; exact g_br2 ok ht (fun _ => k1 h) (fun hb => absurd h (of_decide_eq_false hb))
  · rw [if_neg h]; exact g_br2 ok ht (fun hb => absurd (of_decide_eq_true hb) h) (fun _ => k2 h)
theorem g_ic_ge (ok : gOK X) (ht : es_to pc off = some t) (k1 : v < w → Go X T m d (pc + 3) cd L S s cs ss x κ) (k2 : ¬ v < w → Go X T m d t [] L S s cs ss y κ) : Go X T m d pc ((pc, .if_icmp .ge off, 3, []) :: cd) L ((0, w, b) :: (0, v, a) :: S) s cs ss (if v < w then x else y) κ := by
  by_cases h : v < w
  · rw [if_pos h]; exact g_br2 ok ht (fun hb => absurd (of_decide_eq_true hb) (by omega)) (fun _ => k1 h)
  · rw [if_neg h]; exact g_br2 ok ht (fun _ => k2 h) (fun hb => absurd (show w ≤ v by omega) (of_decide_eq_false hb))
theorem g_ic_gt (ok : gOK X) (ht : es_to pc off = some t) (k1 : w < v → Go X T m d t [] L S s cs ss x κ) (k2 : ¬ w < v → Go X T m d (pc + 3) cd L S s cs ss y κ) : Go X T m d pc ((pc, .if_icmp .gt off, 3, []) :: cd) L ((0, w, b) :: (0, v, a) :: S) s cs ss (if w < v then x else y) κ := by
  by_cases h : w < v
  · rw [if_pos h]; exact g_br2 ok ht (fun _ => k1 h) (fun hb => absurd h (of_decide_eq_false hb))
  · rw [if_neg h]; exact g_br2 ok ht (fun hb => absurd (of_decide_eq_true hb) h) (fun _ => k2 h)
theorem g_ic_le (ok : gOK X) (ht : es_to pc off = some t) (k1 : w < v → Go X T m d (pc + 3) cd L S s cs ss x κ) (k2 : ¬ w < v → Go X T m d t [] L S s cs ss y κ) : Go X T m d pc ((pc, .if_icmp .le off, 3, []) :: cd) L ((0, w, b) :: (0, v, a) :: S) s cs ss (if w < v then x else y) κ := by
  by_cases h : w < v
  · rw [if_pos h]; exact g_br2 ok ht (fun hb => absurd (of_decide_eq_true hb) (by omega)) (fun _ => k1 h)
  · rw [if_neg h]; exact g_br2 ok ht (fun _ => k2 h) (fun hb => absurd (show v ≤ w by omega) (of_decide_eq_false hb))
theorem g_if_eq (ok : gOK X) (ht : es_to pc off = some t) (k1 : v = 0 → Go X T m d t [] L S s cs ss x κ) (k2 : ¬ v = 0 → Go X T m d (pc + 3) cd L S s cs ss y κ) : Go X T m d pc ((pc, .ifCond .eq off, 3, []) :: cd) L ((0, v, a) :: S) s cs ss (if v = 0 then x else y) κ := by
  by_cases h : v = 0
  · rw [if_pos h]; exact g_br1 ok ht (fun _ => k1 h) (fun hb => absurd h (of_decide_eq_false hb))
  · rw [if_neg h]; exact g_br1 ok ht (fun hb => absurd (of_decide_eq_true hb) h) (fun _ => k2 h)
theorem g_if_ne (ok : gOK X) (ht : es_to pc off = some t) (k1 : v = 0 → Go X T m d (pc + 3) cd L S s cs ss x κ) (k2 : ¬ v = 0 → Go X T m d t [] L S s cs ss y κ) : Go X T m d pc ((pc, .ifCond .ne off, 3, []) :: cd) L ((0, v, a) :: S) s cs ss (if v = 0 then x else y) κ := by
  by_cases h : v = 0
  · rw [if_pos h]; exact g_br1 ok ht (fun hb => absurd h (of_decide_eq_false (by simpa [gcp] using hb))) (fun _ => k1 h)
  · rw [if_neg h]; exact g_br1 ok ht (fun _ => k2 h) (fun hb => absurd (of_decide_eq_true (by simpa [gcp] using hb)) h)
theorem g_if_lt (ok : gOK X) (ht : es_to pc off = some t) (k1 : v < 0 → Go X T m d t [] L S s cs ss x κ) (k2 : ¬ v < 0 → Go X T m d (pc + 3) cd L S s cs ss y κ) : Go X T m d pc ((pc, .ifCond .lt off, 3, []) :: cd) L ((0, v, a) :: S) s cs ss (if v < 0 then x else y) κ := by
  by_cases h : v < 0
  · rw [if_pos h]; exact g_br1 ok ht (fun _ => k1 h) (fun hb => absurd h (of_decide_eq_false hb))
  · rw [if_neg h]; exact g_br1 ok ht (fun hb => absurd (of_decide_eq_true hb) h) (fun _ => k2 h)
theorem g_if_gt (ok : gOK X) (ht : es_to pc off = some t) (k1 : 0 < v → Go X T m d t [] L S s cs ss x κ) (k2 : ¬ 0 < v → Go X T m d (pc + 3) cd L S s cs ss y κ) : Go X T m d pc ((pc, .ifCond .gt off, 3, []) :: cd) L ((0, v, a) :: S) s cs ss (if 0 < v then x else y) κ := by
  by_cases h : 0 < v
  · rw [if_pos h]; exact g_br1 ok ht (fun _ => k1 h) (fun hb => absurd h (of_decide_eq_false hb))
  · rw [if_neg h]; exact g_br1 ok ht (fun hb => absurd (of_decide_eq_true hb) h) (fun _ => k2 h)
theorem g_if_le (ok : gOK X) (ht : es_to pc off = some t) (k1 : 0 < v → Go X T m d (pc + 3) cd L S s cs ss x κ) (k2 : ¬ 0 < v → Go X T m d t [] L S s cs ss y κ) : Go X T m d pc ((pc, .ifCond .le off, 3, []) :: cd) L ((0, v, a) :: S) s cs ss (if 0 < v then x else y) κ := by
  by_cases h : 0 < v
  · rw [if_pos h]; exact g_br1 ok ht (fun hb => absurd (of_decide_eq_true hb) (by omega)) (fun _ => k1 h)
  · rw [if_neg h]; exact g_br1 ok ht (fun _ => k2 h) (fun hb => absurd (show v ≤ 0 by omega) (of_decide_eq_false hb))
/-- what may be nothing -/
theorem g_ifnull (ok : gOK X) {tg : Nat} {z : Int} (hg : tg = 11 ∨ tg = 12) (ht : es_to pc off = some t) (k1 : a = 0 → Go X T m d t [] L S s cs ss x κ) (k2 : ¬ a = 0 → Go X T m d (pc + 3) cd L S s cs ss y κ) : Go X T m d pc ((pc, .ifnull off, 3, []) :: cd) L ((tg, z, a) :: S) s cs ss (if a = 0 then x else y) κ := by
  have hgf : gf (tg, z, a) = if a = 0 then ((4, 0) : es_V) else (3, a) := by rcases hg with rfl | rfl <;> rfl
  by_cases h : a = 0
  · rw [if_pos h]
    refine g_pure ok rfl (fun hw hl hs => ⟨?_, hl, (gS2 hs).2⟩) (fun _ => rfl) (k1 h)
    rw [List.map_cons, hgf, if_pos h]
    show (match es_to pc off with | some t => some (t, gL L, S.map gf) | none => none) = _
    rw [ht]
  · rw [if_neg h]
    refine g_pure ok rfl (fun hw hl hs => ⟨?_, hl, (gS2 hs).2⟩) (gch1 rfl) (k2 h)
    rw [List.map_cons, hgf, if_neg h]
    rfl
theorem g_ifnonnull (ok : gOK X) {tg : Nat} {z : Int} (hg : tg = 11 ∨ tg = 12) (ht : es_to pc off = some t) (k1 : a = 0 → Go X T m d (pc + 3) cd L S s cs ss x κ) (k2 : ¬ a = 0 → Go X T m d t [] L S s cs ss y κ) : Go X T m d pc ((pc, .ifnonnull off, 3, []) :: cd) L ((tg, z, a) :: S) s cs ss (if a = 0 then x else y) κ := by
  have hgf : gf (tg, z, a) = if a = 0 then ((4, 0) : es_V) else (3, a) := by rcases hg with rfl | rfl <;> rfl
  by_cases h : a = 0
  · rw [if_pos h]
    refine g_pure ok rfl (fun hw hl hs => ⟨?_, hl, (gS2 hs).2⟩) (gch1 rfl) (k1 h)
    rw [List.map_cons, hgf, if_pos h]
    rfl
  · rw [if_neg h]
    refine g_pure ok rfl (fun hw hl hs => ⟨?_, hl, (gS2 hs).2⟩) (fun _ => rfl) (k2 h)
    rw [List.map_cons, hgf, if_neg h]
    show (match es_to pc off with | some t => some (t, gL L, S.map gf) | none => none) = _
    rw [ht]
end Br
end GoH

end
section
noncomputable def gchk (j n : Int) {Q : Type} (x : Option Q) : Option Q := if 0 ≤ j ∧ j < n then x else none
noncomputable def gbool (v : Int) {Q : Type} (x : Option Q) : Option Q := if v = 0 ∨ v = 1 then x else none
section GoM
variable {X : gX} {T : es_M} {m d pc pc' : Nat} {cd cd' : List es_I} {L L' : List (Nat × gV)} {S S' : List gV} {s s' : gS} {cs ss : Nat} {Q : Type} {x y : Option Q} {κ : Q → Option gO}
/-- a step of the heap -/
theorem g_hs (ok : gOK X) {e : es_I} (hax : ∀ a t, e.2.2.2 = a :: t → a ≠ 100 ∧ a ≠ 200 ∧ a ≠ 60) (hpu : ∀ Le Se, es_pure (es_mL T) e.2.1 pc Le Se (gF X) = none) (hp : gwt s → (∀ q ∈ L, gok s q.2) → (∀ v ∈ S, gok s v) → es_hs (gSL X) (gdp d T) e (pc, gL L, S.map gf, gH s, gF X, cs, ss) = some (pc', gL L, S'.map gf, gH s', gF X, cs, ss) ∧ gext s s' ∧ gwt s' ∧ ∀ v ∈ S', gok s' v) (hc : gch T pc (e :: cd) = true → gch T pc' cd' = true) (k : Go X T m d pc' cd' L S' s' cs ss x κ) : Go X T m d pc (e :: cd) L S s cs ss x κ := by
  intro h0 hm hch hw hl hs r hr
  obtain ⟨h1, h2, h3, h4⟩ := hp hw hl hs
  refine gEnd_ext h2 (g_st ok (fun ih => ?_) (k h0 hm (hc hch) h3 (fun q hq => gok_ext h2 (hl q hq)) h4 r hr))
  refine gs_hs (gtab h0 hm (gch_hd hch).1) (by rw [gmL h0 hm]; exact hpu _ _) hax ?_
  rw [gME_at _ hm, h0]
  exact h1
theorem gax {a : Nat} {t : List Nat} (h : a < 60) : ∀ b u, a :: t = b :: u → b ≠ 100 ∧ b ≠ 200 ∧ b ≠ 60 := fun b u e => by
  cases e
  omega
theorem gaxn : ∀ (b : Nat) (u : List Nat), ([] : List Nat) = b :: u → b ≠ 100 ∧ b ≠ 200 ∧ b ≠ 60 := fun b u e => by cases e
theorem gobjC {ci a : Nat} (hci : ci < 13) (ha : a < gn s) (hk : gK s a = ci) : es_obj (gH s) ci (3, a) = some ((List.range (gnf ci)).map (fun i => (i, gf (gfv s a ci i)))) := by
  unfold es_obj
  show (match (gH s)[a]? with
    | some (0, i, c) => bif Nat.beq i ci then some c else none
    | _ => none) = _
  rw [gH_at ha, gobj_c hk hci]
  show (bif Nat.beq ci ci then _ else none) = _
  rw [es_beq.mpr rfl]
  rfl
theorem gobjA {n t a : Nat} (hn : n < 1000000) (ht : t < 8) (ha : a < gn s) (hk : gK s a = 100 + 8 * n + t) : es_ary (gH s) (3, a) = some (t, n, (List.range n).map (fun j => (j, gf (gev s a t j)))) := by
  unfold es_ary
  show (match (gH s)[a]? with
    | some (t + 2, n, c) => bif Nat.blt n 2147483648 then some (t, n, c) else none
    | _ => none) = _
  rw [gH_at ha, gobj_a hk ht]
  show (bif Nat.blt n 2147483648 then _ else none) = _
  rw [es_blt.mpr (by omega)]
  rfl
/-- a field is read -/
theorem g_getf (ok : gOK X) {idx ci k j a : Nat} {z : Int} {w : gV} (hb : (Nat.blt ci 13 && Nat.blt k (gnf ci)) = true) (hw : gfv s a ci k = w) (kk : Go X T m d (pc + 3) cd L (w :: S) s cs ss x κ) : Go X T m d pc ((pc, .getfield idx, 3, [ci, k, j]) :: cd) L ((ci + 16, z, a) :: S) s cs ss x κ := by
  rw [Bool.and_eq_true, es_blt, es_blt] at hb
  refine g_hs ok (gax (by omega)) (fun _ _ => rfl) (fun hwt hl hs => ⟨?_, gext_rf s, hwt, gS1 (gS2 hs).2 ?_⟩) (gch1 rfl) kk
  · obtain ⟨h1, h2⟩ := gok_r.mp (gS2 hs).1
    show (match es_obj (gH s) ci (3, a) with
      | some c => match es_get c k with
        | some w => some (pc + 3, gL L, w :: S.map gf, gH s, gF X, cs, ss)
        | none => none
      | none => none) = _
    rw [gobjC hb.1 h1 h2]
    dsimp only
    rw [grg, if_pos hb.2, hw]
    rfl
  · obtain ⟨h1, h2⟩ := gok_r.mp (gS2 hs).1
    have h3 := (hwt a h1).1 (by omega) k (by rw [h2]; exact hb.2)
    rw [h2, hw] at h3
    exact h3
theorem g_geti (ok : gOK X) {idx ci k j a : Nat} {z : Int} (hb : (Nat.blt ci 13 && Nat.blt k (gnf ci)) = true) (h0 : Nat.beq (gfk ci k) 0 = true) (kk : Go X T m d (pc + 3) cd L ((0, gI s a k, 0) :: S) s cs ss x κ) : Go X T m d pc ((pc, .getfield idx, 3, [ci, k, j]) :: cd) L ((ci + 16, z, a) :: S) s cs ss x κ :=
  g_getf ok hb (by unfold gfv; rw [if_pos (es_beq.mp h0)]) kk
theorem g_getr (ok : gOK X) {idx ci k j a : Nat} (t : Nat) {z : Int} (hb : (Nat.blt ci 13 && Nat.blt k (gnf ci)) = true) (h0 : Nat.beq (gfk ci k) t = true) (h1 : Nat.beq t 0 = false) (kk : Go X T m d (pc + 3) cd L ((t, 0, gR s a k) :: S) s cs ss x κ) : Go X T m d pc ((pc, .getfield idx, 3, [ci, k, j]) :: cd) L ((ci + 16, z, a) :: S) s cs ss x κ :=
  g_getf ok hb (by unfold gfv; rw [es_beq.mp h0, if_neg (es_beqf.mp h1)]) kk
/-- the law of a book, or nothing, then a field of it -/
theorem g_getl (ok : gOK X) {idx k j a : Nat} {z : Int} {w : gV} (h0 : a ≠ 0) (hb : Nat.blt k 2 = true) (hw : gfv s a 4 k = w) (kk : Go X T m d (pc + 3) cd L (w :: S) s cs ss x κ) : Go X T m d pc ((pc, .getfield idx, 3, [4, k, j]) :: cd) L ((11, z, a) :: S) s cs ss x κ := by
  rw [es_blt] at hb
  refine g_hs ok (gax (by omega)) (fun _ _ => rfl) (fun hwt hl hs => ⟨?_, gext_rf s, hwt, gS1 (gS2 hs).2 ?_⟩) (gch1 rfl) kk
  · obtain ⟨h1, h2⟩ := (gS2 hs).1 h0
    rw [List.map_cons, show gf (11, z, a) = (3, a) from if_neg h0]
    show (match es_obj (gH s) 4 (3, a) with
      | some c => match es_get c k with
        | some w => some (pc + 3, gL L, w :: S.map gf, gH s, gF X, cs, ss)
        | none => none
      | none => none) = _
    rw [gobjC (by decide) h1 h2]
    dsimp only
    rw [grg, if_pos (show k < gnf 4 from hb), hw]
    rfl
  · obtain ⟨h1, h2⟩ := (gS2 hs).1 h0
    have h3 := (hwt a h1).1 (by have h9 : gK s a = 4 := h2; omega) k (by have h9 : gK s a = 4 := h2; rw [h9]; exact hb)
    rw [show gK s a = 4 from h2, hw] at h3
    exact h3
theorem gw_I (s : gS) (a k : Nat) (v : Int) (b i : Nat) : gI (gw s a k v) b i = if b = a ∧ i = k then v else gI s b i := rfl
theorem gw_R (s : gS) (a k : Nat) (v : Int) (b i : Nat) : gR (gw s a k v) b i = gR s b i := rfl
theorem gw_K (s : gS) (a k : Nat) (v : Int) (b : Nat) : gK (gw s a k v) b = gK s b := rfl
theorem gw_n (s : gS) (a k : Nat) (v : Int) : gn (gw s a k v) = gn s := rfl
theorem gwr_I (s : gS) (a k r : Nat) (b i : Nat) : gI (gwr s a k r) b i = gI s b i := rfl
theorem gwr_R (s : gS) (a k r : Nat) (b i : Nat) : gR (gwr s a k r) b i = if b = a ∧ i = k then r else gR s b i := rfl
theorem gobj_eq {a : Nat} (hK : gK s' a = gK s a) (hI : ∀ i, gI s' a i = gI s a i) (hR : ∀ i, gR s' a i = gR s a i) : gobj s' a = gobj s a := by
  have h1 : ∀ k i, gfv s' a k i = gfv s a k i := fun k i => by unfold gfv; rw [hI, hR]
  have h2 : ∀ t j, gev s' a t j = gev s a t j := fun t j => by unfold gev; split <;> simp only [hI, hR]
  unfold gobj
  simp only [hK, h1, h2]
theorem gw_fv {a k ci : Nat} {v : Int} (h0 : gfk ci k = 0) (i : Nat) : gfv (gw s a k v) a ci i = if i = k then (0, v, 0) else gfv s a ci i := by
  by_cases h : i = k
  · subst h
    unfold gfv
    rw [if_pos h0, gw_I, if_pos ⟨rfl, rfl⟩, if_pos rfl]
  · rw [if_neg h]
    unfold gfv
    rw [gw_I, gw_R, if_neg (show ¬ (a = a ∧ i = k) from fun e => h e.2)]
theorem gw_H {a k ci : Nat} {v : Int} (hci : ci < 13) (h0 : gfk ci k = 0) (hk : gK s a = ci) (hkn : k < gnf ci) : gH (gw s a k v) = (gH s).set a (0, ci, es_set ((List.range (gnf ci)).map (fun i => (i, gf (gfv s a ci i)))) k (0, eI v)) := by
  rw [gH_set (s := s) (a := a) (gw_n s a k v) (fun b _ hb => gobj_eq rfl (fun i => by rw [gw_I, if_neg (fun e => hb e.1)]) (fun i => rfl)), gobj_c (s := gw s a k v) (show gK (gw s a k v) a = ci from hk) hci, grn _ hkn]
  congr 3
  apply List.map_congr_left
  intro i _
  rw [gw_fv h0]
  by_cases h : i = k
  · rw [if_pos h, if_pos h]; rfl
  · rw [if_neg h, if_neg h]
theorem gw_wt {a k ci : Nat} {v : Int} (hci : ci < 13) (h0 : gfk ci k = 0) (hk : gK s a = ci) (hv : gc32 v) (hw : gwt s) : gwt (gw s a k v) := by
  intro b hb
  have h1 := hw b hb
  refine ⟨fun g1 i hi => ?_, fun g1 => ⟨(h1.2 g1).1, (h1.2 g1).2.1, fun j hj => ?_⟩⟩
  · show gok s (gfv (gw s a k v) b (gK s b) i)
    by_cases hba : b = a
    · subst hba
      rw [hk, gw_fv h0]
      by_cases h : i = k
      · rw [if_pos h]; exact hv
      · rw [if_neg h]
        have h2 := h1.1 g1 i hi
        rw [hk] at h2
        exact h2
    · have e : gfv (gw s a k v) b (gK s b) i = gfv s b (gK s b) i := by
        unfold gfv
        rw [gw_I, gw_R, if_neg (show ¬ (b = a ∧ i = k) from fun e => hba e.1)]
      rw [e]
      exact h1.1 g1 i hi
  · have hba : b ≠ a := fun e => by
      subst e
      rw [gw_K, hk] at g1
      omega
    have e : gev (gw s a k v) b (gT4 (gK s b)) j = gev s b (gT4 (gK s b)) j := by
      unfold gev
      split <;> simp only [gw_I, gw_R, if_neg (fun e : b = a ∧ j = k => hba e.1)]
    show gok s (gev (gw s a k v) b (gT4 (gK s b)) j)
    rw [e]
    exact (h1.2 g1).2.2 j hj
theorem gw_ext (s : gS) (a k : Nat) (v : Int) : gext s (gw s a k v) := ⟨Nat.le_refl _, fun _ _ => rfl⟩
/-- a number is put into a field -/
theorem g_putf (ok : gOK X) {idx ci k j a b : Nat} {z v : Int} (hb : (Nat.blt ci 13 && Nat.blt k (gnf ci)) = true) (h0 : Nat.beq (gfk ci k) 0 = true) (hfit : es_fitv (es_tyf ci k) (gF X) (0, eI v) = true) (kk : Go X T m d (pc + 3) cd L S (gw s a k v) cs ss x κ) : Go X T m d pc ((pc, .putfield idx, 3, [ci, k, j]) :: cd) L ((0, v, b) :: (ci + 16, z, a) :: S) s cs ss x κ := by
  rw [Bool.and_eq_true, es_blt, es_blt] at hb
  have h0 := es_beq.mp h0
  refine g_hs ok (gax (by omega)) (fun _ _ => rfl) (fun hwt hl hs => ?_) (gch1 rfl) kk
  obtain ⟨h1, h2⟩ := gok_r.mp (gS2 (gS2 hs).2).1
  refine ⟨?_, gw_ext s a k v, gw_wt hb.1 h0 h2 (gok_i.mp (gS2 hs).1) hwt, fun w hw => gok_ext (gw_ext s a k v) ((gS2 (gS2 hs).2).2 w hw)⟩
  show (match es_obj (gH s) ci (3, a) with
    | some c => match es_get c k with
      | some _ => bif es_fitv (es_tyf ci k) (gF X) (0, eI v) then some (pc + 3, gL L, S.map gf, (gH s).set a (0, ci, es_set c k (0, eI v)), gF X, cs, ss) else none
      | none => none
    | none => none) = _
  rw [gobjC hb.1 h1 h2]
  dsimp only
  rw [grg, if_pos hb.2]
  dsimp only
  rw [hfit, gw_H hb.1 h0 h2 hb.2]
  rfl
theorem g_puti (ok : gOK X) {idx ci k j a b : Nat} {z v : Int} (hb : (Nat.blt ci 13 && Nat.blt k (gnf ci)) = true) (h0 : Nat.beq (gfk ci k) 0 = true) (hty : es_tyf ci k = .int) (kk : Go X T m d (pc + 3) cd L S (gw s a k v) cs ss x κ) : Go X T m d pc ((pc, .putfield idx, 3, [ci, k, j]) :: cd) L ((0, v, b) :: (ci + 16, z, a) :: S) s cs ss x κ :=
  g_putf ok hb h0 (by rw [hty]; rfl) kk
theorem gfitb {v : Int} (F : es_F) (h : v = 0 ∨ v = 1) : es_fitv .boolean F (0, eI v) = true := by
  rcases h with rfl | rfl <;> rfl
theorem g_putz (ok : gOK X) {idx ci k j a b : Nat} {z v : Int} (hb : (Nat.blt ci 13 && Nat.blt k (gnf ci)) = true) (h0 : Nat.beq (gfk ci k) 0 = true) (hty : es_tyf ci k = .boolean) (kk : v = 0 ∨ v = 1 → Go X T m d (pc + 3) cd L S (gw s a k v) cs ss x κ) : Go X T m d pc ((pc, .putfield idx, 3, [ci, k, j]) :: cd) L ((0, v, b) :: (ci + 16, z, a) :: S) s cs ss (gbool v x) κ := by
  unfold gbool
  by_cases h : v = 0 ∨ v = 1
  · rw [if_pos h]
    exact g_putf ok hb h0 (by rw [hty]; exact gfitb _ h) (kk h)
  · rw [if_neg h]
    intro _ _ _ _ _ _ r hr
    cases hr
/-- a reference is put into a field that may hold nothing -/
theorem gwr_H {a k ci r tg : Nat} (hci : ci < 13) (h0 : gfk ci k = tg + 1) (hk : gK s a = ci) (hkn : k < gnf ci) : gH (gwr s a k r) = (gH s).set a (0, ci, es_set ((List.range (gnf ci)).map (fun i => (i, gf (gfv s a ci i)))) k (gf (tg + 1, 0, r))) := by
  rw [gH_set (s := s) (s' := gwr s a k r) (a := a) rfl (fun b _ hb => gobj_eq rfl (fun i => rfl) (fun i => by rw [gwr_R, if_neg (fun e => hb e.1)])), gobj_c (s := gwr s a k r) (show gK (gwr s a k r) a = ci from hk) hci, grn _ hkn]
  congr 3
  apply List.map_congr_left
  intro i _
  by_cases h : i = k
  · subst h
    rw [if_pos rfl]
    unfold gfv
    rw [if_neg (by rw [h0]; omega), h0, gwr_R, if_pos ⟨rfl, rfl⟩]
  · rw [if_neg h]
    unfold gfv
    rw [gwr_I, gwr_R, if_neg (show ¬ (a = a ∧ i = k) from fun e => h e.2)]
theorem gwr_wt {a k ci r tg : Nat} (hci : ci < 13) (h0 : gfk ci k = tg + 1) (hk : gK s a = ci) (hv : gok s (tg + 1, 0, r)) (hw : gwt s) : gwt (gwr s a k r) := by
  intro b hb
  have h1 := hw b hb
  refine ⟨fun g1 i hi => ?_, fun g1 => ⟨(h1.2 g1).1, (h1.2 g1).2.1, fun j hj => ?_⟩⟩
  · show gok s (gfv (gwr s a k r) b (gK s b) i)
    by_cases hba : b = a ∧ i = k
    · obtain ⟨rfl, rfl⟩ := hba
      unfold gfv
      rw [hk, if_neg (by rw [h0]; omega), h0, gwr_R, if_pos ⟨rfl, rfl⟩]
      exact hv
    · have e : gfv (gwr s a k r) b (gK s b) i = gfv s b (gK s b) i := by
        unfold gfv
        rw [gwr_I, gwr_R, if_neg hba]
      rw [e]
      exact h1.1 g1 i hi
  · have hba : b ≠ a := fun e => by
      subst e
      have g2 : 100 ≤ gK s b := g1
      rw [hk] at g2
      omega
    have e : gev (gwr s a k r) b (gT4 (gK s b)) j = gev s b (gT4 (gK s b)) j := by
      unfold gev
      split <;> simp only [gwr_I, gwr_R, if_neg (fun e : b = a ∧ j = k => hba e.1)]
    show gok s (gev (gwr s a k r) b (gT4 (gK s b)) j)
    rw [e]
    exact (h1.2 g1).2.2 j hj
theorem g_putr (ok : gOK X) {idx ci k j a r tg : Nat} {z : Int} {w : gV} (hb : (Nat.blt ci 13 && Nat.blt k (gnf ci)) = true) (h0 : gfk ci k = tg + 1) (hfit : es_fitv (es_tyf ci k) (gF X) (gf w) = true) (hgf : gf w = gf (tg + 1, 0, r)) (hok : gok s w → gok s (tg + 1, 0, r)) (kk : Go X T m d (pc + 3) cd L S (gwr s a k r) cs ss x κ) : Go X T m d pc ((pc, .putfield idx, 3, [ci, k, j]) :: cd) L (w :: (ci + 16, z, a) :: S) s cs ss x κ := by
  rw [Bool.and_eq_true, es_blt, es_blt] at hb
  have hext : gext s (gwr s a k r) := ⟨Nat.le_refl _, fun _ _ => rfl⟩
  refine g_hs ok (gax (by omega)) (fun _ _ => rfl) (fun hwt hl hs => ?_) (gch1 rfl) kk
  obtain ⟨h1, h2⟩ := gok_r.mp (gS2 (gS2 hs).2).1
  refine ⟨?_, hext, gwr_wt hb.1 h0 h2 (hok (gS2 hs).1) hwt, fun w hw => gok_ext hext ((gS2 (gS2 hs).2).2 w hw)⟩
  show (match es_obj (gH s) ci (3, a) with
    | some c => match es_get c k with
      | some _ => bif es_fitv (es_tyf ci k) (gF X) (gf w) then some (pc + 3, gL L, S.map gf, (gH s).set a (0, ci, es_set c k (gf w)), gF X, cs, ss) else none
      | none => none
    | none => none) = _
  rw [gobjC hb.1 h1 h2]
  dsimp only
  rw [grg, if_pos hb.2]
  dsimp only
  rw [hfit, gwr_H hb.1 h0 h2 hb.2, ← hgf]
  rfl
/-- rows -/
theorem gkn (F : es_F) (v : Int) : es_kn F (0, eI v) = some (eI v) := rfl
theorem geN2 {j : Int} (h0 : 0 ≤ j) (h1 : j < 2147483648) : eI j = j.toNat := by
  have h2 := geN (n := j.toNat) (by omega)
  rw [show ((j.toNat : Nat) : Int) = j by omega] at h2
  exact h2
theorem gad {t n j : Nat} (f : Nat → es_V) (h : j < n) : es_ad t ((List.range n).map (fun i => (i, f i))) j = f j := by
  unfold es_ad
  rw [grg, if_pos h]
theorem gok_a {n t a : Nat} {z : Int} (h : gok s (116 + 8 * n + t, z, a)) : a < gn s ∧ gK s a = 100 + 8 * n + t := by
  rw [show 116 + 8 * n + t = (100 + 8 * n + t) + 16 by omega] at h
  exact gok_r.mp h
theorem g_ald (ok : gOK X) {ins : Instr} {t n a tg : Nat} {z j : Int} {b : Nat} (hlt : es_lt ins t = true) (ht : t < 5) (hpu : ∀ nL Le Se F, es_pure nL ins pc Le Se F = none) (hins : ∀ SL (M : es_M) Le Se v AH F cs ss, es_hs SL M (pc, ins, 1, []) (pc, Le, (0, eI j) :: (3, v) :: Se, AH, F, cs, ss) = (match es_ary AH (3, v) with
          | some (t, n, c) => bif es_lt ins t && Nat.blt (eI j) n then some (pc + 1, Le, es_ad t c (eI j) :: Se, AH, F, cs, ss) else none
          | none => none)) (htg : tg = 116 + 8 * n + t) (h0 : 0 ≤ j) (h1 : j < (n : Int)) (kk : Go X T m d (pc + 1) cd L (gev s a t j.toNat :: S) s cs ss x κ) : Go X T m d pc ((pc, ins, 1, []) :: cd) L ((0, j, b) :: (tg, z, a) :: S) s cs ss x κ := by
  subst htg
  refine g_hs ok gaxn (fun _ _ => hpu _ _ _ _) (fun hwt hl hs => ?_) (gch1 rfl) kk
  obtain ⟨hg1, hg2⟩ := gok_a (gS2 (gS2 hs).2).1
  have hg3 := (hwt a hg1).2 (by omega)
  have e1 : gT4 (gK s a) = t := by rw [hg2]; unfold gT4; omega
  have e2 : gL4 (gK s a) = n := by rw [hg2]; unfold gL4; omega
  rw [e1, e2] at hg3
  refine ⟨?_, gext_rf s, hwt, gS1 (gS2 (gS2 hs).2).2 (hg3.2.2 j.toNat (by omega))⟩
  have egf : gf (116 + 8 * n + t, z, a) = (3, a) := by
    rw [show 116 + 8 * n + t = (100 + 8 * n + t) + 16 by omega]
    rfl
  rw [List.map_cons, List.map_cons, egf]
  refine (hins _ _ _ _ _ _ _ _ _).trans ?_
  rw [gobjA hg3.1 (by omega) hg1 hg2]
  dsimp only
  rw [geN2 h0 (by have := hg3.1; omega), hlt, es_blt.mpr (show j.toNat < n by omega), gad _ (show j.toNat < n by omega)]
  rfl
theorem g_none {pc : Nat} {cd : List es_I} : Go X T m d pc cd L S s cs ss (none : Option Q) κ := fun _ _ _ _ _ _ r hr => by cases hr
theorem g_chk {j n : Int} (kk : 0 ≤ j → j < n → Go X T m d pc cd L S s cs ss x κ) : Go X T m d pc cd L S s cs ss (gchk j n x) κ := by
  unfold gchk
  by_cases h : 0 ≤ j ∧ j < n
  · rw [if_pos h]; exact kk h.1 h.2
  · rw [if_neg h]; exact g_none
theorem g_iaload (ok : gOK X) {n a tg : Nat} {z j N : Int} {b : Nat} (htg : tg = 116 + 8 * n) (hN : N = (n : Int)) (kk : 0 ≤ j → j < N → Go X T m d (pc + 1) cd L ((0, gI s a j.toNat, 0) :: S) s cs ss x κ) : Go X T m d pc ((pc, .iaload, 1, []) :: cd) L ((0, j, b) :: (tg, z, a) :: S) s cs ss (gchk j N x) κ :=
  g_chk (fun h0 h1 => g_ald ok (t := 0) (n := n) rfl (by decide) (fun _ _ _ _ => rfl) (fun _ _ _ _ _ _ _ _ _ => rfl) htg h0 (by rw [← hN]; exact h1) (kk h0 h1))
theorem g_ialoadc (ok : gOK X) {n a tg : Nat} {z j : Int} {b : Nat} (jn : Nat) (hj : j = (jn : Int)) (htg : tg = 116 + 8 * n) (h1 : Nat.blt jn n = true) (kk : Go X T m d (pc + 1) cd L ((0, gI s a jn, 0) :: S) s cs ss x κ) : Go X T m d pc ((pc, .iaload, 1, []) :: cd) L ((0, j, b) :: (tg, z, a) :: S) s cs ss x κ := by
  subst hj
  have h1 := es_blt.mp h1
  exact g_ald ok (t := 0) (n := n) rfl (by decide) (fun _ _ _ _ => rfl) (fun _ _ _ _ _ _ _ _ _ => rfl) htg (by omega) (by omega) kk
theorem g_laload (ok : gOK X) {n a tg : Nat} {z j N : Int} {b : Nat} (htg : tg = 117 + 8 * n) (hN : N = (n : Int)) (kk : 0 ≤ j → j < N → Go X T m d (pc + 1) cd L ((2, gI s a j.toNat, 0) :: S) s cs ss x κ) : Go X T m d pc ((pc, .laload, 1, []) :: cd) L ((0, j, b) :: (tg, z, a) :: S) s cs ss (gchk j N x) κ :=
  g_chk (fun h0 h1 => g_ald ok (t := 1) (n := n) rfl (by decide) (fun _ _ _ _ => rfl) (fun _ _ _ _ _ _ _ _ _ => rfl) (by omega) h0 (by rw [← hN]; exact h1) (kk h0 h1))
theorem g_baload (ok : gOK X) {n a tg : Nat} {z j N : Int} {b : Nat} (htg : tg = 118 + 8 * n) (hN : N = (n : Int)) (kk : 0 ≤ j → j < N → Go X T m d (pc + 1) cd L ((0, gI s a j.toNat, 0) :: S) s cs ss x κ) : Go X T m d pc ((pc, .baload, 1, []) :: cd) L ((0, j, b) :: (tg, z, a) :: S) s cs ss (gchk j N x) κ :=
  g_chk (fun h0 h1 => g_ald ok (t := 2) (n := n) rfl (by decide) (fun _ _ _ _ => rfl) (fun _ _ _ _ _ _ _ _ _ => rfl) (by omega) h0 (by rw [← hN]; exact h1) (kk h0 h1))
theorem g_aaload3 (ok : gOK X) {n a tg : Nat} {z j N : Int} {b : Nat} (htg : tg = 119 + 8 * n) (hN : N = (n : Int)) (kk : 0 ≤ j → j < N → Go X T m d (pc + 1) cd L ((18, 0, gR s a j.toNat) :: S) s cs ss x κ) : Go X T m d pc ((pc, .aaload, 1, []) :: cd) L ((0, j, b) :: (tg, z, a) :: S) s cs ss (gchk j N x) κ :=
  g_chk (fun h0 h1 => g_ald ok (t := 3) (n := n) rfl (by decide) (fun _ _ _ _ => rfl) (fun _ _ _ _ _ _ _ _ _ => rfl) (by omega) h0 (by rw [← hN]; exact h1) (kk h0 h1))
theorem g_aaload4 (ok : gOK X) {n a tg : Nat} {z j N : Int} {b : Nat} (htg : tg = 120 + 8 * n) (hN : N = (n : Int)) (kk : 0 ≤ j → j < N → Go X T m d (pc + 1) cd L ((23, 0, gR s a j.toNat) :: S) s cs ss x κ) : Go X T m d pc ((pc, .aaload, 1, []) :: cd) L ((0, j, b) :: (tg, z, a) :: S) s cs ss (gchk j N x) κ :=
  g_chk (fun h0 h1 => g_ald ok (t := 4) (n := n) rfl (by decide) (fun _ _ _ _ => rfl) (fun _ _ _ _ _ _ _ _ _ => rfl) (by omega) h0 (by rw [← hN]; exact h1) (kk h0 h1))
theorem g_alen (ok : gOK X) {n t a tg : Nat} {z N : Int} (ht : t < 8) (htg : tg = 116 + 8 * n + t) (hN : N = (n : Int)) (kk : Go X T m d (pc + 1) cd L ((0, N, 0) :: S) s cs ss x κ) : Go X T m d pc ((pc, .arraylength, 1, []) :: cd) L ((tg, z, a) :: S) s cs ss x κ := by
  subst htg hN
  refine g_hs ok gaxn (fun _ _ => rfl) (fun hwt hl hs => ?_) (gch1 rfl) kk
  obtain ⟨hg1, hg2⟩ := gok_a (gS2 hs).1
  have hg3 := (hwt a hg1).2 (by omega)
  have e2 : gL4 (gK s a) = n := by rw [hg2]; unfold gL4; omega
  rw [e2] at hg3
  refine ⟨?_, gext_rf s, hwt, gS1 (gS2 hs).2 (gok_i.mpr (by unfold gc32; have := hg3.1; omega))⟩
  have egf : gf (116 + 8 * n + t, z, a) = (3, a) := by
    rw [show 116 + 8 * n + t = (100 + 8 * n + t) + 16 by omega]
    rfl
  rw [List.map_cons, egf]
  show (match es_ary (gH s) (3, a) with
    | some (_, n, _) => some (pc + 1, gL L, (0, n) :: S.map gf, gH s, gF X, cs, ss)
    | none => none) = _
  rw [gobjA hg3.1 ht hg1 hg2]
  show some (pc + 1, gL L, (0, n) :: S.map gf, gH s, gF X, cs, ss) = some (pc + 1, gL L, (0, eI n) :: S.map gf, gH s, gF X, cs, ss)
  rw [geN (by have := hg3.1; omega)]
/-- an element is written -/
theorem gwe_ev {a t j : Nat} {v : Int} (ht : t < 3) (i : Nat) : gev (gw s a j v) a t i = if i = j then ((if t = 1 then 2 else 0), v, 0) else gev s a t i := by
  by_cases h : i = j
  · subst h
    rw [if_pos rfl]
    match t, ht with
    | 0, _ => show (0, gI (gw s a i v) a i, 0) = _; rw [gw_I, if_pos ⟨rfl, rfl⟩]; rfl
    | 1, _ => show (2, gI (gw s a i v) a i, 0) = _; rw [gw_I, if_pos ⟨rfl, rfl⟩]; rfl
    | 2, _ => show (0, gI (gw s a i v) a i, 0) = _; rw [gw_I, if_pos ⟨rfl, rfl⟩]; rfl
  · rw [if_neg h]
    unfold gev
    split <;> simp [gw_I, gw_R, h]
theorem gwe_H {a t n j : Nat} {v : Int} (ht : t < 3) (hk : gK s a = 100 + 8 * n + t) (hj : j < n) : gH (gw s a j v) = (gH s).set a (t + 2, n, es_set ((List.range n).map (fun i => (i, gf (gev s a t i)))) j (gf ((if t = 1 then 2 else 0), v, 0))) := by
  rw [gH_set (s := s) (a := a) (gw_n s a j v) (fun b _ hb => gobj_eq rfl (fun i => by rw [gw_I, if_neg (fun e => hb e.1)]) (fun i => rfl)), gobj_a (s := gw s a j v) (show gK (gw s a j v) a = 100 + 8 * n + t from hk) (by omega), grn _ hj]
  congr 3
  apply List.map_congr_left
  intro i _
  rw [gwe_ev ht]
  by_cases h : i = j
  · rw [if_pos h, if_pos h]
  · rw [if_neg h, if_neg h]
theorem gwe_wt {a t n j : Nat} {v : Int} (ht : t < 3) (hk : gK s a = 100 + 8 * n + t) (hv : gok s ((if t = 1 then 2 else 0), v, 0)) (hw : gwt s) : gwt (gw s a j v) := by
  intro b hb
  have h1 := hw b hb
  refine ⟨fun g1 i hi => ?_, fun g1 => ⟨(h1.2 g1).1, (h1.2 g1).2.1, fun i hi => ?_⟩⟩
  · have hba : b ≠ a := fun e => by
      subst e
      rw [gw_K, hk] at g1
      omega
    have e : gfv (gw s a j v) b (gK s b) i = gfv s b (gK s b) i := by
      unfold gfv
      rw [gw_I, gw_R, if_neg (show ¬ (b = a ∧ i = j) from fun e => hba e.1)]
    show gok s (gfv (gw s a j v) b (gK s b) i)
    rw [e]
    exact h1.1 g1 i hi
  · show gok s (gev (gw s a j v) b (gT4 (gK s b)) i)
    by_cases hba : b = a
    · subst hba
      have e1 : gT4 (gK s b) = t := by rw [hk]; unfold gT4; omega
      have h3 := (h1.2 g1).2.2 i hi
      rw [e1] at h3 ⊢
      rw [gwe_ev ht]
      by_cases h : i = j
      · rw [if_pos h]; exact hv
      · rw [if_neg h]; exact h3
    · have e : gev (gw s a j v) b (gT4 (gK s b)) i = gev s b (gT4 (gK s b)) i := by
        unfold gev
        split <;> simp only [gw_I, gw_R, if_neg (fun e : b = a ∧ i = j => hba e.1)]
      rw [e]
      exact (h1.2 g1).2.2 i hi
theorem g_ast (ok : gOK X) {ins : Instr} {t n a tg : Nat} {z j v : Int} {b b2 : Nat} (hst : es_sti ins t = true) (ht : t < 3) (hpu : ∀ nL Le Se F, es_pure nL ins pc Le Se F = none) (hins : ∀ SL (M : es_M) Le Se (u : es_V) w AH F cs ss, es_hs SL M (pc, ins, 1, []) (pc, Le, u :: (0, eI j) :: (3, w) :: Se, AH, F, cs, ss) = (match es_ary AH (3, w), es_kn F (0, eI j) with
        | some (t, n, c), some jn => bif (es_sti ins t && Nat.blt jn n) && es_sfit AH F t u then some (pc + 1, Le, Se, es_hset AH w t n c jn u, F, cs, ss) else none
        | _, _ => none)) (hfit : es_sfit (gH s) (gF X) t (gf ((if t = 1 then 2 else 0), v, b2)) = true) (htg : tg = 116 + 8 * n + t) (h0 : 0 ≤ j) (h1 : j < (n : Int)) (kk : Go X T m d (pc + 1) cd L S (gw s a j.toNat v) cs ss x κ) : Go X T m d pc ((pc, ins, 1, []) :: cd) L (((if t = 1 then 2 else 0), v, b2) :: (0, j, b) :: (tg, z, a) :: S) s cs ss x κ := by
  subst htg
  refine g_hs ok gaxn (fun _ _ => hpu _ _ _ _) (fun hwt hl hs => ?_) (gch1 rfl) kk
  obtain ⟨hg1, hg2⟩ := gok_a (gS2 (gS2 (gS2 hs).2).2).1
  have hg3 := (hwt a hg1).2 (by omega)
  have e2 : gL4 (gK s a) = n := by rw [hg2]; unfold gL4; omega
  rw [e2] at hg3
  have hv : gok s ((if t = 1 then 2 else 0), v, 0) := by
    have h9 := (gS2 hs).1
    by_cases h8 : t = 1
    · rw [if_pos h8] at h9 ⊢; exact h9
    · rw [if_neg h8] at h9 ⊢; exact h9
  refine ⟨?_, gw_ext s a _ v, gwe_wt ht hg2 hv hwt, fun w hw => gok_ext (gw_ext s a _ v) ((gS2 (gS2 (gS2 hs).2).2).2 w hw)⟩
  have egf : gf (116 + 8 * n + t, z, a) = (3, a) := by
    rw [show 116 + 8 * n + t = (100 + 8 * n + t) + 16 by omega]
    rfl
  have egv : gf ((if t = 1 then 2 else 0), v, b2) = gf ((if t = 1 then 2 else 0), v, 0) := by
    by_cases h8 : t = 1
    · rw [if_pos h8]; rfl
    · rw [if_neg h8]; rfl
  rw [List.map_cons, List.map_cons, List.map_cons, egf]
  refine (hins _ _ _ _ _ _ _ _ _ _).trans ?_
  rw [gobjA hg3.1 (by omega) hg1 hg2, gkn]
  dsimp only
  rw [geN2 h0 (by have := hg3.1; omega), hst, es_blt.mpr (show j.toNat < n by omega), hfit]
  show some (pc + 1, gL L, S.map gf, es_hset (gH s) a t n ((List.range n).map (fun i => (i, gf (gev s a t i)))) j.toNat (gf ((if t = 1 then 2 else 0), v, b2)), gF X, cs, ss) = _
  unfold es_hset
  rw [grg, if_pos (show j.toNat < n by omega), gwe_H ht hg2 (by omega), egv]
theorem g_iastore (ok : gOK X) {n a tg : Nat} {z j v N : Int} {b b2 : Nat} (htg : tg = 116 + 8 * n) (hN : N = (n : Int)) (kk : 0 ≤ j → j < N → Go X T m d (pc + 1) cd L S (gw s a j.toNat v) cs ss x κ) : Go X T m d pc ((pc, .iastore, 1, []) :: cd) L ((0, v, b2) :: (0, j, b) :: (tg, z, a) :: S) s cs ss (gchk j N x) κ :=
  g_chk (fun h0 h1 => g_ast ok (t := 0) (n := n) rfl (by decide) (fun _ _ _ _ => rfl) (fun _ _ _ _ _ _ _ _ _ _ => rfl) rfl htg h0 (by rw [← hN]; exact h1) (kk h0 h1))
theorem g_iastorec (ok : gOK X) {n a tg : Nat} {z j v : Int} {b b2 : Nat} (jn : Nat) (hj : j = (jn : Int)) (htg : tg = 116 + 8 * n) (h1 : Nat.blt jn n = true) (kk : Go X T m d (pc + 1) cd L S (gw s a jn v) cs ss x κ) : Go X T m d pc ((pc, .iastore, 1, []) :: cd) L ((0, v, b2) :: (0, j, b) :: (tg, z, a) :: S) s cs ss x κ := by
  subst hj
  have h1 := es_blt.mp h1
  exact g_ast ok (t := 0) (n := n) rfl (by decide) (fun _ _ _ _ => rfl) (fun _ _ _ _ _ _ _ _ _ _ => rfl) rfl htg (by omega) (by omega) kk
theorem g_lastore (ok : gOK X) {n a tg : Nat} {z j v N : Int} {b b2 : Nat} (htg : tg = 117 + 8 * n) (hN : N = (n : Int)) (kk : 0 ≤ j → j < N → Go X T m d (pc + 1) cd L S (gw s a j.toNat v) cs ss x κ) : Go X T m d pc ((pc, .lastore, 1, []) :: cd) L ((2, v, b2) :: (0, j, b) :: (tg, z, a) :: S) s cs ss (gchk j N x) κ :=
  g_chk (fun h0 h1 => g_ast ok (t := 1) (n := n) rfl (by decide) (fun _ _ _ _ => rfl) (fun _ _ _ _ _ _ _ _ _ _ => rfl) rfl (by omega) h0 (by rw [← hN]; exact h1) (kk h0 h1))
theorem g_bastore (ok : gOK X) {n a tg : Nat} {z j v N : Int} {b b2 : Nat} (htg : tg = 118 + 8 * n) (hN : N = (n : Int)) (kk : 0 ≤ j → j < N → (v = 0 ∨ v = 1) → Go X T m d (pc + 1) cd L S (gw s a j.toNat v) cs ss x κ) : Go X T m d pc ((pc, .bastore, 1, []) :: cd) L ((0, v, b2) :: (0, j, b) :: (tg, z, a) :: S) s cs ss (gchk j N (gbool v x)) κ :=
  g_chk (fun h0 h1 => by
    unfold gbool
    by_cases h : v = 0 ∨ v = 1
    · rw [if_pos h]
      exact g_ast ok (t := 2) (n := n) rfl (by decide) (fun _ _ _ _ => rfl) (fun _ _ _ _ _ _ _ _ _ _ => rfl) (gfitb (gF X) h) (by omega) h0 (by rw [← hN]; exact h1) (kk h0 h1 h)
    · rw [if_neg h]; exact g_none)
/-- a row that may be nothing, of any length -/
noncomputable def glen (s : gS) (a : Nat) : Int := (gL4 (gK s a) : Int)
theorem gok12 {a : Nat} {z : Int} (h0 : a ≠ 0) (h : gok s (12, z, a)) : a < gn s ∧ gL4 (gK s a) < 1000000 ∧ gK s a = 100 + 8 * gL4 (gK s a) := by
  obtain ⟨h1, n, h2, h3⟩ := h h0
  have h4 : gK s a = 100 + 8 * n := h3
  have h5 : gL4 (gK s a) = n := by rw [h4]; unfold gL4; omega
  exact ⟨h1, by omega, by omega⟩
theorem g_alen12 (ok : gOK X) {a : Nat} {z : Int} (h0 : a ≠ 0) (kk : Go X T m d (pc + 1) cd L ((0, glen s a, 0) :: S) s cs ss x κ) : Go X T m d pc ((pc, .arraylength, 1, []) :: cd) L ((12, z, a) :: S) s cs ss x κ := by
  refine g_hs ok gaxn (fun _ _ => rfl) (fun hwt hl hs => ?_) (gch1 rfl) kk
  obtain ⟨h1, h2, h3⟩ := gok12 h0 (gS2 hs).1
  refine ⟨?_, gext_rf s, hwt, gS1 (gS2 hs).2 (gok_i.mpr (by unfold gc32 glen; omega))⟩
  rw [List.map_cons, show gf (12, z, a) = (3, a) from if_neg h0]
  show (match es_ary (gH s) (3, a) with
    | some (_, n, _) => some (pc + 1, gL L, (0, n) :: S.map gf, gH s, gF X, cs, ss)
    | none => none) = _
  rw [gobjA (t := 0) h2 (by decide) h1 h3]
  show some (pc + 1, gL L, (0, gL4 (gK s a)) :: S.map gf, gH s, gF X, cs, ss) = some (pc + 1, gL L, (0, eI (glen s a)) :: S.map gf, gH s, gF X, cs, ss)
  unfold glen
  rw [geN (by omega)]
theorem g_iald12 (ok : gOK X) {a b : Nat} {z j : Int} (h0 : a ≠ 0) (kk : 0 ≤ j → j < glen s a → Go X T m d (pc + 1) cd L ((0, gI s a j.toNat, 0) :: S) s cs ss x κ) : Go X T m d pc ((pc, .iaload, 1, []) :: cd) L ((0, j, b) :: (12, z, a) :: S) s cs ss (gchk j (glen s a) x) κ := by
  refine g_chk (fun hj0 hj1 => g_hs ok gaxn (fun _ _ => rfl) (fun hwt hl hs => ?_) (gch1 rfl) (kk hj0 hj1))
  obtain ⟨h1, h2, h3⟩ := gok12 h0 (gS2 (gS2 hs).2).1
  have hg3 := (hwt a h1).2 (by omega)
  have e1 : gT4 (gK s a) = 0 := by unfold gT4; omega
  rw [e1] at hg3
  have hj2 : j.toNat < gL4 (gK s a) := by unfold glen at hj1; omega
  refine ⟨?_, gext_rf s, hwt, gS1 (gS2 (gS2 hs).2).2 (hg3.2.2 j.toNat hj2)⟩
  rw [List.map_cons, List.map_cons, show gf (12, z, a) = (3, a) from if_neg h0]
  show (match es_ary (gH s) (3, a) with
    | some (t, n, c) => bif es_lt .iaload t && Nat.blt (eI j) n then some (pc + 1, gL L, es_ad t c (eI j) :: S.map gf, gH s, gF X, cs, ss) else none
    | none => none) = _
  rw [gobjA (t := 0) h2 (by decide) h1 h3]
  dsimp only
  rw [geN2 hj0 (by unfold glen at hj1; omega), show es_lt .iaload 0 = true from rfl, es_blt.mpr hj2, gad _ hj2]
  rfl
end GoM

end
section
noncomputable def gcts (S : List gV) : Nat := match S with
  | [] => 0
  | v :: t => (bif Nat.beq v.1 2 then 2 else 1) + gcts t
theorem gcts_eq : ∀ S : List gV, es_cts (S.map gf) = gcts S
  | [] => rfl
  | v :: t => by
    show (bif Nat.beq (gf v).1 2 then 2 else 1) + es_cts (t.map gf) = (bif Nat.beq v.1 2 then 2 else 1) + gcts t
    rw [gf_2, gcts_eq t]
noncomputable def gal : Nat → List gV → List (Nat × gV)
  | _, [] => []
  | i, v :: vs => (i, v) :: gal (bif Nat.beq v.1 2 then i + 2 else i + 1) vs
theorem gal_eq : ∀ (i : Nat) (vs : List gV), es_al i (vs.map gf) = gL (gal i vs)
  | _, [] => rfl
  | i, v :: vs => by
    show (i, gf v) :: es_al (bif Nat.beq (gf v).1 2 then i + 2 else i + 1) (vs.map gf) = (i, gf v) :: gL (gal (bif Nat.beq v.1 2 then i + 2 else i + 1) vs)
    rw [gf_2, gal_eq]
theorem gal_mem : ∀ (i : Nat) (vs : List gV) (q : Nat × gV), q ∈ gal i vs → q.2 ∈ vs
  | _, [], q, h => by cases h
  | i, v :: vs, q, h => by
    rcases List.mem_cons.mp (show q ∈ (i, v) :: gal (bif Nat.beq v.1 2 then i + 2 else i + 1) vs from h) with h1 | h1
    · rw [h1]; exact List.mem_cons_self
    · exact List.mem_cons_of_mem _ (gal_mem _ vs q h1)
/-- may this method be called here -/
noncomputable def gcal (w : Nat) (T T' : es_M) (m' : Nat) (vs rest : List gV) (cs ss : Nat) : Bool := ((Nat.ble (gcts vs) (es_mL T') && Nat.ble (gcts rest) w) && (Nat.blt m' 511 && Nat.ble (es_mL T') 37)) && (Nat.ble (cs + es_mc T') (es_mc T) && Nat.ble (ss + es_ms T') (es_ms T))
noncomputable def gv0 {Q : Type} (E : gS → Option Q) (q : gO) : Option Q := if q.1 = 0 then E q.2.2.2 else none
noncomputable def gv1 {Q : Type} (E : Int → gS → Option Q) (q : gO) : Option Q := if q.1 = 1 then E q.2.1 q.2.2.2 else none
noncomputable def gvr {Q : Type} (E : Nat → gS → Option Q) (q : gO) : Option Q := if q.1 = 1 then E q.2.2.1 q.2.2.2 else none
/-- .. and what is thrown goes on -/
noncomputable def gt0 {Q : Type} (Z : gO → Q) (E : gS → Option Q) (q : gO) : Option Q := if q.1 = 0 then E q.2.2.2 else if 2 ≤ q.1 then some (Z (q.1, 0, 0, q.2.2.2)) else none
noncomputable def gt1 {Q : Type} (Z : gO → Q) (E : Int → gS → Option Q) (q : gO) : Option Q := if q.1 = 1 then E q.2.1 q.2.2.2 else if 2 ≤ q.1 then some (Z (q.1, 0, 0, q.2.2.2)) else none
/-- .. and what is thrown is caught -/
noncomputable def gc1 {Q : Type} (C : Nat → gS → Option Q) (E : Int → gS → Option Q) (q : gO) : Option Q := if q.1 = 1 then E q.2.1 q.2.2.2 else if 2 ≤ q.1 then C (q.1 - 2) q.2.2.2 else none
section GoC
variable {X : gX} {T T' : es_M} {m m' d pc pc' : Nat} {cd cd' : List es_I} {L L' : List (Nat × gV)} {S S' vs rest : List gV} {s s' : gS} {cs ss : Nat} {Q : Type} {x : Option Q} {κ : Q → Option gO}
theorem gleaf {e : es_I} {Le : es_L} {Se : List es_V} {AH : List es_O} {F : es_F} {q : Nat × es_V} (hat : es_at (es_tab T) pc = some e) (haux : e.2.2.2 = []) (hr : es_rtv (es_rt T) e.2.1 Se F = some q) (hc : (Nat.ble cs (es_mc T) && Nat.ble ss (es_ms T)) = true) : es_leaf (gdp d T) (0, pc, Le, Se, AH, F, cs, ss) = some (q.1, q.2, AH, F) := by
  show (match es_at (es_tab T) pc with
    | some e => match e.2.2.2 with
      | 100 :: x :: _ => match es_hh T with
        | [] => bif (Nat.blt cs (es_mc T) && Nat.ble (ss + 6) (es_ms T)) && (Nat.blt 5 (8 + d) && Nat.ble 100 (300 + 64 * d)) && Nat.ble (es_cts Se) 8 then some (x + 2, (0, 0), AH ++ [(1, 0, [])], F) else none
        | _ => none
      | _ => match es_rtv (es_rt T) e.2.1 Se F with
        | some q => bif Nat.ble cs (es_mc T) && Nat.ble ss (es_ms T) then some (q.1, q.2, AH, F) else none
        | none => none
    | none => none) = _
  rw [hat]
  dsimp only
  rw [haux]
  dsimp only
  rw [hr]
  dsimp only
  rw [hc]
  rfl
theorem g_rt (ok : gOK X) {e : es_I} {r : gO} {q : Q} (haux : e.2.2.2 = []) (hs0 : r.2.2.2 = s) (hrtv : es_rtv (es_rt T) e.2.1 (S.map gf) (gF X) = some (r.1, (gLf X T r).2.1)) (hcap : (Nat.ble cs (es_mc T) && Nat.ble ss (es_ms T)) = true) (hok : (∀ v ∈ S, gok s v) → r.1 = 1 → gok s (gRt T, r.2.1, r.2.2.1)) (hκ : κ q = some r) : Go X T m d pc (e :: cd) L S s cs ss (some q) κ := by
  intro h0 hm hc hw hl hs r' hr'
  have e1 : some r = some r' := hκ.symm.trans hr'
  cases e1
  subst hs0
  refine ⟨_, ok.2.2.1 _ _, ?_, gext_rf _, hw, hok hs⟩
  rw [gleaf (gch_hd hc).1 haux hrtv hcap]
  rfl
theorem g_ireturn (ok : gOK X) {v : Int} {a : Nat} {q : Q} (hrt : es_rt T = some .int) (hcap : (Nat.ble cs (es_mc T) && Nat.ble ss (es_ms T)) = true) (hκ : κ q = some (1, v, 0, s)) : Go X T m d pc ((pc, .ireturn, 1, []) :: cd) L [(0, v, a)] s cs ss (some q) κ := by
  have e : gRt T = 0 := by unfold gRt; rw [hrt]
  refine g_rt ok (r := (1, v, 0, s)) rfl rfl ?_ hcap (fun hs _ => by rw [e]; exact (gS2 hs).1) hκ
  rw [hrt]
  unfold gLf
  rw [e]
  rfl
theorem g_zreturn (ok : gOK X) {v : Int} {a : Nat} {q : Q} (hrt : es_rt T = some .boolean) (hv : v = 0 ∨ v = 1) (hcap : (Nat.ble cs (es_mc T) && Nat.ble ss (es_ms T)) = true) (hκ : κ q = some (1, v, 0, s)) : Go X T m d pc ((pc, .ireturn, 1, []) :: cd) L [(0, v, a)] s cs ss (some q) κ := by
  have e : gRt T = 1 := by unfold gRt; rw [hrt]
  refine g_rt ok (r := (1, v, 0, s)) rfl rfl ?_ hcap (fun hs _ => by rw [e]; exact hv) hκ
  rw [hrt]
  unfold gLf
  rw [e]
  show (bif es_fitv .boolean (gF X) (0, eI v) then some (1, (0, eI v)) else none) = _
  rw [gfitb _ hv]
  rfl
theorem g_zreturnb (ok : gOK X) {v : Int} {a : Nat} {q : Q} (hrt : es_rt T = some .boolean) (hcap : (Nat.ble cs (es_mc T) && Nat.ble ss (es_ms T)) = true) (hκ : κ q = some (1, v, 0, s)) : Go X T m d pc ((pc, .ireturn, 1, []) :: cd) L [(0, v, a)] s cs ss (gbool v (some q)) κ := by
  unfold gbool
  by_cases h : v = 0 ∨ v = 1
  · rw [if_pos h]; exact g_zreturn ok hrt h hcap hκ
  · rw [if_neg h]; exact g_none
/-- a char or a byte -/
theorem g_creturn (ok : gOK X) {v : Int} {a : Nat} {q : Q} (hrt : es_rt T = some .char ∨ es_rt T = some .byte) (hv : 0 ≤ v ∧ v < 128) (hcap : (Nat.ble cs (es_mc T) && Nat.ble ss (es_ms T)) = true) (hκ : κ q = some (1, v, 0, s)) : Go X T m d pc ((pc, .ireturn, 1, []) :: cd) L [(0, v, a)] s cs ss (some q) κ := by
  have e : gRt T = 0 := by unfold gRt; rcases hrt with h | h <;> rw [h]
  have e2 : es_nar (gF X) (0, eI v) = true := by
    show Nat.blt (eI v) 128 = true
    rw [geN2 hv.1 (by omega)]
    exact es_blt.mpr (by omega)
  refine g_rt ok (r := (1, v, 0, s)) rfl rfl ?_ hcap (fun hs _ => by rw [e]; exact (gS2 hs).1) hκ
  unfold gLf
  rw [e]
  rcases hrt with h | h
  · rw [h]
    show (bif es_nar (gF X) (0, eI v) then some (1, (0, eI v)) else none) = _
    rw [e2]; rfl
  · rw [h]
    show (bif es_nar (gF X) (0, eI v) then some (1, (0, eI v)) else none) = _
    rw [e2]; rfl
theorem g_lreturn (ok : gOK X) {v : Int} {a : Nat} {q : Q} (hrt : es_rt T = some .long) (hcap : (Nat.ble cs (es_mc T) && Nat.ble ss (es_ms T)) = true) (hκ : κ q = some (1, v, 0, s)) : Go X T m d pc ((pc, .lreturn, 1, []) :: cd) L [(2, v, a)] s cs ss (some q) κ := by
  have e : gRt T = 2 := by unfold gRt; rw [hrt]
  refine g_rt ok (r := (1, v, 0, s)) rfl rfl ?_ hcap (fun hs _ => by rw [e]; exact (gS2 hs).1) hκ
  rw [hrt]
  unfold gLf
  rw [e]
  rfl
theorem g_return (ok : gOK X) {q : Q} (hrt : es_rt T = none) (hcap : (Nat.ble cs (es_mc T) && Nat.ble ss (es_ms T)) = true) (hκ : κ q = some (0, 0, 0, s)) : Go X T m d pc ((pc, .return_, 1, []) :: cd) L [] s cs ss (some q) κ := by
  refine g_rt ok (r := (0, 0, 0, s)) rfl rfl ?_ hcap (fun hs h => by cases h) hκ
  rw [hrt]
  rfl
/-- a reference, or nothing -/
theorem g_areturn (ok : gOK X) {w : gV} {a tg : Nat} {q : Q} (hrt : (∃ C, es_rt T = some (.object C)) ∨ ∃ t, es_rt T = some (.array t)) (htg : gRt T = tg) (hgf : gf w = gf (tg, 0, a)) (htr : es_tr (gf w) = true) (hok : gok s w → gok s (tg, 0, a)) (hcap : (Nat.ble cs (es_mc T) && Nat.ble ss (es_ms T)) = true) (hκ : κ q = some (1, 0, a, s)) : Go X T m d pc ((pc, .areturn, 1, []) :: cd) L [w] s cs ss (some q) κ := by
  refine g_rt ok (r := (1, 0, a, s)) rfl rfl ?_ hcap (fun hs _ => by rw [htg]; exact hok (gS2 hs).1) hκ
  unfold gLf
  rw [htg]
  dsimp only
  rw [if_pos rfl, ← hgf]
  rcases hrt with ⟨C, h⟩ | ⟨C, h⟩
  · rw [h]
    show (bif es_tr (gf w) then some (1, gf w) else none) = _
    rw [htr]; rfl
  · rw [h]
    show (bif es_tr (gf w) then some (1, gf w) else none) = _
    rw [htr]; rfl
/-- a new cell -/
theorem gnw_K (s : gS) (kd a : Nat) : gK (gnw s kd) a = if a = gn s then kd else gK s a := rfl
theorem gnw_I (s : gS) (kd a k : Nat) : gI (gnw s kd) a k = if a = gn s then 0 else gI s a k := rfl
theorem gnw_R (s : gS) (kd a k : Nat) : gR (gnw s kd) a k = if a = gn s then 0 else gR s a k := rfl
theorem gnw_ext (s : gS) (kd : Nat) : gext s (gnw s kd) := ⟨Nat.le_succ _, fun a ha => by rw [gnw_K, if_neg (Nat.ne_of_lt ha)]⟩
theorem gnw_H (s : gS) (kd : Nat) : gH (gnw s kd) = gH s ++ [gobj (gnw s kd) (gn s)] :=
  gH_new rfl (fun b hb => gobj_eq (by rw [gnw_K, if_neg (Nat.ne_of_lt hb)]) (fun i => by rw [gnw_I, if_neg (Nat.ne_of_lt hb)]) (fun i => by rw [gnw_R, if_neg (Nat.ne_of_lt hb)]))
theorem gnw_wt {kd : Nat} (hw : gwt s) (h1 : kd < 13 → ∀ i, i < gnf kd → gok (gnw s kd) (gfv (gnw s kd) (gn s) kd i)) (h2 : 100 ≤ kd → gL4 kd < 1000000 ∧ gT4 kd < 5 ∧ ∀ j, j < gL4 kd → gok (gnw s kd) (gev (gnw s kd) (gn s) (gT4 kd) j)) : gwt (gnw s kd) := by
  intro b hb
  by_cases hbs : b = gn s
  · subst hbs
    rw [gnw_K, if_pos rfl]
    exact ⟨h1, h2⟩
  · have hlt : b < gn s := by
      have h9 : b < gn s + 1 := hb
      omega
    have g := hw b hlt
    rw [gnw_K, if_neg hbs]
    refine ⟨fun g1 i hi => ?_, fun g1 => ⟨(g.2 g1).1, (g.2 g1).2.1, fun j hj => ?_⟩⟩
    · have e : gfv (gnw s kd) b (gK s b) i = gfv s b (gK s b) i := by
        unfold gfv
        rw [gnw_I, gnw_R, if_neg hbs, if_neg hbs]
      rw [e]
      exact gok_ext (gnw_ext s kd) (g.1 g1 i hi)
    · have e : gev (gnw s kd) b (gT4 (gK s b)) j = gev s b (gT4 (gK s b)) j := by
        unfold gev
        split <;> simp only [gnw_I, gnw_R, if_neg hbs]
      rw [e]
      exact gok_ext (gnw_ext s kd) ((g.2 g1).2.2 j hj)
theorem gnw99 (hw : gwt s) : gwt (gnw s 99) := gnw_wt hw (fun h => absurd h (by decide)) (fun h => absurd h (by decide))
/-- it throws -/
theorem g_throw (ok : gOK X) {ik x0 : Nat} {tl : List Nat} {q : Q} (hh : es_hh T = []) (hcap : ((Nat.blt cs (es_mc T) && Nat.ble (ss + 6) (es_ms T)) && Nat.ble (gcts S) 8) = true) (hκ : κ q = some (x0 + 2, 0, 0, gnw s 99)) : Go X T m d pc ((pc, .new ik, 3, 100 :: x0 :: tl) :: cd) L S s cs ss (some q) κ := by
  intro h0 hm hc hw hl hs r' hr'
  have e1 : some (x0 + 2, 0, 0, gnw s 99) = some r' := hκ.symm.trans hr'
  cases e1
  refine ⟨_, ok.2.2.1 _ _, ?_, gnw_ext s 99, gnw99 hw, fun h => by cases h⟩
  simp only [Bool.and_eq_true] at hcap
  show (match es_at (es_tab T) pc with
    | some e => match e.2.2.2 with
      | 100 :: x :: _ => match es_hh T with
        | [] => bif (Nat.blt cs (es_mc T) && Nat.ble (ss + 6) (es_ms T)) && (Nat.blt 5 (8 + d) && Nat.ble 100 (300 + 64 * d)) && Nat.ble (es_cts (S.map gf)) 8 then some (x + 2, (0, 0), gH s ++ [(1, 0, [])], gF X) else none
        | _ => none
      | _ => match es_rtv (es_rt T) e.2.1 (S.map gf) (gF X) with
        | some q => bif Nat.ble cs (es_mc T) && Nat.ble ss (es_ms T) then some (q.1, q.2, gH s, gF X) else none
        | none => none
    | none => none) = _
  rw [(gch_hd hc).1]
  dsimp only
  rw [hh]
  dsimp only
  rw [gcts_eq, hcap.1.1, hcap.1.2, hcap.2, es_blt.mpr (show 5 < 8 + d by omega), Nat.ble_eq.mpr (show 100 ≤ 300 + 64 * d by omega)]
  have e2 : gobj (gnw s 99) (gn s) = (1, 0, []) := by
    unfold gobj
    rw [gnw_K, if_pos rfl, if_neg (by decide), if_pos (by decide)]
  unfold gLf
  dsimp only
  rw [gnw_H, e2, if_neg (by omega)]
  rfl
/-- what is behind a call -/
noncomputable def gAft (X : gX) (T T' : es_M) (m d pc : Nat) (L : List (Nat × gV)) (rest : List gV) (cs ss : Nat) (s : gS) (q r : gO) : Prop :=
  ∃ Kc Ec E, gRS X (m + 512 * d) Kc [Ec] ∧ (∀ ih : Nat → es_K → Option (List es_E), ih (m + 512 * d) Kc = some [Ec] → es_aft (gME (gM0 X)) ih (m + 512 * d) pc (gL L) (rest.map gf) cs ss (gLf X T' q) = some [E]) ∧ es_leaf (gdp d T) E = some (gLf X T r) ∧ gext s r.2.2.2 ∧ gwt r.2.2.2 ∧ (r.1 = 1 → gok r.2.2.2 (gRt T, r.2.1, r.2.2.1))
theorem g_call (ok : gOK X) (h0' : gM0 X m' = T') (hm' : m' < 512) {e : es_I} {y : Option gO} {W : gO → Option Q} {w9 : Nat} (hcal : gcal w9 T T' m' vs rest cs ss = true)
    (hstep : m < 512 → gM0 X m = T → es_at (es_tab T) pc = some e → gwt s → (∀ v ∈ S, gok s v) → ∀ ih : Nat → es_K → Option (List es_E), (∀ v, es_inv1 (gME (gM0 X)) w9 ih (m + 512 * (d + 1)) (m' + 512 * d) (vs.map gf) (rest.map gf) (gH s) (gF X) cs ss = some v → ∃ q, y = some q ∧ v = [gLf X T' q]) → es_step (gME (gM0 X)) (gts X) (gSL X) ih (m + 512 * (d + 1)) (pc, gL L, S.map gf, gH s, gF X, cs, ss) = (match es_inv1 (gME (gM0 X)) w9 ih (m + 512 * (d + 1)) (m' + 512 * d) (vs.map gf) (rest.map gf) (gH s) (gF X) cs ss with
      | some lfs => es_cat (es_aft (gME (gM0 X)) ih (m + 512 * (d + 1)) pc (gL L) (rest.map gf) (cs + es_mc T') (ss + es_ms T')) lfs
      | none => none))
    (hvs : (∀ v ∈ S, gok s v) → (∀ v ∈ vs, gok s v) ∧ ∀ v ∈ rest, gok s v) (ct : Go X T' m' d 0 [] (gal 0 vs) [] s 0 0 y some)
    (k : gM0 X m = T → m < 512 → gch T (pc + e.2.2.1) cd = true → ∀ q, gext s q.2.2.2 → gwt q.2.2.2 → (q.1 = 1 → gok q.2.2.2 (gRt T', q.2.1, q.2.2.1)) → (∀ z ∈ L, gok q.2.2.2 z.2) → (∀ v ∈ rest, gok q.2.2.2 v) → ∀ r, (W q).bind κ = some r → gAft X T T' m (d + 1) pc L rest (cs + es_mc T') (ss + es_ms T') q.2.2.2 q r) :
    Go X T m (d + 1) pc (e :: cd) L S s cs ss (y.bind W) κ := by
  intro h0 hm hc hw hl hs r hr
  cases hy : y with
  | none => rw [hy] at hr; cases hr
  | some q =>
    rw [hy] at hr
    obtain ⟨g1, g2⟩ := hvs hs
    obtain ⟨E', c1, c2, c3, c4, c5⟩ := ct h0' hm' rfl hw (fun z hz => g1 _ (gal_mem 0 vs z hz)) (fun v hv => by cases hv) q (by rw [hy]; rfl)
    obtain ⟨Kc, Ec, E, a1, a2, a3, a4, a5⟩ := k h0 hm (gch_hd hc).2 q c3 c4 c5 (fun z hz => gok_ext c3 (hl z hz)) (fun v hv => gok_ext c3 (g2 v hv)) r hr
    have hne : m' + 512 * d ≠ m + 512 * (d + 1) := by omega
    refine ⟨E, ok.1 (fun M K1 => @ite _ (M = m' + 512 * d ∧ K1 = (0, gL (gal 0 vs), [], gH s, gF X, 0, 0)) (Classical.propDecidable _) (some [E']) (@ite _ (M = m + 512 * (d + 1) ∧ K1 = Kc) (Classical.propDecidable _) (some [Ec]) none)) (fun M K1 ends he => ?_) _ _ _ ?_, a3, gext_tr c3 a4, a5⟩
    · by_cases hcnd : M = m' + 512 * d ∧ K1 = (0, gL (gal 0 vs), [], gH s, gF X, 0, 0)
      · rw [if_pos hcnd] at he
        cases he
        rw [hcnd.1, hcnd.2]
        exact c1
      · rw [if_neg hcnd] at he
        by_cases hcn2 : M = m + 512 * (d + 1) ∧ K1 = Kc
        · rw [if_pos hcn2] at he
          cases he
          rw [hcn2.1, hcn2.2]
          exact a1
        · rw [if_neg hcn2] at he
          cases he
    · have hi1 : ∀ ih : Nat → es_K → Option (List es_E), ih (m' + 512 * d) (0, gL (gal 0 vs), [], gH s, gF X, 0, 0) = some [E'] → es_inv1 (gME (gM0 X)) w9 ih (m + 512 * (d + 1)) (m' + 512 * d) (vs.map gf) (rest.map gf) (gH s) (gF X) cs ss = some [gLf X T' q] := fun ih hih => by
        unfold es_inv1
        rw [gME_at _ hm', gME_at _ hm, h0', h0, gcts_eq, gcts_eq, gal_eq, hih]
        unfold gcal at hcal
        simp only [Bool.and_eq_true, Nat.ble_eq, es_blt] at hcal
        obtain ⟨⟨⟨q1, q2⟩, q3, q4⟩, q5, q6⟩ := hcal
        have hcx : es_cx (m' + 512 * d) = true := by
          unfold es_cx
          rw [show (m' + 512 * d) % 512 = m' by omega, es_beqf.mpr (by omega)]
          rfl
        have hb : ((Nat.ble (gcts vs) (es_mL (gdp d T')) && (Nat.ble (gcts rest) w9 && es_cx (m' + 512 * d))) && ((Nat.blt (es_rf (gdp d T')) (es_rf (gdp (d + 1) T)) && Nat.ble (27 + es_mL (gdp d T') + es_lo (gdp d T')) (es_lo (gdp (d + 1) T))) && (Nat.ble (cs + es_mc (gdp d T')) (es_mc (gdp (d + 1) T)) && Nat.ble (ss + es_ms (gdp d T')) (es_ms (gdp (d + 1) T))))) = true := by
          simp only [Bool.and_eq_true, Nat.ble_eq, es_blt]
          refine ⟨⟨q1, q2, hcx⟩, ⟨?_, ?_⟩, q5, q6⟩
          · show 8 + d < 8 + (d + 1); omega
          · show 27 + es_mL T' + (300 + 64 * d) ≤ 300 + 64 * (d + 1); omega
        rw [hb]
        show (match es_cat (fun E => (es_leaf (gdp d T') E).map (fun x => [x])) [E'] with | some lfs => some lfs | none => none) = _
        simp only [es_cat, c2, Option.map_some, List.append_nil]
      rw [hstep hm h0 (gch_hd hc).1 hw hs _ (fun v hv => by
        rw [hi1 _ (if_pos ⟨rfl, rfl⟩)] at hv
        cases hv
        exact ⟨q, hy, rfl⟩), hi1 _ (if_pos ⟨rfl, rfl⟩)]
      dsimp only
      simp only [es_cat]
      rw [a2 _ (by rw [if_neg (fun h => hne h.1.symm)]; exact if_pos ⟨rfl, rfl⟩)]
      rfl
/-- the plain ends of a call -/
theorem g_aft0 {q r : gO} {w : Option gV} (hm : m < 512) (h0 : gM0 X m = T) (hq : (q.1 = 0 ∧ w = none) ∨ (q.1 = 1 ∧ ∃ u, w = some u ∧ gf u = gf (gRt T', q.2.1, q.2.2.1) ∧ gok q.2.2.2 u)) (hch : gch T (pc + 3) cd = true) (hw : gwt q.2.2.2) (hL : ∀ z ∈ L, gok q.2.2.2 z.2) (hR : ∀ v ∈ rest, gok q.2.2.2 v) (kk : Go X T m d (pc + 3) cd L (w.toList ++ rest) q.2.2.2 cs ss x κ) (hr : x.bind κ = some r) : gAft X T T' m d pc L rest cs ss q.2.2.2 q r := by
  have hS : ∀ v ∈ w.toList ++ rest, gok q.2.2.2 v := fun v hv => by
    rcases List.mem_append.mp hv with h | h
    · rcases hq with ⟨-, h2⟩ | ⟨-, u, h2, -, h4⟩
      · rw [h2] at h; cases h
      · rw [h2] at h
        rw [List.mem_singleton.mp h]
        exact h4
    · exact hR v h
  obtain ⟨E, e1, e2, e3, e4, e5⟩ := kk h0 hm hch hw hL hS r hr
  refine ⟨_, E, E, e1, fun ih hih => ?_, e2, e3, e4, e5⟩
  rcases hq with ⟨h1, h2⟩ | ⟨h1, u, h2, h3, h4⟩
  · subst h2
    unfold gLf
    rw [h1]
    exact hih
  · subst h2
    unfold gLf
    rw [h1]
    show ih (m + 512 * d) (pc + 3, gL L, gf (gRt T', q.2.1, q.2.2.1) :: rest.map gf, gH q.2.2.2, gF X, cs, ss) = some [E]
    rw [← h3]
    exact hih
/-- it is thrown on -/
theorem g_aftT (ok : gOK X) {q r : gO} (hm : m < 512) (h0 : gM0 X m = T) (hh : es_hh T = []) (h2 : 2 ≤ q.1) (hr : r = (q.1, 0, 0, q.2.2.2)) (hw : gwt q.2.2.2) (hcap : (Nat.ble cs (es_mc T) && Nat.ble ss (es_ms T)) = true) : gAft X T T' m d pc L rest cs ss q.2.2.2 q r := by
  subst hr
  obtain ⟨k, v, a, u⟩ := q
  obtain ⟨k, rfl⟩ : ∃ j, k = j + 2 := ⟨k - 2, by have h9 : 2 ≤ k := h2; omega⟩
  refine ⟨(0, [], [], [], [], 0, 0), _, (k + 1, pc, gL L, rest.map gf, gH u, gF X, cs, ss), ok.2.2.1 _ _, fun ih _ => ?_, ?_, gext_rf _, hw, fun h => by cases h⟩
  · show (match es_hh (gME (gM0 X) (m + 512 * d)) with
      | [] => some [(k + 1, pc, gL L, rest.map gf, gH u, gF X, cs, ss)]
      | hh => match es_hdl es_ct hh pc k with
        | some h => bif Nat.blt k 5 then ih (m + 512 * d) (h, gL L, [(7, 0)], gH u, gF X, cs, ss) else none
        | none => none) = _
    rw [gME_at _ hm, h0, show es_hh (gdp d T) = [] from hh]
  · show (match es_hh T with
      | [] => bif Nat.ble cs (es_mc T) && Nat.ble ss (es_ms T) then some (k + 2, (0, 0), gH u, gF X) else none
      | _ => none) = _
    rw [hh]
    dsimp only
    rw [hcap]
    unfold gLf
    dsimp only
    rw [if_neg (by omega)]
    rfl
/-- it is caught -/
theorem g_aftC {q r : gO} {h : Nat} (hm : m < 512) (h0 : gM0 X m = T) (h2 : 2 ≤ q.1) (h7 : q.1 - 2 < 5) (hne : es_hh T ≠ []) (hhd : es_hdl es_ct (es_hh T) pc (q.1 - 2) = some h) (hw : gwt q.2.2.2) (hL : ∀ z ∈ L, gok q.2.2.2 z.2) (kk : Go X T m d h [] L [(7, 0, 0)] q.2.2.2 cs ss x κ) (hr : x.bind κ = some r) : gAft X T T' m d pc L rest cs ss q.2.2.2 q r := by
  obtain ⟨k, v, a, u⟩ := q
  obtain ⟨k, rfl⟩ : ∃ j, k = j + 2 := ⟨k - 2, by have h9 : 2 ≤ k := h2; omega⟩
  dsimp only at h7 hhd hw hL
  rw [Nat.add_sub_cancel] at h7 hhd
  obtain ⟨E, e1, e2, e3, e4, e5⟩ := kk h0 hm rfl hw hL (fun v hv => by
    rw [List.mem_singleton.mp hv]
    exact fun h => absurd h (by decide)) r hr
  refine ⟨_, E, E, e1, fun ih hih => ?_, e2, e3, e4, e5⟩
  show (match es_hh (gME (gM0 X) (m + 512 * d)) with
    | [] => some [(k + 1, pc, gL L, rest.map gf, gH u, gF X, cs, ss)]
    | hh => match es_hdl es_ct hh pc k with
      | some h => bif Nat.blt k 5 then ih (m + 512 * d) (h, gL L, [(7, 0)], gH u, gF X, cs, ss) else none
      | none => none) = _
  rw [gME_at _ hm, h0, show es_hh (gdp d T) = es_hh T from rfl]
  cases hhT : es_hh T with
  | nil => exact absurd hhT hne
  | cons z t =>
    dsimp only
    rw [hhT] at hhd
    rw [hhd]
    dsimp only
    rw [es_blt.mpr h7]
    exact hih
end GoC

end
section
section GoG
variable {X : gX} {T T' : es_M} {m m' d pc pc' : Nat} {cd cd' : List es_I} {L L' : List (Nat × gV)} {S S' vs rest : List gV} {s s' : gS} {cs ss : Nat} {Q : Type} {x : Option Q} {κ : Q → Option gO}
theorem gmc (hm' : m' < 512) (h0' : gM0 X m' = T') : es_mc (gME (gM0 X) (m' + 512 * d)) = es_mc T' ∧ es_ms (gME (gM0 X) (m' + 512 * d)) = es_ms T' := by
  rw [gME_at _ hm', h0']
  exact ⟨rfl, rfl⟩
/-- an instance method of an own class -/
theorem gst_v {idx n ci a : Nat} {z : Int} {tl : List Nat} {ih : Nat → es_K → Option (List es_E)} (h0' : gM0 X m' = T') (hm' : m' < 512) (hci : Nat.blt ci 13 = true) (hdr : S.drop n = (ci + 16, z, a) :: rest) (hm : m < 512) (h0 : gM0 X m = T) (hat : es_at (es_tab T) pc = some (pc, .invokevirtual idx, 3, 1 :: m' :: n :: ci :: tl)) (hs : ∀ v ∈ S, gok s v) :
    es_step (gME (gM0 X)) (gts X) (gSL X) ih (m + 512 * (d + 1)) (pc, gL L, S.map gf, gH s, gF X, cs, ss) = (match es_inv1 (gME (gM0 X)) 8 ih (m + 512 * (d + 1)) (m' + 512 * d) (((ci + 16, z, a) :: (S.take n).reverse).map gf) (rest.map gf) (gH s) (gF X) cs ss with
      | some lfs => es_cat (es_aft (gME (gM0 X)) ih (m + 512 * (d + 1)) pc (gL L) (rest.map gf) (cs + es_mc T') (ss + es_ms T')) lfs
      | none => none) := by
  unfold es_step
  dsimp only
  rw [gtab h0 hm hat]
  show es_sv (gME (gM0 X)) ih (m + 512 * (d + 1)) (es_cal (m + 512 * (d + 1)) m') n ci pc (gL L) (S.map gf) (gH s) (gF X) cs ss = _
  rw [gcal_at m d hm hm']
  unfold es_sv
  rw [← List.map_drop, hdr, List.map_cons]
  dsimp only
  have hv : gok s (ci + 16, z, a) := hs _ (List.mem_of_mem_drop (by rw [hdr]; exact List.mem_cons_self))
  obtain ⟨h1, h2⟩ := gok_r.mp hv
  rw [gf_r, gobjC (es_blt.mp hci) h1 h2]
  dsimp only
  rw [(gmc hm' h0').1, (gmc hm' h0').2, ← List.map_take, ← List.map_reverse]
  rfl
/-- a static method -/
theorem gst_s {idx n : Nat} {tl : List Nat} {ih : Nat → es_K → Option (List es_E)} (h0' : gM0 X m' = T') (hm' : m' < 512) (hn : Nat.ble n S.length = true) (hm : m < 512) (h0 : gM0 X m = T) (hat : es_at (es_tab T) pc = some (pc, .invokestatic idx, 3, 2 :: m' :: n :: tl)) :
    es_step (gME (gM0 X)) (gts X) (gSL X) ih (m + 512 * (d + 1)) (pc, gL L, S.map gf, gH s, gF X, cs, ss) = (match es_inv1 (gME (gM0 X)) (bif (es_hh T').isEmpty then 16 else 8) ih (m + 512 * (d + 1)) (m' + 512 * d) ((S.take n).reverse.map gf) ((S.drop n).map gf) (gH s) (gF X) cs ss with
      | some lfs => es_cat (es_aft (gME (gM0 X)) ih (m + 512 * (d + 1)) pc (gL L) ((S.drop n).map gf) (cs + es_mc T') (ss + es_ms T')) lfs
      | none => none) := by
  unfold es_step
  dsimp only
  rw [gtab h0 hm hat]
  show es_ss (gME (gM0 X)) ih (m + 512 * (d + 1)) (es_cal (m + 512 * (d + 1)) m') n pc (gL L) (S.map gf) (gH s) (gF X) cs ss = _
  rw [gcal_at m d hm hm']
  unfold es_ss
  rw [show es_hh (gME (gM0 X) (m' + 512 * d)) = es_hh T' from by rw [gME_at _ hm', h0']; rfl, List.length_map, hn, (gmc hm' h0').1, (gmc hm' h0').2, ← List.map_take, ← List.map_reverse, ← List.map_drop]
  rfl
/-- a method of a constant text -/
theorem gst_q {idx n a : Nat} {z : Int} {tl : List Nat} {ih : Nat → es_K → Option (List es_E)} (hN : (gts X).length = 70) (h0' : gM0 X m' = T') (hm' : m' < 512) (hs : ∀ v ∈ S, gok s v) (hdr : S.drop n = (8, z, a) :: rest) (hm : m < 512) (h0 : gM0 X m = T) (hat : es_at (es_tab T) pc = some (pc, .invokevirtual idx, 3, 3 :: m' :: n :: tl)) :
    es_step (gME (gM0 X)) (gts X) (gSL X) ih (m + 512 * (d + 1)) (pc, gL L, S.map gf, gH s, gF X, cs, ss) = (match es_inv1 (gME (gM0 X)) 8 ih (m + 512 * (d + 1)) (m' + 512 * d) (((8, z, a) :: (S.take n).reverse).map gf) (rest.map gf) (gH s) (gF X) cs ss with
      | some lfs => es_cat (es_aft (gME (gM0 X)) ih (m + 512 * (d + 1)) pc (gL L) (rest.map gf) (cs + es_mc T') (ss + es_ms T')) lfs
      | none => none) := by
  unfold es_step
  dsimp only
  rw [gtab h0 hm hat]
  show es_sq (gME (gM0 X)) (gts X) ih (m + 512 * (d + 1)) (es_cal (m + 512 * (d + 1)) m') n pc (gL L) (S.map gf) (gH s) (gF X) cs ss = _
  rw [gcal_at m d hm hm']
  unfold es_sq
  rw [← List.map_drop, hdr, List.map_cons]
  dsimp only
  rw [show (Nat.beq (gf (8, z, a)).1 8 && Nat.blt (gf (8, z, a)).2 (gts X).length) = true from by rw [Bool.and_eq_true, es_blt]; exact ⟨rfl, by rw [hN]; exact hs _ (List.mem_of_mem_drop (by rw [hdr]; exact List.mem_cons_self))⟩]
  dsimp only [cond_true]
  rw [(gmc hm' h0').1, (gmc hm' h0').2, ← List.map_take, ← List.map_reverse]
  rfl
theorem gvsv {n : Nat} {o : gV} (hdr : S.drop n = o :: rest) : (∀ v ∈ S, gok s v) → (∀ v ∈ o :: (S.take n).reverse, gok s v) ∧ ∀ v ∈ rest, gok s v := fun hs => by
  refine ⟨fun v hv => ?_, fun v hv => hs v (List.mem_of_mem_drop (by rw [hdr]; exact List.mem_cons_of_mem _ hv))⟩
  rcases List.mem_cons.mp hv with h | h
  · exact hs v (List.mem_of_mem_drop (by rw [hdr, h]; exact List.mem_cons_self))
  · exact hs v (List.mem_of_mem_take (List.mem_reverse.mp h))
theorem gvss {n : Nat} : (∀ v ∈ S, gok s v) → (∀ v ∈ (S.take n).reverse, gok s v) ∧ ∀ v ∈ S.drop n, gok s v := fun hs =>
  ⟨fun v hv => hs v (List.mem_of_mem_take (List.mem_reverse.mp hv)), fun v hv => hs v (List.mem_of_mem_drop hv)⟩
/-- how a call goes on: no answer, a number, a truth, a long, what may be nothing; and the same where it may throw -/
theorem gk_0 {q r : gO} {E : gS → Option Q} (kk : ∀ s', Go X T m d (pc + 3) cd L rest s' cs ss (E s') κ) (h0 : gM0 X m = T) (hm : m < 512) (hch : gch T (pc + 3) cd = true) (hw : gwt q.2.2.2) (hL : ∀ z ∈ L, gok q.2.2.2 z.2) (hR : ∀ v ∈ rest, gok q.2.2.2 v) (hr : (gv0 E q).bind κ = some r) : gAft X T T' m d pc L rest cs ss q.2.2.2 q r := by
  unfold gv0 at hr
  by_cases h : q.1 = 0
  · rw [if_pos h] at hr
    exact g_aft0 (w := none) hm h0 (Or.inl ⟨h, rfl⟩) hch hw hL hR (kk _) hr
  · rw [if_neg h] at hr; cases hr
theorem gk_1 {q r : gO} {E : Int → gS → Option Q} (hT : gRt T' = 0) (kk : ∀ v s', Go X T m d (pc + 3) cd L ((0, v, 0) :: rest) s' cs ss (E v s') κ) (h0 : gM0 X m = T) (hm : m < 512) (hch : gch T (pc + 3) cd = true) (hw : gwt q.2.2.2) (hg : q.1 = 1 → gok q.2.2.2 (gRt T', q.2.1, q.2.2.1)) (hL : ∀ z ∈ L, gok q.2.2.2 z.2) (hR : ∀ v ∈ rest, gok q.2.2.2 v) (hr : (gv1 E q).bind κ = some r) : gAft X T T' m d pc L rest cs ss q.2.2.2 q r := by
  unfold gv1 at hr
  by_cases h : q.1 = 1
  · rw [if_pos h] at hr
    have hg := hg h
    rw [hT] at hg
    exact g_aft0 (w := some (0, q.2.1, 0)) hm h0 (Or.inr ⟨h, _, rfl, by rw [hT]; rfl, hg⟩) hch hw hL hR (kk _ _) hr
  · rw [if_neg h] at hr; cases hr
theorem gk_z {q r : gO} {E : Int → gS → Option Q} (hT : gRt T' = 1) (kk : ∀ v s', (v = 0 ∨ v = 1) → Go X T m d (pc + 3) cd L ((0, v, 0) :: rest) s' cs ss (E v s') κ) (h0 : gM0 X m = T) (hm : m < 512) (hch : gch T (pc + 3) cd = true) (hw : gwt q.2.2.2) (hg : q.1 = 1 → gok q.2.2.2 (gRt T', q.2.1, q.2.2.1)) (hL : ∀ z ∈ L, gok q.2.2.2 z.2) (hR : ∀ v ∈ rest, gok q.2.2.2 v) (hr : (gv1 E q).bind κ = some r) : gAft X T T' m d pc L rest cs ss q.2.2.2 q r := by
  unfold gv1 at hr
  by_cases h : q.1 = 1
  · rw [if_pos h] at hr
    have hg := hg h
    rw [hT] at hg
    have hg2 : q.2.1 = 0 ∨ q.2.1 = 1 := hg
    exact g_aft0 (w := some (0, q.2.1, 0)) hm h0 (Or.inr ⟨h, _, rfl, by rw [hT]; rfl, by
      show gc32 q.2.1
      rcases hg2 with h9 | h9 <;> rw [h9] <;> unfold gc32 <;> decide⟩) hch hw hL hR (kk _ _ hg2) hr
  · rw [if_neg h] at hr; cases hr
theorem gk_l {q r : gO} {E : Int → gS → Option Q} (hT : gRt T' = 2) (kk : ∀ v s', Go X T m d (pc + 3) cd L ((2, v, 0) :: rest) s' cs ss (E v s') κ) (h0 : gM0 X m = T) (hm : m < 512) (hch : gch T (pc + 3) cd = true) (hw : gwt q.2.2.2) (hg : q.1 = 1 → gok q.2.2.2 (gRt T', q.2.1, q.2.2.1)) (hL : ∀ z ∈ L, gok q.2.2.2 z.2) (hR : ∀ v ∈ rest, gok q.2.2.2 v) (hr : (gv1 E q).bind κ = some r) : gAft X T T' m d pc L rest cs ss q.2.2.2 q r := by
  unfold gv1 at hr
  by_cases h : q.1 = 1
  · rw [if_pos h] at hr
    have hg := hg h
    rw [hT] at hg
    exact g_aft0 (w := some (2, q.2.1, 0)) hm h0 (Or.inr ⟨h, _, rfl, by rw [hT]; rfl, hg⟩) hch hw hL hR (kk _ _) hr
  · rw [if_neg h] at hr; cases hr
theorem gk_r {q r : gO} {E : Nat → gS → Option Q} {tg : Nat} (hT : gRt T' = tg) (h11 : tg = 11 ∨ tg = 12) (kk : ∀ a s', Go X T m d (pc + 3) cd L ((tg, 0, a) :: rest) s' cs ss (E a s') κ) (h0 : gM0 X m = T) (hm : m < 512) (hch : gch T (pc + 3) cd = true) (hw : gwt q.2.2.2) (hg : q.1 = 1 → gok q.2.2.2 (gRt T', q.2.1, q.2.2.1)) (hL : ∀ z ∈ L, gok q.2.2.2 z.2) (hR : ∀ v ∈ rest, gok q.2.2.2 v) (hr : (gvr E q).bind κ = some r) : gAft X T T' m d pc L rest cs ss q.2.2.2 q r := by
  unfold gvr at hr
  by_cases h : q.1 = 1
  · rw [if_pos h] at hr
    have hg := hg h
    rw [hT] at hg
    exact g_aft0 (w := some (tg, 0, q.2.2.1)) hm h0 (Or.inr ⟨h, _, rfl, by rw [hT]; rcases h11 with rfl | rfl <;> rfl, by rcases h11 with rfl | rfl <;> exact hg⟩) hch hw hL hR (kk _ _) hr
  · rw [if_neg h] at hr; cases hr
theorem gk_t0 (ok : gOK X) {q r : gO} {Z : gO → Q} {E : gS → Option Q} (hh : es_hh T = []) (hcap : (Nat.ble cs (es_mc T) && Nat.ble ss (es_ms T)) = true) (hZ : ∀ r, κ (Z r) = some r) (kk : ∀ s', Go X T m d (pc + 3) cd L rest s' cs ss (E s') κ) (h0 : gM0 X m = T) (hm : m < 512) (hch : gch T (pc + 3) cd = true) (hw : gwt q.2.2.2) (hL : ∀ z ∈ L, gok q.2.2.2 z.2) (hR : ∀ v ∈ rest, gok q.2.2.2 v) (hr : (gt0 Z E q).bind κ = some r) : gAft X T T' m d pc L rest cs ss q.2.2.2 q r := by
  unfold gt0 at hr
  by_cases h : q.1 = 0
  · rw [if_pos h] at hr
    exact g_aft0 (w := none) hm h0 (Or.inl ⟨h, rfl⟩) hch hw hL hR (kk _) hr
  · rw [if_neg h] at hr
    by_cases h2 : 2 ≤ q.1
    · rw [if_pos h2] at hr
      have e : some (q.1, 0, 0, q.2.2.2) = some r := (hZ _).symm.trans hr
      exact g_aftT ok hm h0 hh h2 (Option.some.inj e).symm hw hcap
    · rw [if_neg h2] at hr; cases hr
theorem gk_t1 (ok : gOK X) {q r : gO} {Z : gO → Q} {E : Int → gS → Option Q} {tg : Nat} (hT : gRt T' = tg) (htg : tg = 0 ∨ tg = 2) (hh : es_hh T = []) (hcap : (Nat.ble cs (es_mc T) && Nat.ble ss (es_ms T)) = true) (hZ : ∀ r, κ (Z r) = some r) (kk : ∀ v s', Go X T m d (pc + 3) cd L ((tg, v, 0) :: rest) s' cs ss (E v s') κ) (h0 : gM0 X m = T) (hm : m < 512) (hch : gch T (pc + 3) cd = true) (hw : gwt q.2.2.2) (hg : q.1 = 1 → gok q.2.2.2 (gRt T', q.2.1, q.2.2.1)) (hL : ∀ z ∈ L, gok q.2.2.2 z.2) (hR : ∀ v ∈ rest, gok q.2.2.2 v) (hr : (gt1 Z E q).bind κ = some r) : gAft X T T' m d pc L rest cs ss q.2.2.2 q r := by
  unfold gt1 at hr
  by_cases h : q.1 = 1
  · rw [if_pos h] at hr
    have hg := hg h
    rw [hT] at hg
    exact g_aft0 (w := some (tg, q.2.1, 0)) hm h0 (Or.inr ⟨h, _, rfl, by rw [hT]; rcases htg with rfl | rfl <;> rfl, by rcases htg with rfl | rfl <;> exact hg⟩) hch hw hL hR (kk _ _) hr
  · rw [if_neg h] at hr
    by_cases h2 : 2 ≤ q.1
    · rw [if_pos h2] at hr
      have e : some (q.1, 0, 0, q.2.2.2) = some r := (hZ _).symm.trans hr
      exact g_aftT ok hm h0 hh h2 (Option.some.inj e).symm hw hcap
    · rw [if_neg h2] at hr; cases hr
theorem gk_c1 {q r : gO} {C : Nat → gS → Option Q} {E : Int → gS → Option Q} (hT : gRt T' = 0 ∨ gRt T' = 1) (hne : es_hh T ≠ []) (kk : ∀ v s', (gRt T' = 1 → v = 0 ∨ v = 1) → Go X T m d (pc + 3) cd L ((0, v, 0) :: rest) s' cs ss (E v s') κ) (kc : ∀ k s', Go X T m d pc [] L rest s' cs ss (C k s') κ → True) (kx : ∀ k s' r, (C k s').bind κ = some r → k < 5 ∧ ∃ h, es_hdl es_ct (es_hh T) pc k = some h ∧ Go X T m d h [] L [(7, 0, 0)] s' cs ss (C k s') κ) (h0 : gM0 X m = T) (hm : m < 512) (hch : gch T (pc + 3) cd = true) (hw : gwt q.2.2.2) (hg : q.1 = 1 → gok q.2.2.2 (gRt T', q.2.1, q.2.2.1)) (hL : ∀ z ∈ L, gok q.2.2.2 z.2) (hR : ∀ v ∈ rest, gok q.2.2.2 v) (hr : (gc1 C E q).bind κ = some r) : gAft X T T' m d pc L rest cs ss q.2.2.2 q r := by
  unfold gc1 at hr
  by_cases h : q.1 = 1
  · rw [if_pos h] at hr
    have hg := hg h
    have hg2 : gc32 q.2.1 := by
      rcases hT with h9 | h9
      · rw [h9] at hg; exact hg
      · rw [h9] at hg
        have hg3 : q.2.1 = 0 ∨ q.2.1 = 1 := hg
        rcases hg3 with h8 | h8 <;> rw [h8] <;> unfold gc32 <;> decide
    exact g_aft0 (w := some (0, q.2.1, 0)) hm h0 (Or.inr ⟨h, _, rfl, by rcases hT with h9 | h9 <;> rw [h9] <;> rfl, hg2⟩) hch hw hL hR (kk _ _ (fun h9 => by rw [h9] at hg; exact hg)) hr
  · rw [if_neg h] at hr
    by_cases h2 : 2 ≤ q.1
    · rw [if_pos h2] at hr
      obtain ⟨g1, hd, g2, g3⟩ := kx _ _ _ hr
      exact g_aftC hm h0 h2 g1 hne g2 hw hL g3 hr
    · rw [if_neg h2] at hr; cases hr
/-- the rows of calls -/
theorem g_cv0 (ok : gOK X) {idx n ci a : Nat} {z : Int} {tl : List Nat} {y : Option gO} {E : gS → Option Q} (h0' : gM0 X m' = T') (hci : Nat.blt ci 13 = true) (hdr : S.drop n = (ci + 16, z, a) :: rest) (hcal : gcal 8 T T' m' ((ci + 16, z, a) :: (S.take n).reverse) rest cs ss = true) (ct : Go X T' m' d 0 [] (gal 0 ((ci + 16, z, a) :: (S.take n).reverse)) [] s 0 0 y some) (kk : ∀ s', Go X T m (d + 1) (pc + 3) cd L rest s' (cs + es_mc T') (ss + es_ms T') (E s') κ) : Go X T m (d + 1) pc ((pc, .invokevirtual idx, 3, 1 :: m' :: n :: ci :: tl) :: cd) L S s cs ss (y.bind (gv0 E)) κ := by
  have hm' : m' < 512 := by unfold gcal at hcal; simp only [Bool.and_eq_true, es_blt] at hcal; omega
  exact g_call ok h0' hm' hcal (fun hm h0 hat hw hs ih _ => gst_v h0' hm' hci hdr hm h0 hat hs) (gvsv hdr) ct (fun h0 hm hch q _ hw _ hL hR r hr => gk_0 kk h0 hm hch hw hL hR hr)
theorem g_cv1 (ok : gOK X) {idx n ci a : Nat} {z : Int} {tl : List Nat} {y : Option gO} {E : Int → gS → Option Q} (h0' : gM0 X m' = T') (hci : Nat.blt ci 13 = true) (hdr : S.drop n = (ci + 16, z, a) :: rest) (hcal : gcal 8 T T' m' ((ci + 16, z, a) :: (S.take n).reverse) rest cs ss = true) (hT : gRt T' = 0) (ct : Go X T' m' d 0 [] (gal 0 ((ci + 16, z, a) :: (S.take n).reverse)) [] s 0 0 y some) (kk : ∀ v s', Go X T m (d + 1) (pc + 3) cd L ((0, v, 0) :: rest) s' (cs + es_mc T') (ss + es_ms T') (E v s') κ) : Go X T m (d + 1) pc ((pc, .invokevirtual idx, 3, 1 :: m' :: n :: ci :: tl) :: cd) L S s cs ss (y.bind (gv1 E)) κ := by
  have hm' : m' < 512 := by unfold gcal at hcal; simp only [Bool.and_eq_true, es_blt] at hcal; omega
  exact g_call ok h0' hm' hcal (fun hm h0 hat hw hs ih _ => gst_v h0' hm' hci hdr hm h0 hat hs) (gvsv hdr) ct (fun h0 hm hch q _ hw hg hL hR r hr => gk_1 hT kk h0 hm hch hw hg hL hR hr)
theorem g_cvz (ok : gOK X) {idx n ci a : Nat} {z : Int} {tl : List Nat} {y : Option gO} {E : Int → gS → Option Q} (h0' : gM0 X m' = T') (hci : Nat.blt ci 13 = true) (hdr : S.drop n = (ci + 16, z, a) :: rest) (hcal : gcal 8 T T' m' ((ci + 16, z, a) :: (S.take n).reverse) rest cs ss = true) (hT : gRt T' = 1) (ct : Go X T' m' d 0 [] (gal 0 ((ci + 16, z, a) :: (S.take n).reverse)) [] s 0 0 y some) (kk : ∀ v s', (v = 0 ∨ v = 1) → Go X T m (d + 1) (pc + 3) cd L ((0, v, 0) :: rest) s' (cs + es_mc T') (ss + es_ms T') (E v s') κ) : Go X T m (d + 1) pc ((pc, .invokevirtual idx, 3, 1 :: m' :: n :: ci :: tl) :: cd) L S s cs ss (y.bind (gv1 E)) κ := by
  have hm' : m' < 512 := by unfold gcal at hcal; simp only [Bool.and_eq_true, es_blt] at hcal; omega
  exact g_call ok h0' hm' hcal (fun hm h0 hat hw hs ih _ => gst_v h0' hm' hci hdr hm h0 hat hs) (gvsv hdr) ct (fun h0 hm hch q _ hw hg hL hR r hr => gk_z hT kk h0 hm hch hw hg hL hR hr)
theorem g_cvr (ok : gOK X) {idx n ci a tg : Nat} {z : Int} {tl : List Nat} {y : Option gO} {E : Nat → gS → Option Q} (h0' : gM0 X m' = T') (hci : Nat.blt ci 13 = true) (hdr : S.drop n = (ci + 16, z, a) :: rest) (hcal : gcal 8 T T' m' ((ci + 16, z, a) :: (S.take n).reverse) rest cs ss = true) (hT : gRt T' = tg) (h11 : tg = 11 ∨ tg = 12) (ct : Go X T' m' d 0 [] (gal 0 ((ci + 16, z, a) :: (S.take n).reverse)) [] s 0 0 y some) (kk : ∀ v s', Go X T m (d + 1) (pc + 3) cd L ((tg, 0, v) :: rest) s' (cs + es_mc T') (ss + es_ms T') (E v s') κ) : Go X T m (d + 1) pc ((pc, .invokevirtual idx, 3, 1 :: m' :: n :: ci :: tl) :: cd) L S s cs ss (y.bind (gvr E)) κ := by
  have hm' : m' < 512 := by unfold gcal at hcal; simp only [Bool.and_eq_true, es_blt] at hcal; omega
  exact g_call ok h0' hm' hcal (fun hm h0 hat hw hs ih _ => gst_v h0' hm' hci hdr hm h0 hat hs) (gvsv hdr) ct (fun h0 hm hch q _ hw hg hL hR r hr => gk_r hT h11 kk h0 hm hch hw hg hL hR hr)
theorem g_cvl (ok : gOK X) {idx n ci a : Nat} {z : Int} {tl : List Nat} {y : Option gO} {E : Int → gS → Option Q} (h0' : gM0 X m' = T') (hci : Nat.blt ci 13 = true) (hdr : S.drop n = (ci + 16, z, a) :: rest) (hcal : gcal 8 T T' m' ((ci + 16, z, a) :: (S.take n).reverse) rest cs ss = true) (hT : gRt T' = 2) (ct : Go X T' m' d 0 [] (gal 0 ((ci + 16, z, a) :: (S.take n).reverse)) [] s 0 0 y some) (kk : ∀ v s', Go X T m (d + 1) (pc + 3) cd L ((2, v, 0) :: rest) s' (cs + es_mc T') (ss + es_ms T') (E v s') κ) : Go X T m (d + 1) pc ((pc, .invokevirtual idx, 3, 1 :: m' :: n :: ci :: tl) :: cd) L S s cs ss (y.bind (gv1 E)) κ := by
  have hm' : m' < 512 := by unfold gcal at hcal; simp only [Bool.and_eq_true, es_blt] at hcal; omega
  exact g_call ok h0' hm' hcal (fun hm h0 hat hw hs ih _ => gst_v h0' hm' hci hdr hm h0 hat hs) (gvsv hdr) ct (fun h0 hm hch q _ hw hg hL hR r hr => gk_l hT kk h0 hm hch hw hg hL hR hr)
theorem g_cvt0 (ok : gOK X) {idx n ci a : Nat} {z : Int} {tl : List Nat} {y : Option gO} {Z : gO → Q} {E : gS → Option Q} (h0' : gM0 X m' = T') (hci : Nat.blt ci 13 = true) (hdr : S.drop n = (ci + 16, z, a) :: rest) (hcal : gcal 8 T T' m' ((ci + 16, z, a) :: (S.take n).reverse) rest cs ss = true) (hh : es_hh T = []) (hcap : (Nat.ble (cs + es_mc T') (es_mc T) && Nat.ble (ss + es_ms T') (es_ms T)) = true) (hZ : ∀ r, κ (Z r) = some r) (ct : Go X T' m' d 0 [] (gal 0 ((ci + 16, z, a) :: (S.take n).reverse)) [] s 0 0 y some) (kk : ∀ s', Go X T m (d + 1) (pc + 3) cd L rest s' (cs + es_mc T') (ss + es_ms T') (E s') κ) : Go X T m (d + 1) pc ((pc, .invokevirtual idx, 3, 1 :: m' :: n :: ci :: tl) :: cd) L S s cs ss (y.bind (gt0 Z E)) κ := by
  have hm' : m' < 512 := by unfold gcal at hcal; simp only [Bool.and_eq_true, es_blt] at hcal; omega
  exact g_call ok h0' hm' hcal (fun hm h0 hat hw hs ih _ => gst_v h0' hm' hci hdr hm h0 hat hs) (gvsv hdr) ct (fun h0 hm hch q _ hw _ hL hR r hr => gk_t0 ok hh hcap hZ kk h0 hm hch hw hL hR hr)
theorem g_cvt1 (ok : gOK X) {idx n ci a tg : Nat} {z : Int} {tl : List Nat} {y : Option gO} {Z : gO → Q} {E : Int → gS → Option Q} (h0' : gM0 X m' = T') (hci : Nat.blt ci 13 = true) (hdr : S.drop n = (ci + 16, z, a) :: rest) (hcal : gcal 8 T T' m' ((ci + 16, z, a) :: (S.take n).reverse) rest cs ss = true) (hT : gRt T' = tg) (htg : tg = 0 ∨ tg = 2) (hh : es_hh T = []) (hcap : (Nat.ble (cs + es_mc T') (es_mc T) && Nat.ble (ss + es_ms T') (es_ms T)) = true) (hZ : ∀ r, κ (Z r) = some r) (ct : Go X T' m' d 0 [] (gal 0 ((ci + 16, z, a) :: (S.take n).reverse)) [] s 0 0 y some) (kk : ∀ v s', Go X T m (d + 1) (pc + 3) cd L ((tg, v, 0) :: rest) s' (cs + es_mc T') (ss + es_ms T') (E v s') κ) : Go X T m (d + 1) pc ((pc, .invokevirtual idx, 3, 1 :: m' :: n :: ci :: tl) :: cd) L S s cs ss (y.bind (gt1 Z E)) κ := by
  have hm' : m' < 512 := by unfold gcal at hcal; simp only [Bool.and_eq_true, es_blt] at hcal; omega
  exact g_call ok h0' hm' hcal (fun hm h0 hat hw hs ih _ => gst_v h0' hm' hci hdr hm h0 hat hs) (gvsv hdr) ct (fun h0 hm hch q _ hw hg hL hR r hr => gk_t1 ok hT htg hh hcap hZ kk h0 hm hch hw hg hL hR hr)
theorem g_cvc (ok : gOK X) {idx n ci a : Nat} {z : Int} {tl : List Nat} {y : Option gO} {C : Nat → gS → Option Q} {E : Int → gS → Option Q} (h0' : gM0 X m' = T') (hci : Nat.blt ci 13 = true) (hdr : S.drop n = (ci + 16, z, a) :: rest) (hcal : gcal 8 T T' m' ((ci + 16, z, a) :: (S.take n).reverse) rest cs ss = true) (hT : gRt T' = 0 ∨ gRt T' = 1) (hne : es_hh T ≠ []) (ct : Go X T' m' d 0 [] (gal 0 ((ci + 16, z, a) :: (S.take n).reverse)) [] s 0 0 y some) (kk : ∀ v s', (gRt T' = 1 → v = 0 ∨ v = 1) → Go X T m (d + 1) (pc + 3) cd L ((0, v, 0) :: rest) s' (cs + es_mc T') (ss + es_ms T') (E v s') κ) (kx : ∀ k s' r, (C k s').bind κ = some r → k < 5 ∧ ∃ h, es_hdl es_ct (es_hh T) pc k = some h ∧ Go X T m (d + 1) h [] L [(7, 0, 0)] s' (cs + es_mc T') (ss + es_ms T') (C k s') κ) : Go X T m (d + 1) pc ((pc, .invokevirtual idx, 3, 1 :: m' :: n :: ci :: tl) :: cd) L S s cs ss (y.bind (gc1 C E)) κ := by
  have hm' : m' < 512 := by unfold gcal at hcal; simp only [Bool.and_eq_true, es_blt] at hcal; omega
  exact g_call ok h0' hm' hcal (fun hm h0 hat hw hs ih _ => gst_v h0' hm' hci hdr hm h0 hat hs) (gvsv hdr) ct (fun h0 hm hch q _ hw hg hL hR r hr => gk_c1 hT hne kk (fun _ _ _ => trivial) kx h0 hm hch hw hg hL hR hr)
theorem g_cs0 (ok : gOK X) {idx n : Nat} {tl : List Nat} {y : Option gO} {E : gS → Option Q} (h0' : gM0 X m' = T') (hn : Nat.ble n S.length = true) (hcal : gcal (bif (es_hh T').isEmpty then 16 else 8) T T' m' (S.take n).reverse (S.drop n) cs ss = true) (ct : Go X T' m' d 0 [] (gal 0 (S.take n).reverse) [] s 0 0 y some) (kk : ∀ s', Go X T m (d + 1) (pc + 3) cd L (S.drop n) s' (cs + es_mc T') (ss + es_ms T') (E s') κ) : Go X T m (d + 1) pc ((pc, .invokestatic idx, 3, 2 :: m' :: n :: tl) :: cd) L S s cs ss (y.bind (gv0 E)) κ := by
  have hm' : m' < 512 := by unfold gcal at hcal; simp only [Bool.and_eq_true, es_blt] at hcal; omega
  exact g_call ok h0' hm' hcal (fun hm h0 hat hw hs ih _ => gst_s h0' hm' hn hm h0 hat) gvss ct (fun h0 hm hch q _ hw _ hL hR r hr => gk_0 kk h0 hm hch hw hL hR hr)
theorem g_cs1 (ok : gOK X) {idx n : Nat} {tl : List Nat} {y : Option gO} {E : Int → gS → Option Q} (h0' : gM0 X m' = T') (hn : Nat.ble n S.length = true) (hcal : gcal (bif (es_hh T').isEmpty then 16 else 8) T T' m' (S.take n).reverse (S.drop n) cs ss = true) (hT : gRt T' = 0) (ct : Go X T' m' d 0 [] (gal 0 (S.take n).reverse) [] s 0 0 y some) (kk : ∀ v s', Go X T m (d + 1) (pc + 3) cd L ((0, v, 0) :: S.drop n) s' (cs + es_mc T') (ss + es_ms T') (E v s') κ) : Go X T m (d + 1) pc ((pc, .invokestatic idx, 3, 2 :: m' :: n :: tl) :: cd) L S s cs ss (y.bind (gv1 E)) κ := by
  have hm' : m' < 512 := by unfold gcal at hcal; simp only [Bool.and_eq_true, es_blt] at hcal; omega
  exact g_call ok h0' hm' hcal (fun hm h0 hat hw hs ih _ => gst_s h0' hm' hn hm h0 hat) gvss ct (fun h0 hm hch q _ hw hg hL hR r hr => gk_1 hT kk h0 hm hch hw hg hL hR hr)
theorem g_csz (ok : gOK X) {idx n : Nat} {tl : List Nat} {y : Option gO} {E : Int → gS → Option Q} (h0' : gM0 X m' = T') (hn : Nat.ble n S.length = true) (hcal : gcal (bif (es_hh T').isEmpty then 16 else 8) T T' m' (S.take n).reverse (S.drop n) cs ss = true) (hT : gRt T' = 1) (ct : Go X T' m' d 0 [] (gal 0 (S.take n).reverse) [] s 0 0 y some) (kk : ∀ v s', (v = 0 ∨ v = 1) → Go X T m (d + 1) (pc + 3) cd L ((0, v, 0) :: S.drop n) s' (cs + es_mc T') (ss + es_ms T') (E v s') κ) : Go X T m (d + 1) pc ((pc, .invokestatic idx, 3, 2 :: m' :: n :: tl) :: cd) L S s cs ss (y.bind (gv1 E)) κ := by
  have hm' : m' < 512 := by unfold gcal at hcal; simp only [Bool.and_eq_true, es_blt] at hcal; omega
  exact g_call ok h0' hm' hcal (fun hm h0 hat hw hs ih _ => gst_s h0' hm' hn hm h0 hat) gvss ct (fun h0 hm hch q _ hw hg hL hR r hr => gk_z hT kk h0 hm hch hw hg hL hR hr)
theorem g_csr (ok : gOK X) {idx n tg : Nat} {tl : List Nat} {y : Option gO} {E : Nat → gS → Option Q} (h0' : gM0 X m' = T') (hn : Nat.ble n S.length = true) (hcal : gcal (bif (es_hh T').isEmpty then 16 else 8) T T' m' (S.take n).reverse (S.drop n) cs ss = true) (hT : gRt T' = tg) (h11 : tg = 11 ∨ tg = 12) (ct : Go X T' m' d 0 [] (gal 0 (S.take n).reverse) [] s 0 0 y some) (kk : ∀ v s', Go X T m (d + 1) (pc + 3) cd L ((tg, 0, v) :: S.drop n) s' (cs + es_mc T') (ss + es_ms T') (E v s') κ) : Go X T m (d + 1) pc ((pc, .invokestatic idx, 3, 2 :: m' :: n :: tl) :: cd) L S s cs ss (y.bind (gvr E)) κ := by
  have hm' : m' < 512 := by unfold gcal at hcal; simp only [Bool.and_eq_true, es_blt] at hcal; omega
  exact g_call ok h0' hm' hcal (fun hm h0 hat hw hs ih _ => gst_s h0' hm' hn hm h0 hat) gvss ct (fun h0 hm hch q _ hw hg hL hR r hr => gk_r hT h11 kk h0 hm hch hw hg hL hR hr)
theorem g_cq1 (ok : gOK X) {idx n a : Nat} {z : Int} {tl : List Nat} {y : Option gO} {E : Int → gS → Option Q} (h0' : gM0 X m' = T') (hdr : S.drop n = (8, z, a) :: rest) (hcal : gcal 8 T T' m' ((8, z, a) :: (S.take n).reverse) rest cs ss = true) (hT : gRt T' = 0) (ct : Go X T' m' d 0 [] (gal 0 ((8, z, a) :: (S.take n).reverse)) [] s 0 0 y some) (kk : ∀ v s', Go X T m (d + 1) (pc + 3) cd L ((0, v, 0) :: rest) s' (cs + es_mc T') (ss + es_ms T') (E v s') κ) : Go X T m (d + 1) pc ((pc, .invokevirtual idx, 3, 3 :: m' :: n :: tl) :: cd) L S s cs ss (y.bind (gv1 E)) κ := by
  have hm' : m' < 512 := by unfold gcal at hcal; simp only [Bool.and_eq_true, es_blt] at hcal; omega
  exact g_call ok h0' hm' hcal (fun hm h0 hat hw hs ih _ => gst_q ok.2.2.2.2.1 h0' hm' hs hdr hm h0 hat) (gvsv hdr) ct (fun h0 hm hch q _ hw hg hL hR r hr => gk_1 hT kk h0 hm hch hw hg hL hR hr)
theorem g_cqz (ok : gOK X) {idx n a : Nat} {z : Int} {tl : List Nat} {y : Option gO} {E : Int → gS → Option Q} (h0' : gM0 X m' = T') (hdr : S.drop n = (8, z, a) :: rest) (hcal : gcal 8 T T' m' ((8, z, a) :: (S.take n).reverse) rest cs ss = true) (hT : gRt T' = 1) (ct : Go X T' m' d 0 [] (gal 0 ((8, z, a) :: (S.take n).reverse)) [] s 0 0 y some) (kk : ∀ v s', (v = 0 ∨ v = 1) → Go X T m (d + 1) (pc + 3) cd L ((0, v, 0) :: rest) s' (cs + es_mc T') (ss + es_ms T') (E v s') κ) : Go X T m (d + 1) pc ((pc, .invokevirtual idx, 3, 3 :: m' :: n :: tl) :: cd) L S s cs ss (y.bind (gv1 E)) κ := by
  have hm' : m' < 512 := by unfold gcal at hcal; simp only [Bool.and_eq_true, es_blt] at hcal; omega
  exact g_call ok h0' hm' hcal (fun hm h0 hat hw hs ih _ => gst_q ok.2.2.2.2.1 h0' hm' hs hdr hm h0 hat) (gvsv hdr) ct (fun h0 hm hch q _ hw hg hL hR r hr => gk_z hT kk h0 hm hch hw hg hL hR hr)
end GoG

end
section
section GoN
variable {X : gX} {T T' : es_M} {m m' d pc pc' : Nat} {cd cd' : List es_I} {L L' : List (Nat × gV)} {S S' vs rest : List gV} {s s' : gS} {cs ss : Nat} {Q : Type} {x y : Option Q} {κ : Q → Option gO}
theorem g_ite {c : Prop} [Decidable c] (k1 : c → Go X T m d pc cd L S s cs ss x κ) (k2 : ¬ c → Go X T m d pc cd L S s cs ss y κ) : Go X T m d pc cd L S s cs ss (if c then x else y) κ := by
  by_cases h : c
  · rw [if_pos h]; exact k1 h
  · rw [if_neg h]; exact k2 h
theorem g_map {Q' : Type} {κ' : Q' ⊕ Q → Option gO} (h : ∀ q, κ' (Sum.inr q) = κ q) (k : Go X T m d pc cd L S s cs ss x κ) : Go X T m d pc cd L S s cs ss (x.map Sum.inr) κ' := by
  intro h0 hm hc hw hl hs r hr
  refine k h0 hm hc hw hl hs r ?_
  cases x with
  | none => cases hr
  | some q => exact (h q).symm.trans hr
/-- loops -/
noncomputable def giter {σ : Type} (step : σ → Option (σ ⊕ Q)) : Nat → σ → Option Q
  | 0, _ => none
  | n + 1, y => (step y).bind (Sum.elim (giter step n) some)
theorem giter_s {σ : Type} {step : σ → Option (σ ⊕ Q)} : ∀ {n : Nat} {y : σ} {r : Q}, giter step n y = some r → giter step (n + 1) y = some r
  | 0, _, _, h => by cases h
  | n + 1, y, r, h => by
    have h1 : (step y).bind (Sum.elim (giter step n) some) = some r := h
    show (step y).bind (Sum.elim (giter step (n + 1)) some) = some r
    cases hs : step y with
    | none => rw [hs] at h1; cases h1
    | some q =>
      rw [hs] at h1
      cases q with
      | inl z => exact giter_s (n := n) (y := z) (r := r) h1
      | inr z => exact h1
theorem giter_le {σ : Type} {step : σ → Option (σ ⊕ Q)} {n k : Nat} {y : σ} {r : Q} (h : giter step n y = some r) (hk : n ≤ k) : giter step k y = some r := by
  induction hk with
  | refl => exact h
  | step _ ih => exact giter_s ih
noncomputable def gloop {σ : Type} (step : σ → Option (σ ⊕ Q)) (y : σ) : Option Q := @dite _ (∃ r n, giter step n y = some r) (Classical.propDecidable _) (fun h => some h.choose) (fun _ => none)
theorem gloop_of {σ : Type} {step : σ → Option (σ ⊕ Q)} {n : Nat} {y : σ} {r : Q} (h : giter step n y = some r) : gloop step y = some r := by
  have hx : ∃ r n, giter step n y = some r := ⟨r, n, h⟩
  unfold gloop
  rw [dif_pos hx]
  obtain ⟨k, hk⟩ := hx.choose_spec
  have h1 := giter_le h (Nat.le_max_left n k)
  have h2 := giter_le hk (Nat.le_max_right n k)
  rw [h1] at h2
  exact h2.symm
theorem gloop_ex {σ : Type} {step : σ → Option (σ ⊕ Q)} {y : σ} {r : Q} (h : gloop step y = some r) : ∃ n, giter step n y = some r := by
  unfold gloop at h
  by_cases hx : ∃ r n, giter step n y = some r
  · rw [dif_pos hx] at h
    obtain ⟨k, hk⟩ := hx.choose_spec
    exact ⟨k, by rw [hk]; exact h⟩
  · rw [dif_neg hx] at h; cases h
theorem g_loop {σ : Type} {h : Nat} {step : σ → Option (σ ⊕ Q)} {Lh : σ → List (Nat × gV)} {sh : σ → gS} (body : ∀ κ' : σ ⊕ Q → Option gO, (∀ y, Go X T m d h [] (Lh y) [] (sh y) cs ss (some (Sum.inl y)) κ') → (∀ q, κ' (Sum.inr q) = κ q) → ∀ y, Go X T m d h [] (Lh y) [] (sh y) cs ss (step y) κ') (y : σ) : Go X T m d h [] (Lh y) [] (sh y) cs ss (gloop step y) κ := by
  have hit : ∀ n y, Go X T m d h [] (Lh y) [] (sh y) cs ss (giter step n y) κ := by
    intro n
    induction n with
    | zero => exact fun y => g_none
    | succ n ih =>
      intro y h0 hm hc hw hl hs r hr
      refine body (Sum.elim (fun z => (giter step n z).bind κ) κ) (fun z => ih z) (fun q => rfl) y h0 hm hc hw hl hs r ?_
      rw [← hr]
      show (step y).bind (Sum.elim (fun z => (giter step n z).bind κ) κ) = ((step y).bind (Sum.elim (giter step n) some)).bind κ
      cases step y with
      | none => rfl
      | some q => cases q <;> rfl
  intro h0 hm hc hw hl hs r hr
  cases hy : gloop step y with
  | none => rw [hy] at hr; cases hr
  | some q =>
    obtain ⟨n, hn⟩ := gloop_ex hy
    exact hit n y h0 hm hc hw hl hs r (by rw [hn, ← hr, hy])
/-- the lesser, the greater -/
theorem gmm {idx k : Nat} {tl : List Nat} {ih : Nat → es_K → Option (List es_E)} {f : Int32 → Int32 → Int32} {v w : Int} {a b : Nat} (hk : k = 5 ∧ f = (fun x y => if y < x then y else x) ∨ k = 6 ∧ f = (fun x y => if x < y then y else x)) (hm : m < 512) (h0 : gM0 X m = T) (hat : es_at (es_tab T) pc = some (pc, .invokestatic idx, 3, k :: tl)) (hcap : (Nat.ble (gcts S) 8 && (Nat.ble cs (es_mc T) && Nat.ble ss (es_ms T))) = true) :
    es_step (gME (gM0 X)) (gts X) (gSL X) ih (m + 512 * d) (pc, gL L, ((0, w, b) :: (0, v, a) :: S).map gf, gH s, gF X, cs, ss) = ih (m + 512 * d) (pc + 3, gL L, (0, eI (f (Int32.ofInt v) (Int32.ofInt w)).toInt) :: S.map gf, gH s, gF X, cs, ss) := by
  have hgo : es_step (gME (gM0 X)) (gts X) (gSL X) ih (m + 512 * d) (pc, gL L, ((0, w, b) :: (0, v, a) :: S).map gf, gH s, gF X, cs, ss) = es_smm (gME (gM0 X)) f ih (m + 512 * d) pc (gL L) (((0, w, b) :: (0, v, a) :: S).map gf) (gH s) (gF X) cs ss := by
    unfold es_step
    dsimp only
    rw [gtab h0 hm hat]
    rcases hk with ⟨rfl, rfl⟩ | ⟨rfl, rfl⟩ <;> rfl
  rw [hgo]
  show (bif (es_ti (0, eI v) && es_ti (0, eI w)) && (((Nat.blt 0 (es_rf (gME (gM0 X) (m + 512 * d))) && Nat.ble 200 (es_lo (gME (gM0 X) (m + 512 * d)))) && Nat.ble (es_cts (S.map gf)) 8) && (Nat.ble cs (es_mc (gME (gM0 X) (m + 512 * d))) && Nat.ble ss (es_ms (gME (gM0 X) (m + 512 * d))))) then ih (m + 512 * d) (pc + 3, gL L, es_bin f (gF X) (0, eI v) (0, eI w) :: S.map gf, gH s, gF X, cs, ss) else none) = _
  simp only [Bool.and_eq_true] at hcap
  rw [gME_at _ hm, h0, gcts_eq, hcap.1, show Nat.ble cs (es_mc (gdp d T)) = true from hcap.2.1, show Nat.ble ss (es_ms (gdp d T)) = true from hcap.2.2, show Nat.blt 0 (es_rf (gdp d T)) = true from es_blt.mpr (show 0 < 8 + d by omega), show Nat.ble 200 (es_lo (gdp d T)) = true from Nat.ble_eq.mpr (show 200 ≤ 300 + 64 * d by omega), gbn]
  rfl
theorem gmin_eq {v w : Int} (hv : gc32 v) (hw : gc32 w) : ((fun x y : Int32 => if y < x then y else x) (Int32.ofInt v) (Int32.ofInt w)).toInt = min v w := by
  dsimp only
  rw [Int.min_def]
  by_cases h : w < v
  · rw [if_pos (by rw [Int32.lt_iff_toInt_lt, gti hv, gti hw]; exact h), gti hw, if_neg (by omega)]
  · rw [if_neg (by rw [Int32.lt_iff_toInt_lt, gti hv, gti hw]; exact h), gti hv, if_pos (by omega)]
theorem gmax_eq {v w : Int} (hv : gc32 v) (hw : gc32 w) : ((fun x y : Int32 => if x < y then y else x) (Int32.ofInt v) (Int32.ofInt w)).toInt = max v w := by
  dsimp only
  rw [Int.max_def]
  by_cases h : v < w
  · rw [if_pos (by rw [Int32.lt_iff_toInt_lt, gti hv, gti hw]; exact h), gti hw, if_pos (by omega)]
  · rw [if_neg (by rw [Int32.lt_iff_toInt_lt, gti hv, gti hw]; exact h), gti hv]
    by_cases h2 : v ≤ w
    · rw [if_pos h2]; omega
    · rw [if_neg h2]
theorem g_min (ok : gOK X) {idx : Nat} {tl : List Nat} {v w : Int} {a b : Nat} (hcap : (Nat.ble (gcts S) 8 && (Nat.ble cs (es_mc T) && Nat.ble ss (es_ms T))) = true) (k : Go X T m d (pc + 3) cd L ((0, min v w, 0) :: S) s cs ss x κ) : Go X T m d pc ((pc, .invokestatic idx, 3, 5 :: tl) :: cd) L ((0, w, b) :: (0, v, a) :: S) s cs ss x κ := by
  intro h0 hm hc hw hl hs r hr
  have h1 := gS2 hs
  have h2 := gS2 h1.2
  refine g_st ok (fun ih => ?_) (k h0 hm (gch_hd hc).2 hw hl (gS1 h2.2 (gok_i.mpr ?_)) r hr)
  · rw [gmm (Or.inl ⟨rfl, rfl⟩) hm h0 (gch_hd hc).1 hcap, gmin_eq (gok_i.mp h2.1) (gok_i.mp h1.1)]
    rfl
  · rw [← gmin_eq (gok_i.mp h2.1) (gok_i.mp h1.1)]; exact gc32_t _
theorem g_max (ok : gOK X) {idx : Nat} {tl : List Nat} {v w : Int} {a b : Nat} (hcap : (Nat.ble (gcts S) 8 && (Nat.ble cs (es_mc T) && Nat.ble ss (es_ms T))) = true) (k : Go X T m d (pc + 3) cd L ((0, max v w, 0) :: S) s cs ss x κ) : Go X T m d pc ((pc, .invokestatic idx, 3, 6 :: tl) :: cd) L ((0, w, b) :: (0, v, a) :: S) s cs ss x κ := by
  intro h0 hm hc hw hl hs r hr
  have h1 := gS2 hs
  have h2 := gS2 h1.2
  refine g_st ok (fun ih => ?_) (k h0 hm (gch_hd hc).2 hw hl (gS1 h2.2 (gok_i.mpr ?_)) r hr)
  · rw [gmm (Or.inr ⟨rfl, rfl⟩) hm h0 (gch_hd hc).1 hcap, gmax_eq (gok_i.mp h2.1) (gok_i.mp h1.1)]
    rfl
  · rw [← gmax_eq (gok_i.mp h2.1) (gok_i.mp h1.1)]; exact gc32_t _
/-- a row is written over -/
theorem gcopy {f1 f2 : Nat → es_V} {n1 n2 sp dp : Nat} : ∀ n, sp + n ≤ n1 → dp + n ≤ n2 → es_copy 0 ((List.range n1).map (fun i => (i, f1 i))) ((List.range n2).map (fun i => (i, f2 i))) sp dp n = (List.range n2).map (fun i => (i, if dp ≤ i ∧ i < dp + n then f1 (sp + (i - dp)) else f2 i))
  | 0, _, _ => by
    show (List.range n2).map (fun i => (i, f2 i)) = _
    apply List.map_congr_left
    intro i _
    rw [if_neg (by omega)]
  | n + 1, h1, h2 => by
    show es_aset 0 (es_copy 0 ((List.range n1).map (fun i => (i, f1 i))) ((List.range n2).map (fun i => (i, f2 i))) sp dp n) (dp + n) (es_ad 0 ((List.range n1).map (fun i => (i, f1 i))) (sp + n)) = _
    rw [gcopy n (by omega) (by omega), gad f1 (show sp + n < n1 by omega)]
    unfold es_aset
    rw [grg, if_pos (show dp + n < n2 by omega)]
    dsimp only
    rw [grn _ (show dp + n < n2 by omega)]
    apply List.map_congr_left
    intro i _
    by_cases h : i = dp + n
    · subst h
      rw [if_pos rfl, if_pos (by omega)]
      rw [show sp + (dp + n - dp) = sp + n by omega]
    · rw [if_neg h]
      by_cases h3 : dp ≤ i ∧ i < dp + n
      · rw [if_pos h3, if_pos (by omega)]
      · rw [if_neg h3, if_neg (by omega)]
theorem gcpy_I (s : gS) (a sp b dp n c k : Nat) : gI (gcpy s a sp b dp n) c k = if c = b ∧ dp ≤ k ∧ k < dp + n then gI s a (sp + (k - dp)) else gI s c k := rfl
theorem g_acopy (ok : gOK X) {idx n1 n2 a b t1 t2 a1 a2 a3 : Nat} {z1 z2 sp dp n : Int} {tl : List Nat} (ht1 : t1 = 116 + 8 * n1) (ht2 : t2 = 116 + 8 * n2) (h1 : 0 ≤ sp) (h2 : 0 ≤ dp) (h3 : 0 ≤ n) (h4 : sp + n ≤ (n1 : Int)) (h5 : dp + n ≤ (n2 : Int)) (hcap : Nat.ble (gcts S) 8 = true) (k : Go X T m d (pc + 3) cd L S (gcpy s a sp.toNat b dp.toNat n.toNat) cs ss x κ) :
    Go X T m d pc ((pc, .invokestatic idx, 3, 4 :: tl) :: cd) L ((0, n, a3) :: (0, dp, a2) :: (t2, z2, b) :: (0, sp, a1) :: (t1, z1, a) :: S) s cs ss x κ := by
  subst ht1 ht2
  intro h0 hm hc hw hl hs r hr
  have g1 := gS2 hs
  have g2 := gS2 g1.2
  have g3 := gS2 g2.2
  have g4 := gS2 g3.2
  have g5 := gS2 g4.2
  obtain ⟨b1, b2⟩ := gok_a (t := 0) g3.1
  obtain ⟨a1', a2'⟩ := gok_a (t := 0) g5.1
  have wb := (hw b b1).2 (by omega)
  have wa := (hw a a1').2 (by omega)
  have eb : gL4 (gK s b) = n2 ∧ gT4 (gK s b) = 0 := by rw [b2]; unfold gL4 gT4; omega
  have ea : gL4 (gK s a) = n1 ∧ gT4 (gK s a) = 0 := by rw [a2']; unfold gL4 gT4; omega
  rw [eb.1, eb.2] at wb
  rw [ea.1, ea.2] at wa
  have hext : gext s (gcpy s a sp.toNat b dp.toNat n.toNat) := ⟨Nat.le_refl _, fun _ _ => rfl⟩
  have hoth : ∀ c, c ≠ b → ∀ i, gI (gcpy s a sp.toNat b dp.toNat n.toNat) c i = gI s c i := fun c hcb i => by rw [gcpy_I, if_neg (fun e => hcb e.1)]
  have hwt : gwt (gcpy s a sp.toNat b dp.toNat n.toNat) := by
    intro c hcn
    have gw0 := hw c hcn
    by_cases hcb : c = b
    · subst hcb
      refine ⟨fun q1 => ?_, fun q1 => ⟨(gw0.2 q1).1, (gw0.2 q1).2.1, fun j hj => ?_⟩⟩
      · have q2 : gK s c < 13 := q1
        omega
      · show gok s (gev (gcpy s a sp.toNat c dp.toNat n.toNat) c (gT4 (gK s c)) j)
        have hj2 : j < n2 := by
          have q2 : j < gL4 (gK s c) := hj
          rw [eb.1] at q2
          exact q2
        rw [eb.2]
        show gc32 (gI (gcpy s a sp.toNat c dp.toNat n.toNat) c j)
        rw [gcpy_I]
        by_cases hq : c = c ∧ dp.toNat ≤ j ∧ j < dp.toNat + n.toNat
        · rw [if_pos hq]
          exact wa.2.2 (sp.toNat + (j - dp.toNat)) (by omega)
        · rw [if_neg hq]
          exact wb.2.2 j hj2
    · refine ⟨fun q1 i hi => ?_, fun q1 => ⟨(gw0.2 q1).1, (gw0.2 q1).2.1, fun j hj => ?_⟩⟩
      · have e : gfv (gcpy s a sp.toNat b dp.toNat n.toNat) c (gK s c) i = gfv s c (gK s c) i := by
          unfold gfv
          rw [hoth c hcb]
          rfl
        show gok s (gfv (gcpy s a sp.toNat b dp.toNat n.toNat) c (gK s c) i)
        rw [e]
        exact gw0.1 q1 i hi
      · have e : gev (gcpy s a sp.toNat b dp.toNat n.toNat) c (gT4 (gK s c)) j = gev s c (gT4 (gK s c)) j := by
          unfold gev
          split <;> first | (simp only [hoth c hcb]; done) | rfl
        show gok s (gev (gcpy s a sp.toNat b dp.toNat n.toNat) c (gT4 (gK s c)) j)
        rw [e]
        exact (gw0.2 q1).2.2 j hj
  refine gEnd_ext hext (g_st ok (fun ih => ?_) (k h0 hm (gch_hd hc).2 hwt (fun q hq => gok_ext hext (hl q hq)) (fun v hv => gok_ext hext (g5.2 v hv)) r hr))
  unfold es_step
  dsimp only
  rw [gtab h0 hm (gch_hd hc).1]
  show es_sc (gME (gM0 X)) ih (m + 512 * d) pc (gL L) ((0, eI n) :: (0, eI dp) :: gf (116 + 8 * n2, z2, b) :: (0, eI sp) :: gf (116 + 8 * n1, z1, a) :: S.map gf) (gH s) (gF X) cs ss = _
  have egf : ∀ (k a : Nat) (z : Int), gf (116 + 8 * k, z, a) = (3, a) := fun k a z => by
    rw [show 116 + 8 * k = (100 + 8 * k) + 16 by omega]
    rfl
  rw [egf, egf]
  show (match es_ary (gH s) (3, a), es_ary (gH s) (3, b) with
    | some (ts, ns, c1), some (td, nd, c2) => bif ((Nat.beq ts 0 && Nat.beq td 0) && ((Nat.ble (eI sp + eI n) ns && Nat.ble (eI dp + eI n) nd) && (Nat.blt 0 (es_rf (gME (gM0 X) (m + 512 * d))) && Nat.ble 200 (es_lo (gME (gM0 X) (m + 512 * d)))))) && (c1.all (fun x => es_ti x.2) && Nat.ble (es_cts (S.map gf)) 8) then ih (m + 512 * d) (pc + 3, gL L, S.map gf, (gH s).set b (2, nd, es_copy 0 c1 c2 (eI sp) (eI dp) (eI n)), gF X, cs, ss) else none
    | _, _ => none) = _
  rw [gobjA wa.1 (by decide) a1' a2', gobjA wb.1 (by decide) b1 b2]
  dsimp only
  have e1 : eI sp = sp.toNat := geN2 h1 (by have := wa.1; omega)
  have e2 : eI dp = dp.toNat := geN2 h2 (by have := wb.1; omega)
  have e3 : eI n = n.toNat := geN2 h3 (by have := wb.1; omega)
  have hall : ((List.range n1).map (fun j => (j, gf (gev s a 0 j)))).all (fun x => es_ti x.2) = true := by
    rw [List.all_eq_true]
    intro z hz
    obtain ⟨i, -, rfl⟩ := List.mem_map.mp hz
    rfl
  rw [e1, e2, e3, gME_at _ hm, h0, gcts_eq, hcap, hall, show Nat.blt 0 (es_rf (gdp d T)) = true from es_blt.mpr (show 0 < 8 + d by omega), show Nat.ble 200 (es_lo (gdp d T)) = true from Nat.ble_eq.mpr (show 200 ≤ 300 + 64 * d by omega), Nat.ble_eq.mpr (show sp.toNat + n.toNat ≤ n1 by omega), Nat.ble_eq.mpr (show dp.toNat + n.toNat ≤ n2 by omega), gcopy _ (by omega) (by omega)]
  rw [gH_set (s := s) (s' := gcpy s a sp.toNat b dp.toNat n.toNat) (a := b) rfl (fun c _ hcb => gobj_eq rfl (hoth c hcb) (fun i => rfl)), gobj_a (s := gcpy s a sp.toNat b dp.toNat n.toNat) (n := n2) (t := 0) b2 (by decide)]
  have e9 : (List.range n2).map (fun j => (j, gf (gev (gcpy s a sp.toNat b dp.toNat n.toNat) b 0 j))) = (List.range n2).map (fun i => (i, if dp.toNat ≤ i ∧ i < dp.toNat + n.toNat then gf (gev s a 0 (sp.toNat + (i - dp.toNat))) else gf (gev s b 0 i))) := by
    apply List.map_congr_left
    intro i _
    show (i, gf (0, gI (gcpy s a sp.toNat b dp.toNat n.toNat) b i, 0)) = _
    rw [gcpy_I]
    by_cases hq : dp.toNat ≤ i ∧ i < dp.toNat + n.toNat
    · rw [if_pos ⟨rfl, hq⟩, if_pos hq]; rfl
    · rw [if_neg (fun e => hq e.2), if_neg hq]; rfl
  rw [e9]
  rfl
/-- numbers of the pool -/
theorem g_ldc (ok : gOK X) {idx j n : Nat} {v : Int} (hv : (nI n).toInt = v) (k : Go X T m d (pc + 2) cd L ((0, v, 0) :: S) s cs ss x κ) (hj : j ≠ 100 ∧ j ≠ 200 ∧ j ≠ 60) (hn : n < 4294967296) : Go X T m d pc ((pc, .ldc idx, 2, [j, n]) :: cd) L S s cs ss x κ := by
  refine g_hs ok (fun a t e => by cases e; exact hj) (fun _ _ => rfl) (fun hw hl hs => ⟨?_, gext_rf s, hw, gS1 hs (gok_i.mpr (by rw [← hv]; exact gc32_t _))⟩) (gch1 rfl) k
  show some (pc + 2, gL L, (0, n) :: S.map gf, gH s, gF X, cs, ss) = some (pc + 2, gL L, (0, eI v) :: S.map gf, gH s, gF X, cs, ss)
  rw [← hv, geI]
  have e : (nI n).toBitVec.toNat = n := by
    show (BitVec.ofNat 32 n).toNat = n
    rw [BitVec.toNat_ofNat]
    omega
  rw [e]
theorem g_ldcw (ok : gOK X) {idx j n : Nat} {v : Int} (hv : (nI n).toInt = v) (k : Go X T m d (pc + 3) cd L ((0, v, 0) :: S) s cs ss x κ) (hj : j ≠ 100 ∧ j ≠ 200 ∧ j ≠ 60) (hn : n < 4294967296) : Go X T m d pc ((pc, .ldc_w idx, 3, [j, n]) :: cd) L S s cs ss x κ := by
  refine g_hs ok (fun a t e => by cases e; exact hj) (fun _ _ => rfl) (fun hw hl hs => ⟨?_, gext_rf s, hw, gS1 hs (gok_i.mpr (by rw [← hv]; exact gc32_t _))⟩) (gch1 rfl) k
  show some (pc + 3, gL L, (0, n) :: S.map gf, gH s, gF X, cs, ss) = some (pc + 3, gL L, (0, eI v) :: S.map gf, gH s, gF X, cs, ss)
  rw [← hv, geI]
  have e : (nI n).toBitVec.toNat = n := by
    show (BitVec.ofNat 32 n).toNat = n
    rw [BitVec.toNat_ofNat]
    omega
  rw [e]
theorem g_ldc2 (ok : gOK X) {idx j n : Nat} {v : Int} (hv : (lN n).toInt = v) (k : Go X T m d (pc + 3) cd L ((2, v, 0) :: S) s cs ss x κ) (hj : j ≠ 100 ∧ j ≠ 200 ∧ j ≠ 60) (hn : n < 18446744073709551616) : Go X T m d pc ((pc, .ldc2_w idx, 3, [j, n]) :: cd) L S s cs ss x κ := by
  refine g_hs ok (fun a t e => by cases e; exact hj) (fun _ _ => rfl) (fun hw hl hs => ⟨?_, gext_rf s, hw, gS1 hs (gok_l.mpr (by rw [← hv]; exact gc64_t _))⟩) (gch1 rfl) k
  show some (pc + 3, gL L, (2, n) :: S.map gf, gH s, gF X, cs, ss) = some (pc + 3, gL L, (2, eJ v) :: S.map gf, gH s, gF X, cs, ss)
  rw [← hv, geJ]
  have e : (lN n).toBitVec.toNat = n := by
    show (BitVec.ofNat 64 n).toNat = n
    rw [BitVec.toNat_ofNat]
    omega
  rw [e]
/-- texts -/
theorem gs_str {ME : Nat → es_M} {strs : List (String × Nat × String)} {SL : Nat} {ih : Nat → es_K → Option (List es_E)} {M f a len : Nat} {ins : Instr} {tl : List Nat} {K' : es_K} {K : es_K} (hat : es_at (es_tab (ME M)) K.1 = some (K.1, ins, len, 60 :: f :: a :: tl)) (h : es_str strs f a (es_len ins) K = some K') : es_step ME strs SL ih M K = ih M K' := by
  obtain ⟨pc, Le, Se, AH, F, cs, ss⟩ := K
  unfold es_step
  dsimp only
  rw [hat]
  show (match es_str strs f a (es_len ins) (pc, Le, Se, AH, F, cs, ss) with
    | some K' => ih M K'
    | none => none) = _
  rw [h]
theorem g_str (ok : gOK X) {ins : Instr} {f a len : Nat} {tl : List Nat} (hp : (∀ v ∈ S, gok s v) → es_str (gts X) f a (es_len ins) (pc, gL L, S.map gf, gH s, gF X, cs, ss) = some (pc + len, gL L, S'.map gf, gH s, gF X, cs, ss) ∧ ∀ v ∈ S', gok s v) (k : Go X T m d (pc + len) cd L S' s cs ss x κ) : Go X T m d pc ((pc, ins, len, 60 :: f :: a :: tl) :: cd) L S s cs ss x κ := by
  intro h0 hm hc hw hl hs r hr
  obtain ⟨h1, h2⟩ := hp hs
  exact g_st ok (fun ih => gs_str (gtab h0 hm (gch_hd hc).1) h1) (k h0 hm (gch_hd hc).2 hw hl h2 r hr)
theorem g_ldcs (ok : gOK X) {idx a : Nat} {tl : List Nat} (ha : Nat.blt a 70 = true) (k : Go X T m d (pc + 2) cd L ((8, 0, a) :: S) s cs ss x κ) : Go X T m d pc ((pc, .ldc idx, 2, 60 :: 0 :: a :: tl) :: cd) L S s cs ss x κ :=
  g_str ok (fun hs => ⟨rfl, gS1 hs (show gok s (8, 0, a) from es_blt.mp ha)⟩) k
/-- the law's own row of numbers -/
theorem g_slen (ok : gOK X) {z : Int} {a : Nat} (hS : gSL X < 2147483648) (k : Go X T m d (pc + 1) cd L ((0, (gSL X : Int), 0) :: S) s cs ss x κ) : Go X T m d pc ((pc, .arraylength, 1, []) :: cd) L ((5, z, a) :: S) s cs ss x κ := by
  refine g_hs ok gaxn (fun _ _ => rfl) (fun hw hl hs => ⟨?_, gext_rf s, hw, gS1 (gS2 hs).2 (gok_i.mpr (by unfold gc32; omega))⟩) (gch1 rfl) k
  show some (pc + 1, gL L, (0, gSL X) :: S.map gf, gH s, gF X, cs, ss) = some (pc + 1, gL L, (0, eI (gSL X)) :: S.map gf, gH s, gF X, cs, ss)
  rw [geN hS]
theorem g_sld (ok : gOK X) {z j : Int} {a b : Nat} {sc : Nat → Int} (hS : gSL X < 2147483648) (hsc : ∀ i, i < gSL X → es_kn (gF X) (1, i) = some (eI (sc i)) ∧ gc32 (sc i)) (k : 0 ≤ j → j < (gSL X : Int) → Go X T m d (pc + 1) cd L ((0, sc j.toNat, 0) :: S) s cs ss x κ) : Go X T m d pc ((pc, .iaload, 1, []) :: cd) L ((0, j, b) :: (5, z, a) :: S) s cs ss (gchk j (gSL X : Int) x) κ := by
  refine g_chk (fun h0 h1 => g_hs ok gaxn (fun _ _ => rfl) (fun hw hl hs => ⟨?_, gext_rf s, hw, gS1 (gS2 (gS2 hs).2).2 (gok_i.mpr (hsc j.toNat (by omega)).2)⟩) (gch1 rfl) (k h0 h1))
  show (bif Nat.blt (eI j) (gSL X) && Nat.blt (gSL X) 2147483648 then some (pc + 1, gL L, es_nrm (gF X) (eI j) :: S.map gf, gH s, gF X, cs, ss) else none) = _
  rw [geN2 h0 (by omega), es_blt.mpr (show j.toNat < gSL X by omega), es_blt.mpr hS]
  unfold es_nrm
  rw [(hsc j.toNat (by omega)).1]
  rfl
/-- a switch -/
theorem g_tsw (ok : gOK X) {dflt lo hi v c : Int} {offs : Array Int} {ln a t : Nat} (hv : v = c) (ht : es_to pc (bif decide (c < lo) || decide (hi < c) then dflt else (offs[(c - lo).toNat]?).getD 0) = some t) (hz : ((decide (c < lo) || decide (hi < c)) || decide ((c - lo).toNat < offs.size)) = true) (k : Go X T m d t [] L S s cs ss x κ) : Go X T m d pc ((pc, .tableswitch dflt lo hi offs, ln, []) :: cd) L ((0, v, a) :: S) s cs ss x κ := by
  subst hv
  intro h0 hm hc hw hl hs r hr
  refine g_st ok (fun ih => ?_) (k h0 hm rfl hw hl (gS2 hs).2 r hr)
  unfold es_step
  dsimp only
  rw [gtab h0 hm (gch_hd hc).1]
  show (match es_to pc (bif decide ((nI (eI v)).toInt < lo) || decide (hi < (nI (eI v)).toInt) then dflt else (offs[((nI (eI v)).toInt - lo).toNat]?).getD 0) with
    | some t => bif (decide ((nI (eI v)).toInt < lo) || decide (hi < (nI (eI v)).toInt)) || decide (((nI (eI v)).toInt - lo).toNat < offs.size) then ih (m + 512 * d) (t, gL L, S.map gf, gH s, gF X, cs, ss) else none
    | none => none) = _
  rw [gnI, gti (gok_i.mp (gS2 hs).1), ht]
  dsimp only
  rw [hz]
  rfl
theorem g_tswo (ok : gOK X) {dflt lo hi v : Int} {offs : Array Int} {ln a t : Nat} (hv : v < lo ∨ hi < v) (ht : es_to pc dflt = some t) (k : Go X T m d t [] L S s cs ss x κ) : Go X T m d pc ((pc, .tableswitch dflt lo hi offs, ln, []) :: cd) L ((0, v, a) :: S) s cs ss x κ := by
  have e : (decide (v < lo) || decide (hi < v)) = true := by rw [Bool.or_eq_true, decide_eq_true_eq, decide_eq_true_eq]; exact hv
  exact g_tsw ok rfl (by rw [e]; exact ht) (by rw [e]; rfl) k
/-- handlers -/
theorem g_kxn {k : Nat} {s' : gS} {r : gO} : ((none : Option Q).bind κ = some r) → k < 5 ∧ ∃ h, es_hdl es_ct (es_hh T) pc k = some h ∧ Go X T m d h [] L [(7, 0, 0)] s' cs ss (none : Option Q) κ := fun h => by cases h
theorem g_kxc {k c h : Nat} {s' : gS} {r : gO} {A B : Option Q} (hc : Nat.blt c 5 = true) (hh : es_hdl es_ct (es_hh T) pc c = some h) (ka : Go X T m d h [] L [(7, 0, 0)] s' cs ss A κ) (kb : B.bind κ = some r → k < 5 ∧ ∃ h, es_hdl es_ct (es_hh T) pc k = some h ∧ Go X T m d h [] L [(7, 0, 0)] s' cs ss B κ) : ((if k = c then A else B).bind κ = some r) → k < 5 ∧ ∃ h, es_hdl es_ct (es_hh T) pc k = some h ∧ Go X T m d h [] L [(7, 0, 0)] s' cs ss (if k = c then A else B) κ := fun hr => by
  by_cases hk : k = c
  · subst hk
    rw [if_pos rfl]
    exact ⟨es_blt.mp hc, h, hh, ka⟩
  · rw [if_neg hk] at hr ⊢
    exact kb hr
/-- a new law, a new row -/
theorem g_newlaw (ok : gOK X) {idx j1 j2 j3 : Nat} (hcap : (Nat.blt cs (es_mc T) && Nat.ble (ss + 2) (es_ms T)) = true) (k : Go X T m d (pc + 3) cd L ((20, 0, gn s) :: S) (gnw s 4) (cs + 1) (ss + 2) x κ) : Go X T m d pc ((pc, .new idx, 3, [1, 4, j1, j2, j3]) :: cd) L S s cs ss x κ := by
  intro h0 hm hc hw hl hs r hr
  have hext := gnw_ext s 4
  have hwt : gwt (gnw s 4) := by
    refine gnw_wt hw (fun _ i hi => ?_) (fun h => absurd h (by decide))
    match i, hi with
    | 0, _ =>
      show gc32 (gI (gnw s 4) (gn s) 0)
      rw [gnw_I, if_pos rfl]
      unfold gc32; decide
    | 1, _ =>
      intro h9
      rw [show (gfv (gnw s 4) (gn s) 4 1).2.2 = gR (gnw s 4) (gn s) 1 from rfl, gnw_R, if_pos rfl] at h9
      exact absurd rfl h9
    | i + 2, hi => exact absurd hi (by show ¬ i + 2 < 2; omega)
  have hok : gok (gnw s 4) (20, 0, gn s) := gok_r.mpr ⟨Nat.lt_succ_self _, by rw [gnw_K, if_pos rfl]⟩
  refine gEnd_ext hext (g_st ok (fun ih => ?_) (k h0 hm (gch_hd hc).2 hwt (fun q hq => gok_ext hext (hl q hq)) (gS1 (fun v hv => gok_ext hext (hs v hv)) hok) r hr))
  refine gs_hs (gtab h0 hm (gch_hd hc).1) rfl (gax (by decide)) ?_
  rw [gME_at _ hm, h0]
  show (bif Nat.blt cs (es_mc T) && Nat.ble (ss + 2) (es_ms T) then some (pc + 3, gL L, (3, (gH s).length) :: S.map gf, gH s ++ [(0, 4, es_fs 2 (es_tyf 4))], gF X, cs + 1, ss + 2) else none) = _
  have e2 : gobj (gnw s 4) (gn s) = (0, 4, es_fs 2 (es_tyf 4)) := by
    rw [gobj_c (s := gnw s 4) (k := 4) (by rw [gnw_K, if_pos rfl]) (by decide)]
    show (0, 4, [(0, gf (0, gI (gnw s 4) (gn s) 0, 0)), (1, gf (12, 0, gR (gnw s 4) (gn s) 1))]) = _
    rw [gnw_I, gnw_R, if_pos rfl, if_pos rfl]
    rfl
  rw [hcap, gH_len, gnw_H, e2]
  rfl
theorem g_newint (ok : gOK X) {n a j : Nat} {v : Int} (hn : n < 1000000) (hv : v = (n : Int)) (hcs : cs < es_mc T) (hss : ss + n ≤ es_ms T) (k : Go X T m d (pc + 2) cd L ((116 + 8 * n, 0, gn s) :: S) (gnw s (100 + 8 * n)) (cs + 1) (ss + n) x κ) : Go X T m d pc ((pc, .newarray .int, 2, [0, j]) :: cd) L ((0, v, a) :: S) s cs ss x κ := by
  subst hv
  intro h0 hm hc hw hl hs r hr
  have hext := gnw_ext s (100 + 8 * n)
  have e4 : gL4 (100 + 8 * n) = n ∧ gT4 (100 + 8 * n) = 0 := by unfold gL4 gT4; omega
  have hwt : gwt (gnw s (100 + 8 * n)) := by
    refine gnw_wt hw (fun h => absurd h (by omega)) (fun _ => ⟨by rw [e4.1]; exact hn, by rw [e4.2]; decide, fun j hj => ?_⟩)
    rw [e4.2]
    show gc32 (gI (gnw s (100 + 8 * n)) (gn s) j)
    rw [gnw_I, if_pos rfl]
    unfold gc32; decide
  have hok : gok (gnw s (100 + 8 * n)) (116 + 8 * n, 0, gn s) := by
    rw [show 116 + 8 * n = (100 + 8 * n) + 16 by omega]
    exact gok_r.mpr ⟨Nat.lt_succ_self _, by rw [gnw_K, if_pos rfl]⟩
  obtain ⟨E, e1, e2, e3, e5, e6⟩ := k h0 hm (gch_hd hc).2 hwt (fun q hq => gok_ext hext (hl q hq)) (gS1 (fun v hv => gok_ext hext ((gS2 hs).2 v hv)) hok) r hr
  have eo : gobj (gnw s (100 + 8 * n)) (gn s) = (2, n, (List.range n).map (fun j => (j, gf (gev (gnw s (100 + 8 * n)) (gn s) 0 j)))) := gobj_a (s := gnw s (100 + 8 * n)) (t := 0) (by rw [gnw_K, if_pos rfl]; rfl) (by decide)
  have heq : gEq (gH s ++ [(2, n, [])]) (gH (gnw s (100 + 8 * n))) := by
    rw [gnw_H, eo]
    refine ⟨by rw [List.length_append, List.length_append]; rfl, fun i o hi => ?_⟩
    by_cases hlt : i < (gH s).length
    · rw [List.getElem?_append_left hlt] at hi ⊢
      exact ⟨o, hi, Or.inl rfl⟩
    · rw [List.getElem?_append_right (by omega)] at hi ⊢
      cases hq : i - (gH s).length with
      | zero =>
        rw [hq] at hi
        cases hi
        refine ⟨_, rfl, Or.inr ⟨0, n, _, [], rfl, rfl, fun j hj => ?_⟩⟩
        rw [gad _ hj]
        show (0, 0) = gf (0, gI (gnw s (100 + 8 * n)) (gn s) j, 0)
        rw [gnw_I, if_pos rfl]
        rfl
      | succ q =>
        rw [hq] at hi
        cases hi
  refine gEnd_ext hext (g_st ok (K' := (pc + 2, gL L, (3, gn s) :: S.map gf, gH s ++ [(2, n, [])], gF X, cs + 1, ss + n)) (fun ih => ?_) ⟨E, ok.2.2.2.2.2 _ _ _ _ _ _ _ _ _ _ heq (by
    have e7 : ((116 + 8 * n, 0, gn s) :: S).map gf = (3, gn s) :: S.map gf := by
      rw [List.map_cons, show 116 + 8 * n = (100 + 8 * n) + 16 by omega]
      rfl
    rw [← e7]
    exact e1), e2, e3, e5, e6⟩)
  refine gs_hs (gtab h0 hm (gch_hd hc).1) rfl (gax (by decide)) ?_
  rw [gME_at _ hm, h0]
  show (bif (Nat.blt 0 3 && Nat.blt (eI (n : Int)) 1000000) && (Nat.blt cs (es_mc T) && Nat.ble (ss + eI (n : Int)) (es_ms T)) then some (pc + 2, gL L, (3, (gH s).length) :: S.map gf, gH s ++ [(0 + 2, eI (n : Int), [])], gF X, cs + 1, ss + eI (n : Int)) else none) = _
  rw [geN (by omega), es_blt.mpr hn, es_blt.mpr hcs, Nat.ble_eq.mpr hss, gH_len]
  rfl
/-- the plain constructor, and a call of one -/
theorem g_oinit (ok : gOK X) {idx a t : Nat} {z : Int} {tl : List Nat} (hcap : Nat.ble (gcts S) 8 = true) (k : Go X T m d (pc + 3) cd L S s cs ss x κ) : Go X T m d pc ((pc, .invokespecial idx, 3, 9 :: tl) :: cd) L ((t + 16, z, a) :: S) s cs ss x κ := by
  intro h0 hm hc hw hl hs r hr
  refine g_st ok (fun ih => ?_) (k h0 hm (gch_hd hc).2 hw hl (gS2 hs).2 r hr)
  unfold es_step
  dsimp only
  rw [gtab h0 hm (gch_hd hc).1]
  show (bif Nat.beq 3 3 && (Nat.blt 0 (es_rf (gME (gM0 X) (m + 512 * d))) && Nat.ble (es_cts (S.map gf) + 12) (es_lo (gME (gM0 X) (m + 512 * d)))) then ih (m + 512 * d) (pc + 3, gL L, S.map gf, gH s, gF X, cs, ss) else none) = _
  have h8 := Nat.ble_eq.mp hcap
  rw [gME_at _ hm, h0, gcts_eq, show Nat.blt 0 (es_rf (gdp d T)) = true from es_blt.mpr (show 0 < 8 + d by omega), show Nat.ble (gcts S + 12) (es_lo (gdp d T)) = true from Nat.ble_eq.mpr (show gcts S + 12 ≤ 300 + 64 * d by omega)]
  rfl
theorem g_ci0 (ok : gOK X) {idx n ci a : Nat} {z : Int} {tl : List Nat} {y : Option gO} {E : gS → Option Q} (h0' : gM0 X m' = T') (hdr : S.drop n = (ci + 16, z, a) :: rest) (hcal : gcal 8 T T' m' ((ci + 16, z, a) :: (S.take n).reverse) rest cs ss = true) (hy : ∀ q, y = some q → q.1 = 0) (ct : Go X T' m' d 0 [] (gal 0 ((ci + 16, z, a) :: (S.take n).reverse)) [] s 0 0 y some) (kk : ∀ s', Go X T m (d + 1) (pc + 3) cd L rest s' (cs + es_mc T') (ss + es_ms T') (E s') κ) : Go X T m (d + 1) pc ((pc, .invokespecial idx, 3, 7 :: m' :: n :: tl) :: cd) L S s cs ss (y.bind (gv0 E)) κ := by
  have hm' : m' < 512 := by unfold gcal at hcal; simp only [Bool.and_eq_true, es_blt] at hcal; omega
  refine g_call ok h0' hm' hcal (fun hm h0 hat hw hs ih hv => ?_) (gvsv hdr) ct (fun h0 hm hch q _ hw _ hL hR r hr => gk_0 kk h0 hm hch hw hL hR hr)
  unfold es_step
  dsimp only
  rw [gtab h0 hm hat]
  show es_si (gME (gM0 X)) ih (m + 512 * (d + 1)) (es_cal (m + 512 * (d + 1)) m') n pc (gL L) (S.map gf) (gH s) (gF X) cs ss = _
  rw [gcal_at m d hm hm']
  unfold es_si
  rw [← List.map_drop, hdr, List.map_cons]
  dsimp only
  rw [gf_r, ← List.map_take, ← List.map_reverse]
  show (match es_inv1 (gME (gM0 X)) 8 ih (m + 512 * (d + 1)) (m' + 512 * d) (((ci + 16, z, a) :: (S.take n).reverse).map gf) (rest.map gf) (gH s) (gF X) cs ss with
      | some lfs => bif es_nothr lfs then es_cat (es_aft (gME (gM0 X)) ih (m + 512 * (d + 1)) pc (gL L) (rest.map gf) (cs + es_mc (gME (gM0 X) (m' + 512 * d))) (ss + es_ms (gME (gM0 X) (m' + 512 * d)))) lfs else none
      | none => none) = _
  rw [(gmc hm' h0').1, (gmc hm' h0').2]
  cases hi : es_inv1 (gME (gM0 X)) 8 ih (m + 512 * (d + 1)) (m' + 512 * d) (((ci + 16, z, a) :: (S.take n).reverse).map gf) (rest.map gf) (gH s) (gF X) cs ss with
  | none => rfl
  | some lfs =>
    obtain ⟨q, q1, rfl⟩ := hv lfs hi
    dsimp only
    rw [show es_nothr [gLf X T' q] = true from by
      show (Nat.blt q.1 2 && true) = true
      rw [hy q q1]
      rfl]
    rfl
end GoN

end
