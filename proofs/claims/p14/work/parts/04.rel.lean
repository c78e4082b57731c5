def es_zb (x : Int32) : Nat := (x.toInt + 2147483648).toNat
theorem es_rng (x : Int32) : -2147483648 ≤ x.toInt ∧ x.toInt < 2147483648 := ⟨Int32.le_toInt x, Int32.toInt_lt x⟩
theorem es_nb (x : Int32) : nI x.toBitVec.toNat = x := by
  apply Int32.toBitVec_inj.mp
  show BitVec.ofNat 32 x.toBitVec.toNat = x.toBitVec
  simp
theorem es_lb (x : Int64) : lN x.toBitVec.toNat = x := by
  apply Int64.toBitVec_inj.mp
  show BitVec.ofNat 64 x.toBitVec.toNat = x.toBitVec
  simp
theorem es_nIt (n : Nat) : (nI n).toInt = Int.bmod n 4294967296 := by
  show (Int32.ofNat n).toInt = _
  simp
theorem es_zbn (n : Nat) : es_zb (nI n) = es_bz n := by
  unfold es_zb es_bz
  rw [es_nIt]
  simp only [Int.bmod]
  split <;> omega
theorem es_zinj {x y : Int32} (h : es_zb x = es_zb y) : x = y := by
  have h1 := es_rng x
  have h2 := es_rng y
  unfold es_zb at h
  apply Int32.toInt_inj.mp
  omega
theorem es_zlt {x y : Int32} : x < y ↔ es_zb x < es_zb y := by
  have h1 := es_rng x
  have h2 := es_rng y
  unfold es_zb
  rw [Int32.lt_iff_toInt_lt]
  omega
theorem es_zle {x y : Int32} : x ≤ y ↔ es_zb x ≤ es_zb y := by
  have h1 := es_rng x
  have h2 := es_rng y
  unfold es_zb
  rw [Int32.le_iff_toInt_le]
  omega
theorem es_bzt (x : Int32) : nI ((es_zb x + 2147483648) % 4294967296) = x := by
  apply es_zinj
  rw [es_zbn]
  have h1 := es_rng x
  unfold es_zb es_bz
  omega
theorem es_blt {a b : Nat} : Nat.blt a b = true ↔ a < b := by
  show Nat.ble (a + 1) b = true ↔ a < b
  rw [Nat.ble_eq]; omega
theorem es_c_eq (z : Int32) : es_c z = (0, z.toBitVec.toNat) := es_force_eq _ _
theorem es_lc_eq (z : Int64) : es_lc z = (2, z.toBitVec.toNat) := es_force_eq _ _
section Rel
variable (n0 : Nat) (b : Nat → Nat) (ρ : Nat → Int32)
def es_vr (v : es_V) (x : Value) : Prop := match v.1 with
  | 0 => x = .int (nI v.2)
  | 1 => x = .int (ρ v.2)
  | 2 => x = .long (lN v.2)
  | 3 => x = .ref (n0 + v.2)
  | 4 => x = .null
  | 5 => x = .ref (b 0)
  | 7 => ∃ a : Nat, x = .ref a
  | 8 => x = .ref (b (2 * v.2 + 1))
  | 9 => x = .ref (b (2 * v.2 + 2))
  | 10 => x = .null ∨ ∃ a : Nat, x = .ref a
  | _ => ∃ z : Int32, x = .int z
def es_sr : List es_V → List Value → Prop
  | [], st => st = []
  | v :: S, st => ∃ x st', st = x :: st' ∧ es_vr n0 b ρ v x ∧ es_sr S st'
def es_lr (nL : Nat) (L : es_L) (ls : Array Slot) : Prop := ls.size = nL ∧ lv_wf ls ∧ ∀ i v, es_get L i = some v → ∃ x, ls[i]? = some (.val x) ∧ es_vr n0 b ρ v x
def es_fr (F : es_F) : Prop := ∀ (k : Nat) (q : Nat × Nat), F[k]? = some q → q.1 ≤ es_zb (ρ k) ∧ es_zb (ρ k) ≤ q.2
end Rel
section RelLaws
variable {n0 : Nat} {b : Nat → Nat} {ρ : Nat → Int32}
theorem es_vr0 {n : Nat} {x : Value} (h : es_vr n0 b ρ (0, n) x) : x = .int (nI n) := h
theorem es_vrc (z : Int32) : es_vr n0 b ρ (es_c z) (.int z) := by
  rw [es_c_eq]
  show Value.int z = Value.int (nI z.toBitVec.toNat)
  rw [es_nb]
theorem es_vrlc (z : Int64) : es_vr n0 b ρ (es_lc z) (.long z) := by
  rw [es_lc_eq]
  show Value.long z = Value.long (lN z.toBitVec.toNat)
  rw [es_lb]
theorem es_ti_int {v : es_V} {x : Value} (h : es_vr n0 b ρ v x) (ht : es_ti v = true) : ∃ z, x = .int z := by
  obtain ⟨t, n⟩ := v
  simp only [es_ti, Bool.or_eq_true, es_beq] at ht
  rcases ht with rfl | rfl | rfl
  · exact ⟨_, h⟩
  · exact ⟨_, h⟩
  · exact h
theorem es_t2_long {v : es_V} {x : Value} (h : es_vr n0 b ρ v x) (ht : Nat.beq v.1 2 = true) : x = .long (lN v.2) := by
  obtain ⟨t, n⟩ := v
  have e := es_beq.mp ht
  dsimp only at e
  subst e
  exact h
theorem es_t3_ref {v : es_V} {x : Value} (h : es_vr n0 b ρ v x) (ht : Nat.beq v.1 3 = true) : x = .ref (n0 + v.2) := by
  obtain ⟨t, n⟩ := v
  have e := es_beq.mp ht
  dsimp only at e
  subst e
  exact h
theorem es_t4_null {v : es_V} {x : Value} (h : es_vr n0 b ρ v x) (ht : Nat.beq v.1 4 = true) : x = .null := by
  obtain ⟨t, n⟩ := v
  have e := es_beq.mp ht
  dsimp only at e
  subst e
  exact h
theorem es_tr_ref {v : es_V} {x : Value} (h : es_vr n0 b ρ v x) (ht : es_tr v = true) : x = .null ∨ ∃ a, x = .ref a := by
  obtain ⟨t, n⟩ := v
  simp only [es_tr, Bool.or_eq_true, es_beq] at ht
  rcases ht with rfl | rfl | rfl | rfl | rfl
  · exact Or.inr ⟨_, h⟩
  · exact Or.inl h
  · exact Or.inr ⟨_, h⟩
  · exact Or.inr ⟨_, h⟩
  · exact Or.inr ⟨_, h⟩
theorem es_t7_ref {v : es_V} {x : Value} (h : es_vr n0 b ρ v x) (ht : es_ta v = true) : x = .null ∨ ∃ a, x = .ref a := by
  unfold es_ta at ht
  rw [Bool.or_eq_true, es_beq] at ht
  rcases ht with h1 | h1
  · exact es_tr_ref h h1
  · obtain ⟨t, n⟩ := v
    dsimp only at h1
    subst h1
    exact Or.inr h
theorem es_cat1 {v : es_V} {x : Value} (h : es_vr n0 b ρ v x) (ht : Nat.beq v.1 2 = false) : x.category = 1 := by
  obtain ⟨t, n⟩ := v
  have e := es_beqf.mp ht
  dsimp only at e
  match t, h with
  | 0, h => have h' : x = .int (nI n) := h; rw [h']; rfl
  | 1, h => have h' : x = .int (ρ n) := h; rw [h']; rfl
  | 2, h => exact absurd rfl e
  | 3, h => have h' : x = .ref (n0 + n) := h; rw [h']; rfl
  | 4, h => have h' : x = .null := h; rw [h']; rfl
  | 5, h => have h' : x = .ref (b 0) := h; rw [h']; rfl
  | 6, h => obtain ⟨z, hz⟩ : ∃ z : Int32, x = .int z := h; rw [hz]; rfl
  | 7, h => obtain ⟨z, hz⟩ : ∃ a : Nat, x = .ref a := h; rw [hz]; rfl
  | 8, h => have h' : x = .ref (b (2 * n + 1)) := h; rw [h']; rfl
  | 9, h => have h' : x = .ref (b (2 * n + 2)) := h; rw [h']; rfl
  | 10, h =>
    have h' : x = .null ∨ ∃ a : Nat, x = .ref a := h
    rcases h' with h' | ⟨a, h'⟩
    · rw [h']; rfl
    · rw [h']; rfl
  | t + 11, h => obtain ⟨z, hz⟩ : ∃ z : Int32, x = .int z := h; rw [hz]; rfl
theorem es_ti_n2 {v : es_V} (ht : es_ti v = true) : Nat.beq v.1 2 = false := by
  simp only [es_ti, Bool.or_eq_true, es_beq] at ht
  rcases ht with h | h | h <;> rw [h] <;> rfl
theorem es_kn_ok {F : es_F} {v : es_V} {x : Value} {n : Nat} (hF : es_fr ρ F) (h : es_vr n0 b ρ v x) (hk : es_kn F v = some n) : x = .int (nI n) := by
  obtain ⟨t, m⟩ := v
  match t, h, hk with
  | 0, h, hk => have e : some m = some n := hk; cases e; exact h
  | 1, h, hk =>
    have h' : x = .int (ρ m) := h
    have hk' : (match F[m]? with | some q => bif Nat.beq q.1 q.2 then some ((q.1 + 2147483648) % 4294967296) else none | none => none) = some n := hk
    cases hq : F[m]? with
    | none => rw [hq] at hk'; cases hk'
    | some q =>
      rw [hq] at hk'
      dsimp only at hk'
      cases hb : Nat.beq q.1 q.2
      · rw [hb] at hk'; cases hk'
      · rw [hb] at hk'
        have e := es_beq.mp hb
        have e2 := hF m q hq
        have e3 : q.1 = es_zb (ρ m) := by omega
        have e4 : some ((q.1 + 2147483648) % 4294967296) = some n := hk'
        rw [h', ← Option.some.inj e4, e3, es_bzt]
  | 2, h, hk => cases hk
  | 3, h, hk => cases hk
  | 4, h, hk => cases hk
  | 5, h, hk => cases hk
  | t + 6, h, hk => cases hk
theorem es_kn_ti {F : es_F} {v : es_V} {n : Nat} (hk : es_kn F v = some n) : es_ti v = true := by
  obtain ⟨t, m⟩ := v
  match t, hk with
  | 0, hk => rfl
  | 1, hk => rfl
  | 2, hk => cases hk
  | 3, hk => cases hk
  | 4, hk => cases hk
  | 5, hk => cases hk
  | t + 6, hk => cases hk
theorem es_bin_ok {F : es_F} (hF : es_fr ρ F) (f : Int32 → Int32 → Int32) {va vb : es_V} {x y : Int32} (ha : es_vr n0 b ρ va (.int x)) (hb : es_vr n0 b ρ vb (.int y)) : es_vr n0 b ρ (es_bin f F va vb) (.int (f x y)) := by
  unfold es_bin
  split
  · rename_i p q hp hq
    have e1 := es_kn_ok hF ha hp
    have e2 := es_kn_ok hF hb hq
    cases e1; cases e2
    exact es_vrc _
  · exact ⟨_, rfl⟩
theorem es_un_ok {F : es_F} (hF : es_fr ρ F) (f : Int32 → Int32) {va : es_V} {x : Int32} (ha : es_vr n0 b ρ va (.int x)) : es_vr n0 b ρ (es_un f F va) (.int (f x)) := by
  unfold es_un
  split
  · rename_i p hp
    have e1 := es_kn_ok hF ha hp
    cases e1
    exact es_vrc _
  · exact ⟨_, rfl⟩
theorem es_cmp_eq (op : es_Op) (x y : Int32) : es_cmp op (es_zb x) (es_zb y) = true ↔ (match op with
  | .eq => x = y
  | .ne => ¬ x = y
  | .lt => x < y
  | .ge => y ≤ x
  | .gt => y < x
  | .le => x ≤ y) := by
  cases op
  · exact ⟨fun h => es_zinj (es_beq.mp h), fun h => es_beq.mpr (by rw [show x = y from h])⟩
  · show (!Nat.beq (es_zb x) (es_zb y)) = true ↔ ¬ x = y
    rw [Bool.not_eq_true', es_beqf]
    exact ⟨fun h e => h (by rw [e]), fun h e => h (es_zinj e)⟩
  · show Nat.blt _ _ = true ↔ x < y
    rw [es_blt, es_zlt]
  · show Nat.ble _ _ = true ↔ y ≤ x
    rw [Nat.ble_eq, es_zle]
  · show Nat.blt _ _ = true ↔ y < x
    rw [es_blt, es_zlt]
  · show Nat.ble _ _ = true ↔ x ≤ y
    rw [Nat.ble_eq, es_zle]
theorem es_cmp_ng (op : es_Op) (x y : Nat) : es_cmp (es_ng op) x y = !es_cmp op x y := by
  have hlt : ∀ a c : Nat, Nat.ble a c = !Nat.blt c a := fun a c => by
    cases h : Nat.blt c a
    · have : ¬ c < a := fun e => by rw [es_blt.mpr e] at h; cases h
      exact Nat.ble_eq.mpr (by omega)
    · have := es_blt.mp h
      cases h2 : Nat.ble a c
      · rfl
      · have := Nat.ble_eq.mp h2; omega
  cases op <;> simp only [es_ng, es_cmp, Bool.not_not]
  · exact hlt _ _
  · rw [hlt, Bool.not_not]
  · exact hlt _ _
  · rw [hlt, Bool.not_not]
theorem es_cmp_sw (op : es_Op) (x y : Nat) : es_cmp (es_sw op) y x = es_cmp op x y := by
  have hb : Nat.beq y x = Nat.beq x y := by
    cases h : Nat.beq x y
    · exact es_beqf.mpr (Ne.symm (es_beqf.mp h))
    · exact es_beq.mpr (es_beq.mp h).symm
  cases op <;> simp only [es_sw, es_cmp, hb]
theorem es_iv_ok (op : es_Op) (c : Nat) (q : Nat × Nat) (z : Nat) (h1 : q.1 ≤ z) (h2 : z ≤ q.2) (h : es_cmp op z c = true) : ∃ r ∈ es_iv op c q, r.1 ≤ z ∧ z ≤ r.2 := by
  cases op
  · have e := es_beq.mp (show Nat.beq z c = true from h)
    subst e
    simp [es_iv, Nat.ble_eq.mpr h1, Nat.ble_eq.mpr h2]
  · have e : z ≠ c := es_beqf.mp (by simpa [es_cmp] using h)
    simp only [es_iv]
    cases ha : Nat.beq q.1 c
    · cases hb : Nat.beq q.2 c
      · exact ⟨q, List.mem_singleton.mpr rfl, h1, h2⟩
      · have := es_beq.mp hb
        exact ⟨(q.1, c - 1), List.mem_singleton.mpr rfl, h1, by show z ≤ c - 1; omega⟩
    · have := es_beq.mp ha
      cases hb : Nat.beq q.2 c
      · exact ⟨(c + 1, q.2), List.mem_singleton.mpr rfl, by show c + 1 ≤ z; omega, h2⟩
      · have := es_beq.mp hb; omega
  · have e : z < c := es_blt.mp h
    simp only [es_iv, es_blt.mpr (show q.1 < c by omega), cond_true]
    refine ⟨_, List.mem_singleton.mpr rfl, h1, ?_⟩
    cases hb : Nat.blt q.2 c
    · show z ≤ c - 1; omega
    · exact h2
  · have e : c ≤ z := Nat.ble_eq.mp h
    simp only [es_iv, Nat.ble_eq.mpr (show c ≤ q.2 by omega), cond_true]
    refine ⟨_, List.mem_singleton.mpr rfl, ?_, h2⟩
    cases hb : Nat.ble c q.1
    · exact e
    · exact h1
  · have e : c < z := es_blt.mp h
    simp only [es_iv, es_blt.mpr (show c < q.2 by omega), cond_true]
    refine ⟨_, List.mem_singleton.mpr rfl, ?_, h2⟩
    cases hb : Nat.blt c q.1
    · exact e
    · exact h1
  · have e : z ≤ c := Nat.ble_eq.mp h
    simp only [es_iv, Nat.ble_eq.mpr (show q.1 ≤ c by omega), cond_true]
    refine ⟨_, List.mem_singleton.mpr rfl, h1, ?_⟩
    cases hb : Nat.ble q.2 c
    · exact e
    · exact h2
theorem es_fr_set {F : es_F} (hF : es_fr ρ F) {k : Nat} {r : Nat × Nat} (h1 : r.1 ≤ es_zb (ρ k)) (h2 : es_zb (ρ k) ≤ r.2) : es_fr ρ (F.set k r) := by
  intro j q hq
  by_cases hj : k = j
  · subst hj
    rw [List.getElem?_set] at hq
    simp only [if_true] at hq
    by_cases hl : k < F.length
    · rw [if_pos hl] at hq; cases hq; exact ⟨h1, h2⟩
    · rw [if_neg hl] at hq; cases hq
  · rw [List.getElem?_set_ne hj] at hq
    exact hF j q hq
theorem es_br_ok {F : es_F} (hF : es_fr ρ F) (op : es_Op) {va vb : es_V} {x y : Int32} (ha : es_vr n0 b ρ va (.int x)) (hb : es_vr n0 b ρ vb (.int y)) (h : es_cmp op (es_zb x) (es_zb y) = true) : ∃ f ∈ es_br F op va vb, es_fr ρ f := by
  unfold es_br
  split
  · rename_i p q hp hq
    have e1 := es_kn_ok hF ha hp
    have e2 := es_kn_ok hF hb hq
    cases e1; cases e2
    rw [es_zbn, es_zbn] at h
    rw [h]
    exact ⟨F, List.mem_singleton.mpr rfl, hF⟩
  · rename_i q hp hq
    have e2 := es_kn_ok hF hb hq
    cases e2
    cases h1 : Nat.beq va.1 1
    · exact ⟨F, List.mem_singleton.mpr rfl, hF⟩
    · obtain ⟨t, k⟩ := va
      have e := es_beq.mp h1
      dsimp only at e
      subst e
      have hx : Value.int x = .int (ρ k) := ha
      cases hx
      dsimp only [cond_true]
      cases hk : F[k]? with
      | none => exact ⟨F, List.mem_singleton.mpr rfl, hF⟩
      | some r =>
        have hr := hF k r hk
        obtain ⟨r', hr', g1, g2⟩ := es_iv_ok op (es_bz q) r (es_zb (ρ k)) hr.1 hr.2 (by rw [← es_zbn]; exact h)
        exact ⟨_, List.mem_map.mpr ⟨r', hr', rfl⟩, es_fr_set hF g1 g2⟩
  · rename_i p hp hq
    have e1 := es_kn_ok hF ha hp
    cases e1
    cases h1 : Nat.beq vb.1 1
    · exact ⟨F, List.mem_singleton.mpr rfl, hF⟩
    · obtain ⟨t, k⟩ := vb
      have e := es_beq.mp h1
      dsimp only at e
      subst e
      have hx : Value.int y = .int (ρ k) := hb
      cases hx
      dsimp only [cond_true]
      cases hk : F[k]? with
      | none => exact ⟨F, List.mem_singleton.mpr rfl, hF⟩
      | some r =>
        have hr := hF k r hk
        obtain ⟨r', hr', g1, g2⟩ := es_iv_ok (es_sw op) (es_bz p) r (es_zb (ρ k)) hr.1 hr.2 (by rw [es_cmp_sw, ← es_zbn]; exact h)
        exact ⟨_, List.mem_map.mpr ⟨r', hr', rfl⟩, es_fr_set hF g1 g2⟩
  · exact ⟨F, List.mem_singleton.mpr rfl, hF⟩
theorem es_to_ok {pc : Nat} {off : Int} {t : Nat} (h : es_to pc off = some t) : (pc : Int) + off = (t : Int) := by
  unfold es_to at h
  split at h
  · rename_i u hu
    cases h
    exact hu
  · cases h
end RelLaws
