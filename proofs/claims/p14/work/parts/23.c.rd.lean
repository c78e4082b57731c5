section Rd
variable {p : gP} {s s' : gS} {a a' k k' : Nat} {v : Int}
theorem rd_same (e : s' = gw s a k v) : gI s' a k = v := by
  rw [e]
  show (if a = a ∧ k = k then v else gI s a k) = v
  rw [if_pos ⟨rfl, rfl⟩]
theorem rd_k (e : s' = gw s a' k' v) (h : k ≠ k') : gI s' a k = gI s a k := by
  rw [e]
  show (if a = a' ∧ k = k' then v else gI s a k) = gI s a k
  rw [if_neg (fun x => h x.2)]
theorem rd_T (e : s' = gw s a' k' v) {x y : Nat} (hx : T x a) (hy : T y a') (h : x ≠ y) : gI s' a k = gI s a k := by
  rw [e]
  show (if a = a' ∧ k = k' then v else gI s a k) = gI s a k
  rw [if_neg (fun z => h (by rw [← hx.2, ← hy.2, z.1]))]
theorem rd_c {b sp dp n : Nat} (e : s' = gcpy s a' sp b dp n) {x y : Nat} (hx : T x a) (hy : T y b) (h : x ≠ y) : gI s' a k = gI s a k := by
  rw [e]
  show (if a = b ∧ dp ≤ k ∧ k < dp + n then gI s a' (sp + (k - dp)) else gI s a k) = gI s a k
  rw [if_neg (fun z => h (by rw [← hx.2, ← hy.2, z.1]))]
end Rd
section Mo
variable {p : gP} {s s2 : gS} {a k : Nat} {v : Int}
theorem k0_one : ∀ a, a < 232 → (k0 a = 12 → a = 217) ∧ (k0 a = 10 → a = 1) ∧ (k0 a = 9 → a = 27) ∧ (k0 a = 11 → a = 0) := by decide +kernel
theorem T_12 (t : T 12 a) : a = 217 := (k0_one a t.1).1 t.2
theorem T_10 (t : T 10 a) : a = 1 := (k0_one a t.1).2.1 t.2
theorem T_9 (t : T 9 a) : a = 27 := (k0_one a t.1).2.2.1 t.2
theorem T_11 (t : T 11 a) : a = 0 := (k0_one a t.1).2.2.2 t.2
theorem r_m (h : J p s) (t : T 12 a) : gR s a 1 = 218 := by
  rw [T_12 t]
  exact J_r h rfl (by decide +kernel) (by decide +kernel)
theorem r_by (h : J p s) (t : T 10 a) : gR s a 0 = 2 := by
  rw [T_10 t]
  exact J_r h rfl (by decide +kernel) (by decide +kernel)
theorem r_at (h : J p s) (t : T 9 a) : gR s a 4 = 30 := by
  rw [T_9 t]
  exact J_r h rfl (by decide +kernel) (by decide +kernel)
theorem r_mt (h : J p s) (t : T 12 a) : gR s a 7 = 222 := by
  rw [T_12 t]
  exact J_r h rfl (by decide +kernel) (by decide +kernel)
theorem r_past (h : J p s) (t : T 11 a) : gR s a 12 = 72 := by
  rw [T_11 t]
  exact J_r h rfl (by decide +kernel) (by decide +kernel)
theorem J_m (h : J p s) (h2 : J p s2) (t : T 12 a) {x y : Int} (hf : mrn k = some (x, y)) : x ≤ gI s (gR s2 a 1) k ∧ gI s (gR s2 a 1) k ≤ y := by
  rw [r_m h2 t]
  exact J_ra h (by decide) (by rw [k0_sp.2.2.2.1]; decide) (by unfold arn; simp; exact hf)
theorem J_wm (h : J p s) (h2 : J p s2) (t : T 12 a) (hv : ∀ q, mrn k = some q → q.1 ≤ v ∧ v ≤ q.2) : J p (gw s (gR s2 a 1) k v) := by
  rw [r_m h2 t]
  exact J_wb h (by rw [k0_sp.2.2.2.1]; decide) (fun q hq => hv q (by unfold arn at hq; simpa using hq))
theorem J_by (h : J p s) (h2 : J p s2) (t : T 10 a) : 0 ≤ gI s (gR s2 a 0) k ∧ gI s (gR s2 a 0) k ≤ 255 := by
  rw [r_by h2 t]
  exact J_ra h (by decide) (by rw [k0_sp.1]; decide) rfl
theorem J_wby (h : J p s) (h2 : J p s2) (t : T 10 a) (hv : 0 ≤ v ∧ v ≤ 255) : J p (gw s (gR s2 a 0) k v) := by
  rw [r_by h2 t]
  exact J_wb h (by rw [k0_sp.1]; decide) (fun q hq => by cases hq; exact hv)
theorem J_mt (h : J p s) (h2 : J p s2) (t : T 12 a) : 0 ≤ gI s (gR s2 a 7) k ∧ gI s (gR s2 a 7) k ≤ 255 := by
  rw [r_mt h2 t]
  exact J_ra h (by decide) (by rw [k0_sp.2.1]; decide) rfl
theorem J_wmt (h : J p s) (h2 : J p s2) (t : T 12 a) (hv : 0 ≤ v ∧ v ≤ 255) : J p (gw s (gR s2 a 7) k v) := by
  rw [r_mt h2 t]
  exact J_wb h (by rw [k0_sp.2.1]; decide) (fun q hq => by cases hq; exact hv)
theorem J_at (h : J p s) (h2 : J p s2) (t : T 9 a) : 0 ≤ gI s (gR s2 a 4) k ∧ gI s (gR s2 a 4) k ≤ 8 := by
  rw [r_at h2 t]
  exact J_ra h (by decide) (by rw [k0_sp.2.2.1]; decide) rfl
theorem J_wat (h : J p s) (h2 : J p s2) (t : T 9 a) (hv : 0 ≤ v ∧ v ≤ 8) : J p (gw s (gR s2 a 4) k v) := by
  rw [r_at h2 t]
  exact J_wb h (by rw [k0_sp.2.2.1]; decide) (fun q hq => by cases hq; exact hv)
theorem T_pastc (h : J p s) (h2 : J p s2) (t : T 11 a) {i : Nat} (hi : i < 12) : T 2 (gR s (gR s2 a 12) i) := by
  rw [r_past h2 t]
  exact T_past h hi
end Mo
theorem g_oi {x : Int} (h : -2147483648 ≤ x ∧ x < 2147483648) : (Int32.ofInt x).toInt = x := by
  rw [Int32.toInt_ofInt]
  exact g32_eq h.1 h.2
theorem bm_eq {v : Int} (h1 : -2147483648 ≤ v) (h2 : v < 2147483648) : Int.bmod v (2 ^ 32) = v := g32_eq h1 h2
theorem gdiv_eq {x c : Int} (hx : 0 ≤ x ∧ x < 2147483648) (hc : 0 < c ∧ c < 2147483648) : gdiv x c = x / c := by
  unfold gdiv
  rw [Int32.toInt_div, g_oi ⟨by omega, hx.2⟩, g_oi ⟨by omega, hc.2⟩, Int.tdiv_eq_ediv_of_nonneg hx.1]
  have h1 : 0 ≤ x / c := Int.ediv_nonneg hx.1 (by omega)
  have h2 : x / c ≤ x := Int.ediv_le_self c hx.1
  exact bm_eq (by omega) (by omega)
theorem grem_eq {x c : Int} (hx : 0 ≤ x ∧ x < 2147483648) (hc : 0 < c ∧ c < 2147483648) : grem x c = x % c := by
  have h1 : 0 ≤ x / c := Int.ediv_nonneg hx.1 (by omega)
  have h2 : x / c ≤ x := Int.ediv_le_self c hx.1
  have h3 : x / c * c ≤ x := Int.ediv_mul_le x (by omega)
  have h4 : 0 ≤ x / c * c := Int.mul_nonneg h1 (by omega)
  have h5 : x % c = x - x / c * c := by rw [Int.emod_def, Int.mul_comm]
  unfold grem
  rw [Int32.toInt_sub, Int32.toInt_mul, show (Int32.ofInt x / Int32.ofInt c).toInt = x / c from gdiv_eq hx hc, g_oi ⟨by omega, hx.2⟩, g_oi ⟨by omega, hc.2⟩, bm_eq (v := x / c * c) (by omega) (by omega), h5]
  exact bm_eq (by omega) (by omega)
theorem gBN {z : Int32} {n : Nat} (h : z.toBitVec.toNat = n) (hn : n < 2147483648) : z.toInt = (n : Int) := by
  have h1 : z.toInt = z.toBitVec.toInt := rfl
  rw [h1, BitVec.toInt_eq_toNat_cond, h, if_pos (by omega)]
theorem gON {m : Int} (h0 : 0 ≤ m) (h1 : m < 2147483648) : (Int32.ofInt m).toBitVec.toNat = m.toNat := by
  have h2 := geN (n := m.toNat) (by omega)
  rw [Int.toNat_of_nonneg h0] at h2
  exact h2
theorem gand_le {x m : Int} (h0 : 0 ≤ m) (h1 : m < 2147483648) : 0 ≤ gand x m ∧ gand x m ≤ m := by
  have h2 : (Int32.ofInt x &&& Int32.ofInt m).toBitVec.toNat ≤ m.toNat := by
    rw [Int32.toBitVec_and, BitVec.toNat_and, gON h0 h1]
    exact Nat.and_le_right
  have h3 := gBN (z := Int32.ofInt x &&& Int32.ofInt m) rfl (by omega)
  unfold gand
  rw [h3]
  omega
theorem gor_lt {x y : Int} (n : Nat) (hn : n < 31) (hx : 0 ≤ x ∧ x < 2 ^ n) (hy : 0 ≤ y ∧ y < 2 ^ n) : 0 ≤ gor x y ∧ gor x y < 2 ^ n := by
  have hp : (2 : Nat) ^ n ≤ 2 ^ 30 := Nat.pow_le_pow_right (by decide) (by omega)
  have hp2 : ((2 ^ n : Nat) : Int) = 2 ^ n := by simp
  have hx3 : x.toNat < 2 ^ n := by omega
  have hy3 : y.toNat < 2 ^ n := by omega
  have h2 : (Int32.ofInt x ||| Int32.ofInt y).toBitVec.toNat < 2 ^ n := by
    rw [Int32.toBitVec_or, BitVec.toNat_or, gON hx.1 (by omega), gON hy.1 (by omega)]
    exact Nat.or_lt_two_pow hx3 hy3
  have h3 := gBN (z := Int32.ofInt x ||| Int32.ofInt y) rfl (by omega)
  unfold gor
  rw [h3]
  omega
theorem gshl_1 {x : Int} (h : 0 ≤ x ∧ x ≤ 8) : gshl 1 x = 2 ^ x.toNat ∧ 1 ≤ gshl 1 x ∧ gshl 1 x ≤ 256 := by
  have h1 : x = 0 ∨ x = 1 ∨ x = 2 ∨ x = 3 ∨ x = 4 ∨ x = 5 ∨ x = 6 ∨ x = 7 ∨ x = 8 := by omega
  rcases h1 with rfl | rfl | rfl | rfl | rfl | rfl | rfl | rfl | rfl <;> decide +kernel
theorem gshl_5 {x : Int} (h : 0 ≤ x ∧ x ≤ 5) : 1 ≤ gshl 1 x ∧ gshl 1 x ≤ 32 := by
  have h1 : x = 0 ∨ x = 1 ∨ x = 2 ∨ x = 3 ∨ x = 4 ∨ x = 5 := by omega
  rcases h1 with rfl | rfl | rfl | rfl | rfl | rfl <;> decide +kernel
theorem gshl_6 {x : Int} (h : 0 ≤ x ∧ x ≤ 6) : 1 ≤ gshl 1 x ∧ gshl 1 x ≤ 64 := by
  have h1 : x = 0 ∨ x = 1 ∨ x = 2 ∨ x = 3 ∨ x = 4 ∨ x = 5 ∨ x = 6 := by omega
  rcases h1 with rfl | rfl | rfl | rfl | rfl | rfl | rfl <;> decide +kernel
theorem gand_le_l {x m : Int} (h0 : 0 ≤ x) (h1 : x < 2147483648) : 0 ≤ gand x m ∧ gand x m ≤ x := by
  have h2 : (Int32.ofInt x &&& Int32.ofInt m).toBitVec.toNat ≤ x.toNat := by
    rw [Int32.toBitVec_and, BitVec.toNat_and, gON h0 h1]
    exact Nat.and_le_left
  have h3 := gBN (z := Int32.ofInt x &&& Int32.ofInt m) rfl (by omega)
  unfold gand
  rw [h3]
  omega
