section Rd
variable {p : Int} {s s' : gS} {a a' k k' : Nat} {v : Int}
theorem rd_same (e : s' = gw s a k v) : gI s' a k = v := by
  rw [e]
  show (if a = a ∧ k = k then v else gI s a k) = v
  rw [if_pos ⟨rfl, rfl⟩]
theorem rd_k (e : s' = gw s a' k' v) (h : k ≠ k') : gI s' a k = gI s a k := by
  rw [e]
  show (if a = a' ∧ k = k' then v else gI s a k) = gI s a k
  rw [if_neg (fun x => h x.2)]
theorem rd_T (e : s' = gw s a' k' v) {x y : Nat} (hx : T x a) (hy : T y a') (h : x ≠ y) : gI s' a k = gI s a k := by
  rw [e]
  show (if a = a' ∧ k = k' then v else gI s a k) = gI s a k
  rw [if_neg (fun z => h (by rw [← hx.2, ← hy.2, z.1]))]
theorem rd_c {b sp dp n : Nat} (e : s' = gcpy s a' sp b dp n) {x y : Nat} (hx : T x a) (hy : T y b) (h : x ≠ y) : gI s' a k = gI s a k := by
  rw [e]
  show (if a = b ∧ dp ≤ k ∧ k < dp + n then gI s a' (sp + (k - dp)) else gI s a k) = gI s a k
  rw [if_neg (fun z => h (by rw [← hx.2, ← hy.2, z.1]))]
end Rd
section Mo
variable {p : Int} {s s2 : gS} {a k : Nat} {v : Int}
theorem k0_one : ∀ a, a < 232 → (k0 a = 12 → a = 217) ∧ (k0 a = 10 → a = 1) ∧ (k0 a = 9 → a = 27) ∧ (k0 a = 11 → a = 0) := by decide +kernel
theorem T_12 (t : T 12 a) : a = 217 := (k0_one a t.1).1 t.2
theorem T_10 (t : T 10 a) : a = 1 := (k0_one a t.1).2.1 t.2
theorem T_9 (t : T 9 a) : a = 27 := (k0_one a t.1).2.2.1 t.2
theorem T_11 (t : T 11 a) : a = 0 := (k0_one a t.1).2.2.2 t.2
theorem r_m (h : J p s) (t : T 12 a) : gR s a 1 = 218 := by
  rw [T_12 t]
  exact J_r h rfl (by decide +kernel) (by decide +kernel)
theorem r_by (h : J p s) (t : T 10 a) : gR s a 0 = 2 := by
  rw [T_10 t]
  exact J_r h rfl (by decide +kernel) (by decide +kernel)
theorem r_at (h : J p s) (t : T 9 a) : gR s a 4 = 30 := by
  rw [T_9 t]
  exact J_r h rfl (by decide +kernel) (by decide +kernel)
theorem r_mt (h : J p s) (t : T 12 a) : gR s a 7 = 222 := by
  rw [T_12 t]
  exact J_r h rfl (by decide +kernel) (by decide +kernel)
theorem r_past (h : J p s) (t : T 11 a) : gR s a 12 = 72 := by
  rw [T_11 t]
  exact J_r h rfl (by decide +kernel) (by decide +kernel)
theorem J_m (h : J p s) (h2 : J p s2) (t : T 12 a) {x y : Int} (hf : mrn k = some (x, y)) : x ≤ gI s (gR s2 a 1) k ∧ gI s (gR s2 a 1) k ≤ y := by
  rw [r_m h2 t]
  exact J_ra h (by decide) (by rw [k0_sp.2.2.2.1]; decide) (by unfold arn; simp; exact hf)
theorem J_wm (h : J p s) (h2 : J p s2) (t : T 12 a) (hv : ∀ q, mrn k = some q → q.1 ≤ v ∧ v ≤ q.2) : J p (gw s (gR s2 a 1) k v) := by
  rw [r_m h2 t]
  exact J_wb h (by rw [k0_sp.2.2.2.1]; decide) (fun q hq => hv q (by unfold arn at hq; simpa using hq))
theorem J_by (h : J p s) (h2 : J p s2) (t : T 10 a) : 0 ≤ gI s (gR s2 a 0) k ∧ gI s (gR s2 a 0) k ≤ 255 := by
  rw [r_by h2 t]
  exact J_ra h (by decide) (by rw [k0_sp.1]; decide) rfl
theorem J_wby (h : J p s) (h2 : J p s2) (t : T 10 a) (hv : 0 ≤ v ∧ v ≤ 255) : J p (gw s (gR s2 a 0) k v) := by
  rw [r_by h2 t]
  exact J_wb h (by rw [k0_sp.1]; decide) (fun q hq => by cases hq; exact hv)
theorem J_mt (h : J p s) (h2 : J p s2) (t : T 12 a) : 0 ≤ gI s (gR s2 a 7) k ∧ gI s (gR s2 a 7) k ≤ 255 := by
  rw [r_mt h2 t]
  exact J_ra h (by decide) (by rw [k0_sp.2.1]; decide) rfl
theorem J_wmt (h : J p s) (h2 : J p s2) (t : T 12 a) (hv : 0 ≤ v ∧ v ≤ 255) : J p (gw s (gR s2 a 7) k v) := by
  rw [r_mt h2 t]
  exact J_wb h (by rw [k0_sp.2.1]; decide) (fun q hq => by cases hq; exact hv)
theorem J_at (h : J p s) (h2 : J p s2) (t : T 9 a) : 0 ≤ gI s (gR s2 a 4) k ∧ gI s (gR s2 a 4) k ≤ 8 := by
  rw [r_at h2 t]
  exact J_ra h (by decide) (by rw [k0_sp.2.2.1]; decide) rfl
theorem J_wat (h : J p s) (h2 : J p s2) (t : T 9 a) (hv : 0 ≤ v ∧ v ≤ 8) : J p (gw s (gR s2 a 4) k v) := by
  rw [r_at h2 t]
  exact J_wb h (by rw [k0_sp.2.2.1]; decide) (fun q hq => by cases hq; exact hv)
theorem T_pastc (h : J p s) (h2 : J p s2) (t : T 11 a) {i : Nat} (hi : i < 12) : T 2 (gR s (gR s2 a 12) i) := by
  rw [r_past h2 t]
  exact T_past h hi
end Mo
