section Rd
variable {p : Int} {s s' : gS} {a a' k k' : Nat} {v : Int}
theorem rd_same (e : s' = gw s a k v) : gI s' a k = v := by
  rw [e]
  show (if a = a ∧ k = k then v else gI s a k) = v
  rw [if_pos ⟨rfl, rfl⟩]
theorem rd_k (e : s' = gw s a' k' v) (h : k ≠ k') : gI s' a k = gI s a k := by
  rw [e]
  show (if a = a' ∧ k = k' then v else gI s a k) = gI s a k
  rw [if_neg (fun x => h x.2)]
theorem rd_T (e : s' = gw s a' k' v) {x y : Nat} (hx : T x a) (hy : T y a') (h : x ≠ y) : gI s' a k = gI s a k := by
  rw [e]
  show (if a = a' ∧ k = k' then v else gI s a k) = gI s a k
  rw [if_neg (fun z => h (by rw [← hx.2, ← hy.2, z.1]))]
theorem rd_c {b sp dp n : Nat} (e : s' = gcpy s a' sp b dp n) {x y : Nat} (hx : T x a) (hy : T y b) (h : x ≠ y) : gI s' a k = gI s a k := by
  rw [e]
  show (if a = b ∧ dp ≤ k ∧ k < dp + n then gI s a' (sp + (k - dp)) else gI s a k) = gI s a k
  rw [if_neg (fun z => h (by rw [← hx.2, ← hy.2, z.1]))]
end Rd
