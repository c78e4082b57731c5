/-! cells of the texts on both sides -/
section Ce
variable {s t : gS} {p : gP} {i : Nat} {a1 a2 : Int}
theorem ce (h : Rt s) {k a j : Nat} (hk : (KK k ∧ mnt k = false) ∧ pa 9 15 k = a ∧ pj k = j) : gI s a j = gI s 218 k := by
  have h1 := (h.1 k hk.1).1
  rw [h1]
  show _ = gI s (pa 9 15 k) (pj k)
  rw [hk.2.1, hk.2.2]
/-- rows below alike -/
noncomputable def E8 (s u : gS) : Prop := ∀ k, gI u 218 k = gI s 218 k
noncomputable def Bm2 (v : Int) (r : gO) : Prop := Rt r.2.2.2 ∧ gI r.2.2.2 217 0 = v ∧ (v = 0 → gI r.2.2.2 231 0 = r.2.1)
noncomputable def An2 (F : gS → Option gO) (v : Int) (u : gS) : Prop := Rt u ∧ ∀ p, J p u → gQ (F u) (Bm2 v)
/-- the model's number of the throw is set -/
theorem m0 {w0 : Int} : gI (gw s 217 0 w0) 217 0 = w0 := rd_same rfl
theorem m8 {w0 : Int} : E8 s (gw s 217 0 w0) := fun k_l => rd_a rfl (by decide)
/-- the model's getters -/
theorem m_150 {x y z : Int} : gQ (f_150 x y z s) (fun r => r.2.1 = (if y ≤ x ∧ x ≤ z then 1 else 0) ∧ r.2.2.2 = s) := by
  unfold f_150 fb_150_14
  by_cases c1 : x < y
  · rw [if_pos c1, if_neg (by omega)]
    exact gQ_ret ⟨rfl, rfl⟩
  rw [if_neg c1]
  by_cases c2 : z < x
  · rw [if_pos c2, if_neg (by omega)]
    exact gQ_ret ⟨rfl, rfl⟩
  rw [if_neg c2, if_pos (by omega)]
  exact gQ_ret ⟨rfl, rfl⟩
end Ce
