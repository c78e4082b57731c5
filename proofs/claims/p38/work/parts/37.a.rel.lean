/-! the texts on both sides -/
def Tx (k : Nat) : Prop := KK k ∧ mnt k = false
/-- cells that no text stands in -/
def WR (a k : Nat) : Bool := csd a k || (msd a k || (Nat.beq a 220 || (Nat.beq a 0 && Nat.beq k 16)))
/-- the text of a remembered court -/
def Tc (k : Nat) : Prop := k = 4 ∨ k = 6 ∨ ∃ x, x < 6 ∧ k = 42 + 6 * x
def pst (n : Int) (j : Nat) : Nat := 73 + 12 * ((n.toNat + 12 - j) % 12)
def Rt (s : gS) : Prop := (∀ k, Tx k → gI s 218 k = cv s 9 15 k ∧ (k = 0 → gI s 218 k ≤ 12) ∧ (0 ≤ gI s 218 k ∧ gI s 218 k ≤ 100)) ∧ (∀ k, gI s 2 k = gI s 222 k) ∧ (gI s 217 3 = 1 → ∀ k, Tx k → gI s 219 k = cv s 54 60 k ∧ (k = 0 → gI s 219 k ≤ 12) ∧ (0 ≤ gI s 219 k ∧ gI s 219 k ≤ 100)) ∧ ((0 ≤ gI s 0 13 ∧ gI s 0 13 ≤ 11) ∧ (0 ≤ gI s 0 14 ∧ gI s 0 14 ≤ 12) ∧ ∀ j : Nat, (j : Int) < gI s 0 14 → ∀ k, Tc k → cv s 9 (pst (gI s 0 13) j) k = cv s 9 15 k) ∧ ((0 ≤ gI s 217 6 ∧ gI s 217 6 ≤ 12) ∧ ∀ j : Nat, (j : Int) < gI s 217 6 → ∀ k, k < 340 → mnt k = false → gI s 221 (340 * j + k) = gI s 218 k)
section Rw3
variable {s s' t : gS} {p : gP}
theorem Tx_9 : ∀ k, k < 100 → (k ≠ 1 ∧ k ≠ 2 ∧ k ≠ 15) → mnt k = false → pa 9 15 k < 232 ∧ WR (pa 9 15 k) (pj k) = false ∧ pa 54 60 k < 232 ∧ WR (pa 54 60 k) (pj k) = false := by decide +kernel
theorem Tx_8 : ∀ k, k < 340 → mnt k = false → WR 218 k = false := by decide +kernel
theorem WR_t {k : Nat} : WR 2 k = false ∧ WR 222 k = false ∧ WR 219 k = false ∧ WR 221 k = false ∧ WR 0 13 = false ∧ WR 0 14 = false ∧ WR 217 3 = false ∧ WR 217 6 = false := ⟨rfl, rfl, rfl, rfl, rfl, rfl, rfl, rfl⟩
theorem Tc_p : ∀ i, i < 12 → ∀ x, x < 6 → (pa 9 (73 + 12 * i) 4 < 232 ∧ WR (pa 9 (73 + 12 * i) 4) (pj 4) = false) ∧ (pa 9 (73 + 12 * i) 6 < 232 ∧ WR (pa 9 (73 + 12 * i) 6) (pj 6) = false) ∧ (pa 9 (73 + 12 * i) (42 + 6 * x) < 232 ∧ WR (pa 9 (73 + 12 * i) (42 + 6 * x)) (pj (42 + 6 * x)) = false) := by decide +kernel
theorem Tc_q {i k : Nat} (hi : i < 12) (hk : Tc k) : pa 9 (73 + 12 * i) k < 232 ∧ WR (pa 9 (73 + 12 * i) k) (pj k) = false := by
  rcases hk with rfl | rfl | ⟨x_l, hx, rfl⟩
  · exact (Tc_p i hi 0 (by decide)).1
  · exact (Tc_p i hi 0 (by decide)).2.1
  · exact (Tc_p i hi x_l hx).2.2
theorem Tc_b : ∀ x, x < 6 → KK (42 + 6 * x) ∧ mnt (42 + 6 * x) = false := by unfold KK; decide +kernel
theorem Tc_x {k : Nat} (hk : Tc k) : Tx k := by
  rcases hk with rfl | rfl | ⟨x_l, hx, rfl⟩
  · exact ⟨by unfold KK; decide, rfl⟩
  · exact ⟨by unfold KK; decide, rfl⟩
  · exact Tc_b x_l hx
/-- what touches no text keeps the relation -/
theorem Rt_fw (h : Rt s) (hf : Fw WR s s') : Rt s' := by
  obtain ⟨h1, h2, h3, ⟨h4, h5, h6⟩, h7, h8⟩ := h
  have hi_l : ∀ a_l k_l, a_l < 232 → WR a_l k_l = false → gI s' a_l k_l = gI s a_l k_l := fun a_l k_l ha_l hw => hf.2.2 a_l k_l (Nat.lt_of_lt_of_le ha_l hf.1.1) hw
  have hc_l : ∀ k_l, Tx k_l → cv s' 9 15 k_l = cv s 9 15 k_l ∧ cv s' 54 60 k_l = cv s 54 60 k_l := fun k_l hk => by
    obtain ⟨a1_l, a2, a3, a4⟩ := Tx_9 k_l hk.1.1 hk.1.2 hk.2
    exact ⟨hi_l _ _ a1_l a2, hi_l _ _ a3 a4⟩
  have w_l := @WR_t 0
  have e13_l := hi_l 0 13 (by decide) rfl
  have e14_l := hi_l 0 14 (by decide) rfl
  have e3_l := hi_l 217 3 (by decide) rfl
  have e6_l := hi_l 217 6 (by decide) rfl
  refine ⟨fun k_l hk => ?_, fun k_l => ?_, fun he k_l hk => ?_, ⟨?_, ?_, fun j_l hj k_l hk => ?_⟩, ?_, fun j_l hj k_l hk hm_l => ?_⟩
  · rw [hi_l 218 k_l (by decide) (Tx_8 k_l (by have := hk.1.1; omega) hk.2), (hc_l k_l hk).1]
    exact h1 k_l hk
  · rw [hi_l 2 k_l (by decide) rfl, hi_l 222 k_l (by decide) rfl]
    exact h2 k_l
  · rw [hi_l 219 k_l (by decide) rfl, (hc_l k_l hk).2]
    exact h3 (by rw [← e3_l]; exact he) k_l hk
  · rw [e13_l]; exact h4
  · rw [e14_l]; exact h5
  · rw [e13_l, (hc_l k_l (Tc_x hk)).1]
    rw [e14_l] at hj
    obtain ⟨a1_l, a2⟩ := Tc_q (i := ((gI s 0 13).toNat + 12 - j_l) % 12) (Nat.mod_lt _ (by decide)) hk
    refine (hi_l _ _ a1_l a2).trans ?_
    exact h6 j_l hj k_l hk
  · rw [e6_l]; exact h7
  · rw [e6_l] at hj
    rw [hi_l 221 _ (by decide) rfl, hi_l 218 k_l (by decide) (Tx_8 k_l hk hm_l)]
    exact h8 j_l hj k_l hk hm_l
theorem uq : ∀ a k, csq a k = true → WR a k = true := fun a k h_l => by
  unfold WR csd
  unfold csq at h_l
  rw [h_l]
  rfl
theorem ud : ∀ a k, csd a k = true → WR a k = true := fun a k h_l => by
  unfold WR
  rw [h_l]
  rfl
theorem umd : ∀ a k, msd a k = true → WR a k = true := fun a k h_l => by
  unfold WR
  rw [h_l]
  cases csd a k <;> rfl
theorem um : ∀ a k, mss a k = true → WR a k = true := mqd_o umd
theorem uA : ∀ k, WR 220 k = true := fun k => rfl
theorem JF (h : J p s) : Fw WR s s := Fw_rf h.1.1
theorem Jm (h : J p s) : gI s 218 4 ≤ 6 := (J_ra h (a := 218) (k := 4) (by decide) (by rw [k0_sp.2.2.2.1]; decide) rfl).2
theorem Rq {z : Option gO} (h : Rt s) (hq : gQ z (fun r => Fw WR s r.2.2.2)) : gQ z (fun r => Rt r.2.2.2) := fun r hr => Rt_fw h (hq r hr)
end Rw3
