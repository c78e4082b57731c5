/-! the full relation at the start -/
theorem x_kk : ∀ k, k < 100 → (k ≠ 1 ∧ k ≠ 2 ∧ k ≠ 15) → (gI lw_s0 218 k == cv lw_s0 9 15 k) = true := by decide +kernel
theorem x_v : (gI lw_s0 218 3 = 0 ∧ gI lw_s0 218 4 = 0) ∧ (∀ i, i < 6 → gI lw_s0 218 (40 + 6 * i) = 0 ∧ gI lw_s0 218 (43 + 6 * i) = 0 ∧ gI lw_s0 218 (44 + 6 * i) = 0) ∧ ∀ i, i < 8 → gI lw_s0 218 (16 + 3 * i) = 0 ∧ gI lw_s0 218 (16 + 3 * i + 2) = 0 := by decide +kernel
theorem x_c : gI lw_s0 218 13 = 0 ∧ gI lw_s0 217 3 = 0 ∧ (0 ≤ gI lw_s0 0 13 ∧ gI lw_s0 0 13 ≤ 11) ∧ gI lw_s0 0 14 = 0 ∧ gI lw_s0 217 6 = 0 ∧ gI lw_s0 218 1 = -1 ∧ gR lw_s0 9 11 = 0 := by decide +kernel
theorem x_6 : gI lw_s0 218 6 = 0 := by decide +kernel
theorem Rx_start : Rx lw_s0 := by
  obtain ⟨e1_l, e2_l, e3_l, e4_l, e5_l, e6_l, e7_l⟩ := x_c
  obtain ⟨⟨v3, v4_l⟩, v5, v6⟩ := x_v
  refine ⟨⟨fun k_l hk => ?_, ⟨⟨⟨?_, ?_⟩, fun i_l hi_l => ?_, fun i_l hi_l => ?_⟩, fun i_l hi_l h4 => ?_, fun r_l hr h6 => ?_⟩, ?_, fun i_l j_l hi_l hj => ?_⟩, fun hz => ?_, ⟨e4_l.trans e5_l.symm, e3_l, by rw [e4_l]; decide, fun j_l hj => ?_⟩, fun _ => -1, Or.inl ⟨rfl, e6_l, e7_l⟩⟩
  · rw [Nat.zero_add]
    exact eq_of_beq (x_kk k_l hk.1 hk.2)
  · simp only [Nat.zero_add]
    rw [v3]; decide
  · simp only [Nat.zero_add]
    rw [v4_l]; decide
  · simp only [Nat.zero_add]
    obtain ⟨a1_l, a2, a3⟩ := v5 i_l hi_l
    rw [a1_l, a2, a3]; decide
  · simp only [Nat.zero_add]
    obtain ⟨a1_l, a2⟩ := v6 i_l hi_l
    rw [a1_l, a2]; decide
  · simp only [Nat.zero_add] at h4
    rw [v4_l] at h4
    omega
  · simp only [Nat.zero_add] at h6
    rw [x_6] at h6
    omega
  · rw [Nat.zero_add, e1_l]; decide
  · rw [Nat.zero_add, e1_l] at hi_l
    omega
  · rw [e2_l] at hz
    omega
  · rw [e4_l] at hj
    omega
