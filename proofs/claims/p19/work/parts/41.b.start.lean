theorem z_row {a n : Nat} (h : gth es_H0 a = (2, n, [])) (k : Nat) : gI lw_s0 a k = 0 := by
  show gcI (gcell (gth es_H0 a) k) = 0
  rw [h]
  rfl
theorem z_2 : gth es_H0 2 = (2, 400, []) := by decide +kernel
theorem z_222 : gth es_H0 222 = (2, 400, []) := by decide +kernel
theorem z_30 : gth es_H0 30 = (2, 30, []) := by decide +kernel
theorem z_219 : gth es_H0 219 = (2, 740, []) := by decide +kernel
theorem z_220 : gth es_H0 220 = (2, 340, []) := by decide +kernel
theorem z_221 : gth es_H0 221 = (2, 4080, []) := by decide +kernel
noncomputable def okr (x : Int) (o : Option (Int × Int)) : Bool := match o with
  | some q => decide (q.1 ≤ x ∧ x ≤ q.2)
  | none => true
theorem okr_s {x : Int} {o : Option (Int × Int)} (h : okr x o = true) {q : Int × Int} (hq : o = some q) : q.1 ≤ x ∧ x ≤ q.2 := by
  rw [hq] at h
  exact of_decide_eq_true h
theorem z_218 : ∀ k, k < 76 → okr (gI lw_s0 218 k) (mrn k) = true := by decide +kernel
theorem z_f : ∀ a, a < 232 → ∀ k, k < 25 → k0 a < 13 → okr (gI lw_s0 a k) (if k0 a = 0 ∧ k = 9 then some (0, 50) else frn (k0 a) k) = true := by decide +kernel
theorem mrn_lt {k : Nat} {q : Int × Int} (h : mrn k = some q) : k < 76 := by
  by_cases hk : k < 76
  · exact hk
  · rw [mrn_none (by omega)] at h
    cases h
theorem mrn_z {k : Nat} {q : Int × Int} (h : mrn k = some q) : q.1 ≤ 0 ∧ 0 ≤ q.2 := by
  have hk := mrn_lt h
  have hz : ∀ k, k < 76 → okr 0 (mrn k) = true := by decide +kernel
  exact okr_s (hz k hk) h
theorem frn_lt {kd i : Nat} {q : Int × Int} (h : frn kd i = some q) : i < 25 := by
  unfold frn at h
  split at h
  all_goals first | decide | cases h
theorem z_law : ∀ a, a < 232 → k0 a = 0 → gR lw_s0 a 11 = 0 := by decide +kernel
theorem z_n : gn lw_s0 = 232 := by decide +kernel
theorem J_start : J (-1, 0, 0, 0, 0) lw_s0 := by
  refine ⟨⟨by rw [z_n]; exact Nat.le_refl _, fun a_l k_l _ _ => rfl, fun a_l k_l ha_l q_l hq => ?_, fun a_l ha_l h0 => Or.inl (z_law a_l ha_l h0)⟩, Or.inl (by decide +kernel), ⟨by decide +kernel, by decide +kernel, by decide +kernel, by decide +kernel⟩⟩
  unfold cr at hq
  by_cases hk : k0 a_l < 13
  · rw [if_pos hk] at hq
    by_cases h9 : k0 a_l = 0 ∧ k_l = 9
    · rw [if_pos h9] at hq
      have h1 := okr_s (z_f a_l ha_l k_l (by omega) hk) (q := (0, 50)) (by rw [if_pos h9])
      cases hq
      dsimp only at h1 ⊢
      refine ⟨?_, h1.2⟩
      split
      · omega
      · exact h1.1
    · rw [if_neg h9] at hq
      have hl := frn_lt hq
      exact okr_s (z_f a_l ha_l k_l hl hk) (by rw [if_neg h9]; exact hq)
  · rw [if_neg hk] at hq
    unfold arn at hq
    by_cases h1 : a_l = 2 ∨ a_l = 222
    · rw [if_pos h1] at hq
      have e_l : gI lw_s0 a_l k_l = 0 := by
        rcases h1 with rfl | rfl
        · exact z_row z_2 k_l
        · exact z_row z_222 k_l
      cases hq
      rw [e_l]
      decide
    rw [if_neg h1] at hq
    by_cases h2 : a_l = 30
    · rw [if_pos h2] at hq
      subst h2
      cases hq
      rw [z_row z_30 k_l]
      decide
    rw [if_neg h2] at hq
    by_cases h3 : a_l = 218 ∨ a_l = 219 ∨ a_l = 220
    · rw [if_pos h3] at hq
      rcases h3 with rfl | rfl | rfl
      · exact okr_s (z_218 k_l (mrn_lt hq)) hq
      · rw [z_row z_219 k_l]; exact mrn_z hq
      · rw [z_row z_220 k_l]; exact mrn_z hq
    rw [if_neg h3] at hq
    by_cases h4 : a_l = 221
    · rw [if_pos h4] at hq
      subst h4
      rw [z_row z_221 k_l]
      exact mrn_z hq
    rw [if_neg h4] at hq
    cases hq
theorem z_c2 : ∀ k, k < 100 → (k ≠ 1 ∧ k ≠ 2 ∧ k ≠ 15) → mnt k = false → okr (gI lw_s0 218 k - cv lw_s0 9 15 k) (some (0, 0)) = true := by decide +kernel
theorem z_c4 : ∀ k, k < 100 → (k ≠ 1 ∧ k ≠ 2 ∧ k ≠ 15) → mnt k = false → okr (gI lw_s0 218 k) (some (0, 100)) = true := by decide +kernel
theorem z_c3 : gI lw_s0 218 0 = 0 ∧ gI lw_s0 217 3 = 0 ∧ (0 ≤ gI lw_s0 0 13 ∧ gI lw_s0 0 13 ≤ 11) ∧ gI lw_s0 0 14 = 0 ∧ gI lw_s0 217 6 = 0 := by decide +kernel
theorem Rt_start : Rt lw_s0 := by
  obtain ⟨e1_l, e2_l, e3_l, e4_l, e5_l⟩ := z_c3
  refine Rt_5 (fun k_l hk => ⟨?_, fun hz => ?_, okr_s (z_c4 k_l hk.1.1 hk.1.2 hk.2) (q := (0, 100)) rfl⟩) (fun k_l => ?_) (fun hz => ?_) (c4_0 ?_ e4_l) (c5_0 e5_l)
  · have h1 := okr_s (z_c2 k_l hk.1.1 hk.1.2 hk.2) (q := (0, 0)) rfl
    dsimp only at h1
    omega
  · rw [hz, e1_l]
    decide
  · rw [z_row z_2 k_l, z_row z_222 k_l]
  · rw [e2_l] at hz
    omega
  · exact e3_l
theorem lw_D_ok : lw_D := by
  intro n_l sc_l hn _
  have key_l : ∀ (m_l : Nat) (x4_l : Int) (s_l : gS), 0 ≤ x4_l ∧ x4_l ≤ 3072 → (n_l : Int) - 6 < x4_l + 6 * m_l → (∃ l i_l, (i_l = 0 ∨ i_l = 1) ∧ J (-1, l, l, i_l, i_l) s_l ∧ RX s_l) → ∃ s', giter (st_511_23 n_l sc_l) (m_l + 1) (0, 217, 231, x4_l, s_l) = some (1, 1, 0, s') := by
    intro m_l
    induction m_l with
    | zero =>
      intro x4_l s_l hx hm_l hj
      obtain ⟨l, i_l, hi_l, hJ, hR⟩ := hj
      obtain ⟨r_l, h1, h2⟩ := lw_turn (n := n_l) (sc := sc_l) hn hx hi_l hJ hR
      cases r_l with
      | inl z_l =>
        have h3 : x4_l + 6 ≤ n_l := h2.2.2.2.2.1
        omega
      | inr r_l =>
        obtain ⟨r1_l, r2, r3, rs⟩ := r_l
        obtain ⟨e1_l, e2_l, e3_l⟩ := h2
        dsimp only at e1_l e2_l e3_l
        subst e1_l e2_l e3_l
        refine ⟨rs, ?_⟩
        show (sb_511_23 n_l sc_l 0 217 231 x4_l s_l).bind (Sum.elim (giter (st_511_23 n_l sc_l) 0) some) = _
        rw [h1]
        rfl
    | succ m_l ih_l =>
      intro x4_l s_l hx hm_l hj
      obtain ⟨l, i_l, hi_l, hJ, hR⟩ := hj
      obtain ⟨r_l, h1, h2⟩ := lw_turn (n := n_l) (sc := sc_l) hn hx hi_l hJ hR
      cases r_l with
      | inl z_l =>
        obtain ⟨z1, z2, z3, z4, zs⟩ := z_l
        obtain ⟨e1_l, e2_l, e3_l, e4_l, e5_l, e6_l⟩ := h2
        dsimp only at e1_l e2_l e3_l e4_l e5_l e6_l
        subst e1_l e2_l e3_l e4_l
        obtain ⟨s', h3⟩ := ih_l (x4_l + 6) zs (by omega) (by omega) e6_l
        refine ⟨s', ?_⟩
        show (sb_511_23 n_l sc_l 0 217 231 x4_l s_l).bind (Sum.elim (giter (st_511_23 n_l sc_l) (m_l + 1)) some) = _
        rw [h1]
        exact h3
      | inr r_l =>
        obtain ⟨r1_l, r2, r3, rs⟩ := r_l
        obtain ⟨e1_l, e2_l, e3_l⟩ := h2
        dsimp only at e1_l e2_l e3_l
        subst e1_l e2_l e3_l
        refine ⟨rs, ?_⟩
        show (sb_511_23 n_l sc_l 0 217 231 x4_l s_l).bind (Sum.elim (giter (st_511_23 n_l sc_l) (m_l + 1)) some) = _
        rw [h1]
        rfl
  exact key_l 512 0 lw_s0 (by omega) (by omega) ⟨0, 0, Or.inl rfl, J_start, ⟨Rt_start, Rx_start⟩⟩
