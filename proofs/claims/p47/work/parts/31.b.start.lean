theorem z_row {a n : Nat} (h : gth es_H0 a = (2, n, [])) (k : Nat) : gI lw_s0 a k = 0 := by
  show gcI (gcell (gth es_H0 a) k) = 0
  rw [h]
  rfl
theorem z_2 : gth es_H0 2 = (2, 400, []) := by decide +kernel
theorem z_222 : gth es_H0 222 = (2, 400, []) := by decide +kernel
theorem z_30 : gth es_H0 30 = (2, 30, []) := by decide +kernel
theorem z_219 : gth es_H0 219 = (2, 740, []) := by decide +kernel
theorem z_220 : gth es_H0 220 = (2, 340, []) := by decide +kernel
theorem z_221 : gth es_H0 221 = (2, 4080, []) := by decide +kernel
def okr (x : Int) (o : Option (Int × Int)) : Bool := match o with
  | some q => decide (q.1 ≤ x ∧ x ≤ q.2)
  | none => true
theorem okr_s {x : Int} {o : Option (Int × Int)} (h : okr x o = true) {q : Int × Int} (hq : o = some q) : q.1 ≤ x ∧ x ≤ q.2 := by
  rw [hq] at h
  exact of_decide_eq_true h
theorem z_218 : ∀ k, k < 76 → okr (gI lw_s0 218 k) (mrn k) = true := by decide +kernel
theorem z_f : ∀ a, a < 232 → ∀ k, k < 25 → k0 a < 13 → okr (gI lw_s0 a k) (if k0 a = 0 ∧ k = 9 then some (0, 50) else frn (k0 a) k) = true := by decide +kernel
theorem mrn_lt {k : Nat} {q : Int × Int} (h : mrn k = some q) : k < 76 := by
  by_cases hk : k < 76
  · exact hk
  · rw [mrn_none (by omega)] at h
    cases h
theorem mrn_z {k : Nat} {q : Int × Int} (h : mrn k = some q) : q.1 ≤ 0 ∧ 0 ≤ q.2 := by
  have hk := mrn_lt h
  have hz : ∀ k, k < 76 → okr 0 (mrn k) = true := by decide +kernel
  exact okr_s (hz k hk) h
theorem frn_lt {kd i : Nat} {q : Int × Int} (h : frn kd i = some q) : i < 25 := by
  unfold frn at h
  split at h
  all_goals first | decide | cases h
theorem z_law : ∀ a, a < 232 → k0 a = 0 → gR lw_s0 a 11 = 0 := by decide +kernel
theorem z_n : gn lw_s0 = 232 := by decide +kernel
theorem J_start : J (-1, 0, 0, 0, 0) lw_s0 := by
  refine ⟨⟨by rw [z_n]; exact Nat.le_refl _, fun a k _ _ => rfl, fun a k ha q hq => ?_, fun a ha h0 => Or.inl (z_law a ha h0)⟩, Or.inl (by decide +kernel), ⟨by decide +kernel, by decide +kernel, by decide +kernel, by decide +kernel⟩⟩
  unfold cr at hq
  by_cases hk : k0 a < 13
  · rw [if_pos hk] at hq
    by_cases h9 : k0 a = 0 ∧ k = 9
    · rw [if_pos h9] at hq
      have h1 := okr_s (z_f a ha k (by omega) hk) (q := (0, 50)) (by rw [if_pos h9])
      cases hq
      dsimp only at h1 ⊢
      refine ⟨?_, h1.2⟩
      split
      · omega
      · exact h1.1
    · rw [if_neg h9] at hq
      have hl := frn_lt hq
      exact okr_s (z_f a ha k hl hk) (by rw [if_neg h9]; exact hq)
  · rw [if_neg hk] at hq
    unfold arn at hq
    by_cases h1 : a = 2 ∨ a = 222
    · rw [if_pos h1] at hq
      have e : gI lw_s0 a k = 0 := by
        rcases h1 with rfl | rfl
        · exact z_row z_2 k
        · exact z_row z_222 k
      cases hq
      rw [e]
      decide
    rw [if_neg h1] at hq
    by_cases h2 : a = 30
    · rw [if_pos h2] at hq
      subst h2
      cases hq
      rw [z_row z_30 k]
      decide
    rw [if_neg h2] at hq
    by_cases h3 : a = 218 ∨ a = 219 ∨ a = 220
    · rw [if_pos h3] at hq
      rcases h3 with rfl | rfl | rfl
      · exact okr_s (z_218 k (mrn_lt hq)) hq
      · rw [z_row z_219 k]; exact mrn_z hq
      · rw [z_row z_220 k]; exact mrn_z hq
    rw [if_neg h3] at hq
    by_cases h4 : a = 221
    · rw [if_pos h4] at hq
      subst h4
      rw [z_row z_221 k]
      exact mrn_z hq
    rw [if_neg h4] at hq
    cases hq
theorem lw_D_ok : lw_D := by
  intro n sc hn _
  have key : ∀ (m : Nat) (x4 : Int) (s : gS), 0 ≤ x4 ∧ x4 ≤ 3072 → (n : Int) - 6 < x4 + 6 * m → (∃ l i, J (-1, l, l, i, i) s) → ∃ s', giter (st_511_23 n sc) (m + 1) (0, 217, 231, x4, s) = some (1, 1, 0, s') := by
    intro m
    induction m with
    | zero =>
      intro x4 s hx hm hj
      obtain ⟨l, i, hJ⟩ := hj
      obtain ⟨r, h1, h2⟩ := lw_turn (n := n) (sc := sc) hn hx hJ
      cases r with
      | inl z =>
        have h3 : x4 + 6 ≤ n := h2.2.2.2.2.1
        omega
      | inr r =>
        obtain ⟨r1, r2, r3, rs⟩ := r
        obtain ⟨e1, e2, e3⟩ := h2
        dsimp only at e1 e2 e3
        subst e1 e2 e3
        refine ⟨rs, ?_⟩
        show (sb_511_23 n sc 0 217 231 x4 s).bind (Sum.elim (giter (st_511_23 n sc) 0) some) = _
        rw [h1]
        rfl
    | succ m ih =>
      intro x4 s hx hm hj
      obtain ⟨l, i, hJ⟩ := hj
      obtain ⟨r, h1, h2⟩ := lw_turn (n := n) (sc := sc) hn hx hJ
      cases r with
      | inl z =>
        obtain ⟨z1, z2, z3, z4, zs⟩ := z
        obtain ⟨e1, e2, e3, e4, e5, e6⟩ := h2
        dsimp only at e1 e2 e3 e4 e5 e6
        subst e1 e2 e3 e4
        obtain ⟨s', h3⟩ := ih (x4 + 6) zs (by omega) (by omega) e6
        refine ⟨s', ?_⟩
        show (sb_511_23 n sc 0 217 231 x4 s).bind (Sum.elim (giter (st_511_23 n sc) (m + 1)) some) = _
        rw [h1]
        exact h3
      | inr r =>
        obtain ⟨r1, r2, r3, rs⟩ := r
        obtain ⟨e1, e2, e3⟩ := h2
        dsimp only at e1 e2 e3
        subst e1 e2 e3
        refine ⟨rs, ?_⟩
        show (sb_511_23 n sc 0 217 231 x4 s).bind (Sum.elim (giter (st_511_23 n sc) (m + 1)) some) = _
        rw [h1]
        rfl
  exact key 512 0 lw_s0 (by omega) (by omega) ⟨0, 0, J_start⟩
