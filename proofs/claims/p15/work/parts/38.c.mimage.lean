/-! the model's image, cell by cell -/
section Mi
variable {s : gS}
theorem x_261 (h1 : gR s 217 1 = 218) (h2 : gR s 217 2 = 219) : gQ (f_261 217 s) (fun r => Sm s r.2.2.2 ∧ (∀ k, k < 740 → gI r.2.2.2 219 k = gI s 218 k) ∧ gI r.2.2.2 217 3 = 1 ∧ ∀ a k, a ≠ 219 → ¬ (a = 217 ∧ (k = 0 ∨ k = 3)) → gI r.2.2.2 a k = gI s a k) := by
  unfold f_261
  refine gQ_loop (fun y_l => y_l.1 = 217 ∧ (0 ≤ y_l.2.1 ∧ y_l.2.1 ≤ 740) ∧ Sm s y_l.2.2 ∧ (∀ k : Nat, (k : Int) < y_l.2.1 → gI y_l.2.2 219 k = gI s 218 k) ∧ ∀ a k, a ≠ 219 → ¬ (a = 217 ∧ k = 0) → gI y_l.2.2 a k = gI s a k) (fun y_l hy => ?_) ⟨rfl, ⟨Int.le_refl 0, (by decide : (0 : Int) ≤ 740)⟩, ⟨rfl, rfl, rfl⟩, fun k hk => by dsimp only at hk; omega, fun a k ha_l hz => ?_⟩
  · obtain ⟨x0_l, x1_l, y1⟩ := y_l
    obtain ⟨q0, hb_l, hs, h5, h6⟩ := hy
    dsimp only at q0 hb_l hs h5 h6
    subst q0
    have r1_l : gR y1 217 1 = 218 := by
      show y1.2.2.2 217 1 = 218
      rw [hs.2.2]
      exact h1
    have r2 : gR y1 217 2 = 219 := by
      show y1.2.2.2 217 2 = 219
      rw [hs.2.2]
      exact h2
    show gQ (sb_261_7 217 x1_l y1) _
    unfold sb_261_7
    by_cases c : x1_l < 740
    · rw [if_pos c, r1_l, r2]
      refine gQ_chk (gQ_chk (gQ_ret ⟨rfl, ?_, hs, fun k hk => ?_, fun a k ha_l hz => ?_⟩))
      · dsimp only
        rw [g32_eq (v := x1_l + 1) (by omega) (by omega)]
        omega
      · dsimp only at hk ⊢
        rw [g32_eq (v := x1_l + 1) (by omega) (by omega)] at hk
        show (if 219 = 219 ∧ k = x1_l.toNat then gI y1 218 x1_l.toNat else gI y1 219 k) = _
        by_cases ck : k = x1_l.toNat
        · rw [if_pos ⟨rfl, ck⟩, ck]
          exact h6 218 _ (by decide) (by omega)
        · rw [if_neg (fun z_l => ck z_l.2)]
          exact h5 k (by omega)
      · dsimp only
        exact (rd_a rfl ha_l).trans (h6 a k ha_l hz)
    · rw [if_neg c]
      refine gQ_map (gQ_bool (gQ_ret ⟨hs, fun k hk => ?_, rd_same rfl, fun a k ha_l hz => ?_⟩))
      · dsimp only
        exact (rd_a rfl (by decide)).trans (h5 k (by omega))
      · dsimp only
        show (if a = 217 ∧ k = 3 then _ else gI y1 a k) = _
        rw [if_neg (by omega)]
        exact h6 a k ha_l (by omega)
  · dsimp only
    show (if a = 217 ∧ k = 0 then _ else gI s a k) = _
    rw [if_neg hz]
theorem x_262 (h1 : gR s 217 1 = 218) (h2 : gR s 217 2 = 219) (h3 : gI s 217 3 ≠ 0) : gQ (f_262 217 s) (fun r => Sm s r.2.2.2 ∧ (∀ k, k < 740 → gI r.2.2.2 218 k = gI s 219 k) ∧ gI r.2.2.2 217 6 = 0 ∧ ∀ a k, ¬ (a = 218 ∧ k < 740) → ¬ (a = 217 ∧ (k = 0 ∨ k = 6)) → gI r.2.2.2 a k = gI s a k) := by
  unfold f_262
  have e3_l : gI (gw s 217 0 0) 217 3 = gI s 217 3 := rd_k (a := 217) (k := 3) rfl (by decide)
  dsimp only
  rw [e3_l, if_neg h3]
  refine gQ_loop (fun y_l => y_l.1 = 217 ∧ (0 ≤ y_l.2.1 ∧ y_l.2.1 ≤ 740) ∧ Sm s y_l.2.2 ∧ (∀ k : Nat, (k : Int) < y_l.2.1 → gI y_l.2.2 218 k = gI s 219 k) ∧ ∀ a k, ¬ (a = 218 ∧ k < 740) → ¬ (a = 217 ∧ k = 0) → gI y_l.2.2 a k = gI s a k) (fun y_l hy => ?_) ⟨rfl, ⟨Int.le_refl 0, (by decide : (0 : Int) ≤ 740)⟩, ⟨rfl, rfl, rfl⟩, fun k hk => by dsimp only at hk; omega, fun a k ha_l hz => ?_⟩
  · obtain ⟨x0_l, x1_l, y1⟩ := y_l
    obtain ⟨q0, hb_l, hs, h5, h6⟩ := hy
    dsimp only at q0 hb_l hs h5 h6
    subst q0
    have r1_l : gR y1 217 1 = 218 := by
      show y1.2.2.2 217 1 = 218
      rw [hs.2.2]
      exact h1
    have r2 : gR y1 217 2 = 219 := by
      show y1.2.2.2 217 2 = 219
      rw [hs.2.2]
      exact h2
    show gQ (sb_262_16 217 x1_l y1) _
    unfold sb_262_16
    by_cases c : x1_l < 740
    · rw [if_pos c, r1_l, r2]
      refine gQ_chk (gQ_chk (gQ_ret ⟨rfl, ?_, hs, fun k hk => ?_, fun a k ha_l hz => ?_⟩))
      · dsimp only
        rw [g32_eq (v := x1_l + 1) (by omega) (by omega)]
        omega
      · dsimp only at hk ⊢
        rw [g32_eq (v := x1_l + 1) (by omega) (by omega)] at hk
        show (if 218 = 218 ∧ k = x1_l.toNat then gI y1 219 x1_l.toNat else gI y1 218 k) = _
        by_cases ck : k = x1_l.toNat
        · rw [if_pos ⟨rfl, ck⟩, ck]
          exact h6 219 _ (by omega) (by omega)
        · rw [if_neg (fun z_l => ck z_l.2)]
          exact h5 k (by omega)
      · dsimp only
        show (if a = 218 ∧ k = x1_l.toNat then _ else gI y1 a k) = _
        rw [if_neg (by omega)]
        exact h6 a k ha_l hz
    · rw [if_neg c]
      refine gQ_map (gQ_ret ⟨hs, fun k hk => ?_, rd_same rfl, fun a k ha_l hz => ?_⟩)
      · dsimp only
        exact (rd_a rfl (by decide)).trans (h5 k (by omega))
      · dsimp only
        show (if a = 217 ∧ k = 6 then _ else gI y1 a k) = _
        rw [if_neg (by omega)]
        exact h6 a k ha_l (by omega)
  · dsimp only
    show (if a = 217 ∧ k = 0 then _ else gI s a k) = _
    rw [if_neg hz]
end Mi
