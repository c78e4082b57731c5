section Ma
variable {s u : gS}
theorem b_209 {A : Nat} (hA : A < 12) (hu : gI u 217 6 = (A : Int)) (r1 : gR u 217 1 = 218) (r5 : gR u 217 5 = 221) : gQ (fb_209_50 217 u) (fun r => Sm u r.2.2.2 ∧ gI r.2.2.2 217 6 = (A : Int) + 1 ∧ (∀ a k, a ≠ 221 → ¬ (a = 217 ∧ k = 6) → gI r.2.2.2 a k = gI u a k) ∧ (∀ k, k < 340 → gI r.2.2.2 221 (340 * A + k) = gI u 218 k) ∧ ∀ k, k < 340 * A → gI r.2.2.2 221 k = gI u 221 k) := by
  unfold fb_209_50
  refine gQ_loop (fun y_l => y_l.1 = 217 ∧ (0 ≤ y_l.2.1 ∧ y_l.2.1 ≤ 340) ∧ Sm u y_l.2.2 ∧ (∀ a k, a ≠ 221 → gI y_l.2.2 a k = gI u a k) ∧ (∀ k : Nat, (k : Int) < y_l.2.1 → gI y_l.2.2 221 (340 * A + k) = gI u 218 k) ∧ ∀ k, k < 340 * A → gI y_l.2.2 221 k = gI u 221 k) (fun y_l hy => ?_) ⟨rfl, ⟨Int.le_refl 0, (by decide : (0 : Int) ≤ 340)⟩, ⟨rfl, rfl, rfl⟩, fun _ _ _ => rfl, fun k hk => by dsimp only at hk; omega, fun _ _ => rfl⟩
  obtain ⟨x0_l, x1_l, y1⟩ := y_l
  obtain ⟨q0, hb_l, hs, h5, h6, h7⟩ := hy
  dsimp only at q0 hb_l hs h5 h6 h7
  subst q0
  have t1_l : gR y1 217 1 = 218 := by
    show y1.2.2.2 217 1 = 218
    rw [hs.2.2]
    exact r1
  have t5_l : gR y1 217 5 = 221 := by
    show y1.2.2.2 217 5 = 221
    rw [hs.2.2]
    exact r5
  have e6_l : gI y1 217 6 = (A : Int) := (h5 217 6 (by decide)).trans hu
  show gQ (sb_209_52 217 x1_l y1) _
  unfold sb_209_52
  rw [e6_l, t1_l, t5_l, g32_eq (v := 340 * (A : Int)) (by omega) (by omega)]
  by_cases c : x1_l < 340
  · rw [if_pos c, g32_eq (v := 340 * (A : Int) + x1_l) (by omega) (by omega), g32_eq (v := x1_l + 1) (by omega) (by omega), show (340 * (A : Int) + x1_l).toNat = 340 * A + x1_l.toNat by omega]
    refine gQ_chk (gQ_chk (gQ_ret ⟨rfl, ?_, hs, fun a k ha_l => ?_, fun k hk => ?_, fun k hk => ?_⟩))
    · dsimp only
      omega
    · dsimp only
      exact (rd_a rfl ha_l).trans (h5 a k ha_l)
    · dsimp only at hk ⊢
      show (if 221 = 221 ∧ 340 * A + k = 340 * A + x1_l.toNat then gI y1 218 x1_l.toNat else gI y1 221 (340 * A + k)) = _
      by_cases ck : k = x1_l.toNat
      · rw [if_pos ⟨rfl, by omega⟩, ck]
        exact h5 218 _ (by decide)
      · rw [if_neg (by omega)]
        exact h6 k (by omega)
    · dsimp only
      show (if 221 = 221 ∧ k = 340 * A + x1_l.toNat then gI y1 218 x1_l.toNat else gI y1 221 k) = _
      rw [if_neg (by omega)]
      exact h7 k hk
  · rw [if_neg c, g32_eq (v := (A : Int) + 1) (by omega) (by omega)]
    refine gQ_map (gQ_ret ⟨hs, rd_same rfl, fun a k ha_l hz => ?_, fun k hk => ?_, fun k hk => ?_⟩)
    · dsimp only
      show (if a = 217 ∧ k = 6 then _ else gI y1 a k) = _
      rw [if_neg hz]
      exact h5 a k ha_l
    · dsimp only
      exact (rd_a rfl (by decide)).trans (h6 k (by omega))
    · dsimp only
      exact (rd_a rfl (by decide)).trans (h7 k hk)
theorem rt_m {t : gS} (h : Rt s) (h6 : ∀ a k, a ≠ 221 → ¬ (a = 217 ∧ k = 6) → gI t a k = gI s a k) (hc : (0 ≤ gI t 217 6 ∧ gI t 217 6 ≤ 12) ∧ ∀ j : Nat, (j : Int) < gI t 217 6 → ∀ k, k < 340 → mnt k = false → gI t 221 (340 * j + k) = gI t 218 k) : Rt t := by
  obtain ⟨h1, h2, h3, ⟨h4, h5, h7⟩, -, -⟩ := h
  have hp : ∀ k, k < 100 → cv t 9 15 k = cv s 9 15 k ∧ cv t 54 60 k = cv s 54 60 k := fun k hk => by
    have := pa_15 k hk
    exact ⟨h6 _ _ (by omega) (by omega), h6 _ _ (by omega) (by omega)⟩
  have e13_l := h6 0 13 (by decide) (by decide)
  have e14_l := h6 0 14 (by decide) (by decide)
  refine ⟨fun k hk => ?_, fun k => ?_, fun he k hk => ?_, ⟨?_, ?_, fun j hj k hk => ?_⟩, hc⟩
  · rw [h6 218 k (by decide) (by omega), (hp k hk.1.1).1]
    exact h1 k hk
  · rw [h6 2 k (by decide) (by omega), h6 222 k (by decide) (by omega)]
    exact h2 k
  · rw [h6 219 k (by decide) (by omega), (hp k hk.1.1).2]
    exact h3 (by rw [← h6 217 3 (by decide) (by decide)]; exact he) k hk
  · rw [e13_l]; exact h4
  · rw [e14_l]; exact h5
  · rw [e13_l, (hp k (Tc_x hk).1.1).1]
    rw [e14_l] at hj
    refine Eq.trans ?_ (h7 j hj k hk)
    have hl : ((gI s 0 13).toNat + 12 - j) % 12 < 12 := Nat.mod_lt _ (by decide)
    obtain ⟨o, q_l, o1, o2, o3_l, o4_l⟩ := Tc_c hk
    refine h6 _ _ ?_ ?_
    · rw [o2]; unfold pst; omega
    · rw [o2]; unfold pst; omega
theorem rx_209 {a0 : Nat} (hg : RF s) (hn : 232 ≤ gn s) (e0 : a0 = 217) (h : Rt s) : gQ (f_209 a0 s) (fun r => (Rt r.2.2.2 ∧ RF r.2.2.2 ∧ 232 ≤ gn r.2.2.2) ∧ ∀ k, gI r.2.2.2 218 k = gI s 218 k) := by
  subst e0
  have hc_l := h.2.2.2.2
  have r1_l : gR s 217 1 = 218 := (rr_217_1 hg).2
  have r5_l : gR s 217 5 = 221 := (rr_217_5 hg).2
  have hfin : ∀ (t_l : gS) (A_l : Nat), A_l < 12 → gI t_l 217 6 = (A_l : Int) → Sm s t_l → (∀ a_l k, a_l ≠ 221 → ¬ (a_l = 217 ∧ k = 6) → gI t_l a_l k = gI s a_l k) → (∀ j_l, j_l < A_l → ∀ k, k < 340 → mnt k = false → gI t_l 221 (340 * j_l + k) = gI s 218 k) → gQ (fb_209_50 217 t_l) (fun r => (Rt r.2.2.2 ∧ RF r.2.2.2 ∧ 232 ≤ gn r.2.2.2) ∧ ∀ k, gI r.2.2.2 218 k = gI s 218 k) := by
    intro t_l A_l hA ht hs ho hj
    have t1_l : gR t_l 217 1 = 218 := by
      show t_l.2.2.2 217 1 = 218
      rw [hs.2.2]
      exact r1_l
    have t5_l : gR t_l 217 5 = 221 := by
      show t_l.2.2.2 217 5 = 221
      rw [hs.2.2]
      exact r5_l
    intro r hr
    obtain ⟨b1, b2, b3, b4, b5⟩ := b_209 hA ht t1_l t5_l r hr
    have hss : Sm s r.2.2.2 := ⟨b1.1.trans hs.1, b1.2.1.trans hs.2.1, b1.2.2.trans hs.2.2⟩
    refine ⟨⟨rt_m h (fun a_l k ha_l hz => (b3 a_l k ha_l hz).trans (ho a_l k ha_l hz)) ⟨by rw [b2]; omega, fun j_l hj2 k hk hm_l => ?_⟩, RF_sm hg hss.2.2, by show 232 ≤ r.2.2.2.1; rw [hss.1]; exact hn⟩, fun k => (b3 218 k (by decide) (by omega)).trans (ho 218 k (by decide) (by omega))⟩
    rw [b2] at hj2
    rw [b3 218 k (by decide) (by omega), ho 218 k (by decide) (by omega)]
    by_cases cj : j_l = A_l
    · rw [cj, b4 k hk]
      exact ho 218 k (by decide) (by omega)
    · rw [b5 _ (by omega)]
      exact hj j_l (by omega) k hk hm_l
  unfold f_209
  by_cases c12 : gI s 217 6 = 12
  · rw [if_pos c12]
    refine gQ_loop (fun y_l => y_l.1 = 217 ∧ (0 ≤ y_l.2.1 ∧ y_l.2.1 ≤ 3740) ∧ Sm s y_l.2.2 ∧ (∀ a_l k, a_l ≠ 221 → gI y_l.2.2 a_l k = gI s a_l k) ∧ (∀ k : Nat, (k : Int) < y_l.2.1 → gI y_l.2.2 221 k = gI s 221 (k + 340)) ∧ ∀ k : Nat, y_l.2.1 ≤ (k : Int) → gI y_l.2.2 221 k = gI s 221 k) (fun y_l hy => ?_) ⟨rfl, ⟨Int.le_refl 0, (by decide : (0 : Int) ≤ 3740)⟩, ⟨rfl, rfl, rfl⟩, fun _ _ _ => rfl, fun k hk => by dsimp only at hk; omega, fun _ _ => rfl⟩
    obtain ⟨x0_l, x1_l, y1⟩ := y_l
    obtain ⟨q0, hb_l, hs, h5, h6, h7⟩ := hy
    dsimp only at q0 hb_l hs h5 h6 h7
    subst q0
    have t5_l : gR y1 217 5 = 221 := by
      show y1.2.2.2 217 5 = 221
      rw [hs.2.2]
      exact r5_l
    show gQ (sb_209_11 217 x1_l y1) _
    unfold sb_209_11
    by_cases c : x1_l < 3740
    · rw [if_pos c, t5_l, g32_eq (v := x1_l + 340) (by omega) (by omega), g32_eq (v := x1_l + 1) (by omega) (by omega)]
      refine gQ_chk (gQ_chk (gQ_ret ⟨rfl, ?_, hs, fun a_l k ha_l => ?_, fun k hk => ?_, fun k hk => ?_⟩))
      · dsimp only
        omega
      · dsimp only
        exact (rd_a rfl ha_l).trans (h5 a_l k ha_l)
      · dsimp only at hk ⊢
        show (if 221 = 221 ∧ k = x1_l.toNat then gI y1 221 (x1_l + 340).toNat else gI y1 221 k) = _
        by_cases ck : k = x1_l.toNat
        · rw [if_pos ⟨rfl, ck⟩, h7 _ (by omega), show (x1_l + 340).toNat = k + 340 by omega]
        · rw [if_neg (by omega)]
          exact h6 k (by omega)
      · dsimp only at hk ⊢
        show (if 221 = 221 ∧ k = x1_l.toNat then gI y1 221 (x1_l + 340).toNat else gI y1 221 k) = _
        rw [if_neg (by omega)]
        exact h7 k (by omega)
    · rw [if_neg c]
      refine gQ_map ?_
      have e6_l : gI y1 217 6 = 12 := (h5 217 6 (by decide)).trans c12
      rw [e6_l, g32_eq (v := (12 : Int) - 1) (by omega) (by omega)]
      refine hfin (gw y1 217 6 (12 - 1)) 11 (by decide) (rd_same rfl) hs (fun a_l k ha_l hz => ?_) (fun j_l hj k hk hm_l => ?_)
      · show (if a_l = 217 ∧ k = 6 then _ else gI y1 a_l k) = _
        rw [if_neg hz]
        exact h5 a_l k ha_l
      · rw [rd_a (a := 221) rfl (by decide), h6 _ (by omega), show 340 * j_l + k + 340 = 340 * (j_l + 1) + k by omega]
        exact hc_l.2 (j_l + 1) (by omega) k hk hm_l
  · rw [if_neg c12]
    exact hfin s (gI s 217 6).toNat (by omega) (by omega) ⟨rfl, rfl, rfl⟩ (fun _ _ _ _ => rfl) (fun j_l hj k hk hm_l => hc_l.2 j_l (by omega) k hk hm_l)
theorem rt_209 {a0 : Nat} (hg : RF s) (hn : 232 ≤ gn s) (e0 : a0 = 217) (h : Rt s) : gQ (f_209 a0 s) (fun r => Rt r.2.2.2 ∧ RF r.2.2.2 ∧ 232 ≤ gn r.2.2.2) := fun r hr => (rx_209 hg hn e0 h r hr).1
end Ma
