/-! what the copying calls do, cell by cell -/
theorem court_at : ∀ a, a < 232 → k0 a = 2 → (r0 a 0 = a + 1 ∧ r0 a 1 = a + 2 ∧ r0 a 2 = a + 3 ∧ r0 a 3 = a + 4 ∧ r0 (a + 4) 0 = a + 5) ∧ (∀ i, i < 6 → r0 (a + 1) i = a + 6 + i) ∧ a + 11 < 217 ∧ k0 (a + 1) = 152 ∧ k0 (a + 4) = 6 := by decide +kernel
theorem book_at : ∀ a, a < 232 → k0 a = 0 → (∀ f, f < 5 → r0 a f = a + 1 + f) ∧ a + 5 < 217 := by decide +kernel
theorem court_l : ∀ a, a < 232 → k0 a = 2 → a = 15 ∨ a = 42 ∨ a = 60 ∨ (73 ≤ a ∧ (a - 73) % 12 = 0) := by decide +kernel
theorem court_ap : ∀ a, a < 232 → k0 a = 2 → ∀ b, b < 232 → k0 b = 2 → a = b ∨ a + 12 ≤ b ∨ b + 12 ≤ a := fun a ha_l h_l b hb_l h2 => by
  have h3 := court_l a ha_l h_l
  have h4 := court_l b hb_l h2
  clear h_l h2
  omega
theorem nn_1 {b x : Nat} {Q : Prop} (h : b ≠ x) : ¬ (b = x ∧ Q) := fun z_l => h z_l.1
theorem nn_2 {j n : Nat} {Q : Prop} (h : j ≠ n) : ¬ (Q ∧ j = n) := fun z_l => h z_l.2
theorem na_1 {a x y : Nat} (h : x ≠ y) : a + x ≠ a + y := fun e_l => h (Nat.add_left_cancel e_l)
theorem gR_e {s s' : gS} (h : s'.2.2.2 = s.2.2.2) {a k : Nat} : gR s' a k = gR s a k := by
  unfold gR
  rw [h]
theorem zj_0 {j : Nat} : 0 + (j - 0) = j := by omega
section Cp
variable {p : gP} {s : gS} {a0 a1 : Nat}
/-- refs of the start -/
noncomputable def RF (s : gS) : Prop := ∀ a k, a < 232 → ¬ (k0 a = 0 ∧ k = 11) → gR s a k = r0 a k
theorem J_RF (h : J p s) : RF s := h.1.2.1
theorem RF_sm {s' : gS} (h : RF s) (hs : s'.2.2.2 = s.2.2.2) : RF s' := fun a_l k_l h1 h2 => by
  unfold gR
  rw [hs]
  exact h a_l k_l h1 h2
theorem s_59 (hn : a0 ≠ a1) : gT (f_59 a0 a1 s) (fun r => r.1 = 0 ∧ (r.2.2.2.1 = s.1 ∧ r.2.2.2.2.1 = s.2.1 ∧ r.2.2.2.2.2.2 = s.2.2.2) ∧ ∀ b j, (b = a0 ∧ j < 6 → gI r.2.2.2 b j = gI s a1 j) ∧ (¬ (b = a0 ∧ j < 6) → gI r.2.2.2 b j = gI s b j)) := by
  unfold f_59
  refine gT_ret ⟨rfl, ⟨rfl, rfl, rfl⟩, fun b j => ?_⟩
  have n_l : a1 ≠ a0 := fun e_l => hn e_l.symm
  dsimp only
  simp only [rd_w]
  refine ⟨fun h_l => ?_, fun h_l => ?_⟩
  · obtain ⟨rfl, hj⟩ := h_l
    have h6 : j = 0 ∨ j = 1 ∨ j = 2 ∨ j = 3 ∨ j = 4 ∨ j = 5 := by omega
    rcases h6 with rfl | rfl | rfl | rfl | rfl | rfl <;> simp [n_l]
  · rw [if_neg (by omega), if_neg (by omega), if_neg (by omega), if_neg (by omega), if_neg (by omega), if_neg (by omega)]
theorem j49 {j : Nat} (h1 : 4 ≤ j) (h2 : j ≤ 9) : j = 4 ∨ j = 5 ∨ j = 6 ∨ j = 7 ∨ j = 8 ∨ j = 9 := by omega
/-- cells of a court that copyCourse writes -/
noncomputable def CCr (a b j : Nat) : Prop := (b = a ∧ 4 ≤ j ∧ j ≤ 9) ∨ ((b = a + 2 ∨ b = a + 3) ∧ j < 6) ∨ (a + 6 ≤ b ∧ b ≤ a + 11 ∧ j < 6)
noncomputable def CC (a0 a1 : Nat) (s s' : gS) : Prop := (s'.1 = s.1 ∧ s'.2.1 = s.2.1 ∧ s'.2.2.2 = s.2.2.2) ∧ ∀ b j, (CCr a0 b j → gI s' b j = gI s (b - a0 + a1) j) ∧ (¬ CCr a0 b j → gI s' b j = gI s b j)
theorem s_23 (hr : RF s) (t0 : T 2 a0) (t1 : T 2 a1) (hn : a0 ≠ a1) : gT (f_23 a0 a1 s) (fun r => r.1 = 0 ∧ CC a0 a1 s r.2.2.2) := by
  obtain ⟨⟨c0_l, c1_l, c2_l, c3_l, c4_l⟩, c5_l, c6_l, c7_l, c8_l⟩ := court_at a0 t0.1 t0.2
  obtain ⟨⟨d0_l, d1_l, d2_l, d3_l, d4_l⟩, d5_l, d6_l, d7_l, d8_l⟩ := court_at a1 t1.1 t1.2
  have ap := court_ap a0 t0.1 t0.2 a1 t1.1 t1.2
  unfold f_23
  refine gT_loop (fun y_l => y_l.1 = a0 ∧ y_l.2.1 = a1 ∧ (0 ≤ y_l.2.2.1 ∧ y_l.2.2.1 ≤ 6) ∧ (y_l.2.2.2.1 = s.1 ∧ y_l.2.2.2.2.1 = s.2.1 ∧ y_l.2.2.2.2.2.2 = s.2.2.2) ∧ ∀ (b_l j_l : Nat), (((a0 + 6 : Nat) : Int) ≤ b_l ∧ (b_l : Int) < a0 + 6 + y_l.2.2.1 ∧ j_l < 6 → gI y_l.2.2.2 b_l j_l = gI s (b_l - a0 + a1) j_l) ∧ (¬ (((a0 + 6 : Nat) : Int) ≤ b_l ∧ (b_l : Int) < a0 + 6 + y_l.2.2.1 ∧ j_l < 6) → gI y_l.2.2.2 b_l j_l = gI s b_l j_l)) (fun y_l => (6 - y_l.2.2.1).toNat) ?_ ?_
  rotate_left
  · dsimp only
    exact ⟨rfl, rfl, by decide, ⟨rfl, rfl, rfl⟩, fun b_l j_l => ⟨fun h_l => by omega, fun _ => rfl⟩⟩
  intro y_l hy
  obtain ⟨x0_l, x1_l, x2_l, z_l⟩ := y_l
  obtain ⟨q0, q1_l, r2, hs, hc_l⟩ := hy
  dsimp only at q0 q1_l r2 hs hc_l
  subst q0 q1_l
  have rz : RF z_l := RF_sm hr hs.2.2
  have e1_l := g32_eq (v := x2_l + 1) (by omega) (by omega)
  show gT (sb_23_2 x0_l x1_l x2_l z_l) _
  unfold sb_23_2
  have m0_l : gR z_l x0_l 0 = x0_l + 1 := (rz x0_l 0 t0.1 (fun e_l => by rw [t0.2] at e_l; omega)).trans c0_l
  have m1_l : gR z_l x1_l 0 = x1_l + 1 := (rz x1_l 0 t1.1 (fun e_l => by rw [t1.2] at e_l; omega)).trans d0_l
  refine gT_ite (fun hx => ?_) (fun hx => gT_map ?_)
  · refine gT_chk (by omega) (by omega) (gT_chk (by omega) (by omega) ?_)
    have n0_l : gR z_l (x0_l + 1) x2_l.toNat = x0_l + 6 + x2_l.toNat := (rz (x0_l + 1) _ (by omega) (fun e_l => by rw [c7_l] at e_l; omega)).trans (c5_l _ (by omega))
    have n1_l : gR z_l (x1_l + 1) x2_l.toNat = x1_l + 6 + x2_l.toNat := (rz (x1_l + 1) _ (by omega) (fun e_l => by rw [d7_l] at e_l; omega)).trans (d5_l _ (by omega))
    rw [m0_l, m1_l, n0_l, n1_l]
    refine gT_v0 (A := fun u_l => (u_l.1 = z_l.1 ∧ u_l.2.1 = z_l.2.1 ∧ u_l.2.2.2 = z_l.2.2.2) ∧ ∀ b_l j_l, (b_l = x0_l + 6 + x2_l.toNat ∧ j_l < 6 → gI u_l b_l j_l = gI z_l (x1_l + 6 + x2_l.toNat) j_l) ∧ (¬ (b_l = x0_l + 6 + x2_l.toNat ∧ j_l < 6) → gI u_l b_l j_l = gI z_l b_l j_l)) (s_59 (by omega)) (fun s1_l h1 => ?_)
    obtain ⟨k1_l, k2_l⟩ := h1
    refine gT_ret ⟨⟨rfl, rfl, by dsimp only; omega, ⟨k1_l.1.trans hs.1, k1_l.2.1.trans hs.2.1, k1_l.2.2.trans hs.2.2⟩, fun b_l j_l => ?_⟩, by dsimp only; omega⟩
    dsimp only
    refine ⟨fun h_l => ?_, fun h_l => ?_⟩
    · by_cases e_l : b_l = x0_l + 6 + x2_l.toNat
      · rw [(k2_l b_l j_l).1 ⟨e_l, h_l.2.2⟩, (hc_l _ j_l).2 (by omega)]
        rw [show b_l - x0_l + x1_l = x1_l + 6 + x2_l.toNat by omega]
      · rw [(k2_l b_l j_l).2 (fun z_l => e_l z_l.1)]
        exact (hc_l b_l j_l).1 (by omega)
    · rw [(k2_l b_l j_l).2 (by omega)]
      exact (hc_l b_l j_l).2 (by omega)
  · have p1_l : gR z_l x1_l 1 = x1_l + 2 := (rz x1_l 1 t1.1 (fun e_l => by rw [t1.2] at e_l; omega)).trans d1_l
    have p2_l : gR z_l x0_l 1 = x0_l + 2 := (rz x0_l 1 t0.1 (fun e_l => by rw [t0.2] at e_l; omega)).trans c1_l
    have p3_l : gR z_l x1_l 2 = x1_l + 3 := (rz x1_l 2 t1.1 (fun e_l => by rw [t1.2] at e_l; omega)).trans d2_l
    have p4_l : gR z_l x0_l 2 = x0_l + 3 := (rz x0_l 2 t0.1 (fun e_l => by rw [t0.2] at e_l; omega)).trans c2_l
    extract_lets s3 s4 s5 s6 s7 s8 s9 s10
    have i3_l : ∀ b_l j_l, gI s3 b_l j_l = if b_l = x0_l + 2 ∧ 0 ≤ j_l ∧ j_l < 0 + 6 then gI z_l (x1_l + 2) (0 + (j_l - 0)) else gI z_l b_l j_l := fun b_l j_l => by
      show gI (gcpy z_l (gR z_l x1_l 1) 0 (gR z_l x0_l 1) 0 6) b_l j_l = _
      rw [p1_l, p2_l, gcpy_I]
    have u3 : s3.1 = z_l.1 ∧ s3.2.1 = z_l.2.1 ∧ s3.2.2.2 = z_l.2.2.2 := ⟨rfl, rfl, rfl⟩
    clear_value s3
    have i4_l : ∀ b_l j_l, gI s4 b_l j_l = if b_l = x0_l + 3 ∧ 0 ≤ j_l ∧ j_l < 0 + 6 then gI s3 (x1_l + 3) (0 + (j_l - 0)) else gI s3 b_l j_l := fun b_l j_l => by
      show gI (gcpy s3 (gR s3 x1_l 2) 0 (gR s3 x0_l 2) 0 6) b_l j_l = _
      rw [gR_e u3.2.2, gR_e u3.2.2, p3_l, p4_l, gcpy_I]
    have u4_l : s4.1 = z_l.1 ∧ s4.2.1 = z_l.2.1 ∧ s4.2.2.2 = z_l.2.2.2 := ⟨u3.1, u3.2.1, u3.2.2⟩
    clear_value s4
    have i5_l : ∀ b_l j_l, gI s5 b_l j_l = if b_l = x0_l ∧ j_l = 4 then gI s4 x1_l 4 else gI s4 b_l j_l := fun _ _ => rfl
    have u5 : s5.1 = z_l.1 ∧ s5.2.1 = z_l.2.1 ∧ s5.2.2.2 = z_l.2.2.2 := ⟨u4_l.1, u4_l.2.1, u4_l.2.2⟩
    clear_value s5
    have i6_l : ∀ b_l j_l, gI s6 b_l j_l = if b_l = x0_l ∧ j_l = 5 then gI s5 x1_l 5 else gI s5 b_l j_l := fun _ _ => rfl
    have u6 : s6.1 = z_l.1 ∧ s6.2.1 = z_l.2.1 ∧ s6.2.2.2 = z_l.2.2.2 := ⟨u5.1, u5.2.1, u5.2.2⟩
    clear_value s6
    have i7_l : ∀ b_l j_l, gI s7 b_l j_l = if b_l = x0_l ∧ j_l = 6 then gI s6 x1_l 6 else gI s6 b_l j_l := fun _ _ => rfl
    have u7 : s7.1 = z_l.1 ∧ s7.2.1 = z_l.2.1 ∧ s7.2.2.2 = z_l.2.2.2 := ⟨u6.1, u6.2.1, u6.2.2⟩
    clear_value s7
    have i8_l : ∀ b_l j_l, gI s8 b_l j_l = if b_l = x0_l ∧ j_l = 7 then gI s7 x1_l 7 else gI s7 b_l j_l := fun _ _ => rfl
    have u8 : s8.1 = z_l.1 ∧ s8.2.1 = z_l.2.1 ∧ s8.2.2.2 = z_l.2.2.2 := ⟨u7.1, u7.2.1, u7.2.2⟩
    clear_value s8
    have i9_l : ∀ b_l j_l, gI s9 b_l j_l = if b_l = x0_l ∧ j_l = 8 then gI s8 x1_l 8 else gI s8 b_l j_l := fun _ _ => rfl
    have u9 : s9.1 = z_l.1 ∧ s9.2.1 = z_l.2.1 ∧ s9.2.2.2 = z_l.2.2.2 := ⟨u8.1, u8.2.1, u8.2.2⟩
    clear_value s9
    have i10_l : ∀ b_l j_l, gI s10 b_l j_l = if b_l = x0_l ∧ j_l = 9 then gI s9 x1_l 9 else gI s9 b_l j_l := fun _ _ => rfl
    have u10 : s10.1 = z_l.1 ∧ s10.2.1 = z_l.2.1 ∧ s10.2.2.2 = z_l.2.2.2 := ⟨u9.1, u9.2.1, u9.2.2⟩
    clear_value s10
    have hs10 : s10.1 = s.1 ∧ s10.2.1 = s.2.1 ∧ s10.2.2.2 = s.2.2.2 := ⟨u10.1.trans hs.1, u10.2.1.trans hs.2.1, u10.2.2.trans hs.2.2⟩
    clear u3 u4_l u5 u6 u7 u8 u9 u10
    have q_l : ∀ c_l, c_l < 12 → x1_l ≠ x0_l + c_l := fun c_l hc_l => by omega
    have n1_l : x1_l ≠ x0_l := fun e_l => hn e_l.symm
    have x4_l : ∀ f_l, gI s4 x1_l f_l = gI z_l x1_l f_l := fun f_l => by rw [i4_l, if_neg (nn_1 (q_l 3 (by decide))), i3_l, if_neg (nn_1 (q_l 2 (by decide)))]
    have x5_l : ∀ f_l, gI s5 x1_l f_l = gI z_l x1_l f_l := fun f_l => by rw [i5_l, if_neg (nn_1 n1_l), x4_l]
    have x6 : ∀ f_l, gI s6 x1_l f_l = gI z_l x1_l f_l := fun f_l => by rw [i6_l, if_neg (nn_1 n1_l), x5_l]
    have x7 : ∀ f_l, gI s7 x1_l f_l = gI z_l x1_l f_l := fun f_l => by rw [i7_l, if_neg (nn_1 n1_l), x6]
    have x8 : ∀ f_l, gI s8 x1_l f_l = gI z_l x1_l f_l := fun f_l => by rw [i8_l, if_neg (nn_1 n1_l), x7]
    have x9 : ∀ f_l, gI s9 x1_l f_l = gI z_l x1_l f_l := fun f_l => by rw [i9_l, if_neg (nn_1 n1_l), x8]
    have y4 : ∀ b_l j_l, b_l ≠ x0_l → gI s10 b_l j_l = gI s4 b_l j_l := fun b_l j_l hb_l => by
      rw [i10_l, if_neg (nn_1 hb_l), i9_l, if_neg (nn_1 hb_l), i8_l, if_neg (nn_1 hb_l), i7_l, if_neg (nn_1 hb_l), i6_l, if_neg (nn_1 hb_l), i5_l, if_neg (nn_1 hb_l)]
    have e6_l : x2_l = 6 := by omega
    subst e6_l
    clear p1_l p2_l p3_l p4_l m0_l m1_l c0_l c1_l c2_l c3_l c4_l d0_l d1_l d2_l d3_l d4_l c5_l d5_l c7_l c8_l d7_l d8_l rz e1_l hs
    refine gT_ret ⟨rfl, hs10, fun b_l j_l => ⟨fun h_l => ?_, fun h_l => ?_⟩⟩
    · dsimp only
      clear hs10
      unfold CCr at h_l
      rcases h_l with ⟨rfl, h1, h2⟩ | ⟨h1, h2⟩ | ⟨h1, h2, h3⟩
      · rw [show b_l - b_l + x1_l = x1_l by omega, ← (hc_l x1_l j_l).2 (by omega)]
        rcases j49 h1 h2 with rfl | rfl | rfl | rfl | rfl | rfl
        · rw [i10_l, if_neg (nn_2 (by decide)), i9_l, if_neg (nn_2 (by decide)), i8_l, if_neg (nn_2 (by decide)), i7_l, if_neg (nn_2 (by decide)), i6_l, if_neg (nn_2 (by decide)), i5_l, if_pos ⟨rfl, rfl⟩, x4_l]
        · rw [i10_l, if_neg (nn_2 (by decide)), i9_l, if_neg (nn_2 (by decide)), i8_l, if_neg (nn_2 (by decide)), i7_l, if_neg (nn_2 (by decide)), i6_l, if_pos ⟨rfl, rfl⟩, x5_l]
        · rw [i10_l, if_neg (nn_2 (by decide)), i9_l, if_neg (nn_2 (by decide)), i8_l, if_neg (nn_2 (by decide)), i7_l, if_pos ⟨rfl, rfl⟩, x6]
        · rw [i10_l, if_neg (nn_2 (by decide)), i9_l, if_neg (nn_2 (by decide)), i8_l, if_pos ⟨rfl, rfl⟩, x7]
        · rw [i10_l, if_neg (nn_2 (by decide)), i9_l, if_pos ⟨rfl, rfl⟩, x8]
        · rw [i10_l, if_pos ⟨rfl, rfl⟩, x9]
      · rw [y4 b_l j_l (by omega)]
        rcases h1 with rfl | rfl
        · rw [i4_l, if_neg (nn_1 (na_1 (by decide))), i3_l, if_pos ⟨rfl, Nat.zero_le _, h2⟩, zj_0, show x0_l + 2 - x0_l + x1_l = x1_l + 2 by omega]
          exact (hc_l (x1_l + 2) j_l).2 (by omega)
        · rw [i4_l, if_pos ⟨rfl, Nat.zero_le _, h2⟩, i3_l, if_neg (nn_1 (by omega)), zj_0, show x0_l + 3 - x0_l + x1_l = x1_l + 3 by omega]
          exact (hc_l (x1_l + 3) j_l).2 (by omega)
      · rw [y4 b_l j_l (by omega), i4_l, if_neg (nn_1 (by omega)), i3_l, if_neg (nn_1 (by omega))]
        exact (hc_l b_l j_l).1 (by omega)
    · dsimp only
      clear hs10
      unfold CCr at h_l
      by_cases hb_l : b_l = x0_l
      · have hj : ∀ n_l, 4 ≤ n_l → n_l ≤ 9 → j_l ≠ n_l := fun n_l g1 g2 e_l => h_l (Or.inl ⟨hb_l, by rw [e_l]; exact g1, by rw [e_l]; exact g2⟩)
        rw [i10_l, if_neg (nn_2 (hj 9 (by decide) (by decide))), i9_l, if_neg (nn_2 (hj 8 (by decide) (by decide))), i8_l, if_neg (nn_2 (hj 7 (by decide) (by decide))), i7_l, if_neg (nn_2 (hj 6 (by decide) (by decide))), i6_l, if_neg (nn_2 (hj 5 (by decide) (by decide))), i5_l, if_neg (nn_2 (hj 4 (by decide) (by decide))), i4_l, if_neg (nn_1 (by omega)), i3_l, if_neg (nn_1 (by omega))]
        exact (hc_l b_l j_l).2 (by omega)
      · rw [y4 b_l j_l hb_l, i4_l, if_neg (fun z_l => h_l (Or.inr (Or.inl ⟨Or.inr z_l.1, z_l.2.2⟩))), i3_l, if_neg (fun z_l => h_l (Or.inr (Or.inl ⟨Or.inl z_l.1, z_l.2.2⟩)))]
        exact (hc_l b_l j_l).2 (by omega)
/-- cells of a log -/
noncomputable def LCr (a b j : Nat) : Prop := (b = a + 4 ∧ j = 1) ∨ (b = a + 5 ∧ j < 240)
theorem s_54 (hr : RF s) (t0 : T 2 a0) (t1 : T 2 a1) (hn : a0 ≠ a1) : gT (f_54 (a0 + 4) (a1 + 4) s) (fun r => r.1 = 0 ∧ (r.2.2.2.1 = s.1 ∧ r.2.2.2.2.1 = s.2.1 ∧ r.2.2.2.2.2.2 = s.2.2.2) ∧ ∀ b j, (LCr a0 b j → gI r.2.2.2 b j = gI s (b - a0 + a1) j) ∧ (¬ LCr a0 b j → gI r.2.2.2 b j = gI s b j)) := by
  obtain ⟨⟨c0_l, c1_l, c2_l, c3_l, c4_l⟩, c5_l, c6_l, c7_l, c8_l⟩ := court_at a0 t0.1 t0.2
  obtain ⟨⟨d0_l, d1_l, d2_l, d3_l, d4_l⟩, d5_l, d6_l, d7_l, d8_l⟩ := court_at a1 t1.1 t1.2
  have ap := court_ap a0 t0.1 t0.2 a1 t1.1 t1.2
  have m0_l : gR s (a0 + 4) 0 = a0 + 5 := (hr (a0 + 4) 0 (by omega) (fun e_l => by rw [c8_l] at e_l; omega)).trans c4_l
  have m1_l : gR s (a1 + 4) 0 = a1 + 5 := (hr (a1 + 4) 0 (by omega) (fun e_l => by rw [d8_l] at e_l; omega)).trans d4_l
  unfold f_54
  rw [m0_l, m1_l]
  extract_lets s1 s2
  have i1_l : ∀ b j, gI s1 b j = if b = a0 + 5 ∧ 0 ≤ j ∧ j < 0 + 240 then gI s (a1 + 5) (0 + (j - 0)) else gI s b j := fun _ _ => rfl
  have i2_l : ∀ b j, gI s2 b j = if b = a0 + 4 ∧ j = 1 then gI s1 (a1 + 4) 1 else gI s1 b j := fun _ _ => rfl
  refine gT_ret ⟨rfl, ⟨rfl, rfl, rfl⟩, fun b j => ⟨fun h_l => ?_, fun h_l => ?_⟩⟩
  · dsimp only
    unfold LCr at h_l
    rcases h_l with ⟨rfl, rfl⟩ | ⟨rfl, h_l⟩
    · rw [i2_l, if_pos ⟨rfl, rfl⟩, i1_l, if_neg (by omega), show a0 + 4 - a0 + a1 = a1 + 4 by omega]
    · rw [i2_l, if_neg (by omega), i1_l, if_pos (by omega), show 0 + (j - 0) = j by omega, show a0 + 5 - a0 + a1 = a1 + 5 by omega]
  · dsimp only
    unfold LCr at h_l
    rw [i2_l, if_neg (by omega), i1_l, if_neg (by omega)]
/-- a court and its log are copied -/
noncomputable def FC (a0 a1 : Nat) (s s' : gS) : Prop := (s'.1 = s.1 ∧ s'.2.1 = s.2.1 ∧ s'.2.2.2 = s.2.2.2) ∧ ∀ b j, (CCr a0 b j ∨ LCr a0 b j → gI s' b j = gI s (b - a0 + a1) j) ∧ (¬ (CCr a0 b j ∨ LCr a0 b j) → gI s' b j = gI s b j)
theorem s_22 (hr : RF s) (t0 : T 2 a0) (t1 : T 2 a1) (hn : a0 ≠ a1) : gT (f_22 a0 a1 s) (fun r => r.1 = 0 ∧ FC a0 a1 s r.2.2.2) := by
  obtain ⟨⟨c0_l, c1_l, c2_l, c3_l, c4_l⟩, c5_l, c6_l, c7_l, c8_l⟩ := court_at a0 t0.1 t0.2
  obtain ⟨⟨d0_l, d1_l, d2_l, d3_l, d4_l⟩, d5_l, d6_l, d7_l, d8_l⟩ := court_at a1 t1.1 t1.2
  have ap := court_ap a0 t0.1 t0.2 a1 t1.1 t1.2
  unfold f_22
  refine gT_v0 (A := fun u_l => CC a0 a1 s u_l) (s_23 hr t0 t1 hn) (fun s1_l h1 => ?_)
  have r1_l : RF s1_l := RF_sm hr h1.1.2.2
  have m0_l : gR s1_l a0 3 = a0 + 4 := (r1_l a0 3 t0.1 (fun e_l => by rw [t0.2] at e_l; omega)).trans c3_l
  have m1_l : gR s1_l a1 3 = a1 + 4 := (r1_l a1 3 t1.1 (fun e_l => by rw [t1.2] at e_l; omega)).trans d3_l
  rw [m0_l, m1_l]
  refine gT_v0 (A := fun u_l => (u_l.1 = s1_l.1 ∧ u_l.2.1 = s1_l.2.1 ∧ u_l.2.2.2 = s1_l.2.2.2) ∧ ∀ b_l j_l, (LCr a0 b_l j_l → gI u_l b_l j_l = gI s1_l (b_l - a0 + a1) j_l) ∧ (¬ LCr a0 b_l j_l → gI u_l b_l j_l = gI s1_l b_l j_l)) (s_54 r1_l t0 t1 hn) (fun s3_l h3 => ?_)
  refine gT_ret ⟨rfl, ⟨h3.1.1.trans h1.1.1, h3.1.2.1.trans h1.1.2.1, h3.1.2.2.trans h1.1.2.2⟩, fun b_l j_l => ⟨fun h_l => ?_, fun h_l => ?_⟩⟩
  · dsimp only
    by_cases hl : LCr a0 b_l j_l
    · rw [(h3.2 b_l j_l).1 hl]
      refine (h1.2 _ j_l).2 ?_
      unfold LCr at hl
      unfold CCr
      omega
    · rw [(h3.2 b_l j_l).2 hl]
      exact (h1.2 b_l j_l).1 (h_l.resolve_right hl)
  · dsimp only
    rw [(h3.2 b_l j_l).2 (fun z_l => h_l (Or.inr z_l)), (h1.2 b_l j_l).2 (fun z_l => h_l (Or.inl z_l))]
/-- cells of a book that copyFrom writes -/
noncomputable def BCr (a b j : Nat) : Prop := (b = a ∧ 5 ≤ j ∧ j ≤ 10) ∨ ((a + 1 ≤ b ∧ b ≤ a + 3) ∧ j < 8) ∨ ((b = a + 4 ∨ b = a + 5) ∧ j < 6)
end Cp
