section
/-! a book is copied -/
theorem book_l : ∀ a, a < 232 → k0 a = 0 → a = 9 ∨ a = 36 ∨ a = 54 := by decide +kernel
theorem book_ap : ∀ a, a < 232 → k0 a = 0 → ∀ b, b < 232 → k0 b = 0 → a = b ∨ a + 6 ≤ b ∨ b + 6 ≤ a := fun a ha_l h_l b hb_l h2 => by
  have h3 := book_l a ha_l h_l
  have h4 := book_l b hb_l h2
  clear h_l h2
  omega
noncomputable def BC (a0 a1 : Nat) (s s' : gS) : Prop := (s'.1 = s.1 ∧ s'.2.1 = s.2.1 ∧ ∀ a k, gR s' a k = if a = a0 ∧ k = 11 then gR s a1 11 else gR s a k) ∧ ∀ b j, (BCr a0 b j → gI s' b j = gI s (b - a0 + a1) j) ∧ (¬ BCr a0 b j → gI s' b j = gI s b j)
theorem za_1 {a b x : Nat} : a + 1 + x - a + b = b + 1 + x := by omega
theorem bb_1 {a b c : Nat} (e : b = a + 1 + c) (h : c ≤ 2) : a + 1 ≤ b ∧ b ≤ a + 3 := by omega
theorem j510 {j : Nat} (h1 : 5 ≤ j) (h2 : j ≤ 10) : j = 5 ∨ j = 6 ∨ j = 7 ∨ j = 8 ∨ j = 9 ∨ j = 10 := by omega
theorem b13 {a b : Nat} (h1 : a + 1 ≤ b) (h2 : b ≤ a + 3) : b = a + 1 + 0 ∨ b = a + 1 + 1 ∨ b = a + 1 + 2 := by omega
section Bc
variable {s : gS} {a0 a1 : Nat}
theorem s_1 (hr : RF s) (t0 : T 0 a0) (t1 : T 0 a1) (hn : a0 ≠ a1) : gT (f_1 a0 a1 s) (fun r => r.1 = 0 ∧ BC a0 a1 s r.2.2.2) := by
  obtain ⟨c0_l, c6_l⟩ := book_at a0 t0.1 t0.2
  obtain ⟨d0_l, d6_l⟩ := book_at a1 t1.1 t1.2
  have ap := book_ap a0 t0.1 t0.2 a1 t1.1 t1.2
  have m0_l : ∀ f_l, f_l < 5 → gR s a0 f_l = a0 + 1 + f_l := fun f_l hf => (hr a0 f_l t0.1 (fun e_l => by omega)).trans (c0_l f_l hf)
  have m1_l : ∀ f_l, f_l < 5 → gR s a1 f_l = a1 + 1 + f_l := fun f_l hf => (hr a1 f_l t1.1 (fun e_l => by omega)).trans (d0_l f_l hf)
  have m00 := m0_l 0 (by decide)
  have m01 := m0_l 1 (by decide)
  have m02 := m0_l 2 (by decide)
  have m03 := m0_l 3 (by decide)
  have m04 := m0_l 4 (by decide)
  have m10_l := m1_l 0 (by decide)
  have m11_l := m1_l 1 (by decide)
  have m12_l := m1_l 2 (by decide)
  have m13 := m1_l 3 (by decide)
  have m14 := m1_l 4 (by decide)
  unfold f_1
  extract_lets s1 s2 s3 s4 s5 s6 s7 s8 s9 s10 s11 s12
  have i1_l : ∀ b_l j_l, gI s1 b_l j_l = if b_l = a0 + 1 + 0 ∧ 0 ≤ j_l ∧ j_l < 0 + 8 then gI s (a1 + 1 + 0) (0 + (j_l - 0)) else gI s b_l j_l := fun b_l j_l => by
    show gI (gcpy s (gR s a1 0) 0 (gR s a0 0) 0 8) b_l j_l = _
    rw [m10_l, m00, gcpy_I]
  have u1_l : s1.1 = s.1 ∧ s1.2.1 = s.2.1 ∧ s1.2.2.2 = s.2.2.2 := ⟨rfl, rfl, rfl⟩
  clear_value s1
  have i2_l : ∀ b_l j_l, gI s2 b_l j_l = if b_l = a0 + 1 + 1 ∧ 0 ≤ j_l ∧ j_l < 0 + 8 then gI s1 (a1 + 1 + 1) (0 + (j_l - 0)) else gI s1 b_l j_l := fun b_l j_l => by
    show gI (gcpy s1 (gR s1 a1 1) 0 (gR s1 a0 1) 0 8) b_l j_l = _
    rw [gR_e u1_l.2.2, gR_e u1_l.2.2, m11_l, m01, gcpy_I]
  have u2_l : s2.1 = s.1 ∧ s2.2.1 = s.2.1 ∧ s2.2.2.2 = s.2.2.2 := ⟨u1_l.1, u1_l.2.1, u1_l.2.2⟩
  clear_value s2
  have i3_l : ∀ b_l j_l, gI s3 b_l j_l = if b_l = a0 + 1 + 2 ∧ 0 ≤ j_l ∧ j_l < 0 + 8 then gI s2 (a1 + 1 + 2) (0 + (j_l - 0)) else gI s2 b_l j_l := fun b_l j_l => by
    show gI (gcpy s2 (gR s2 a1 2) 0 (gR s2 a0 2) 0 8) b_l j_l = _
    rw [gR_e u2_l.2.2, gR_e u2_l.2.2, m12_l, m02, gcpy_I]
  have u3 : s3.1 = s.1 ∧ s3.2.1 = s.2.1 ∧ s3.2.2.2 = s.2.2.2 := ⟨u2_l.1, u2_l.2.1, u2_l.2.2⟩
  clear_value s3
  have i4_l : ∀ b_l j_l, gI s4 b_l j_l = if b_l = a0 + 1 + 3 ∧ 0 ≤ j_l ∧ j_l < 0 + 6 then gI s3 (a1 + 1 + 3) (0 + (j_l - 0)) else gI s3 b_l j_l := fun b_l j_l => by
    show gI (gcpy s3 (gR s3 a1 3) 0 (gR s3 a0 3) 0 6) b_l j_l = _
    rw [gR_e u3.2.2, gR_e u3.2.2, m13, m03, gcpy_I]
  have u4_l : s4.1 = s.1 ∧ s4.2.1 = s.2.1 ∧ s4.2.2.2 = s.2.2.2 := ⟨u3.1, u3.2.1, u3.2.2⟩
  clear_value s4
  have i5_l : ∀ b_l j_l, gI s5 b_l j_l = if b_l = a0 + 1 + 4 ∧ 0 ≤ j_l ∧ j_l < 0 + 6 then gI s4 (a1 + 1 + 4) (0 + (j_l - 0)) else gI s4 b_l j_l := fun b_l j_l => by
    show gI (gcpy s4 (gR s4 a1 4) 0 (gR s4 a0 4) 0 6) b_l j_l = _
    rw [gR_e u4_l.2.2, gR_e u4_l.2.2, m14, m04, gcpy_I]
  have u5 : s5.1 = s.1 ∧ s5.2.1 = s.2.1 ∧ s5.2.2.2 = s.2.2.2 := ⟨u4_l.1, u4_l.2.1, u4_l.2.2⟩
  clear_value s5
  have i6_l : ∀ b_l j_l, gI s6 b_l j_l = if b_l = a0 ∧ j_l = 5 then gI s5 a1 5 else gI s5 b_l j_l := fun _ _ => rfl
  have u6 : s6.1 = s.1 ∧ s6.2.1 = s.2.1 ∧ s6.2.2.2 = s.2.2.2 := ⟨u5.1, u5.2.1, u5.2.2⟩
  clear_value s6
  have i7_l : ∀ b_l j_l, gI s7 b_l j_l = if b_l = a0 ∧ j_l = 6 then gI s6 a1 6 else gI s6 b_l j_l := fun _ _ => rfl
  have u7 : s7.1 = s.1 ∧ s7.2.1 = s.2.1 ∧ s7.2.2.2 = s.2.2.2 := ⟨u6.1, u6.2.1, u6.2.2⟩
  clear_value s7
  have i8_l : ∀ b_l j_l, gI s8 b_l j_l = if b_l = a0 ∧ j_l = 7 then gI s7 a1 7 else gI s7 b_l j_l := fun _ _ => rfl
  have u8 : s8.1 = s.1 ∧ s8.2.1 = s.2.1 ∧ s8.2.2.2 = s.2.2.2 := ⟨u7.1, u7.2.1, u7.2.2⟩
  clear_value s8
  have i9_l : ∀ b_l j_l, gI s9 b_l j_l = if b_l = a0 ∧ j_l = 8 then gI s8 a1 8 else gI s8 b_l j_l := fun _ _ => rfl
  have u9 : s9.1 = s.1 ∧ s9.2.1 = s.2.1 ∧ s9.2.2.2 = s.2.2.2 := ⟨u8.1, u8.2.1, u8.2.2⟩
  clear_value s9
  have i10_l : ∀ b_l j_l, gI s10 b_l j_l = if b_l = a0 ∧ j_l = 9 then gI s9 a1 9 else gI s9 b_l j_l := fun _ _ => rfl
  have u10 : s10.1 = s.1 ∧ s10.2.1 = s.2.1 ∧ s10.2.2.2 = s.2.2.2 := ⟨u9.1, u9.2.1, u9.2.2⟩
  clear_value s10
  have i11_l : ∀ b_l j_l, gI s11 b_l j_l = if b_l = a0 ∧ j_l = 10 then gI s10 a1 10 else gI s10 b_l j_l := fun _ _ => rfl
  have u11 : s11.1 = s.1 ∧ s11.2.1 = s.2.1 ∧ s11.2.2.2 = s.2.2.2 := ⟨u10.1, u10.2.1, u10.2.2⟩
  clear_value s11
  have i12_l : ∀ b_l j_l, gI s12 b_l j_l = gI s11 b_l j_l := fun _ _ => rfl
  have hs12 : s12.1 = s.1 ∧ s12.2.1 = s.2.1 ∧ ∀ a_l k_l, gR s12 a_l k_l = if a_l = a0 ∧ k_l = 11 then gR s a1 11 else gR s a_l k_l := ⟨u11.1, u11.2.1, fun a_l k_l => by
    show (if a_l = a0 ∧ k_l = 11 then gR s11 a1 11 else gR s11 a_l k_l) = _
    rw [gR_e u11.2.2, gR_e u11.2.2]⟩
  clear_value s12
  clear u1_l u2_l u3 u4_l u5 u6 u7 u8 u9 u10 u11
  have q_l : ∀ c_l, c_l < 5 → a1 ≠ a0 + 1 + c_l := fun c_l hc_l => by omega
  have n1_l : a1 ≠ a0 := fun e_l => hn e_l.symm
  have q3_l : ∀ c_l d_l, c_l < 5 → d_l < 5 → a1 + 1 + c_l ≠ a0 + 1 + d_l := fun c_l d_l hc_l hd_l => by omega
  have x5_l : ∀ f_l, gI s5 a1 f_l = gI s a1 f_l := fun f_l => by rw [i5_l, if_neg (nn_1 (q_l 4 (by decide))), i4_l, if_neg (nn_1 (q_l 3 (by decide))), i3_l, if_neg (nn_1 (q_l 2 (by decide))), i2_l, if_neg (nn_1 (q_l 1 (by decide))), i1_l, if_neg (nn_1 (q_l 0 (by decide)))]
  have x6 : ∀ f_l, gI s6 a1 f_l = gI s a1 f_l := fun f_l => by rw [i6_l, if_neg (nn_1 n1_l), x5_l]
  have x7 : ∀ f_l, gI s7 a1 f_l = gI s a1 f_l := fun f_l => by rw [i7_l, if_neg (nn_1 n1_l), x6]
  have x8 : ∀ f_l, gI s8 a1 f_l = gI s a1 f_l := fun f_l => by rw [i8_l, if_neg (nn_1 n1_l), x7]
  have x9 : ∀ f_l, gI s9 a1 f_l = gI s a1 f_l := fun f_l => by rw [i9_l, if_neg (nn_1 n1_l), x8]
  have x10 : ∀ f_l, gI s10 a1 f_l = gI s a1 f_l := fun f_l => by rw [i10_l, if_neg (nn_1 n1_l), x9]
  have y5 : ∀ b_l j_l, b_l ≠ a0 → gI s12 b_l j_l = gI s5 b_l j_l := fun b_l j_l hb_l => by
    rw [i12_l, i11_l, if_neg (nn_1 hb_l), i10_l, if_neg (nn_1 hb_l), i9_l, if_neg (nn_1 hb_l), i8_l, if_neg (nn_1 hb_l), i7_l, if_neg (nn_1 hb_l), i6_l, if_neg (nn_1 hb_l)]
  clear m00 m01 m02 m03 m04 m10_l m11_l m12_l m13 m14 m0_l m1_l c0_l d0_l ap c6_l d6_l
  refine gT_ret ⟨rfl, hs12, fun b_l j_l => ⟨fun h_l => ?_, fun h_l => ?_⟩⟩
  · dsimp only
    clear hs12
    unfold BCr at h_l
    rcases h_l with ⟨rfl, h1, h2⟩ | ⟨⟨h1, h2⟩, h3⟩ | ⟨h1, h2⟩
    · rw [show b_l - b_l + a1 = a1 by omega, i12_l]
      rcases j510 h1 h2 with rfl | rfl | rfl | rfl | rfl | rfl
      · rw [i11_l, if_neg (nn_2 (by decide)), i10_l, if_neg (nn_2 (by decide)), i9_l, if_neg (nn_2 (by decide)), i8_l, if_neg (nn_2 (by decide)), i7_l, if_neg (nn_2 (by decide)), i6_l, if_pos ⟨rfl, rfl⟩, x5_l]
      · rw [i11_l, if_neg (nn_2 (by decide)), i10_l, if_neg (nn_2 (by decide)), i9_l, if_neg (nn_2 (by decide)), i8_l, if_neg (nn_2 (by decide)), i7_l, if_pos ⟨rfl, rfl⟩, x6]
      · rw [i11_l, if_neg (nn_2 (by decide)), i10_l, if_neg (nn_2 (by decide)), i9_l, if_neg (nn_2 (by decide)), i8_l, if_pos ⟨rfl, rfl⟩, x7]
      · rw [i11_l, if_neg (nn_2 (by decide)), i10_l, if_neg (nn_2 (by decide)), i9_l, if_pos ⟨rfl, rfl⟩, x8]
      · rw [i11_l, if_neg (nn_2 (by decide)), i10_l, if_pos ⟨rfl, rfl⟩, x9]
      · rw [i11_l, if_pos ⟨rfl, rfl⟩, x10]
    · rw [y5 b_l j_l (by omega)]
      rcases b13 h1 h2 with rfl | rfl | rfl
      · rw [i5_l, if_neg (nn_1 (na_1 (by decide))), i4_l, if_neg (nn_1 (na_1 (by decide))), i3_l, if_neg (nn_1 (na_1 (by decide))), i2_l, if_neg (nn_1 (na_1 (by decide))), i1_l, if_pos ⟨rfl, Nat.zero_le _, h3⟩, zj_0, za_1]
      · rw [i5_l, if_neg (nn_1 (na_1 (by decide))), i4_l, if_neg (nn_1 (na_1 (by decide))), i3_l, if_neg (nn_1 (na_1 (by decide))), i2_l, if_pos ⟨rfl, Nat.zero_le _, h3⟩, i1_l, if_neg (nn_1 (q3_l 1 0 (by decide) (by decide))), zj_0, za_1]
      · rw [i5_l, if_neg (nn_1 (na_1 (by decide))), i4_l, if_neg (nn_1 (na_1 (by decide))), i3_l, if_pos ⟨rfl, Nat.zero_le _, h3⟩, i2_l, if_neg (nn_1 (q3_l 2 1 (by decide) (by decide))), i1_l, if_neg (nn_1 (q3_l 2 0 (by decide) (by decide))), zj_0, za_1]
    · rw [y5 b_l j_l (by omega)]
      have eb : b_l = a0 + 1 + 3 ∨ b_l = a0 + 1 + 4 := h1
      rcases eb with rfl | rfl
      · rw [i5_l, if_neg (nn_1 (na_1 (by decide))), i4_l, if_pos ⟨rfl, Nat.zero_le _, h2⟩, i3_l, if_neg (nn_1 (q3_l 3 2 (by decide) (by decide))), i2_l, if_neg (nn_1 (q3_l 3 1 (by decide) (by decide))), i1_l, if_neg (nn_1 (q3_l 3 0 (by decide) (by decide))), zj_0, za_1]
      · rw [i5_l, if_pos ⟨rfl, Nat.zero_le _, h2⟩, i4_l, if_neg (nn_1 (q3_l 4 3 (by decide) (by decide))), i3_l, if_neg (nn_1 (q3_l 4 2 (by decide) (by decide))), i2_l, if_neg (nn_1 (q3_l 4 1 (by decide) (by decide))), i1_l, if_neg (nn_1 (q3_l 4 0 (by decide) (by decide))), zj_0, za_1]
  · dsimp only
    clear hs12
    unfold BCr at h_l
    by_cases hb_l : b_l = a0
    · have hj : ∀ n_l, 5 ≤ n_l → n_l ≤ 10 → j_l ≠ n_l := fun n_l g1 g2 e_l => h_l (Or.inl ⟨hb_l, by rw [e_l]; exact g1, by rw [e_l]; exact g2⟩)
      have hc_l : ∀ c_l, b_l ≠ a0 + 1 + c_l := fun c_l => by omega
      rw [i12_l, i11_l, if_neg (nn_2 (hj 10 (by decide) (by decide))), i10_l, if_neg (nn_2 (hj 9 (by decide) (by decide))), i9_l, if_neg (nn_2 (hj 8 (by decide) (by decide))), i8_l, if_neg (nn_2 (hj 7 (by decide) (by decide))), i7_l, if_neg (nn_2 (hj 6 (by decide) (by decide))), i6_l, if_neg (nn_2 (hj 5 (by decide) (by decide))), i5_l, if_neg (nn_1 (hc_l 4)), i4_l, if_neg (nn_1 (hc_l 3)), i3_l, if_neg (nn_1 (hc_l 2)), i2_l, if_neg (nn_1 (hc_l 1)), i1_l, if_neg (nn_1 (hc_l 0))]
    · rw [y5 b_l j_l hb_l, i5_l, if_neg (fun z_l => h_l (Or.inr (Or.inr ⟨Or.inr z_l.1, z_l.2.2⟩))), i4_l, if_neg (fun z_l => h_l (Or.inr (Or.inr ⟨Or.inl z_l.1, z_l.2.2⟩))), i3_l, if_neg (fun z_l => h_l (Or.inr (Or.inl ⟨bb_1 z_l.1 (by decide), z_l.2.2⟩))), i2_l, if_neg (fun z_l => h_l (Or.inr (Or.inl ⟨bb_1 z_l.1 (by decide), z_l.2.2⟩))), i1_l, if_neg (fun z_l => h_l (Or.inr (Or.inl ⟨bb_1 z_l.1 (by decide), z_l.2.2⟩)))]
end Bc

end
section
/-! a byte by either shift -/
theorem b255 : ∀ i, i < 32 → 8 ≤ i → (255#32).getLsbD i = false := by decide
theorem by8 (x : BitVec 32) (n : Nat) (hn : n ≤ 24) : (x.sshiftRight n) &&& 255#32 = (x >>> n) &&& 255#32 := by
  apply BitVec.eq_of_getLsbD_eq
  intro i_l hi_l
  rw [BitVec.getLsbD_and, BitVec.getLsbD_and]
  by_cases h8 : i_l < 8
  · rw [BitVec.getLsbD_sshiftRight, BitVec.getLsbD_ushiftRight, if_pos (by omega)]
    have hd_l : decide (32 ≤ i_l) = false := by
      rw [decide_eq_false_iff_not]
      omega
    rw [hd_l]
    rfl
  · rw [b255 i_l hi_l (by omega), Bool.and_false, Bool.and_false]
theorem gsh_8 {v k : Int} (hk : k = 0 ∨ k = 8 ∨ k = 16 ∨ k = 24) : gand (gshr v k) 255 = gand (gushr v k) 255 := by
  unfold gand gshr gushr
  rw [Int32.ofInt_toInt, Int32.ofInt_toInt]
  congr 1
  apply Int32.toBitVec.inj
  rcases hk with rfl | rfl | rfl | rfl
  · exact by8 (Int32.ofInt v).toBitVec 0 (by decide)
  · exact by8 (Int32.ofInt v).toBitVec 8 (by decide)
  · exact by8 (Int32.ofInt v).toBitVec 16 (by decide)
  · exact by8 (Int32.ofInt v).toBitVec 24 (by decide)

end
section
/-! the model's image, cell by cell -/
section Mi
variable {s : gS}
theorem x_261 (h1 : gR s 217 1 = 218) (h2 : gR s 217 2 = 219) : gQ (f_261 217 s) (fun r => Sm s r.2.2.2 ∧ (∀ k, k < 740 → gI r.2.2.2 219 k = gI s 218 k) ∧ gI r.2.2.2 217 3 = 1 ∧ ∀ a k, a ≠ 219 → ¬ (a = 217 ∧ (k = 0 ∨ k = 3)) → gI r.2.2.2 a k = gI s a k) := by
  unfold f_261
  refine gQ_loop (fun y_l => y_l.1 = 217 ∧ (0 ≤ y_l.2.1 ∧ y_l.2.1 ≤ 740) ∧ Sm s y_l.2.2 ∧ (∀ k : Nat, (k : Int) < y_l.2.1 → gI y_l.2.2 219 k = gI s 218 k) ∧ ∀ a k, a ≠ 219 → ¬ (a = 217 ∧ k = 0) → gI y_l.2.2 a k = gI s a k) (fun y_l hy => ?_) ⟨rfl, ⟨Int.le_refl 0, (by decide : (0 : Int) ≤ 740)⟩, ⟨rfl, rfl, rfl⟩, fun k hk => by dsimp only at hk; omega, fun a k ha_l hz => ?_⟩
  · obtain ⟨x0_l, x1_l, y1⟩ := y_l
    obtain ⟨q0, hb_l, hs, h5, h6⟩ := hy
    dsimp only at q0 hb_l hs h5 h6
    subst q0
    have r1_l : gR y1 217 1 = 218 := by
      show y1.2.2.2 217 1 = 218
      rw [hs.2.2]
      exact h1
    have r2 : gR y1 217 2 = 219 := by
      show y1.2.2.2 217 2 = 219
      rw [hs.2.2]
      exact h2
    show gQ (sb_261_7 217 x1_l y1) _
    unfold sb_261_7
    by_cases c : x1_l < 740
    · rw [if_pos c, r1_l, r2]
      refine gQ_chk (gQ_chk (gQ_ret ⟨rfl, ?_, hs, fun k hk => ?_, fun a k ha_l hz => ?_⟩))
      · dsimp only
        rw [g32_eq (v := x1_l + 1) (by omega) (by omega)]
        omega
      · dsimp only at hk ⊢
        rw [g32_eq (v := x1_l + 1) (by omega) (by omega)] at hk
        show (if 219 = 219 ∧ k = x1_l.toNat then gI y1 218 x1_l.toNat else gI y1 219 k) = _
        by_cases ck : k = x1_l.toNat
        · rw [if_pos ⟨rfl, ck⟩, ck]
          exact h6 218 _ (by decide) (by omega)
        · rw [if_neg (fun z_l => ck z_l.2)]
          exact h5 k (by omega)
      · dsimp only
        exact (rd_a rfl ha_l).trans (h6 a k ha_l hz)
    · rw [if_neg c]
      refine gQ_map (gQ_bool (gQ_ret ⟨hs, fun k hk => ?_, rd_same rfl, fun a k ha_l hz => ?_⟩))
      · dsimp only
        exact (rd_a rfl (by decide)).trans (h5 k (by omega))
      · dsimp only
        show (if a = 217 ∧ k = 3 then _ else gI y1 a k) = _
        rw [if_neg (by omega)]
        exact h6 a k ha_l (by omega)
  · dsimp only
    show (if a = 217 ∧ k = 0 then _ else gI s a k) = _
    rw [if_neg hz]
theorem x_262 (h1 : gR s 217 1 = 218) (h2 : gR s 217 2 = 219) (h3 : gI s 217 3 ≠ 0) : gQ (f_262 217 s) (fun r => Sm s r.2.2.2 ∧ (∀ k, k < 740 → gI r.2.2.2 218 k = gI s 219 k) ∧ gI r.2.2.2 217 6 = 0 ∧ ∀ a k, ¬ (a = 218 ∧ k < 740) → ¬ (a = 217 ∧ (k = 0 ∨ k = 6)) → gI r.2.2.2 a k = gI s a k) := by
  unfold f_262
  have e3_l : gI (gw s 217 0 0) 217 3 = gI s 217 3 := rd_k (a := 217) (k := 3) rfl (by decide)
  dsimp only
  rw [e3_l, if_neg h3]
  refine gQ_loop (fun y_l => y_l.1 = 217 ∧ (0 ≤ y_l.2.1 ∧ y_l.2.1 ≤ 740) ∧ Sm s y_l.2.2 ∧ (∀ k : Nat, (k : Int) < y_l.2.1 → gI y_l.2.2 218 k = gI s 219 k) ∧ ∀ a k, ¬ (a = 218 ∧ k < 740) → ¬ (a = 217 ∧ k = 0) → gI y_l.2.2 a k = gI s a k) (fun y_l hy => ?_) ⟨rfl, ⟨Int.le_refl 0, (by decide : (0 : Int) ≤ 740)⟩, ⟨rfl, rfl, rfl⟩, fun k hk => by dsimp only at hk; omega, fun a k ha_l hz => ?_⟩
  · obtain ⟨x0_l, x1_l, y1⟩ := y_l
    obtain ⟨q0, hb_l, hs, h5, h6⟩ := hy
    dsimp only at q0 hb_l hs h5 h6
    subst q0
    have r1_l : gR y1 217 1 = 218 := by
      show y1.2.2.2 217 1 = 218
      rw [hs.2.2]
      exact h1
    have r2 : gR y1 217 2 = 219 := by
      show y1.2.2.2 217 2 = 219
      rw [hs.2.2]
      exact h2
    show gQ (sb_262_16 217 x1_l y1) _
    unfold sb_262_16
    by_cases c : x1_l < 740
    · rw [if_pos c, r1_l, r2]
      refine gQ_chk (gQ_chk (gQ_ret ⟨rfl, ?_, hs, fun k hk => ?_, fun a k ha_l hz => ?_⟩))
      · dsimp only
        rw [g32_eq (v := x1_l + 1) (by omega) (by omega)]
        omega
      · dsimp only at hk ⊢
        rw [g32_eq (v := x1_l + 1) (by omega) (by omega)] at hk
        show (if 218 = 218 ∧ k = x1_l.toNat then gI y1 219 x1_l.toNat else gI y1 218 k) = _
        by_cases ck : k = x1_l.toNat
        · rw [if_pos ⟨rfl, ck⟩, ck]
          exact h6 219 _ (by omega) (by omega)
        · rw [if_neg (fun z_l => ck z_l.2)]
          exact h5 k (by omega)
      · dsimp only
        show (if a = 218 ∧ k = x1_l.toNat then _ else gI y1 a k) = _
        rw [if_neg (by omega)]
        exact h6 a k ha_l hz
    · rw [if_neg c]
      refine gQ_map (gQ_ret ⟨hs, fun k hk => ?_, rd_same rfl, fun a k ha_l hz => ?_⟩)
      · dsimp only
        exact (rd_a rfl (by decide)).trans (h5 k (by omega))
      · dsimp only
        show (if a = 217 ∧ k = 6 then _ else gI y1 a k) = _
        rw [if_neg (by omega)]
        exact h6 a k ha_l (by omega)
  · dsimp only
    show (if a = 217 ∧ k = 0 then _ else gI s a k) = _
    rw [if_neg hz]
end Mi

end
section
/-! the class's image: what is copied -/
section Ci
variable {s : gS}
theorem k0_b : k0 9 = 0 ∧ k0 36 = 0 ∧ k0 54 = 0 ∧ k0 15 = 2 ∧ k0 42 = 2 ∧ k0 60 = 2 := by decide +kernel
theorem RF_bc {a0 a1 : Nat} {s' : gS} (h : RF s) (t0 : k0 a0 = 0) (hb : BC a0 a1 s s') : RF s' := fun a_l k_l ha_l hn => by
  rw [hb.1.2.2 a_l k_l, if_neg (fun z_l => hn ⟨by rw [z_l.1]; exact t0, z_l.2⟩)]
  exact h a_l k_l ha_l hn
end Ci

end
section
/-! what a book's text tells is small -/
noncomputable def Rv (V : Nat → Int) : Prop := ∀ k, Tx k → 0 ≤ V k ∧ V k ≤ 100
noncomputable def Wr (w : gLW) : Prop := ((w.1 = 3 ∨ w.1 = 4) ∨ (0 ≤ w.2.1 ∧ w.2.1 ≤ 100)) ∧ (0 ≤ w.2.2.1 ∧ w.2.2.1 ≤ 100) ∧ (0 ≤ w.2.2.2 ∧ w.2.2.2 ≤ 100)
section Rr
variable {L : Nat → Int} {e f g : Nat} {V W : Nat → Int} {w : gLW}
theorem nb_r {x : Nat} {lo hi v : Int} (h : nb L e x lo hi f = Sum.inr (v, g)) : lo ≤ v ∧ v ≤ hi := by
  unfold nb at h
  by_cases a1 : Wd L e x f
  · rw [cif_p a1] at h
    by_cases a2 : Nm L e (nx L e f) lo hi
    · rw [cif_p a2] at h
      cases h
      exact a2.2.2
    · rw [cif_n a2] at h
      cases h
  · rw [cif_n a1] at h
    cases h
theorem tb_r {x : Nat} {v : Int} (h : tb L e x f = Sum.inr (v, g)) : 0 ≤ v ∧ v ≤ 63 := by
  unfold tb at h
  by_cases a1 : Wd L e x f
  · rw [cif_p a1] at h
    by_cases a2 : Tr L e (nx L e f)
    · rw [cif_p a2] at h
      cases h
      have hb_l := lrn_a (L := L) (e := e) e (a := nx L e f)
      refine tbs_b (L := L) (a := nx L e f) (n := lr L e (nx L e f) - nx L e f) (fun i_l hi' => hb_l (nx L e f + i_l) (by omega) ?_)
      show nx L e f + i_l < lr L e (nx L e f)
      omega
    · rw [cif_n a2] at h
      cases h
  · rw [cif_n a1] at h
    cases h
theorem lnS_r (h : lnS L e f = Sum.inr (w, g)) : Wr w := by
  obtain ⟨⟨v1_l, g1⟩, h1, h⟩ := eb_w h
  obtain ⟨⟨v2, g2⟩, h2, h⟩ := eb_w h
  obtain ⟨⟨v3, g3_l⟩, h3, h⟩ := eb_w h
  have b1 := nb_r h1
  have b2 := nb_r h2
  have b3 := nb_r h3
  cases h
  exact ⟨Or.inr (by dsimp only; omega), by dsimp only; omega, by dsimp only; omega⟩
theorem lnM_r (h : lnM L e f = Sum.inr (w, g)) : Wr w := by
  obtain ⟨⟨v1_l, g1⟩, h1, h⟩ := eb_w h
  obtain ⟨⟨v2, g2⟩, h2, h⟩ := eb_w h
  obtain ⟨⟨v3, g3_l⟩, h3, h⟩ := eb_w h
  have b1 := nb_r h1
  have b2 := nb_r h2
  have b3 := tb_r h3
  cases h
  exact ⟨Or.inr (by dsimp only; omega), by dsimp only; omega, by dsimp only; omega⟩
theorem lnT_r (h : lnT L e f = Sum.inr (w, g)) : Wr w := by
  obtain ⟨⟨v1_l, g1⟩, h1, h⟩ := eb_w h
  obtain ⟨⟨v2, g2⟩, h2, h⟩ := eb_w h
  have b1 := nb_r h1
  have b2 := tb_r h2
  cases h
  exact ⟨Or.inr (by dsimp only; omega), by dsimp only; omega, by dsimp only; omega⟩
theorem ln1_r {t x : Nat} {hi : Int} (h : ln1 L e t x hi f = Sum.inr (w, g)) (ht : t = 3 ∨ t = 4 ∨ hi ≤ 100) : Wr w := by
  obtain ⟨⟨v1_l, g1⟩, h1, h⟩ := eb_w h
  have b1 := nb_r h1
  cases h
  refine ⟨?_, by dsimp only; omega, by dsimp only; omega⟩
  dsimp only
  omega
theorem ln_r (h : ln L e f V = Sum.inr (w, g)) : Wr w := by
  unfold ln at h
  by_cases a1 : Wd L e 13 f
  · rw [cif_p a1] at h
    by_cases b1 : V 3 < 8
    · rw [if_pos b1] at h
      exact lnS_r h
    · rw [if_neg b1] at h; cases h
  rw [cif_n a1] at h
  by_cases a2 : Wd L e 14 f
  · rw [cif_p a2] at h
    by_cases b1 : V 4 < 6
    · rw [if_pos b1] at h
      exact lnM_r h
    · rw [if_neg b1] at h; cases h
  rw [cif_n a2] at h
  by_cases a3 : Wd L e 15 f
  · rw [cif_p a3] at h
    by_cases b1 : V 5 < 6
    · rw [if_pos b1] at h
      exact lnT_r h
    · rw [if_neg b1] at h; cases h
  rw [cif_n a3] at h
  by_cases a4 : Wd L e 16 f
  · rw [cif_p a4] at h
    by_cases b1 : V 6 < 6
    · rw [if_pos b1] at h
      exact ln1_r h (by decide)
    · rw [if_neg b1] at h; cases h
  rw [cif_n a4] at h
  by_cases a5 : Wd L e 17 f
  · rw [cif_p a5] at h
    exact ln1_r h (by decide)
  rw [cif_n a5] at h
  by_cases a6 : Wd L e 25 f
  · rw [cif_p a6] at h
    exact ln1_r h (by decide)
  rw [cif_n a6] at h
  by_cases a7 : Wd L e 26 f
  · rw [cif_p a7] at h
    exact ln1_r h (by decide)
  rw [cif_n a7] at h
  by_cases a8 : Wd L e 27 f
  · rw [cif_p a8] at h
    exact ln1_r h (by decide)
  rw [cif_n a8] at h
  cases h
theorem Tx_88 {k : Nat} (hk : Tx k) : k ≠ 8 ∧ k < 88 := by
  have h1 := hk.1.1
  have q_l : ∀ k, k < 100 → mnt k = false → k ≠ 8 ∧ k < 88 := by decide +kernel
  exact q_l k h1 hk.2
theorem av_r (hw : Wr w) (hr : Rw w V) (hg : Rg V) (h : Rv V) : Rv (av w V) := by
  intro k_l hk
  have hk8 := Tx_88 hk
  have hv := h k_l hk
  obtain ⟨w1_l, w2_l, w3_l⟩ := hw
  obtain ⟨g1, g2, g3_l, g4⟩ := hg
  unfold av
  split
  · rename_i e1
    repeat' split
    all_goals omega
  · rename_i e1
    repeat' split
    all_goals omega
  · rename_i e1
    repeat' split
    all_goals omega
  · rename_i e1
    repeat' split
    all_goals omega
  · rename_i e1
    repeat' split
    all_goals omega
  · rename_i e1
    repeat' split
    all_goals omega
  · rename_i e1
    repeat' split
    all_goals omega
  · rename_i e0 e1 e2 e3 e4 e5 e6 e7
    have q3_l : w.1 ≠ 3 := by assumption
    have q4_l : w.1 ≠ 4 := by assumption
    repeat' split
    all_goals omega
theorem rdl_R (n : Nat) : ∀ (f : Nat) (V W : Nat → Int), rdl L e n f V = Sum.inr W → Rg V → Rv V → Rv W := by
  induction n with
  | zero => intro f V W h_l; unfold rdl at h_l; cases h_l
  | succ n ih_l =>
    intro f V W h_l hg hv
    unfold rdl at h_l
    obtain ⟨y_l, h1, h2⟩ := eb_w h_l
    have a1_l := av_r (ln_r h1) (ln_w h1) hg hv
    have a2 := av_rg (ln_w h1) hg
    by_cases c1 : y_l.2 = e
    · rw [if_pos c1] at h2
      injection h2 with h3
      rw [← h3]
      exact a1_l
    · rw [if_neg c1] at h2
      by_cases c2 : L y_l.2 = 59
      · rw [if_pos c2] at h2
        exact ih_l _ _ _ h2 a2 a1_l
      · rw [if_neg c2] at h2
        cases h2
theorem rdb_R (h : rdb L e V = Sum.inr W) (hg : Rg V) (hv : Rv V) : Rv W := by
  unfold rdb at h
  by_cases c : sk L e 0 = e
  · rw [if_pos c] at h
    injection h with h1
    rw [← h1]
    exact hv
  · rw [if_neg c] at h
    exact rdl_R _ _ _ _ h hg hv
end Rr

end
