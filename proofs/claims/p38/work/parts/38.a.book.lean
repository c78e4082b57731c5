/-! a book is copied -/
theorem book_ap : ∀ a, a < 232 → k0 a = 0 → ∀ b, b < 232 → k0 b = 0 → a = b ∨ a + 6 ≤ b ∨ b + 6 ≤ a := by decide +kernel
def BC (a0 a1 : Nat) (s s' : gS) : Prop := (s'.1 = s.1 ∧ s'.2.1 = s.2.1 ∧ ∀ a k, gR s' a k = if a = a0 ∧ k = 11 then gR s a1 11 else gR s a k) ∧ ∀ b j, (BCr a0 b j → gI s' b j = gI s (b - a0 + a1) j) ∧ (¬ BCr a0 b j → gI s' b j = gI s b j)
section Bc
variable {s : gS} {a0 a1 : Nat}
theorem s_1 (hr : RF s) (t0 : T 0 a0) (t1 : T 0 a1) (hn : a0 ≠ a1) : gT (f_1 a0 a1 s) (fun r => r.1 = 0 ∧ BC a0 a1 s r.2.2.2) := by
  obtain ⟨c0_l, c6_l⟩ := book_at a0 t0.1 t0.2
  obtain ⟨d0_l, d6_l⟩ := book_at a1 t1.1 t1.2
  have ap := book_ap a0 t0.1 t0.2 a1 t1.1 t1.2
  have m0_l : ∀ f_l, f_l < 5 → gR s a0 f_l = a0 + 1 + f_l := fun f_l hf => (hr a0 f_l t0.1 (fun e_l => by omega)).trans (c0_l f_l hf)
  have m1_l : ∀ f_l, f_l < 5 → gR s a1 f_l = a1 + 1 + f_l := fun f_l hf => (hr a1 f_l t1.1 (fun e_l => by omega)).trans (d0_l f_l hf)
  have m00 := m0_l 0 (by decide)
  have m01 := m0_l 1 (by decide)
  have m02 := m0_l 2 (by decide)
  have m03 := m0_l 3 (by decide)
  have m04 := m0_l 4 (by decide)
  have m10_l := m1_l 0 (by decide)
  have m11_l := m1_l 1 (by decide)
  have m12_l := m1_l 2 (by decide)
  have m13 := m1_l 3 (by decide)
  have m14 := m1_l 4 (by decide)
  unfold f_1
  extract_lets s1 s2 s3 s4 s5 s6 s7 s8 s9 s10 s11 s12
  have i1_l : ∀ b_l j_l, gI s1 b_l j_l = if b_l = a0 + 1 + 0 ∧ 0 ≤ j_l ∧ j_l < 0 + 8 then gI s (a1 + 1 + 0) (0 + (j_l - 0)) else gI s b_l j_l := fun b_l j_l => by
    show gI (gcpy s (gR s a1 0) 0 (gR s a0 0) 0 8) b_l j_l = _
    rw [m00, m10_l]
    rfl
  have i2_l : ∀ b_l j_l, gI s2 b_l j_l = if b_l = a0 + 1 + 1 ∧ 0 ≤ j_l ∧ j_l < 0 + 8 then gI s1 (a1 + 1 + 1) (0 + (j_l - 0)) else gI s1 b_l j_l := fun b_l j_l => by
    show gI (gcpy s1 (gR s a1 1) 0 (gR s a0 1) 0 8) b_l j_l = _
    rw [m01, m11_l]
    rfl
  have i3_l : ∀ b_l j_l, gI s3 b_l j_l = if b_l = a0 + 1 + 2 ∧ 0 ≤ j_l ∧ j_l < 0 + 8 then gI s2 (a1 + 1 + 2) (0 + (j_l - 0)) else gI s2 b_l j_l := fun b_l j_l => by
    show gI (gcpy s2 (gR s a1 2) 0 (gR s a0 2) 0 8) b_l j_l = _
    rw [m02, m12_l]
    rfl
  have i4_l : ∀ b_l j_l, gI s4 b_l j_l = if b_l = a0 + 1 + 3 ∧ 0 ≤ j_l ∧ j_l < 0 + 6 then gI s3 (a1 + 1 + 3) (0 + (j_l - 0)) else gI s3 b_l j_l := fun b_l j_l => by
    show gI (gcpy s3 (gR s a1 3) 0 (gR s a0 3) 0 6) b_l j_l = _
    rw [m03, m13]
    rfl
  have i5_l : ∀ b_l j_l, gI s5 b_l j_l = if b_l = a0 + 1 + 4 ∧ 0 ≤ j_l ∧ j_l < 0 + 6 then gI s4 (a1 + 1 + 4) (0 + (j_l - 0)) else gI s4 b_l j_l := fun b_l j_l => by
    show gI (gcpy s4 (gR s a1 4) 0 (gR s a0 4) 0 6) b_l j_l = _
    rw [m04, m14]
    rfl
  have i6_l : ∀ b_l j_l, gI s6 b_l j_l = if b_l = a0 ∧ j_l = 5 then gI s5 a1 5 else gI s5 b_l j_l := fun _ _ => rfl
  have i7_l : ∀ b_l j_l, gI s7 b_l j_l = if b_l = a0 ∧ j_l = 6 then gI s6 a1 6 else gI s6 b_l j_l := fun _ _ => rfl
  have i8_l : ∀ b_l j_l, gI s8 b_l j_l = if b_l = a0 ∧ j_l = 7 then gI s7 a1 7 else gI s7 b_l j_l := fun _ _ => rfl
  have i9_l : ∀ b_l j_l, gI s9 b_l j_l = if b_l = a0 ∧ j_l = 8 then gI s8 a1 8 else gI s8 b_l j_l := fun _ _ => rfl
  have i10_l : ∀ b_l j_l, gI s10 b_l j_l = if b_l = a0 ∧ j_l = 9 then gI s9 a1 9 else gI s9 b_l j_l := fun _ _ => rfl
  have i11_l : ∀ b_l j_l, gI s11 b_l j_l = if b_l = a0 ∧ j_l = 10 then gI s10 a1 10 else gI s10 b_l j_l := fun _ _ => rfl
  have i12_l : ∀ b_l j_l, gI s12 b_l j_l = gI s11 b_l j_l := fun _ _ => rfl
  have hs12 : s12.1 = s.1 ∧ s12.2.1 = s.2.1 ∧ ∀ a k, gR s12 a k = if a = a0 ∧ k = 11 then gR s a1 11 else gR s a k := ⟨rfl, rfl, fun _ _ => rfl⟩
  clear_value s1 s2 s3 s4 s5 s6 s7 s8 s9 s10 s11 s12
  have x5_l : ∀ f_l, gI s5 a1 f_l = gI s a1 f_l := fun f_l => by rw [i5_l, if_neg (by omega), i4_l, if_neg (by omega), i3_l, if_neg (by omega), i2_l, if_neg (by omega), i1_l, if_neg (by omega)]
  have x6 : ∀ f_l, gI s6 a1 f_l = gI s a1 f_l := fun f_l => by rw [i6_l, if_neg (by omega), x5_l]
  have x7 : ∀ f_l, gI s7 a1 f_l = gI s a1 f_l := fun f_l => by rw [i7_l, if_neg (by omega), x6]
  have x8 : ∀ f_l, gI s8 a1 f_l = gI s a1 f_l := fun f_l => by rw [i8_l, if_neg (by omega), x7]
  have x9 : ∀ f_l, gI s9 a1 f_l = gI s a1 f_l := fun f_l => by rw [i9_l, if_neg (by omega), x8]
  have x10 : ∀ f_l, gI s10 a1 f_l = gI s a1 f_l := fun f_l => by rw [i10_l, if_neg (by omega), x9]
  have y5 : ∀ b_l j_l, b_l ≠ a0 → gI s12 b_l j_l = gI s5 b_l j_l := fun b_l j_l hb_l => by
    rw [i12_l, i11_l, if_neg (by omega), i10_l, if_neg (by omega), i9_l, if_neg (by omega), i8_l, if_neg (by omega), i7_l, if_neg (by omega), i6_l, if_neg (by omega)]
  refine gT_ret ⟨rfl, hs12, fun b_l j_l => ⟨fun h_l => ?_, fun h_l => ?_⟩⟩
  · dsimp only
    unfold BCr at h_l
    rcases h_l with ⟨rfl, h1, h2⟩ | ⟨⟨h1, h2⟩, h3⟩ | ⟨h1, h2⟩
    · have ej : j_l = 5 ∨ j_l = 6 ∨ j_l = 7 ∨ j_l = 8 ∨ j_l = 9 ∨ j_l = 10 := by omega
      rw [show b_l - b_l + a1 = a1 by omega, i12_l]
      rcases ej with rfl | rfl | rfl | rfl | rfl | rfl
      · rw [i11_l, if_neg (by omega), i10_l, if_neg (by omega), i9_l, if_neg (by omega), i8_l, if_neg (by omega), i7_l, if_neg (by omega), i6_l, if_pos ⟨rfl, rfl⟩, x5_l]
      · rw [i11_l, if_neg (by omega), i10_l, if_neg (by omega), i9_l, if_neg (by omega), i8_l, if_neg (by omega), i7_l, if_pos ⟨rfl, rfl⟩, x6]
      · rw [i11_l, if_neg (by omega), i10_l, if_neg (by omega), i9_l, if_neg (by omega), i8_l, if_pos ⟨rfl, rfl⟩, x7]
      · rw [i11_l, if_neg (by omega), i10_l, if_neg (by omega), i9_l, if_pos ⟨rfl, rfl⟩, x8]
      · rw [i11_l, if_neg (by omega), i10_l, if_pos ⟨rfl, rfl⟩, x9]
      · rw [i11_l, if_pos ⟨rfl, rfl⟩, x10]
    · rw [y5 b_l j_l (by omega)]
      have eb : b_l = a0 + 1 + 0 ∨ b_l = a0 + 1 + 1 ∨ b_l = a0 + 1 + 2 := by omega
      rcases eb with rfl | rfl | rfl
      · rw [i5_l, if_neg (by omega), i4_l, if_neg (by omega), i3_l, if_neg (by omega), i2_l, if_neg (by omega), i1_l, if_pos (by omega), show 0 + (j_l - 0) = j_l by omega, show a0 + 1 + 0 - a0 + a1 = a1 + 1 + 0 by omega]
      · rw [i5_l, if_neg (by omega), i4_l, if_neg (by omega), i3_l, if_neg (by omega), i2_l, if_pos (by omega), i1_l, if_neg (by omega), show 0 + (j_l - 0) = j_l by omega, show a0 + 1 + 1 - a0 + a1 = a1 + 1 + 1 by omega]
      · rw [i5_l, if_neg (by omega), i4_l, if_neg (by omega), i3_l, if_pos (by omega), i2_l, if_neg (by omega), i1_l, if_neg (by omega), show 0 + (j_l - 0) = j_l by omega, show a0 + 1 + 2 - a0 + a1 = a1 + 1 + 2 by omega]
    · rw [y5 b_l j_l (by omega)]
      have eb : b_l = a0 + 1 + 3 ∨ b_l = a0 + 1 + 4 := by omega
      rcases eb with rfl | rfl
      · rw [i5_l, if_neg (by omega), i4_l, if_pos (by omega), i3_l, if_neg (by omega), i2_l, if_neg (by omega), i1_l, if_neg (by omega), show 0 + (j_l - 0) = j_l by omega, show a0 + 1 + 3 - a0 + a1 = a1 + 1 + 3 by omega]
      · rw [i5_l, if_pos (by omega), i4_l, if_neg (by omega), i3_l, if_neg (by omega), i2_l, if_neg (by omega), i1_l, if_neg (by omega), show 0 + (j_l - 0) = j_l by omega, show a0 + 1 + 4 - a0 + a1 = a1 + 1 + 4 by omega]
  · dsimp only
    unfold BCr at h_l
    by_cases hb_l : b_l = a0
    · rw [i12_l, i11_l, if_neg (by omega), i10_l, if_neg (by omega), i9_l, if_neg (by omega), i8_l, if_neg (by omega), i7_l, if_neg (by omega), i6_l, if_neg (by omega), i5_l, if_neg (by omega), i4_l, if_neg (by omega), i3_l, if_neg (by omega), i2_l, if_neg (by omega), i1_l, if_neg (by omega)]
    · rw [y5 b_l j_l hb_l, i5_l, if_neg (by omega), i4_l, if_neg (by omega), i3_l, if_neg (by omega), i2_l, if_neg (by omega), i1_l, if_neg (by omega)]
end Bc
