/-! acts keep the further ranges -/
section Va
variable {V W : Nat → Int} {i j k n m a : Nat} {T : (Nat → Int) → Int} {v c lu x y w : Int} {L : Nat → Nat → Int} {cc : gCt}
theorem p1_lt : ∀ b : Nat, b < 9 → ∀ n : Nat, n < b → 0 ≤ gshl 1 (n : Int) ∧ gshl 1 (n : Int) < 2 ^ b := by decide +kernel
theorem p1_le : ∀ b : Nat, b < 9 → ∀ n : Nat, n ≤ b → 0 ≤ g32 (gshl 1 (n : Int) - 1) ∧ g32 (gshl 1 (n : Int) - 1) < 2 ^ b := by decide +kernel
/-- a rival's purse is less, and he holds more -/
theorem Vp_r (h : Vp V) (hg : Vg V) (hj : j < 6) (hx : 0 ≤ x ∧ x ≤ 9999) (hy : 0 ≤ y ∧ y < 2 ^ (V 3).toNat) : Vp (up (up V (88 + 2 * j) x) (88 + 2 * j + 1) (gor (V (88 + 2 * j + 1)) y)) := by
  have h3 := hg.1.1
  have u4_l : up (up V (88 + 2 * j) x) (88 + 2 * j + 1) (gor (V (88 + 2 * j + 1)) y) 4 = V 4 := (up_n (by omega)).trans (up_n (by omega))
  have u6 : up (up V (88 + 2 * j) x) (88 + 2 * j + 1) (gor (V (88 + 2 * j + 1)) y) 6 = V 6 := (up_n (by omega)).trans (up_n (by omega))
  refine ⟨fun i_l hi_l h4 => ?_, fun r_l hr h6 => ?_⟩
  · rw [u4_l] at h4
    rw [up_n (k := 88 + 2 * j + 1) (j := 43 + 6 * i_l) (by omega), up_n (k := 88 + 2 * j) (j := 43 + 6 * i_l) (by omega), up_n (k := 88 + 2 * j + 1) (j := 3) (by omega), up_n (k := 88 + 2 * j) (j := 3) (by omega), up_n (k := 88 + 2 * j + 1) (j := 44 + 6 * i_l) (by omega), up_n (k := 88 + 2 * j) (j := 44 + 6 * i_l) (by omega)]
    exact h.1 i_l hi_l h4
  · rw [u6] at h6
    have h2 := h.2 r_l hr h6
    rw [up_n (k := 88 + 2 * j + 1) (j := 3) (by omega), up_n (k := 88 + 2 * j) (j := 3) (by omega)]
    by_cases e : r_l = j
    · rw [e] at h2 ⊢
      rw [up_n (k := 88 + 2 * j + 1) (j := 88 + 2 * j) (by omega), up_s, up_s]
      exact ⟨hx, gor_lt (V 3).toNat (by omega) h2.2 hy⟩
    · rw [up_n (k := 88 + 2 * j + 1) (j := 88 + 2 * r_l) (by omega), up_n (k := 88 + 2 * j) (j := 88 + 2 * r_l) (by omega), up_n (k := 88 + 2 * j + 1) (j := 88 + 2 * r_l + 1) (by omega), up_n (k := 88 + 2 * j) (j := 88 + 2 * r_l + 1) (by omega)]
      exact h2
theorem Vp_m (h : Vp V) (hi : i < 6) (hj : j = 0 ∨ j = 1 ∨ j = 2 ∨ j = 5) : Vp (up V (40 + 6 * i + j) v) := Vp_x h ⟨⟨by omega, by omega, by omega⟩, fun l hl => by omega, Or.inl (by omega)⟩
theorem Vp_log (h : Vp V) : Vp (logY x w i V L).1 := Vp_o h (by omega)
theorem qPf (hg : Vg cc.1) (h : Vp cc.1) : (aPf x cc).1 = 0 → Vp (aPf x cc).2.2.1 := by
  have h4 := hg.1.2
  unfold aPf
  by_cases hx : 0 ≤ x ∧ x < cc.1 4
  · rw [if_pos hx]
    by_cases h5 : cc.1 (40 + 6 * x.toNat + 5) = 0 ∧ cc.1 (40 + 6 * x.toNat + 1) ≠ 0
    · rw [if_pos h5]
      intro _
      exact Vp_log (Vp_m (j := 0) (Vp_m (j := 1) h (by omega) (by omega)) (by omega) (by omega))
    · rw [if_neg h5]
      exact n20
  · rw [if_neg hx]
    exact n10
theorem qTr (hg : Vg cc.1) (h : Vp cc.1) : (aTr x y cc).1 = 0 → Vp (aTr x y cc).2.2.1 := by
  have h4 := hg.1.2
  unfold aTr
  by_cases hx : (0 ≤ x ∧ x < cc.1 4) ∧ (0 ≤ y ∧ y < cc.1 5)
  · rw [if_pos hx]
    by_cases h5 : cc.1 (40 + 6 * x.toNat + 5) = 0
    · rw [if_pos h5]
      intro _
      have hi_l : x.toNat < 6 := by omega
      refine Vp_log ?_
      have h1 : Vp (trC x.toNat (cgt x.toNat y.toNat cc.1) (paysF (cc.1 (76 + 2 * y.toNat)) cc.1)) := by
        unfold trC
        split
        · exact Vp_m (j := 0) (Vp_pays h) hi_l (by omega)
        · exact Vp_m (j := 0) (Vp_pays h) hi_l (by omega)
      unfold trdV barV
      split
      · exact Vp_m (j := 5) h1 hi_l (by omega)
      · exact h1
    · rw [if_neg h5]
      exact n20
  · rw [if_neg hx]
    exact n10
theorem qFl (hg : Vg cc.1) (h : Vp cc.1) : (aFl x cc).1 = 0 → Vp (aFl x cc).2.2.1 := by
  have h4 := hg.1.2
  unfold aFl
  by_cases hx : 0 ≤ x ∧ x < cc.1 4
  · rw [if_pos hx]
    by_cases h5 : cc.1 (40 + 6 * x.toNat + 5) = 0 ∧ ¬ 0 < cc.1 (40 + 6 * x.toNat + 4)
    · rw [if_pos h5]
      intro _
      exact Vp_m (j := 5) h (by omega) (by omega)
    · rw [if_neg h5]
      exact n20
  · rw [if_neg hx]
    exact n10
theorem qSl (hg : Vg cc.1) (h : Vp cc.1) (h6 : cc.1 6 ≤ 6) : (aSl x y v cc).1 = 0 → Vp (aSl x y v cc).2.2.1 := by
  have h4 := hg.1
  unfold aSl
  by_cases hx : (0 ≤ x ∧ x < cc.1 4) ∧ (0 ≤ y ∧ y < cc.1 6)
  · rw [if_pos hx]
    by_cases hv : 0 ≤ v ∧ v ≤ cc.1 (88 + 2 * y.toNat)
    · rw [if_pos hv]
      by_cases h5 : cc.1 (40 + 6 * x.toNat + 5) = 0
      · rw [if_pos h5]
        intro _
        have hi_l : x.toNat < 6 := by omega
        have hj : y.toNat < 6 := by omega
        have hb_l := h.2 y.toNat hj (by omega)
        have hm_l := h.1 x.toNat hi_l (by omega)
        have hz := (hg.2.1 x.toNat hi_l).2.1
        have e3_l : cc.1 (40 + 6 * x.toNat + 3) = ((cc.1 (43 + 6 * x.toNat)).toNat : Int) := by
          rw [show 40 + 6 * x.toNat + 3 = 43 + 6 * x.toNat by omega]
          omega
        refine Vp_m (j := 5) (Vp_o (Vp_r h hg hj ?_ ?_) (by omega)) hi_l (by omega)
        · rw [g32_eq (by omega) (by omega)]
          omega
        · rw [e3_l]
          exact p1_le (cc.1 3).toNat (by omega) (cc.1 (43 + 6 * x.toNat)).toNat (by omega)
      · rw [if_neg h5]
        exact n30
    · rw [if_neg hv]
      exact n20
  · rw [if_neg hx]
    exact n10
theorem qPt (hg : Vg cc.1) (h : Vp cc.1) (h6 : cc.1 6 ≤ 6) : (aPt x y cc).1 = 0 → Vp (aPt x y cc).2.2.1 := by
  have h4 := hg.1
  unfold aPt
  by_cases hx : (0 ≤ x ∧ x < cc.1 3) ∧ (0 ≤ y ∧ y < cc.1 6)
  · rw [if_pos hx]
    by_cases h5 : gand (gshr (cc.1 (88 + 2 * y.toNat + 1)) x) 1 = 0 ∧ ¬ cc.1 (88 + 2 * y.toNat) < 20
    · rw [if_pos h5]
      intro _
      have hj : y.toNat < 6 := by omega
      have hb_l := h.2 y.toNat hj (by omega)
      have ex_l : x = ((x.toNat : Nat) : Int) := by omega
      refine Vp_r h hg hj ?_ ?_
      · rw [g32_eq (by omega) (by omega)]
        omega
      · rw [ex_l]
        exact p1_lt (cc.1 3).toNat (by omega) x.toNat (by omega)
    · rw [if_neg h5]
      exact n20
  · rw [if_neg hx]
    exact n10
theorem qPy (h : Vp cc.1) : (aPy x cc).1 = 0 → Vp (aPy x cc).2.2.1 := by
  unfold aPy
  by_cases hx : 1 ≤ x ∧ x ≤ min (cc.1 9) (cc.1 8)
  · rw [if_pos hx]
    intro _
    exact Vp_o (Vp_o h (by omega)) (by omega)
  · rw [if_neg hx]
    exact n10
theorem qDy (hg : Vg cc.1) (h : Vp cc.1) : (aDy T x cc).1 = 0 → Vp (aDy T x cc).2.2.1 := by
  unfold aDy
  by_cases hx : 1 ≤ x ∧ x ≤ 200
  · rw [if_pos hx]
    intro _
    exact Vp_days hg h _
  · rw [if_neg hx]
    exact n10
/-- both kinds of ranges -/
theorem okPf {c : gCt} (ho : Okc c) (hj : Jn c.1) : (aPf x c).1 = 0 → Okc (aPf x c).2.2 := fun z_l => ⟨⟨(ogPf ⟨ho.1.1, ho.2⟩ hj z_l).1, qPf ho.1.1 ho.1.2 z_l⟩, (ogPf ⟨ho.1.1, ho.2⟩ hj z_l).2⟩
theorem okTr {c : gCt} (ho : Okc c) : (aTr x y c).1 = 0 → Okc (aTr x y c).2.2 := fun z_l => ⟨⟨(ogTr ⟨ho.1.1, ho.2⟩ z_l).1, qTr ho.1.1 ho.1.2 z_l⟩, (ogTr ⟨ho.1.1, ho.2⟩ z_l).2⟩
theorem okFl {c : gCt} (ho : Okc c) : (aFl x c).1 = 0 → Okc (aFl x c).2.2 := fun z_l => ⟨⟨(ogFl ⟨ho.1.1, ho.2⟩ z_l).1, qFl ho.1.1 ho.1.2 z_l⟩, (ogFl ⟨ho.1.1, ho.2⟩ z_l).2⟩
theorem okSl {c : gCt} (ho : Okc c) (hj : Jn c.1) : (aSl x y v c).1 = 0 → Okc (aSl x y v c).2.2 := fun z_l => ⟨⟨(ogSl ⟨ho.1.1, ho.2⟩ z_l).1, qSl ho.1.1 ho.1.2 hj.2.1.2.2 z_l⟩, (ogSl ⟨ho.1.1, ho.2⟩ z_l).2⟩
theorem okPt {c : gCt} (ho : Okc c) (hj : Jn c.1) : (aPt x y c).1 = 0 → Okc (aPt x y c).2.2 := fun z_l => ⟨⟨(ogPt ⟨ho.1.1, ho.2⟩ z_l).1, qPt ho.1.1 ho.1.2 hj.2.1.2.2 z_l⟩, (ogPt ⟨ho.1.1, ho.2⟩ z_l).2⟩
theorem okPy {c : gCt} (ho : Okc c) : (aPy x c).1 = 0 → Okc (aPy x c).2.2 := fun z_l => ⟨⟨(ogPy ⟨ho.1.1, ho.2⟩ z_l).1, qPy ho.1.2 z_l⟩, (ogPy ⟨ho.1.1, ho.2⟩ z_l).2⟩
theorem okDy {c : gCt} (ho : Okc c) : (aDy T x c).1 = 0 → Okc (aDy T x c).2.2 := fun z_l => ⟨⟨(ogDy ⟨ho.1.1, ho.2⟩ z_l).1, qDy ho.1.1 ho.1.2 z_l⟩, (ogDy ⟨ho.1.1, ho.2⟩ z_l).2⟩
end Va
