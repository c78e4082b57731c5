/-! what a book's text tells is small -/
noncomputable def Rv (V : Nat → Int) : Prop := ∀ k, Tx k → 0 ≤ V k ∧ V k ≤ 100
noncomputable def Wr (w : gLW) : Prop := ((w.1 = 3 ∨ w.1 = 4) ∨ (0 ≤ w.2.1 ∧ w.2.1 ≤ 100)) ∧ (0 ≤ w.2.2.1 ∧ w.2.2.1 ≤ 100) ∧ (0 ≤ w.2.2.2 ∧ w.2.2.2 ≤ 100)
section Rr
variable {L : Nat → Int} {e f g : Nat} {V W : Nat → Int} {w : gLW}
theorem nb_r {x : Nat} {lo hi v : Int} (h : nb L e x lo hi f = Sum.inr (v, g)) : lo ≤ v ∧ v ≤ hi := by
  unfold nb at h
  by_cases a1 : Wd L e x f
  · rw [cif_p a1] at h
    by_cases a2 : Nm L e (nx L e f) lo hi
    · rw [cif_p a2] at h
      cases h
      exact a2.2.2
    · rw [cif_n a2] at h
      cases h
  · rw [cif_n a1] at h
    cases h
theorem tb_r {x : Nat} {v : Int} (h : tb L e x f = Sum.inr (v, g)) : 0 ≤ v ∧ v ≤ 63 := by
  unfold tb at h
  by_cases a1 : Wd L e x f
  · rw [cif_p a1] at h
    by_cases a2 : Tr L e (nx L e f)
    · rw [cif_p a2] at h
      cases h
      have hb_l := lrn_a (L := L) (e := e) e (a := nx L e f)
      refine tbs_b (L := L) (a := nx L e f) (n := lr L e (nx L e f) - nx L e f) (fun i_l hi' => hb_l (nx L e f + i_l) (by omega) ?_)
      show nx L e f + i_l < lr L e (nx L e f)
      omega
    · rw [cif_n a2] at h
      cases h
  · rw [cif_n a1] at h
    cases h
theorem lnS_r (h : lnS L e f = Sum.inr (w, g)) : Wr w := by
  obtain ⟨⟨v1_l, g1⟩, h1, h⟩ := eb_w h
  obtain ⟨⟨v2, g2⟩, h2, h⟩ := eb_w h
  obtain ⟨⟨v3, g3_l⟩, h3, h⟩ := eb_w h
  have b1 := nb_r h1
  have b2 := nb_r h2
  have b3 := nb_r h3
  cases h
  exact ⟨Or.inr (by dsimp only; omega), by dsimp only; omega, by dsimp only; omega⟩
theorem lnM_r (h : lnM L e f = Sum.inr (w, g)) : Wr w := by
  obtain ⟨⟨v1_l, g1⟩, h1, h⟩ := eb_w h
  obtain ⟨⟨v2, g2⟩, h2, h⟩ := eb_w h
  obtain ⟨⟨v3, g3_l⟩, h3, h⟩ := eb_w h
  have b1 := nb_r h1
  have b2 := nb_r h2
  have b3 := tb_r h3
  cases h
  exact ⟨Or.inr (by dsimp only; omega), by dsimp only; omega, by dsimp only; omega⟩
theorem lnT_r (h : lnT L e f = Sum.inr (w, g)) : Wr w := by
  obtain ⟨⟨v1_l, g1⟩, h1, h⟩ := eb_w h
  obtain ⟨⟨v2, g2⟩, h2, h⟩ := eb_w h
  have b1 := nb_r h1
  have b2 := tb_r h2
  cases h
  exact ⟨Or.inr (by dsimp only; omega), by dsimp only; omega, by dsimp only; omega⟩
theorem ln1_r {t x : Nat} {hi : Int} (h : ln1 L e t x hi f = Sum.inr (w, g)) (ht : t = 3 ∨ t = 4 ∨ hi ≤ 100) : Wr w := by
  obtain ⟨⟨v1_l, g1⟩, h1, h⟩ := eb_w h
  have b1 := nb_r h1
  cases h
  refine ⟨?_, by dsimp only; omega, by dsimp only; omega⟩
  dsimp only
  omega
theorem ln_r (h : ln L e f V = Sum.inr (w, g)) : Wr w := by
  unfold ln at h
  by_cases a1 : Wd L e 13 f
  · rw [cif_p a1] at h
    by_cases b1 : V 3 < 8
    · rw [if_pos b1] at h
      exact lnS_r h
    · rw [if_neg b1] at h; cases h
  rw [cif_n a1] at h
  by_cases a2 : Wd L e 14 f
  · rw [cif_p a2] at h
    by_cases b1 : V 4 < 6
    · rw [if_pos b1] at h
      exact lnM_r h
    · rw [if_neg b1] at h; cases h
  rw [cif_n a2] at h
  by_cases a3 : Wd L e 15 f
  · rw [cif_p a3] at h
    by_cases b1 : V 5 < 6
    · rw [if_pos b1] at h
      exact lnT_r h
    · rw [if_neg b1] at h; cases h
  rw [cif_n a3] at h
  by_cases a4 : Wd L e 16 f
  · rw [cif_p a4] at h
    by_cases b1 : V 6 < 6
    · rw [if_pos b1] at h
      exact ln1_r h (by decide)
    · rw [if_neg b1] at h; cases h
  rw [cif_n a4] at h
  by_cases a5 : Wd L e 17 f
  · rw [cif_p a5] at h
    exact ln1_r h (by decide)
  rw [cif_n a5] at h
  by_cases a6 : Wd L e 25 f
  · rw [cif_p a6] at h
    exact ln1_r h (by decide)
  rw [cif_n a6] at h
  by_cases a7 : Wd L e 26 f
  · rw [cif_p a7] at h
    exact ln1_r h (by decide)
  rw [cif_n a7] at h
  by_cases a8 : Wd L e 27 f
  · rw [cif_p a8] at h
    exact ln1_r h (by decide)
  rw [cif_n a8] at h
  cases h
theorem Tx_88 {k : Nat} (hk : Tx k) : k ≠ 8 ∧ k < 88 := by
  have h1 := hk.1.1
  have q_l : ∀ k, k < 100 → mnt k = false → k ≠ 8 ∧ k < 88 := by decide +kernel
  exact q_l k h1 hk.2
theorem av_r (hw : Wr w) (hr : Rw w V) (hg : Rg V) (h : Rv V) : Rv (av w V) := by
  intro k_l hk
  have hk8 := Tx_88 hk
  have hv := h k_l hk
  obtain ⟨w1_l, w2_l, w3_l⟩ := hw
  obtain ⟨g1, g2, g3_l, g4⟩ := hg
  unfold av
  split
  · rename_i e1
    repeat' split
    all_goals omega
  · rename_i e1
    repeat' split
    all_goals omega
  · rename_i e1
    repeat' split
    all_goals omega
  · rename_i e1
    repeat' split
    all_goals omega
  · rename_i e1
    repeat' split
    all_goals omega
  · rename_i e1
    repeat' split
    all_goals omega
  · rename_i e1
    repeat' split
    all_goals omega
  · rename_i e0 e1 e2 e3 e4 e5 e6 e7
    have q3_l : w.1 ≠ 3 := by assumption
    have q4_l : w.1 ≠ 4 := by assumption
    repeat' split
    all_goals omega
theorem rdl_R (n : Nat) : ∀ (f : Nat) (V W : Nat → Int), rdl L e n f V = Sum.inr W → Rg V → Rv V → Rv W := by
  induction n with
  | zero => intro f V W h_l; unfold rdl at h_l; cases h_l
  | succ n ih_l =>
    intro f V W h_l hg hv
    unfold rdl at h_l
    obtain ⟨y_l, h1, h2⟩ := eb_w h_l
    have a1_l := av_r (ln_r h1) (ln_w h1) hg hv
    have a2 := av_rg (ln_w h1) hg
    by_cases c1 : y_l.2 = e
    · rw [if_pos c1] at h2
      injection h2 with h3
      rw [← h3]
      exact a1_l
    · rw [if_neg c1] at h2
      by_cases c2 : L y_l.2 = 59
      · rw [if_pos c2] at h2
        exact ih_l _ _ _ h2 a2 a1_l
      · rw [if_neg c2] at h2
        cases h2
theorem rdb_R (h : rdb L e V = Sum.inr W) (hg : Rg V) (hv : Rv V) : Rv W := by
  unfold rdb at h
  by_cases c : sk L e 0 = e
  · rw [if_pos c] at h
    injection h with h1
    rw [← h1]
    exact hv
  · rw [if_neg c] at h
    exact rdl_R _ _ _ _ h hg hv
end Rr
