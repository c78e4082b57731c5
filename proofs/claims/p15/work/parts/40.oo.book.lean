/-! a book read keeps the full relation -/
noncomputable def Kx (k : Nat) : Prop := KK k ∧ k ≠ 13
noncomputable def Vh (V : Nat → Int) : Prop := (∀ i, i < 8 → 0 ≤ V (16 + 3 * i) ∧ V (16 + 3 * i) ≤ 30) ∧ ∀ i, i < 6 → 0 ≤ V (44 + 6 * i) ∧ V (44 + 6 * i) ≤ 30
section Bx
variable {s t u : gS} {p : gP} {B C D E : Nat} {L : Nat → Int} {e f g k : Nat} {V W : Nat → Int} {w : gLW}
theorem Kx_n : Kx 0 ∧ Kx 3 ∧ Kx 4 ∧ Kx 5 ∧ Kx 6 := by unfold Kx KK; decide
theorem Kx_c (hk : Kx k) : (∃ o q, o < 12 ∧ (∀ B C, pa B C k = C + o) ∧ pj k = q ∧ ∀ C, CCr C (C + o) q) ∨ ∃ o q, o < 6 ∧ (∀ B C, pa B C k = B + o) ∧ pj k = q ∧ ∀ B, BCr B (B + o) q := by
  obtain ⟨⟨h1, h2, h3, h4⟩, h5⟩ := hk
  by_cases c1 : k < 16
  · have hc_l : (k = 0 ∨ k = 3 ∨ k = 5 ∨ k = 10 ∨ k = 11 ∨ k = 12) ∨ (k = 4 ∨ k = 6 ∨ k = 7 ∨ k = 8 ∨ k = 9 ∨ k = 14) := by omega
    rcases hc_l with hc_l | hc_l
    · rcases hc_l with rfl | rfl | rfl | rfl | rfl | rfl <;> exact Or.inr ⟨0, _, by decide, fun B C => rfl, rfl, fun B => Or.inl ⟨rfl, by decide, by decide⟩⟩
    · rcases hc_l with rfl | rfl | rfl | rfl | rfl | rfl <;> exact Or.inl ⟨0, _, by decide, fun B C => rfl, rfl, fun C => Or.inl ⟨rfl, by decide, by decide⟩⟩
  by_cases c2 : k < 40
  · have ej : pj k = (k - 16) / 3 := by
      unfold pj
      rw [if_neg (by omega), if_pos (by omega)]
    refine Or.inr ⟨1 + (k - 16) % 3, _, by omega, fun B C => ?_, ej, fun B => Or.inr (Or.inl ⟨by omega, by omega⟩)⟩
    unfold pa
    rw [if_neg (by omega), if_pos (by omega)]
    omega
  by_cases c3 : k < 76
  · have ej : pj k = (k - 40) % 6 := by
      unfold pj
      rw [if_neg (by omega), if_neg (by omega), if_pos (by omega)]
    refine Or.inl ⟨6 + (k - 40) / 6, _, by omega, fun B C => ?_, ej, fun C => Or.inr (Or.inr ⟨by omega, by omega, by omega⟩)⟩
    unfold pa
    rw [if_neg (by omega), if_neg (by omega), if_pos (by omega)]
    omega
  by_cases c4 : k < 88
  · have ej : pj k = (k - 76) / 2 := by
      unfold pj
      rw [if_neg (by omega), if_neg (by omega), if_neg (by omega), if_pos (by omega)]
    refine Or.inr ⟨4 + (k - 76) % 2, _, by omega, fun B C => ?_, ej, fun B => Or.inr (Or.inr ⟨by omega, by omega⟩)⟩
    unfold pa
    rw [if_neg (by omega), if_neg (by omega), if_neg (by omega), if_pos (by omega)]
    omega
  · have ej : pj k = (k - 88) / 2 := by
      unfold pj
      rw [if_neg (by omega), if_neg (by omega), if_neg (by omega), if_neg (by omega)]
    refine Or.inl ⟨2 + (k - 88) % 2, _, by omega, fun B C => ?_, ej, fun C => Or.inr (Or.inl ⟨by omega, by omega⟩)⟩
    unfold pa
    rw [if_neg (by omega), if_neg (by omega), if_neg (by omega), if_neg (by omega)]
    omega
theorem cc_k (h1 : BC B D s t) (h2 : CC C E t u) (d1 : B + 6 ≤ C ∨ C + 12 ≤ B) (d2 : B + 6 ≤ E ∨ E + 12 ≤ B) {k : Nat} (hk : Kx k) : cv u B C k = cv s D E k := by
  rcases Kx_c hk with ⟨o, q_l, o1, o2, o3_l, o4_l⟩ | ⟨o, q_l, o1, o2, o3_l, o4_l⟩
  · show gI u (pa B C k) (pj k) = gI s (pa D E k) (pj k)
    rw [o2, o2, o3_l, (h2.2 _ q_l).1 (o4_l _), show C + o - C + E = E + o by omega]
    exact (h1.2 _ q_l).2 (fun z_l => by have := bkb z_l; omega)
  · show gI u (pa B C k) (pj k) = gI s (pa D E k) (pj k)
    rw [o2, o2, o3_l, (h2.2 _ q_l).2 (fun z_l => by have := blk (Or.inl z_l); omega), (h1.2 _ q_l).1 (o4_l _), show B + o - B + D = D + o by omega]
theorem av_13 : av w V 13 = V 13 := by
  unfold av
  split
  all_goals
    repeat' split
    all_goals first | rfl | (exfalso; omega)
theorem av_12 : av w V 1 = V 1 ∧ av w V 2 = V 2 := by
  unfold av
  constructor
  · split
    all_goals
      repeat' split
      all_goals first | rfl | (exfalso; omega)
  · split
    all_goals
      repeat' split
      all_goals first | rfl | (exfalso; omega)
theorem rdl_12 (n : Nat) : ∀ (f : Nat) (V W : Nat → Int), rdl L e n f V = Sum.inr W → W 1 = V 1 ∧ W 2 = V 2 := by
  induction n with
  | zero => intro f V W h_l; unfold rdl at h_l; cases h_l
  | succ n ih_l =>
    intro f V W h_l
    unfold rdl at h_l
    obtain ⟨y_l, h1, h2⟩ := eb_w h_l
    by_cases c1 : y_l.2 = e
    · rw [if_pos c1] at h2
      injection h2 with h3
      rw [← h3]
      exact av_12
    · rw [if_neg c1] at h2
      by_cases c2 : L y_l.2 = 59
      · rw [if_pos c2] at h2
        obtain ⟨q1_l, q2_l⟩ := ih_l _ _ _ h2
        exact ⟨q1_l.trans av_12.1, q2_l.trans av_12.2⟩
      · rw [if_neg c2] at h2
        cases h2
theorem rdb_12 (h : rdb L e V = Sum.inr W) : W 1 = V 1 ∧ W 2 = V 2 := by
  unfold rdb at h
  by_cases c : sk L e 0 = e
  · rw [if_pos c] at h
    injection h with h1
    rw [← h1]
    exact ⟨rfl, rfl⟩
  · rw [if_neg c] at h
    exact rdl_12 _ _ _ _ h
theorem lnS_d (h : lnS L e f = Sum.inr (w, g)) : 0 ≤ w.2.1 ∧ w.2.1 ≤ 30 := by
  obtain ⟨⟨v1_l, g1⟩, h1, h⟩ := eb_w h
  obtain ⟨⟨v2, g2⟩, h2, h⟩ := eb_w h
  obtain ⟨⟨v3, g3_l⟩, h3, h⟩ := eb_w h
  have b1 := nb_r h1
  cases h
  dsimp only
  omega
theorem ln1_t0 {t x : Nat} {hi : Int} (h : ln1 L e t x hi f = Sum.inr (w, g)) : w.1 = t := by
  obtain ⟨⟨v1_l, g1⟩, h1, h⟩ := eb_w h
  cases h
  rfl
theorem ln_d (h : ln L e f V = Sum.inr (w, g)) : w.1 = 0 → 0 ≤ w.2.1 ∧ w.2.1 ≤ 30 := by
  intro h0
  unfold ln at h
  by_cases a1 : Wd L e 13 f
  · rw [cif_p a1] at h
    by_cases b1 : V 3 < 8
    · rw [if_pos b1] at h
      exact lnS_d h
    · rw [if_neg b1] at h; cases h
  rw [cif_n a1] at h
  by_cases a2 : Wd L e 14 f
  · rw [cif_p a2] at h
    by_cases b1 : V 4 < 6
    · rw [if_pos b1] at h
      have := lnM_t h
      omega
    · rw [if_neg b1] at h; cases h
  rw [cif_n a2] at h
  by_cases a3 : Wd L e 15 f
  · rw [cif_p a3] at h
    by_cases b1 : V 5 < 6
    · rw [if_pos b1] at h
      have := lnT_t h
      omega
    · rw [if_neg b1] at h; cases h
  rw [cif_n a3] at h
  by_cases a4 : Wd L e 16 f
  · rw [cif_p a4] at h
    by_cases b1 : V 6 < 6
    · rw [if_pos b1] at h
      have := ln1_t0 h
      omega
    · rw [if_neg b1] at h; cases h
  rw [cif_n a4] at h
  by_cases a5 : Wd L e 17 f
  · rw [cif_p a5] at h
    have := ln1_t0 h
    omega
  rw [cif_n a5] at h
  by_cases a6 : Wd L e 25 f
  · rw [cif_p a6] at h
    have := ln1_t0 h
    omega
  rw [cif_n a6] at h
  by_cases a7 : Wd L e 26 f
  · rw [cif_p a7] at h
    have := ln1_t0 h
    omega
  rw [cif_n a7] at h
  by_cases a8 : Wd L e 27 f
  · rw [cif_p a8] at h
    have := ln1_t0 h
    omega
  rw [cif_n a8] at h
  cases h
theorem av_d (hw : w.1 = 0 → 0 ≤ w.2.1 ∧ w.2.1 ≤ 30) (hr : Rw w V) (hg : Rg V) {i : Nat} (hi : i < 8) (h : 0 ≤ V (16 + 3 * i) ∧ V (16 + 3 * i) ≤ 30) : 0 ≤ av w V (16 + 3 * i) ∧ av w V (16 + 3 * i) ≤ 30 := by
  obtain ⟨g1, g2, g3_l, g4⟩ := hg
  obtain ⟨r1_l, r2, r3, r4⟩ := hr
  unfold av
  split
  · rename_i e1
    have := hw e1
    have := r1_l e1
    repeat' split
    all_goals omega
  · rename_i e1
    have := r2 e1
    repeat' split
    all_goals omega
  · rename_i e1
    have := r3 e1
    repeat' split
    all_goals omega
  · rename_i e1
    have := r4 e1
    repeat' split
    all_goals omega
  all_goals
    repeat' split
    all_goals omega
theorem av_t (hr : Rw w V) (hg : Rg V) {i : Nat} (hi : i < 6) (h : 0 ≤ V (44 + 6 * i) ∧ V (44 + 6 * i) ≤ 30) : 0 ≤ av w V (44 + 6 * i) ∧ av w V (44 + 6 * i) ≤ 30 := by
  obtain ⟨g1, g2, g3_l, g4⟩ := hg
  obtain ⟨r1_l, r2, r3, r4⟩ := hr
  unfold av
  split
  · rename_i e1
    have := r1_l e1
    repeat' split
    all_goals omega
  · rename_i e1
    have := r2 e1
    repeat' split
    all_goals omega
  · rename_i e1
    have := r3 e1
    repeat' split
    all_goals omega
  · rename_i e1
    have := r4 e1
    repeat' split
    all_goals omega
  all_goals
    repeat' split
    all_goals omega
/-- the further ranges, line by line -/
theorem ln1_rg {t x : Nat} {hi : Int} (h : ln1 L e t x hi f = Sum.inr (w, g)) : 0 ≤ w.2.1 ∧ w.2.1 ≤ hi := by
  obtain ⟨⟨v1_l, g1⟩, h1, h⟩ := eb_w h
  have b1 := nb_r h1
  cases h
  dsimp only
  omega
theorem lnS_0 (h : lnS L e f = Sum.inr (w, g)) : w.1 = 0 := by
  obtain ⟨⟨v1_l, g1⟩, h1, h⟩ := eb_w h
  obtain ⟨⟨v2, g2⟩, h2, h⟩ := eb_w h
  obtain ⟨⟨v3, g3_l⟩, h3, h⟩ := eb_w h
  cases h
  rfl
theorem ln_p (h : ln L e f V = Sum.inr (w, g)) : w.1 = 3 → 0 ≤ w.2.1 ∧ w.2.1 ≤ 9999 := by
  intro h0
  unfold ln at h
  by_cases a1 : Wd L e 13 f
  · rw [cif_p a1] at h
    by_cases b1 : V 3 < 8
    · rw [if_pos b1] at h
      have := lnS_0 h
      omega
    · rw [if_neg b1] at h; cases h
  rw [cif_n a1] at h
  by_cases a2 : Wd L e 14 f
  · rw [cif_p a2] at h
    by_cases b1 : V 4 < 6
    · rw [if_pos b1] at h
      have := lnM_t h
      omega
    · rw [if_neg b1] at h; cases h
  rw [cif_n a2] at h
  by_cases a3 : Wd L e 15 f
  · rw [cif_p a3] at h
    by_cases b1 : V 5 < 6
    · rw [if_pos b1] at h
      have := lnT_t h
      omega
    · rw [if_neg b1] at h; cases h
  rw [cif_n a3] at h
  by_cases a4 : Wd L e 16 f
  · rw [cif_p a4] at h
    by_cases b1 : V 6 < 6
    · rw [if_pos b1] at h
      have := ln1_rg h
      omega
    · rw [if_neg b1] at h; cases h
  rw [cif_n a4] at h
  by_cases a5 : Wd L e 17 f
  · rw [cif_p a5] at h
    have := ln1_t0 h
    omega
  rw [cif_n a5] at h
  by_cases a6 : Wd L e 25 f
  · rw [cif_p a6] at h
    have := ln1_t0 h
    omega
  rw [cif_n a6] at h
  by_cases a7 : Wd L e 26 f
  · rw [cif_p a7] at h
    have := ln1_t0 h
    omega
  rw [cif_n a7] at h
  by_cases a8 : Wd L e 27 f
  · rw [cif_p a8] at h
    have := ln1_t0 h
    omega
  rw [cif_n a8] at h
  cases h
theorem p2_s {x y : Int} (hx : 0 ≤ x) (h : y < 2 ^ x.toNat) (h0 : 0 ≤ y) : y < 2 ^ (x + 1).toNat := by
  rw [show (x + 1).toNat = x.toNat + 1 by omega, Int.pow_succ]
  omega
/-- the men and rivals that a line leaves -/
theorem av_e0 {w2 w3 w4 : Int} {k : Nat} : av (0, w2, w3, w4) V k = (if k = 3 then V 3 + 1 else if k = 16 + 3 * (V 3).toNat + 2 then w4 else if k = 16 + 3 * (V 3).toNat + 1 then w3 else if k = 16 + 3 * (V 3).toNat + 0 then w2 else V k) := rfl
theorem av_e1 {w2 w3 w4 : Int} {k : Nat} : av (1, w2, w3, w4) V k = (if k = 4 then V 4 + 1 else if k = 40 + 6 * (V 4).toNat + 5 then 0 else if k = 40 + 6 * (V 4).toNat + 4 then 0 else if k = 40 + 6 * (V 4).toNat + 3 then 0 else if k = 40 + 6 * (V 4).toNat + 2 then w4 else if k = 40 + 6 * (V 4).toNat + 1 then w3 else if k = 40 + 6 * (V 4).toNat + 0 then w2 else V k) := rfl
theorem av_e3 {w2 w3 w4 : Int} {k : Nat} : av (3, w2, w3, w4) V k = (if k = 6 then V 6 + 1 else if k = 88 + 2 * (V 6).toNat + 1 then 0 else if k = 88 + 2 * (V 6).toNat + 0 then w2 else V k) := rfl
theorem av_p (hw : w.1 = 3 → 0 ≤ w.2.1 ∧ w.2.1 ≤ 9999) (hr : Rw w V) (hg : Rg V) (h : Vp V) : Vp (av w V) := by
  obtain ⟨g1, g2, g3_l, g4⟩ := hg
  obtain ⟨r1_l, r2, r3, r4⟩ := hr
  obtain ⟨h1, h2⟩ := h
  have h8 : w.1 = 0 ∨ w.1 = 1 ∨ w.1 = 3 ∨ (w.1 ≠ 0 ∧ w.1 ≠ 1 ∧ w.1 ≠ 3) := by omega
  rcases h8 with e_l | e_l | e_l | ⟨e0_l, e1_l, e3_l⟩
  · have q_l := r1_l e_l
    obtain ⟨w1_l, w2_l, w3_l, w4_l⟩ := w
    have e_l : w1_l = 0 := e_l
    subst e_l
    have ev_l : ∀ k_l, (k_l ≠ 3 ∧ (k_l < 16 ∨ 40 ≤ k_l)) → av (0, w2_l, w3_l, w4_l) V k_l = V k_l := fun k_l hk => by
      rw [av_e0, if_neg hk.1, if_neg (by omega), if_neg (by omega), if_neg (by omega)]
    have e3_l : av (0, w2_l, w3_l, w4_l) V 3 = V 3 + 1 := by
      rw [av_e0, if_pos rfl]
    refine ⟨fun i_l hi_l h4 => ?_, fun r_l hr h6 => ?_⟩
    · rw [ev_l 4 (by omega)] at h4
      have := h1 i_l hi_l h4
      rw [e3_l, ev_l _ (by omega), ev_l _ (by omega)]
      omega
    · rw [ev_l 6 (by omega)] at h6
      obtain ⟨b1, b2, b3⟩ := h2 r_l hr h6
      rw [e3_l, ev_l _ (by omega), ev_l _ (by omega)]
      exact ⟨b1, b2, p2_s g1.1 b3 b2⟩
  · have q_l := r2 e_l
    obtain ⟨w1_l, w2_l, w3_l, w4_l⟩ := w
    have e_l : w1_l = 1 := e_l
    subst e_l
    obtain ⟨m_l, hm_l⟩ : ∃ m_l : Nat, V 4 = (m_l : Int) := ⟨(V 4).toNat, by omega⟩
    have ev_l : ∀ k_l, (k_l ≠ 4 ∧ (k_l < 40 + 6 * m_l ∨ 46 + 6 * m_l ≤ k_l)) → av (1, w2_l, w3_l, w4_l) V k_l = V k_l := fun k_l hk => by
      rw [av_e1, hm_l, Int.toNat_natCast, if_neg hk.1, if_neg (by omega), if_neg (by omega), if_neg (by omega), if_neg (by omega), if_neg (by omega), if_neg (by omega)]
    have e4_l : av (1, w2_l, w3_l, w4_l) V 4 = (m_l : Int) + 1 := by
      rw [av_e1, if_pos rfl, hm_l]
    have e43 : av (1, w2_l, w3_l, w4_l) V (43 + 6 * m_l) = 0 := by
      rw [av_e1, hm_l, Int.toNat_natCast, if_neg (by omega), if_neg (by omega), if_neg (by omega), if_pos (by omega)]
    have e44 : av (1, w2_l, w3_l, w4_l) V (44 + 6 * m_l) = 0 := by
      rw [av_e1, hm_l, Int.toNat_natCast, if_neg (by omega), if_neg (by omega), if_pos (by omega)]
    refine ⟨fun i_l hi_l h4 => ?_, fun r_l hr h6 => ?_⟩
    · rw [e4_l] at h4
      rw [ev_l 3 (by omega)]
      by_cases c : i_l = m_l
      · rw [c, e43, e44]
        exact ⟨g1.1, Or.inl rfl⟩
      · rw [ev_l _ (by omega), ev_l _ (by omega)]
        exact h1 i_l hi_l (by omega)
    · rw [ev_l 6 (by omega)] at h6
      rw [ev_l 3 (by omega), ev_l _ (by omega), ev_l _ (by omega)]
      exact h2 r_l hr h6
  · have q_l := r4 e_l
    have q2_l := hw e_l
    obtain ⟨w1_l, w2_l, w3_l, w4_l⟩ := w
    have e_l : w1_l = 3 := e_l
    subst e_l
    dsimp only at q2_l
    obtain ⟨m_l, hm_l⟩ : ∃ m_l : Nat, V 6 = (m_l : Int) := ⟨(V 6).toNat, by omega⟩
    have ev_l : ∀ k_l, (k_l ≠ 6 ∧ (k_l < 88 + 2 * m_l ∨ 90 + 2 * m_l ≤ k_l)) → av (3, w2_l, w3_l, w4_l) V k_l = V k_l := fun k_l hk => by
      rw [av_e3, hm_l, Int.toNat_natCast, if_neg hk.1, if_neg (by omega), if_neg (by omega)]
    have e6_l : av (3, w2_l, w3_l, w4_l) V 6 = (m_l : Int) + 1 := by
      rw [av_e3, if_pos rfl, hm_l]
    have e88 : av (3, w2_l, w3_l, w4_l) V (88 + 2 * m_l) = w2_l := by
      rw [av_e3, hm_l, Int.toNat_natCast, if_neg (by omega), if_neg (by omega), if_pos (by omega)]
    have e89 : av (3, w2_l, w3_l, w4_l) V (88 + 2 * m_l + 1) = 0 := by
      rw [av_e3, hm_l, Int.toNat_natCast, if_neg (by omega), if_pos rfl]
    refine ⟨fun i_l hi_l h4 => ?_, fun r_l hr h6 => ?_⟩
    · rw [ev_l 4 (by omega)] at h4
      rw [ev_l 3 (by omega), ev_l _ (by omega), ev_l _ (by omega)]
      exact h1 i_l hi_l h4
    · rw [e6_l] at h6
      rw [ev_l 3 (by omega)]
      by_cases c : r_l = m_l
      · rw [c, e88, e89]
        exact ⟨q2_l, Int.le_refl 0, Int.pow_pos (by decide)⟩
      · rw [ev_l _ (by omega), ev_l _ (by omega)]
        exact h2 r_l hr (by omega)
  · have ev_l : ∀ k_l, (k_l < 5 ∨ k_l = 6 ∨ (40 ≤ k_l ∧ k_l < 76) ∨ 88 ≤ k_l) → av w V k_l = V k_l := fun k_l hk => by
      unfold av
      split
      · rename_i z; exact absurd z e0_l
      · rename_i z; exact absurd z e1_l
      · rename_i z
        have q_l := r3 z
        rw [if_neg (by omega), if_neg (by omega), if_neg (by omega)]
      · rename_i z; exact absurd z e3_l
      all_goals rw [if_neg (by omega)]
    refine ⟨fun i_l hi_l h4 => ?_, fun r_l hr h6 => ?_⟩
    · rw [ev_l 4 (by omega)] at h4
      rw [ev_l 3 (by omega), ev_l _ (by omega), ev_l _ (by omega)]
      exact h1 i_l hi_l h4
    · rw [ev_l 6 (by omega)] at h6
      rw [ev_l 3 (by omega), ev_l _ (by omega), ev_l _ (by omega)]
      exact h2 r_l hr h6
theorem rdl_p (n : Nat) : ∀ (f : Nat) (V W : Nat → Int), rdl L e n f V = Sum.inr W → Rg V → Vp V → Vp W := by
  induction n with
  | zero => intro f V W h_l; unfold rdl at h_l; cases h_l
  | succ n ih_l =>
    intro f V W h_l hg hv
    unfold rdl at h_l
    obtain ⟨y_l, h1, h2⟩ := eb_w h_l
    have a1_l : Vp (av y_l.1 V) := av_p (ln_p h1) (ln_w h1) hg hv
    have a2 := av_rg (ln_w h1) hg
    by_cases c1 : y_l.2 = e
    · rw [if_pos c1] at h2
      injection h2 with h3
      rw [← h3]
      exact a1_l
    · rw [if_neg c1] at h2
      by_cases c2 : L y_l.2 = 59
      · rw [if_pos c2] at h2
        exact ih_l _ _ _ h2 a2 a1_l
      · rw [if_neg c2] at h2
        cases h2
theorem rdb_p (h : rdb L e V = Sum.inr W) (hg : Rg V) (hv : Vp V) : Vp W := by
  unfold rdb at h
  by_cases c : sk L e 0 = e
  · rw [if_pos c] at h
    injection h with h1
    rw [← h1]
    exact hv
  · rw [if_neg c] at h
    exact rdl_p _ _ _ _ h hg hv
theorem rdl_h (n : Nat) : ∀ (f : Nat) (V W : Nat → Int), rdl L e n f V = Sum.inr W → Rg V → Vh V → Vh W ∧ W 13 = V 13 := by
  induction n with
  | zero => intro f V W h_l; unfold rdl at h_l; cases h_l
  | succ n ih_l =>
    intro f V W h_l hg hv
    unfold rdl at h_l
    obtain ⟨y_l, h1, h2⟩ := eb_w h_l
    have a1_l : Vh (av y_l.1 V) := ⟨fun i_l hi_l => av_d (ln_d h1) (ln_w h1) hg hi_l (hv.1 i_l hi_l), fun i_l hi_l => av_t (ln_w h1) hg hi_l (hv.2 i_l hi_l)⟩
    have a2 := av_rg (ln_w h1) hg
    by_cases c1 : y_l.2 = e
    · rw [if_pos c1] at h2
      injection h2 with h3
      rw [← h3]
      exact ⟨a1_l, av_13⟩
    · rw [if_neg c1] at h2
      by_cases c2 : L y_l.2 = 59
      · rw [if_pos c2] at h2
        obtain ⟨q1_l, q2_l⟩ := ih_l _ _ _ h2 a2 a1_l
        exact ⟨q1_l, q2_l.trans av_13⟩
      · rw [if_neg c2] at h2
        cases h2
theorem rdb_h (h : rdb L e V = Sum.inr W) (hg : Rg V) (hv : Vh V) : Vh W ∧ W 13 = V 13 := by
  unfold rdb at h
  by_cases c : sk L e 0 = e
  · rw [if_pos c] at h
    injection h with h1
    rw [← h1]
    exact ⟨hv, rfl⟩
  · rw [if_neg c] at h
    exact rdl_h _ _ _ _ h hg hv
/-- what the class's half of book leaves -/
noncomputable def Bf (s t : gS) : Prop := (gn s ≤ gn t ∧ ∀ a, a < gn s → gK t a = gK s a) ∧ (∀ a j, a < gn s → ¬ (a = 36 ∧ j = 11) → gR t a j = gR s a j) ∧ ∀ a j, 232 ≤ a → a < gn s → gI t a j = gI s a j
noncomputable def Bs (s u : gS) : Prop := gn u = gn s ∧ (∀ a, gK u a = gK s a) ∧ ∀ a j, gR u a j = if a = 36 ∧ j = 11 then gR s 9 11 else gR s a j
noncomputable def Bhx (s : gS) (l : Nat) (r : gO) : Prop := ((∀ a k, a < 232 → a ≠ 1 → ¬ (9 ≤ a ∧ a < 27) → ¬ (36 ≤ a ∧ a < 54) → ¬ (a = 0 ∧ (k = 14 ∨ k = 16)) → gI r.2.2.2 a k = gI s a k) ∧ Bf s r.2.2.2) ∧ ((((r.1 = 2 ∧ ∃ q, rdb (gI s 222) l (gI s 218) = Sum.inl q) ∨ (r.1 = 3 ∧ ¬ gI s 218 0 < 12 ∧ ∃ W, rdb (gI s 222) l (gI s 218) = Sum.inr W)) ∧ (∀ a k, 9 ≤ a → a < 27 → gI r.2.2.2 a k = gI s a k) ∧ gI r.2.2.2 0 14 = gI s 0 14) ∨ (r.1 = 1 ∧ gI s 218 0 < 12 ∧ ∃ W, rdb (gI s 222) l (gI s 218) = Sum.inr W ∧ r.2.1 = gI s 218 0 + 1 ∧ gI r.2.2.2 0 14 = 0 ∧ (∀ k, Kx k → cv r.2.2.2 9 15 k = if k = 0 then gI s 218 0 + 1 else W k) ∧ ∀ k, gI r.2.2.2 19 k = gI s 19 k ∧ gI r.2.2.2 20 k = gI s 20 k))
/-- behind the reading -/
theorem b_89x {l : Nat} {v w0 : Int} {W0 : Nat → Int} (h : Rt s) (hB : Bs s u) (hg : RF u) (hn : 232 ≤ gn u) (hF : ∀ a k, a ≠ 1 → ¬ (36 ≤ a ∧ a < 54) → gI u a k = gI s a k) (hv : (v = 0 ∧ ∃ q, rdb (gI s 222) l (gI s 218) = Sum.inl q) ∨ (v = 1 ∧ rdb (gI s 222) l (gI s 218) = Sum.inr W0 ∧ ∀ k, Kx k → cv u 36 42 k = W0 k)) : gQ (fb_89_54 0 v w0 0 u) (Bhx s l) := by
  obtain ⟨b1, b2, b3, b4, b5, b6⟩ := k0_b
  unfold fb_89_54
  dsimp only
  have hg8 : RF (gw u 0 16 w0) := RF_sm hg rfl
  rw [(rr_0_0 hg8).2]
  have hg9 : RF (gw (gw u 0 16 w0) 1 1 0) := RF_sm hg rfl
  have hn9 : 232 ≤ gn (gw (gw u 0 16 w0) 1 1 0) := hn
  have hF9 : ∀ a k, a ≠ 1 → ¬ (36 ≤ a ∧ a < 54) → ¬ (a = 0 ∧ k = 16) → gI (gw (gw u 0 16 w0) 1 1 0) a k = gI s a k := fun a k h1 h2 h3 => by
    show (if a = 1 ∧ k = 1 then _ else if a = 0 ∧ k = 16 then _ else gI u a k) = _
    rw [if_neg (by omega), if_neg h3]
    exact hF a k h1 h2
  have hB9 : Bs s (gw (gw u 0 16 w0) 1 1 0) := hB
  have hcv : ∀ k, Kx k → cv (gw (gw u 0 16 w0) 1 1 0) 36 42 k = cv u 36 42 k := fun k hk => by
    have hp := pa_d k hk.1.1
    show (if pa 36 42 k = 1 ∧ pj k = 1 then _ else if pa 36 42 k = 0 ∧ pj k = 16 then _ else gI u (pa 36 42 k) (pj k)) = _
    rw [if_neg (by omega), if_neg (by omega)]
    rfl
  generalize gw (gw u 0 16 w0) 1 1 0 = s9 at *
  have q1_l := (h.1 0 Tx_n.1).1
  have q2_l : 0 ≤ gI s 218 0 ∧ gI s 218 0 ≤ 12 := ⟨(h.1 0 Tx_n.1).2.2.1, (h.1 0 Tx_n.1).2.1 rfl⟩
  have c0_l : cv s 9 15 0 = gI s 9 10 := rfl
  rw [c0_l] at q1_l
  have e9_l : gI s9 9 10 = gI s 218 0 := (hF9 9 10 (by decide) (by omega) (by omega)).trans q1_l.symm
  have hfr : ∀ a k, a < 232 → a ≠ 1 → ¬ (9 ≤ a ∧ a < 27) → ¬ (36 ≤ a ∧ a < 54) → ¬ (a = 0 ∧ (k = 14 ∨ k = 16)) → gI (gnw s9 99) a k = gI s a k := fun a k h1 h2 h3 h4 h5 => (gI_nw hn9 h1).trans (hF9 a k h2 h4 (by omega))
  have hfr2 : ∀ a k, 9 ≤ a → a < 27 → gI (gnw s9 99) a k = gI s a k := fun a k h1 h2 => (gI_nw hn9 (by omega)).trans (hF9 a k (by omega) (by omega) (by omega))
  have hfr3 : gI (gnw s9 99) 0 14 = gI s 0 14 := (gI_nw hn9 (by decide)).trans (hF9 0 14 (by decide) (by omega) (by omega))
  have hbf9 : Bf s (gnw s9 99) := by
    obtain ⟨b1, b2, b3⟩ := hB9
    have b1' : s9.1 = gn s := b1
    refine ⟨⟨by show gn s ≤ s9.1 + 1; omega, fun a ha_l => ?_⟩, fun a j_l ha_l hz => ?_, fun a j_l ha_l ha2 => ?_⟩
    · show (if a = s9.1 then 99 else s9.2.1 a) = _
      rw [if_neg (by omega)]
      exact b2 a
    · show (if a = s9.1 then 0 else s9.2.2.2 a j_l) = _
      rw [if_neg (by omega)]
      refine (b3 a j_l).trans ?_
      rw [if_neg hz]
    · show (if a = s9.1 then 0 else s9.2.2.1 a j_l) = _
      rw [if_neg (by omega)]
      exact hF9 a j_l (by omega) (by omega) (by omega)
  rcases hv with ⟨v0_l, hq⟩ | ⟨v1_l, hq, hw⟩
  · rw [if_pos v0_l]
    exact gQ_ret ⟨⟨hfr, hbf9⟩, Or.inl ⟨Or.inl ⟨rfl, hq⟩, hfr2, hfr3⟩⟩
  rw [if_neg (by omega), (rr_0_4 hg9).2, (rr_0_8 hg9).2, e9_l]
  by_cases c12 : gI s 218 0 < 12
  · rw [if_pos c12]
    refine gQ_v0 (A := fun z_l => BC 9 36 s9 z_l) (fun r_l hr => (gQ_T (s_1 hg9 ⟨by decide, b1⟩ ⟨by decide, b2⟩ (by decide)) r_l hr).2) (fun s10 h10 => ?_)
    have hg10 : RF s10 := RF_bc hg9 b1 h10
    rw [(rr_0_4 hg10).2]
    have w0e := rdb_0 hq
    have e10_l : gI s10 9 10 = gI s 218 0 := by
      rw [(h10.2 9 10).1 (Or.inl ⟨rfl, by decide, by decide⟩)]
      have e1_l : gI s9 (9 - 9 + 36) 10 = cv s9 36 42 0 := rfl
      rw [e1_l, hcv 0 Kx_n.1, hw 0 Kx_n.1]
      exact w0e
    rw [e10_l, g32_eq (v := gI s 218 0 + 1) (by omega) (by omega)]
    have hg12 : RF (gw s10 9 10 (gI s 218 0 + 1)) := RF_sm hg10 rfl
    have i12_l : ∀ a k, ¬ (a = 9 ∧ k = 10) → gI (gw s10 9 10 (gI s 218 0 + 1)) a k = gI s10 a k := fun a k hz => by
      show (if a = 9 ∧ k = 10 then _ else gI s10 a k) = _
      rw [if_neg hz]
    have n12 : gn (gw s10 9 10 (gI s 218 0 + 1)) = gn s := h10.1.1.trans hB9.1
    have k12 : ∀ a, gK (gw s10 9 10 (gI s 218 0 + 1)) a = gK s a := fun a => by
      show s10.2.1 a = _
      rw [h10.1.2.1]
      exact hB9.2.1 a
    have r12 : ∀ a j_l, ¬ (a = 36 ∧ j_l = 11) → gR (gw s10 9 10 (gI s 218 0 + 1)) a j_l = gR s a j_l := fun a j_l hz => by
      show gR s10 a j_l = _
      rw [h10.1.2.2 a j_l]
      by_cases c9 : a = 9 ∧ j_l = 11
      · rw [if_pos c9, hB9.2.2, if_pos ⟨rfl, rfl⟩, c9.1, c9.2]
      · rw [if_neg c9, hB9.2.2, if_neg hz]
    have i12b : gI (gw s10 9 10 (gI s 218 0 + 1)) 9 10 = gI s 218 0 + 1 := rd_same rfl
    generalize gw s10 9 10 (gI s 218 0 + 1) = s12 at *
    rw [(rr_0_5 hg12).2, (rr_0_9 hg12).2]
    refine gQ_v0 (A := fun z_l => CC 15 42 s12 z_l) (fun r_l hr => (gQ_T (s_23 hg12 ⟨by decide, b4⟩ ⟨by decide, b5⟩ (by decide)) r_l hr).2) (fun s13 h13 => ?_)
    have r15 : gR (gw s13 0 14 0) 0 4 = 9 := (rr_0_4 (RF_sm hg12 h13.1.2.2)).2
    rw [r15]
    have i13 : ∀ a k, ¬ (15 ≤ a ∧ a < 27) → gI s13 a k = gI s12 a k := fun a k hz => (h13.2 a k).2 (fun z_l => hz (blk (Or.inl z_l)))
    have i15 : ∀ a k, ¬ (a = 0 ∧ k = 14) → gI (gw s13 0 14 0) a k = gI s13 a k := fun a k hz => by
      show (if a = 0 ∧ k = 14 then _ else gI s13 a k) = _
      rw [if_neg hz]
    have i14 : gI (gw s13 0 14 0) 0 14 = 0 := rd_same rfl
    have n15 : gn (gw s13 0 14 0) = gn s := h13.1.1.trans n12
    have k15 : ∀ a, gK (gw s13 0 14 0) a = gK s a := fun a => by
      show s13.2.1 a = _
      rw [h13.1.2.1]
      exact k12 a
    have rr15 : ∀ a j_l, ¬ (a = 36 ∧ j_l = 11) → gR (gw s13 0 14 0) a j_l = gR s a j_l := fun a j_l hz => by
      show s13.2.2.2 a j_l = _
      rw [h13.1.2.2]
      exact r12 a j_l hz
    refine gQ_ret ?_
    generalize gw s13 0 14 0 = s15 at *
    have hbs : Bf s s15 := ⟨⟨Nat.le_of_eq n15.symm, fun a _ => k15 a⟩, fun a j_l _ hz => rr15 a j_l hz, fun a j_l ha_l _ => by
      rw [i15 a j_l (by omega), i13 a j_l (by omega), i12_l a j_l (by omega), (h10.2 a j_l).2 (fun z_l => by have := bkb z_l; omega)]
      exact hF9 a j_l (by omega) (by omega) (by omega)⟩
    have lg : ∀ a k, a = 19 ∨ a = 20 → gI s15 a k = gI s a k := fun a k ha_l => by
      rw [i15 a k (by omega), (h13.2 a k).2 (fun z_l => by unfold CCr at z_l; omega), i12_l a k (by omega), (h10.2 a k).2 (fun z_l => by have := bkb z_l; omega)]
      exact hF9 a k (by omega) (by omega) (by omega)
    refine ⟨⟨fun a k h1 h2 h3 h4 h5 => ?_, hbs⟩, Or.inr ⟨rfl, c12, W0, hq, ?_, i14, fun k hk => ?_, fun k => ⟨lg 19 k (by omega), lg 20 k (by omega)⟩⟩⟩
    · dsimp only
      rw [i15 a k (by omega), i13 a k (by omega), i12_l a k (by omega), (h10.2 a k).2 (fun z_l => by have := bkb z_l; omega)]
      exact hF9 a k h2 h4 (by omega)
    · dsimp only
      rw [i15 9 10 (by omega), i13 9 10 (by omega)]
      exact i12b
    · dsimp only
      by_cases ck : k = 0
      · rw [if_pos ck, ck]
        show gI s15 9 10 = _
        rw [i15 9 10 (by omega), i13 9 10 (by omega)]
        exact i12b
      rw [if_neg ck]
      refine Eq.trans ?_ ((hcv k hk).trans (hw k hk))
      have hz := pk_0 k hk.1.1 hk.1.2
      rcases Kx_c hk with c_l | ⟨o, q, o1, o2, o3_l, o4_l⟩
      · obtain ⟨o, q, o1, o2, o3_l, o4_l⟩ := c_l
        show gI s15 (pa 9 15 k) (pj k) = gI s9 (pa 36 42 k) (pj k)
        rw [o2, o2, o3_l, i15 _ _ (by omega), (h13.2 _ q).1 (o4_l _), show 15 + o - 15 + 42 = 42 + o by omega, i12_l _ _ (by omega)]
        exact (h10.2 _ q).2 (fun z_l => by have := bkb z_l; omega)
      · rw [o2, o3_l] at hz
        show gI s15 (pa 9 15 k) (pj k) = gI s9 (pa 36 42 k) (pj k)
        rw [o2, o2, o3_l, i15 _ _ (by omega), i13 _ _ (by omega), i12_l _ _ (fun z_l => ck (hz z_l.1 z_l.2)), (h10.2 _ q).1 (o4_l _), show 9 + o - 9 + 36 = 36 + o by omega]
  · rw [if_neg c12]
    exact gQ_ret ⟨⟨hfr, hbf9⟩, Or.inl ⟨Or.inr ⟨rfl, c12, W0, hq⟩, hfr2, hfr3⟩⟩
theorem rb_89x (hJ : J p s) (h : Rt s) (hX : ∀ k, Kx k → cv s 9 15 k = gI s 218 k) : gQ (f_89 0 s) (Bhx s p.2.1.toNat) := by
  have hg : RF s := hJ.1.2.1
  have hl : gI s 1 1 = p.2.1 := hJ.2.2.1
  have hb_l := J_f hJ (kd := 10) (a := 1) (i := 1) t10 rfl (fun z_l => by cases z_l) (x := 0) (y := 400) rfl
  obtain ⟨b1, b2, b3, b4, b5, b6⟩ := k0_b
  unfold f_89
  rw [(rr_0_8 hg).2, (rr_0_4 hg).2]
  refine gQ_v0 (A := fun z_l => BC 36 9 s z_l) (fun r_l hr => (gQ_T (s_1 hg ⟨by decide, b2⟩ ⟨by decide, b1⟩ (by decide)) r_l hr).2) (fun s1_l h1 => ?_)
  have hg1 : RF s1_l := RF_bc hg b2 h1
  rw [(rr_0_9 hg1).2, (rr_0_5 hg1).2]
  refine gQ_v0 (A := fun z_l => CC 42 15 s1_l z_l) (fun r_l hr => (gQ_T (s_23 hg1 ⟨by decide, b5⟩ ⟨by decide, b4⟩ (by decide)) r_l hr).2) (fun s3_l h3 => ?_)
  have hg3 : RF s3_l := RF_sm hg1 h3.1.2.2
  rw [(rr_0_2 hg3).2, (rr_0_8 hg3).2, (rr_0_9 hg3).2]
  have f3_l : ∀ a_l k, ¬ (36 ≤ a_l ∧ a_l < 54) → gI s3_l a_l k = gI s a_l k := fun a_l k ha_l => cc_f h1 h3 (by omega) (by omega)
  have hV : ∀ k, Kx k → cv s3_l 36 42 k = gI s 218 k := fun k hk => (cc_k h1 h3 (by omega) (by omega) hk).trans (hX k hk)
  have hT_l : Tp s3_l (gI s 222) p.2.1.toNat := by
    refine ⟨(hg3 1 0 (by decide) (by decide +kernel)).trans (by decide +kernel), ?_, by omega, fun j_l => ?_⟩
    · rw [f3_l 1 1 (by omega), hl]
      omega
    · rw [f3_l 2 j_l (by omega)]
      exact h.2.1 j_l
  have hR : Rg (cv s3_l 36 42) := by
    have m_l : ∀ k x_l y_l, arn 218 k = some (x_l, y_l) → x_l ≤ gI s 218 k ∧ gI s 218 k ≤ y_l := fun k x_l y_l hk => J_ra hJ (a := 218) (k := k) (by decide) (by rw [k0_sp.2.2.2.1]; decide) hk
    refine ⟨?_, ?_, ?_, ?_⟩
    · rw [hV 3 Kx_n.2.1]
      exact m_l 3 0 8 rfl
    · rw [hV 4 Kx_n.2.2.1]
      exact m_l 4 0 6 rfl
    · rw [hV 5 Kx_n.2.2.2.1]
      exact m_l 5 0 6 rfl
    · rw [hV 6 Kx_n.2.2.2.2]
      exact m_l 6 0 6 rfl
  have hS_l := rdb_S (L := gI s 222) (e := p.2.1.toNat) (S := Kx) Kx_n.2.1 Kx_n.2.2.1 Kx_n.2.2.2.1 Kx_n.2.2.2.2 hV
  refine gQ_w1 (A := fun v_l u_l => Df s3_l u_l ∧ ((v_l = 0 ∧ ∃ q_l, rdb (gI s 222) p.2.1.toNat (cv s3_l 36 42) = Sum.inl q_l) ∨ (v_l = 1 ∧ ∃ W_l, rdb (gI s 222) p.2.1.toNat (cv s3_l 36 42) = Sum.inr W_l ∧ ∀ k, KK k → cv u_l 36 42 k = W_l k))) (fun r_l hr => ?_) (fun v_l u_l hu => ?_)
  · obtain ⟨x1_l, x2_l, x3⟩ := gQ_T (c_11 hT_l (Rd_RF hg3) hR) r_l hr
    refine ⟨x2_l, ?_⟩
    rcases x3 with ⟨q_l, y1, y2, y3⟩ | ⟨W_l, y1, y2, y3⟩
    · exact Or.inl ⟨y2, q_l, y1⟩
    · exact Or.inr ⟨y2, W_l, y1, y3⟩
  obtain ⟨hD, hv⟩ := hu
  have hgu : RF u_l := fun a_l k ha_l hz => (hD.1.2.2 a_l k).trans (hg3 a_l k ha_l hz)
  have hnu : 232 ≤ gn u_l := by
    rw [hD.1.1]
    show 232 ≤ s3_l.1
    rw [h3.1.1, h1.1.1]
    exact hJ.1.1
  have hFu : ∀ a_l k, a_l ≠ 1 → ¬ (36 ≤ a_l ∧ a_l < 54) → gI u_l a_l k = gI s a_l k := fun a_l k ha_l hz => (hD.2 a_l k (by omega) hz).trans (f3_l a_l k hz)
  have hBu : Bs s u_l := by
    refine ⟨hD.1.1.trans (h3.1.1.trans h1.1.1), fun a_l => (hD.1.2.1 a_l).trans ?_, fun a_l j_l => (hD.1.2.2 a_l j_l).trans ?_⟩
    · show s3_l.2.1 a_l = s.2.1 a_l
      rw [h3.1.2.1, h1.1.2.1]
    · show s3_l.2.2.2 a_l j_l = _
      rw [h3.1.2.2]
      exact h1.1.2.2 a_l j_l
  have key_l : ∀ w0_l, gQ (fb_89_54 0 v_l w0_l 0 u_l) (Bhx s p.2.1.toNat) := fun w0_l => by
    rcases hS_l with ⟨q_l, z1, z2⟩ | ⟨W_l, W', z1, z2, z3⟩
    · rcases hv with ⟨v0_l, _⟩ | ⟨v1_l, W_l, y1, _⟩
      · exact b_89x (W0 := gI s 218) h hBu hgu hnu hFu (Or.inl ⟨v0_l, q_l, z2⟩)
      · rw [z1] at y1
        cases y1
    · rcases hv with ⟨v0_l, q_l, y1⟩ | ⟨v1_l, W1_l, y1, y2⟩
      · rw [z1] at y1
        cases y1
      · rw [z1] at y1
        injection y1 with y3
        exact b_89x (W0 := W') h hBu hgu hnu hFu (Or.inr ⟨v1_l, z2, fun k hk => by rw [y2 k hk.1, ← y3]; exact z3 k hk⟩)
  exact gQ_ite (key_l _) (key_l _)
/-- ranges that J holds, and those of the text -/
theorem Vg_J (hJ : J p s) (hv : Vh (gI s 218)) : Vg (fun k => gI s 218 (0 + k)) := by
  have m_l : ∀ k x_l y_l, arn 218 k = some (x_l, y_l) → x_l ≤ gI s 218 (0 + k) ∧ gI s 218 (0 + k) ≤ y_l := fun k x_l y_l hk => by
    rw [Nat.zero_add]
    exact J_ra hJ (a := 218) (k := k) (by decide) (by rw [k0_sp.2.2.2.1]; decide) hk
  refine ⟨⟨m_l 3 0 8 rfl, m_l 4 0 6 rfl⟩, fun i_l hi_l => ⟨?_, ?_, ?_⟩, fun i_l hi_l => ⟨?_, ?_⟩⟩
  · have h6 : i_l = 0 ∨ i_l = 1 ∨ i_l = 2 ∨ i_l = 3 ∨ i_l = 4 ∨ i_l = 5 := by omega
    rcases h6 with rfl | rfl | rfl | rfl | rfl | rfl
    · exact m_l 40 0 99 rfl
    · exact m_l 46 0 99 rfl
    · exact m_l 52 0 99 rfl
    · exact m_l 58 0 99 rfl
    · exact m_l 64 0 99 rfl
    · exact m_l 70 0 99 rfl
  · have h6 : i_l = 0 ∨ i_l = 1 ∨ i_l = 2 ∨ i_l = 3 ∨ i_l = 4 ∨ i_l = 5 := by omega
    rcases h6 with rfl | rfl | rfl | rfl | rfl | rfl
    · exact m_l 43 0 8 rfl
    · exact m_l 49 0 8 rfl
    · exact m_l 55 0 8 rfl
    · exact m_l 61 0 8 rfl
    · exact m_l 67 0 8 rfl
    · exact m_l 73 0 8 rfl
  · have := hv.2 i_l hi_l
    dsimp only
    rw [Nat.zero_add]
    exact this
  · have := hv.1 i_l hi_l
    dsimp only
    rw [Nat.zero_add]
    exact this
  · have h8 : i_l = 0 ∨ i_l = 1 ∨ i_l = 2 ∨ i_l = 3 ∨ i_l = 4 ∨ i_l = 5 ∨ i_l = 6 ∨ i_l = 7 := by omega
    rcases h8 with rfl | rfl | rfl | rfl | rfl | rfl | rfl | rfl
    · exact m_l 18 0 50 rfl
    · exact m_l 21 0 50 rfl
    · exact m_l 24 0 50 rfl
    · exact m_l 27 0 50 rfl
    · exact m_l 30 0 50 rfl
    · exact m_l 33 0 50 rfl
    · exact m_l 36 0 50 rfl
    · exact m_l 39 0 50 rfl
/-- between the two halves of book, fully -/
noncomputable def MbX (s : gS) (l : Nat) (v : Int) (t : gS) : Prop := ((∀ a k, a < 232 → a ≠ 1 → ¬ (9 ≤ a ∧ a < 27) → ¬ (36 ≤ a ∧ a < 54) → ¬ (a = 0 ∧ (k = 14 ∨ k = 16)) → a ≠ 231 → gI t a k = gI s a k) ∧ Bf s t) ∧ ((((v = 1 ∧ ∃ q, rdb (gI s 222) l (gI s 218) = Sum.inl q) ∨ (v = 2 ∧ gI s 218 0 = 12 ∧ ∃ W, rdb (gI s 222) l (gI s 218) = Sum.inr W)) ∧ (∀ a k, 9 ≤ a → a < 27 → gI t a k = gI s a k) ∧ gI t 0 14 = gI s 0 14) ∨ (v = 0 ∧ (0 ≤ gI s 218 0 ∧ gI s 218 0 < 12) ∧ ∃ W, rdb (gI s 222) l (gI s 218) = Sum.inr W ∧ gI t 0 14 = 0 ∧ (∀ k, Kx k → cv t 9 15 k = if k = 0 then gI s 218 0 + 1 else W k) ∧ ∀ k, gI t 19 k = gI s 19 k ∧ gI t 20 k = gI s 20 k))
theorem bq_1x {w0 : Int} (hw : w0 = 1 ∨ w0 = 2) (h : Mq s u) : gQ (fb_187_43 217 w0 217 u) (fun r => Sm u r.2.2.2 ∧ gI r.2.2.2 217 0 = w0 ∧ (∀ k, gI r.2.2.2 218 k = gI s 218 k) ∧ ∀ a k, a ≠ 220 → ¬ (a = 217 ∧ (k = 0 ∨ 8 ≤ k)) → gI r.2.2.2 a k = gI s a k) := by
  obtain ⟨hg, ha_l, hf⟩ := h
  have e0_l : gI (gw u 217 0 w0) 217 0 = w0 := rd_same rfl
  have hg7 : RF (gw u 217 0 w0) := RF_sm hg rfl
  unfold fb_187_43
  dsimp only
  rw [e0_l, if_pos (by omega)]
  have i7_l : ∀ a k, ¬ (a = 217 ∧ k = 0) → gI (gw u 217 0 w0) a k = gI u a k := fun a k hz => by
    show (if a = 217 ∧ k = 0 then _ else gI u a k) = _
    rw [if_neg hz]
  have hS7 : Sm u (gw u 217 0 w0) := ⟨rfl, rfl, rfl⟩
  generalize gw u 217 0 w0 = s7 at *
  refine gQ_v0 (A := fun z_l => Sm s7 z_l ∧ (∀ k, k < 340 → gI z_l 218 k = gI s7 220 k) ∧ ∀ a k, ¬ (a = 218 ∧ k < 340) → gI z_l a k = gI s7 a k) (fun r hr => x_186 (rr_217_1 hg7).2 (rr_217_4 hg7).2 r hr) (fun s8 h8 => ?_)
  obtain ⟨x1_l, x2_l, x3⟩ := h8
  have k8_l : ∀ k, gI s8 218 k = gI s 218 k := fun k => by
    by_cases c : k < 340
    · rw [x2_l k c, i7_l 220 k (by omega)]
      exact ha_l k c
    · rw [x3 218 k (by omega), i7_l 218 k (by omega)]
      exact hf 218 k (by omega) (by omega) (by omega)
  refine gQ_ret ⟨⟨x1_l.1.trans hS7.1, x1_l.2.1.trans hS7.2.1, x1_l.2.2.trans hS7.2.2⟩, (x3 217 0 (by omega)).trans e0_l, k8_l, fun a k h1 h2 => ?_⟩
  dsimp only
  by_cases c : a = 218
  · rw [c]
    exact k8_l k
  · rw [x3 a k (by omega), i7_l a k (by omega)]
    exact hf a k h1 (by omega) h2
theorem bq_0x {x : Int} (h : Mq s u) (hx : gI u 218 0 = x) (hb : 0 ≤ x ∧ x < 12) : gQ (fb_187_43 217 0 217 u) (fun r => Sm u r.2.2.2 ∧ r.2.1 = x + 1 ∧ gI r.2.2.2 217 0 = 0 ∧ gI r.2.2.2 217 6 = 0 ∧ gI r.2.2.2 218 0 = x + 1 ∧ (∀ k, k ≠ 0 → gI r.2.2.2 218 k = gI u 218 k) ∧ ∀ a k, a ≠ 220 → a ≠ 218 → ¬ (a = 217 ∧ (k = 0 ∨ k = 6 ∨ 8 ≤ k)) → gI r.2.2.2 a k = gI s a k) := by
  obtain ⟨hg, ha_l, hf⟩ := h
  have e0_l : gI (gw u 217 0 0) 217 0 = 0 := rd_same rfl
  have hg7 : RF (gw u 217 0 0) := RF_sm hg rfl
  unfold fb_187_43
  dsimp only
  rw [e0_l, if_neg (by omega)]
  have i7_l : ∀ a k, ¬ (a = 217 ∧ k = 0) → gI (gw u 217 0 0) a k = gI u a k := fun a k hz => by
    show (if a = 217 ∧ k = 0 then _ else gI u a k) = _
    rw [if_neg hz]
  have hS7 : Sm u (gw u 217 0 0) := ⟨rfl, rfl, rfl⟩
  generalize gw u 217 0 0 = s7 at *
  have r1_l : gR s7 217 1 = 218 := (rr_217_1 hg7).2
  rw [r1_l, i7_l 218 0 (by omega), hx, g32_eq (v := x + 1) (by omega) (by omega)]
  have r2 : gR (gw (gw s7 218 0 (x + 1)) 217 6 0) 217 1 = 218 := r1_l
  rw [r2]
  have j1 : gI (gw (gw s7 218 0 (x + 1)) 217 6 0) 218 0 = x + 1 := (rd_a rfl (by decide)).trans (rd_same rfl)
  have j2_l : gI (gw (gw s7 218 0 (x + 1)) 217 6 0) 217 6 = 0 := rd_same rfl
  have j3_l : ∀ a k, ¬ (a = 217 ∧ k = 6) → ¬ (a = 218 ∧ k = 0) → gI (gw (gw s7 218 0 (x + 1)) 217 6 0) a k = gI s7 a k := fun a k h1 h2 => by
    show (if a = 217 ∧ k = 6 then _ else if a = 218 ∧ k = 0 then _ else gI s7 a k) = _
    rw [if_neg h1, if_neg h2]
  have hS11 : Sm u (gw (gw s7 218 0 (x + 1)) 217 6 0) := hS7
  refine gQ_ret ?_
  generalize gw (gw s7 218 0 (x + 1)) 217 6 0 = s11 at *
  refine ⟨hS11, j1, (j3_l 217 0 (by omega) (by omega)).trans e0_l, j2_l, j1, fun k hk => ?_, fun a k h1 h2 h3 => ?_⟩
  · dsimp only
    rw [j3_l 218 k (by omega) (by omega), i7_l 218 k (by omega)]
  · dsimp only
    rw [j3_l a k (by omega) (by omega), i7_l a k (by omega)]
    exact hf a k h1 (by omega) (by omega)
theorem m187 (hp : -1 ≤ p.1 ∧ p.1 ≤ 0) (hJ : J p s) (h12 : 0 ≤ gI s 218 0 ∧ gI s 218 0 ≤ 12) : gQ (f_187 217 s) (fun r => Sm s r.2.2.2 ∧ ((gI r.2.2.2 217 0 ≠ 0 ∧ ((gI r.2.2.2 217 0 = 1 ∧ ∃ q, rdb (gI s 222) p.2.2.1.toNat (gI s 218) = Sum.inl q) ∨ (gI r.2.2.2 217 0 = 2 ∧ gI s 218 0 = 12 ∧ ∃ W, rdb (gI s 222) p.2.2.1.toNat (gI s 218) = Sum.inr W)) ∧ (∀ k, gI r.2.2.2 218 k = gI s 218 k) ∧ ∀ a k, a ≠ 220 → ¬ (a = 217 ∧ (k = 0 ∨ 8 ≤ k)) → gI r.2.2.2 a k = gI s a k) ∨ (gI r.2.2.2 217 0 = 0 ∧ gI s 218 0 ≠ 12 ∧ ∃ W, rdb (gI s 222) p.2.2.1.toNat (gI s 218) = Sum.inr W ∧ r.2.1 = gI s 218 0 + 1 ∧ gI r.2.2.2 217 6 = 0 ∧ gI r.2.2.2 218 0 = gI s 218 0 + 1 ∧ (∀ k, k ≠ 0 → k < 100 → gI r.2.2.2 218 k = W k) ∧ (∀ k, 100 ≤ k → gI r.2.2.2 218 k = gI s 218 k) ∧ ∀ a k, a ≠ 220 → a ≠ 218 → ¬ (a = 217 ∧ (k = 0 ∨ k = 6 ∨ 8 ≤ k)) → gI r.2.2.2 a k = gI s a k))) := by
  have hg : RF s := hJ.1.2.1
  have hl : gI s 217 8 = p.2.2.1 := hJ.2.2.2.1
  have hb8 := J_f hJ (kd := 12) (a := 217) (i := 8) t217 rfl (fun z_l => by cases z_l) (x := 0) (y := 400) rfl
  have hL : ∀ k, 0 ≤ gI s 222 k ∧ gI s 222 k ≤ 255 := fun k => J_ra hJ (a := 222) (k := k) (by decide) (by rw [k0_sp.2.1]; decide) rfl
  have m_l : ∀ k x_l y_l, arn 218 k = some (x_l, y_l) → x_l ≤ gI s 218 k ∧ gI s 218 k ≤ y_l := fun k x_l y_l hk => J_ra hJ (a := 218) (k := k) (by decide) (by rw [k0_sp.2.2.2.1]; decide) hk
  have hR : Rg (gI s 218) := ⟨m_l 3 0 8 rfl, m_l 4 0 6 rfl, m_l 5 0 6 rfl, m_l 6 0 6 rfl⟩
  unfold f_187
  refine gQ_v0 (A := fun z_l => (Sm s z_l ∧ Asd z_l ∧ ∀ a k, a ≠ 220 → gI z_l a k = gI s a k) ∧ J p z_l) (fun r hr => ⟨x_185 (rr_217_1 hg).2 (rr_217_4 hg).2 r hr, (gQ_T (d_185 hp hJ t217) r hr).2⟩) (fun s1_l h1 => ?_)
  obtain ⟨⟨x1_l, x2_l, x3⟩, j1⟩ := h1
  refine gQ_v0 (A := fun z_l => (Sm s1_l z_l ∧ (gI z_l 217 12 = -1 ∧ gI z_l 217 9 = -1 ∧ gI z_l 217 10 = gI s 217 8 ∧ gI z_l 217 11 = 0) ∧ ∀ a k, ¬ (a = 217 ∧ 8 ≤ k) → gI z_l a k = gI s1_l a k) ∧ J (p.1, p.2.1, 0, p.2.2.2.1, p.2.2.2.2) z_l) (fun r hr => ⟨?_, (gQ_T (d_183 hp j1 t217) r hr).2⟩) (fun s3_l h3 => ?_)
  · unfold f_183 at hr
    dsimp only at hr
    cases hr
    dsimp only
    refine ⟨⟨rfl, rfl, rfl⟩, ⟨?_, ?_, ?_, ?_⟩, fun a k hz => ?_⟩
    · simp only [rdw]
      rfl
    · simp only [rdw]
      rfl
    · simp only [rdw]
      exact x3 217 8 (by decide)
    · simp only [rdw]
      rfl
    · simp only [rdw]
      rw [if_neg (by omega), if_neg (by omega), if_neg (by omega), if_neg (by omega), if_neg (by omega), if_neg (by omega)]
  obtain ⟨⟨y1, ⟨y2, y3, y4, y5⟩, y6⟩, j3_l⟩ := h3
  have hg3 : RF s3_l := j3_l.1.2.1
  have i3_l : ∀ a k, a ≠ 220 → ¬ (a = 217 ∧ 8 ≤ k) → gI s3_l a k = gI s a k := fun a k ha_l hz => (y6 a k hz).trans (x3 a k ha_l)
  have g18 : gI s3_l 218 = gI s 218 := funext fun k => i3_l 218 k (by decide) (by omega)
  have a3 : ∀ k, k < 340 → gI s3_l 220 k = gI s 218 k := fun k hk => by
    rw [y6 220 k (by omega), x2_l k hk]
    exact x3 218 k (by decide)
  have hM_l : Mp s3_l (gI s 222) p.2.2.1.toNat := by
    refine ⟨⟨?_, by omega⟩, ⟨(rr_217_1 hg3).2, (rr_217_7 hg3).2⟩, fun k hk => ?_⟩
    · rw [y4, hl]
      omega
    · unfold f_168
      rw [if_pos y3, (rr_217_7 hg3).2, Int.toNat_natCast]
      unfold gchk
      rw [if_pos (by omega), i3_l 222 k (by decide) (by omega)]
  have hT_l := m_184 hL hM_l y5 y2 y3 j3_l (by rw [g18]; exact hR)
  rw [g18] at hT_l
  refine gQ_w1 (A := fun _ z_l => Mf s3_l z_l ∧ ((∃ q : Nat, rdb (gI s 222) p.2.2.1.toNat (gI s 218) = Sum.inl q ∧ gI z_l 217 12 = (q : Int)) ∨ (∃ W : Nat → Int, rdb (gI s 222) p.2.2.1.toNat (gI s 218) = Sum.inr W ∧ gI z_l 217 12 = -1 ∧ ∀ k, k < 100 → gI z_l 218 k = W k))) (fun r hr => (gQ_T hT_l r hr).2) (fun v6 s5 h5 => ?_)
  obtain ⟨f5_l, h5⟩ := h5
  have hg5 : RF s5 := fun a k ha_l hz => (f5_l.1.2.2 a k).trans (hg3 a k ha_l hz)
  have hQ : Mq s s5 := ⟨hg5, fun k hk => (f5_l.2 220 k (by omega) (by omega)).trans (a3 k hk), fun a k h1 h2 h3 => (f5_l.2 a k (by omega) h2).trans (i3_l a k h1 (by omega))⟩
  rw [(rr_217_1 hg5).2]
  have hS5 : Sm s s5 := ⟨f5_l.1.1.trans (y1.1.trans x1_l.1), (funext f5_l.1.2.1).trans (y1.2.1.trans x1_l.2.1), (funext fun a => funext fun k => f5_l.1.2.2 a k).trans (y1.2.2.trans x1_l.2.2)⟩
  rcases h5 with ⟨q, q1_l, q2_l⟩ | ⟨W, q1_l, q2_l, q3_l⟩
  · rw [if_neg (by omega)]
    intro r hr
    obtain ⟨z0, z1, z2, z3⟩ := bq_1x (Or.inl rfl) hQ r hr
    exact ⟨⟨z0.1.trans hS5.1, z0.2.1.trans hS5.2.1, z0.2.2.trans hS5.2.2⟩, Or.inl ⟨by rw [z1]; decide, Or.inl ⟨z1, q, q1_l⟩, z2, z3⟩⟩
  · have w0_l := rdb_0 q1_l
    have e5_l : gI s5 218 0 = gI s 218 0 := (q3_l 0 (by decide)).trans w0_l
    rw [if_pos q2_l, e5_l]
    by_cases c12 : gI s 218 0 = 12
    · rw [if_pos c12]
      intro r hr
      obtain ⟨z0, z1, z2, z3⟩ := bq_1x (Or.inr rfl) hQ r hr
      exact ⟨⟨z0.1.trans hS5.1, z0.2.1.trans hS5.2.1, z0.2.2.trans hS5.2.2⟩, Or.inl ⟨by rw [z1]; decide, Or.inr ⟨z1, c12, W, q1_l⟩, z2, z3⟩⟩
    · rw [if_neg c12]
      intro r hr
      obtain ⟨w9, w1_l, w2_l, w3_l, w4_l, w5, w6_l⟩ := bq_0x hQ e5_l (by omega) r hr
      exact ⟨⟨w9.1.trans hS5.1, w9.2.1.trans hS5.2.1, w9.2.2.trans hS5.2.2⟩, Or.inr ⟨w2_l, c12, W, q1_l, w1_l, w3_l, w4_l, fun k hk hk2 => (w5 k hk).trans (q3_l k hk2), fun k hk => (w5 k (by omega)).trans (hQ.2.2 218 k (by decide) (by omega) (by omega)), w6_l⟩⟩
theorem Rx_g (hJ : J p s) (h : Rx s) (hc : ∀ a k, ((9 ≤ a ∧ a < 27) ∨ (54 ≤ a ∧ a < 217) ∨ a = 218 ∨ a = 219 ∨ a = 221 ∨ (a = 0 ∧ (k = 13 ∨ k = 14)) ∨ (a = 217 ∧ (k = 3 ∨ k = 6))) → gI t a k = gI s a k) (hr : ∀ a j, a < gn s → ¬ (a = 36 ∧ j = 11) → gR t a j = gR s a j) (hk : ∀ a, a < gn s → gK t a = gK s a) (hi : ∀ a j, 232 ≤ a → a < gn s → gI t a j = gI s a j) : Rx t := by
  have hn := hJ.1.1
  obtain ⟨y1, y2, ⟨y3, y4, y5, y6⟩, T, y7⟩ := h
  have cvq : ∀ B_l C_l k, (B_l = 9 ∧ ((15 ≤ C_l ∧ C_l + 12 ≤ 27) ∨ (54 ≤ C_l ∧ C_l + 12 ≤ 217))) ∨ (B_l = 54 ∧ C_l = 60) → KK k → cv t B_l C_l k = cv s B_l C_l k := fun B_l C_l k hb_l hk => by
    show gI t (pa B_l C_l k) (pj k) = gI s (pa B_l C_l k) (pj k)
    rcases pa_cc hk with ⟨o, o1, o2, -⟩ | ⟨o, o1, o2, -⟩
    · rw [o2]
      exact hc _ _ (by omega)
    · rw [o2]
      exact hc _ _ (by omega)
  have law_l : ∀ (R_l B_l : Nat) (T : (Nat → Int) → Int), R_l = 218 ∨ R_l = 219 → (B_l = 9 ∨ B_l = 54) → Tlw s R_l B_l T → Tlw t R_l B_l T := fun R_l B_l T hR hB_l hx => by
    refine Tlw_g hJ ?_ hx (fun k _ => hc R_l k (by omega)) (hr B_l 11 (by omega) (by omega)) (fun a k ha_l ha2 => hr a k ha2 (by omega)) (fun a ha_l ha2 => hk a ha2) hi
    rcases hB_l with rfl | rfl
    · exact ⟨by decide, k0_b.1⟩
    · exact ⟨by decide, k0_b.2.2.1⟩
  have e13_l := hc 0 13 (by omega)
  have e14_l := hc 0 14 (by omega)
  have e3_l := hc 217 3 (by omega)
  have e6_l := hc 217 6 (by omega)
  refine ⟨RW_g y1 (fun k _ => hc 218 _ (by omega)) (fun k hk2 => cvq 9 15 k (by omega) hk2) (fun q_l _ => hc _ _ (by omega)), fun h3 => ?_, ⟨by rw [e14_l, e6_l]; exact y3, by rw [e13_l]; exact y4, by rw [e14_l]; exact y5, fun j hj => ?_⟩, T, law_l 218 9 T (Or.inl rfl) (Or.inl rfl) y7⟩
  · obtain ⟨g1, T2, g2⟩ := y2 (by rw [← e3_l]; exact h3)
    exact ⟨RW_g g1 (fun k _ => hc 219 _ (by omega)) (fun k hk2 => cvq 54 60 k (by omega) hk2) (fun q_l _ => hc _ _ (by omega)), T2, law_l 219 54 T2 (Or.inr rfl) (Or.inr rfl) g2⟩
  · rw [e14_l] at hj ⊢
    rw [e13_l]
    have hps : 73 ≤ pst (gI s 0 13) j ∧ pst (gI s 0 13) j + 12 ≤ 217 := by
      unfold pst
      omega
    exact RW_g (y6 j hj) (fun k _ => hc 221 _ (by omega)) (fun k hk2 => cvq 9 _ k (by omega) hk2) (fun q_l _ => hc _ _ (by omega))
theorem bx_276 (hJ : J p s) (h : Rt s) (hX : Rx s) : gQ (f_276 0 231 s) (fun r => MbX s p.2.1.toNat r.2.1 r.2.2.2) := by
  have q2_l : 0 ≤ gI s 218 0 ∧ gI s 218 0 ≤ 12 := ⟨(h.1 0 Tx_n.1).2.2.1, (h.1 0 Tx_n.1).2.1 rfl⟩
  have hV : ∀ k_l, Kx k_l → cv s 9 15 k_l = gI s 218 k_l := fun k_l hk => by
    have := hX.1.1 k_l hk.1
    rw [Nat.zero_add] at this
    exact this.symm
  unfold f_276
  refine gQ_d1 (rb_89x hJ h hV) (fun r hB_l hr => ?_) (fun r hB_l hr => ?_)
  · refine gQ_chk ?_
    dsimp only
    refine gQ_ret ?_
    dsimp only
    obtain ⟨⟨hf, hbf⟩, hc_l⟩ := hB_l
    rcases hc_l with ⟨⟨z_l, -⟩ | ⟨z_l, -⟩, -⟩ | ⟨-, c2_l, W_l, c3_l, c4_l, c5_l, c6_l⟩
    · omega
    · omega
    have e2_l : ∀ a_l k_l, a_l ≠ 231 → gI (gw r.2.2.2 231 (0 : Int).toNat r.2.1) a_l k_l = gI r.2.2.2 a_l k_l := fun a_l k_l ha_l => rd_a rfl ha_l
    have eb : Bf s (gw r.2.2.2 231 (0 : Int).toNat r.2.1) := ⟨hbf.1, hbf.2.1, fun a_l j_l ha_l ha2 => (e2_l a_l j_l (by omega)).trans (hbf.2.2 a_l j_l ha_l ha2)⟩
    generalize gw r.2.2.2 231 (0 : Int).toNat r.2.1 = v at *
    refine ⟨⟨fun a_l k_l h1 h2 h3 h4 h5 h6 => (e2_l a_l k_l h6).trans (hf a_l k_l h1 h2 h3 h4 h5), eb⟩, Or.inr ⟨rfl, ⟨q2_l.1, c2_l⟩, W_l, c3_l, (e2_l 0 14 (by decide)).trans c5_l, fun k_l hk => ?_, fun k_l => ⟨(e2_l 19 k_l (by decide)).trans (c6_l.2 k_l).1, (e2_l 20 k_l (by decide)).trans (c6_l.2 k_l).2⟩⟩⟩
    have hp := pa_15 k_l hk.1.1
    exact (e2_l _ _ (by omega)).trans (c6_l.1 k_l hk)
  · obtain ⟨⟨hf, hbf⟩, hc_l⟩ := hB_l
    rcases hc_l with ⟨hq, hx⟩ | ⟨z_l, -⟩
    · rcases hq with ⟨z_l, q_l, hq⟩ | ⟨z_l, c12_l, W_l, hq⟩
      · rw [if_pos (by omega)]
        exact gQ_ret ⟨⟨fun a_l k_l h1 h2 h3 h4 h5 _ => hf a_l k_l h1 h2 h3 h4 h5, hbf⟩, Or.inl ⟨Or.inl ⟨rfl, q_l, hq⟩, hx⟩⟩
      · rw [if_neg (by omega), if_pos (by omega)]
        exact gQ_ret ⟨⟨fun a_l k_l h1 h2 h3 h4 h5 _ => hf a_l k_l h1 h2 h3 h4 h5, hbf⟩, Or.inl ⟨Or.inr ⟨rfl, by omega, W_l, hq⟩, hx⟩⟩
    · omega
theorem ax_276 (hl : p.2.1 = p.2.2.1) (hJ : J p s) (h : Rt s) (hX : Rx s) : gQ (f_276 0 231 s) (fun r => ∀ p', J p' r.2.2.2 → (-1 ≤ p'.1 ∧ p'.1 ≤ 0) → gQ (f_187 217 r.2.2.2) (fun q => ∀ p'', J p'' q.2.2.2 → Rx q.2.2.2)) := by
  have hn := hJ.1.1
  have q2_l : 0 ≤ gI s 218 0 ∧ gI s 218 0 ≤ 12 := ⟨(h.1 0 Tx_n.1).2.2.1, (h.1 0 Tx_n.1).2.1 rfl⟩
  have hl8 : gI s 217 8 = p.2.2.1 := hJ.2.2.2.1
  intro r hr p' hJ' hp' q hq p'' hJ''
  obtain ⟨⟨hf, hb1, hb2, hb3⟩, hc_l⟩ := bx_276 hJ h hX r hr
  have f18 : ∀ k_l, gI r.2.2.2 218 k_l = gI s 218 k_l := fun k_l => hf 218 k_l (by decide) (by decide) (by omega) (by omega) (by omega) (by decide)
  have g18 : gI r.2.2.2 218 = gI s 218 := funext f18
  have g22 : gI r.2.2.2 222 = gI s 222 := funext fun k_l => hf 222 k_l (by decide) (by decide) (by omega) (by omega) (by omega) (by decide)
  have e8 : p'.2.2.1.toNat = p.2.1.toNat := by
    have h1 : gI r.2.2.2 217 8 = p'.2.2.1 := hJ'.2.2.2.1
    have h2 := hf 217 8 (by decide) (by decide) (by omega) (by omega) (by omega) (by decide)
    rw [← h1, h2, hl8, hl]
  obtain ⟨m0_l, hm_l⟩ := m187 hp' hJ' (by rw [f18]; exact q2_l) q hq
  rw [g18, g22, e8] at hm_l
  have rq : ∀ a_l k_l, gR q.2.2.2 a_l k_l = gR r.2.2.2 a_l k_l := fun a_l k_l => by
    show q.2.2.2.2.2.2 a_l k_l = r.2.2.2.2.2.2 a_l k_l
    rw [m0_l.2.2]
  have kq : ∀ a_l, gK q.2.2.2 a_l = gK r.2.2.2 a_l := fun a_l => by
    show q.2.2.2.2.1 a_l = r.2.2.2.2.1 a_l
    rw [m0_l.2.1]
  rcases hm_l with ⟨m1_l, m2_l, m3_l, m4_l⟩ | ⟨m1_l, m2_l, W_l, m3_l, m4_l, m5_l, m6_l, m7_l, m8_l, m9_l⟩
  · rcases hc_l with ⟨-, c1_l, c2_l⟩ | ⟨-, c12_l, W_l, c3_l, -⟩
    · have ff_l : ∀ a_l k_l, a_l < 232 → a_l ≠ 1 → ¬ (36 ≤ a_l ∧ a_l < 54) → ¬ (a_l = 0 ∧ k_l = 16) → a_l ≠ 231 → gI r.2.2.2 a_l k_l = gI s a_l k_l := fun a_l k_l h1 h2 h3 h4 h5 => by
        by_cases x1 : 9 ≤ a_l ∧ a_l < 27
        · exact c1_l a_l k_l x1.1 x1.2
        · by_cases x2 : a_l = 0 ∧ k_l = 14
          · rw [x2.1, x2.2]
            exact c2_l
          · exact hf a_l k_l h1 h2 x1 h3 (by omega) h5
      refine Rx_g hJ hX (fun a_l k_l ha_l => ?_) (fun a_l j_l ha_l hz => (rq a_l j_l).trans (hb2 a_l j_l ha_l hz)) (fun a_l ha_l => (kq a_l).trans (hb1.2 a_l ha_l)) (fun a_l j_l ha_l ha2 => (m4_l a_l j_l (by omega) (by omega)).trans (hb3 a_l j_l ha_l ha2))
      exact (m4_l a_l k_l (by omega) (by omega)).trans (ff_l a_l k_l (by omega) (by omega) (by omega) (by omega) (by omega))
    · exfalso
      rcases m2_l with ⟨-, q0, m2_l⟩ | ⟨-, m2_l, -⟩
      · rw [c3_l] at m2_l
        cases m2_l
      · omega
  · rcases hc_l with ⟨⟨-, q0, hq0⟩ | ⟨-, c12_l, -⟩, -⟩ | ⟨-, c12_l, W2_l, c3_l, c4_l, c5_l⟩
    · rw [m3_l] at hq0
      cases hq0
    · exact absurd c12_l m2_l
    rw [m3_l] at c3_l
    cases c3_l
    have mJ : ∀ k_l x_l y_l, arn 218 k_l = some (x_l, y_l) → x_l ≤ gI s 218 k_l ∧ gI s 218 k_l ≤ y_l := fun k_l x_l y_l hk => J_ra hJ (a := 218) (k := k_l) (by decide) (by rw [k0_sp.2.2.2.1]; decide) hk
    have hRg : Rg (gI s 218) := ⟨mJ 3 0 8 rfl, mJ 4 0 6 rfl, mJ 5 0 6 rfl, mJ 6 0 6 rfl⟩
    have hVs : Vg (fun k_l => gI s 218 (0 + k_l)) := hX.1.2.1.1
    have hVp : Vp (gI s 218) := Vp_k hX.1.2.1.2 (fun k_l _ => by
      rw [Nat.zero_add])
    have hVh : Vh (gI s 218) := by
      refine ⟨fun i_l hi_l => ?_, fun i_l hi_l => ?_⟩
      · have := (hVs.2.2 i_l hi_l).1
        dsimp only at this
        rw [Nat.zero_add] at this
        exact this
      · have := (hVs.2.1 i_l hi_l).2.2
        dsimp only at this
        rw [Nat.zero_add] at this
        exact this
    obtain ⟨hW, hW13⟩ := rdb_h m3_l hRg hVh
    have hWp := rdb_p m3_l hRg hVp
    have fq : ∀ a_l k_l, a_l < 232 → a_l ≠ 1 → ¬ (9 ≤ a_l ∧ a_l < 27) → ¬ (36 ≤ a_l ∧ a_l < 54) → ¬ (a_l = 0 ∧ (k_l = 14 ∨ k_l = 16)) → a_l ≠ 231 → a_l ≠ 220 → a_l ≠ 218 → ¬ (a_l = 217 ∧ (k_l = 0 ∨ k_l = 6 ∨ 8 ≤ k_l)) → gI q.2.2.2 a_l k_l = gI s a_l k_l := fun a_l k_l h1 h2 h3 h4 h5 h6 h7 h8 h9 => (m9_l a_l k_l h7 h8 h9).trans (hf a_l k_l h1 h2 h3 h4 h5 h6)
    obtain ⟨y1, y2, ⟨y3, y4, y5, y6⟩, T, y7⟩ := hX
    have e13_l : gI q.2.2.2 218 13 = gI s 218 13 := (m7_l 13 (by decide) (by decide)).trans hW13
    have c13_l : gI q.2.2.2 19 1 = gI s 218 13 := by
      have e1_l : gI q.2.2.2 19 1 = gI r.2.2.2 19 1 := m9_l 19 1 (by decide) (by decide) (by omega)
      have e2_l : gI r.2.2.2 19 1 = gI s 19 1 := (c5_l.2 1).1
      have e3_l := y1.1 13 (by unfold KK; decide)
      rw [e1_l, e2_l]
      exact e3_l.symm
    have c20_l : ∀ i_l, gI q.2.2.2 20 i_l = gI s 20 i_l := fun i_l => (m9_l 20 i_l (by decide) (by decide) (by omega)).trans (c5_l.2 i_l).2
    refine ⟨⟨fun k_l hk => ?_, ⟨Vg_J hJ'' ⟨fun i_l hi_l => ?_, fun i_l hi_l => ?_⟩, Vp_k0 hWp (fun k_l hk k0_l => by
      rw [Nat.zero_add]
      exact (m7_l k_l k0_l hk.1).symm)⟩, ?_, fun i_l j_l hi_l hj => ?_⟩, fun h3 => ?_, ⟨?_, ?_, ?_, fun j_l hj => ?_⟩, T, Tlw_g hJ ⟨by decide, k0_b.1⟩ y7 (fun k_l hk => ?_) ((rq 9 11).trans (hb2 9 11 (by omega) (by omega))) (fun a_l k_l ha_l ha2 => (rq a_l k_l).trans (hb2 a_l k_l ha2 (by omega))) (fun a_l ha_l ha2 => (kq a_l).trans (hb1.2 a_l ha2)) (fun a_l k_l ha_l ha2 => (m9_l a_l k_l (by omega) (by omega) (by omega)).trans (hb3 a_l k_l ha_l ha2))⟩
    · rw [Nat.zero_add]
      by_cases k13 : k_l = 13
      · rw [k13, e13_l]
        exact c13_l.symm
      · have hp := pa_15 k_l hk.1
        have e9_l : cv q.2.2.2 9 15 k_l = cv r.2.2.2 9 15 k_l := m9_l _ _ (by omega) (by omega) (by omega)
        rw [e9_l, c5_l.1 k_l ⟨hk, k13⟩]
        by_cases k0' : k_l = 0
        · rw [if_pos k0', k0']
          exact m6_l
        · rw [if_neg k0']
          exact m7_l k_l k0' hk.1
    · rw [m7_l _ (by omega) (by omega)]
      exact hW.1 i_l hi_l
    · rw [m7_l _ (by omega) (by omega)]
      exact hW.2 i_l hi_l
    · rw [Nat.zero_add, e13_l]
      have := y1.2.2.1
      rw [Nat.zero_add] at this
      exact this
    · rw [Nat.zero_add, e13_l] at hi_l
      have g4 := y1.2.2.2 i_l j_l (by rw [Nat.zero_add]; exact hi_l) hj
      rw [Nat.zero_add] at g4
      rw [Nat.zero_add, e13_l, m8_l _ (by omega), show (15 : Nat) + 5 = 20 from rfl, c20_l, show 0 + 100 + 4 * i_l + j_l = 100 + 4 * i_l + j_l by omega]
      rw [show 0 + 100 + 4 * i_l + j_l = 100 + 4 * i_l + j_l by omega] at g4
      exact g4
    · have h3s : gI s 217 3 = 1 := by
        rw [← h3]
        exact (fq 217 3 (by decide) (by decide) (by omega) (by omega) (by omega) (by decide) (by decide) (by decide) (by omega)).symm
      obtain ⟨g1, T2, g2⟩ := y2 h3s
      have fi : ∀ a_l k_l, 54 ≤ a_l → a_l < 73 → gI q.2.2.2 a_l k_l = gI s a_l k_l := fun a_l k_l h1 h2 => fq a_l k_l (by omega) (by omega) (by omega) (by omega) (by omega) (by omega) (by omega) (by omega) (by omega)
      have f9_l : ∀ k_l, gI q.2.2.2 219 k_l = gI s 219 k_l := fun k_l => fq 219 k_l (by decide) (by decide) (by omega) (by omega) (by omega) (by decide) (by decide) (by decide) (by omega)
      refine ⟨RW_g g1 (fun k_l _ => f9_l _) (fun k_l hk => ?_) (fun i_l _ => fi _ _ (by decide) (by decide)), T2, Tlw_g hJ ⟨by decide, k0_b.2.2.1⟩ g2 (fun k_l _ => f9_l k_l) ((rq 54 11).trans (hb2 54 11 (by omega) (by omega))) (fun a_l k_l ha_l ha2 => (rq a_l k_l).trans (hb2 a_l k_l ha2 (by omega))) (fun a_l ha_l ha2 => (kq a_l).trans (hb1.2 a_l ha2)) (fun a_l k_l ha_l ha2 => (m9_l a_l k_l (by omega) (by omega) (by omega)).trans (hb3 a_l k_l ha_l ha2))⟩
      have hp := pa_15 k_l hk.1
      exact fi _ _ (by omega) (by omega)
    · rw [m5_l, m9_l 0 14 (by decide) (by decide) (by omega), c4_l]
    · rw [fq 0 13 (by decide) (by decide) (by omega) (by omega) (by omega) (by decide) (by decide) (by decide) (by omega)]
      exact y4
    · rw [m9_l 0 14 (by decide) (by decide) (by omega), c4_l]
      decide
    · rw [m9_l 0 14 (by decide) (by decide) (by omega), c4_l] at hj
      omega
    · by_cases k100 : 100 ≤ k_l
      · rw [m8_l k_l k100]
      · have hk12 : k_l = 1 ∨ k_l = 2 := by omega
        have hw := rdb_12 m3_l
        rcases hk12 with rfl | rfl
        · exact (m7_l 1 (by decide) (by decide)).trans hw.1
        · exact (m7_l 2 (by decide) (by decide)).trans hw.2
end Bx
