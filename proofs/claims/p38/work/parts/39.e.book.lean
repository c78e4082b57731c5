/-! the class reads a book -/
section Bk
variable {s t u : gS} {p : gP} {B C D E : Nat} {L : Nat → Int} {e : Nat} {V W : Nat → Int}
theorem cc_f (h1 : BC B D s t) (h2 : CC C E t u) {a k : Nat} (ha : ¬ (B ≤ a ∧ a < B + 6)) (hb : ¬ (C ≤ a ∧ a < C + 12)) : gI u a k = gI s a k :=
  ((h2.2 a k).2 (fun z_l => hb (blk (Or.inl z_l)))).trans ((h1.2 a k).2 (fun z_l => ha (bkb z_l)))
theorem cc_c (h1 : BC B D s t) (h2 : CC C E t u) (d1 : B + 6 ≤ C ∨ C + 12 ≤ B) (d2 : B + 6 ≤ E ∨ E + 12 ≤ B) {k : Nat} (hk : Tx k) : cv u B C k = cv s D E k := by
  rcases Tx_c hk with c_l | ⟨o, q_l, o1, o2, o3_l, o4_l⟩
  · obtain ⟨o, q_l, o1, o2, o3_l, o4_l⟩ := pa_9C c_l
    show gI u (pa B C k) (pj k) = gI s (pa D E k) (pj k)
    rw [o2, o2, o3_l, (h2.2 _ q_l).1 (o4_l _), show C + o - C + E = E + o by omega]
    exact (h1.2 _ q_l).2 (fun z_l => by have := bkb z_l; omega)
  · show gI u (pa B C k) (pj k) = gI s (pa D E k) (pj k)
    rw [o2, o2, o3_l, (h2.2 _ q_l).2 (fun z_l => by have := blk (Or.inl z_l); omega), (h1.2 _ q_l).1 (o4_l _), show B + o - B + D = D + o by omega]
theorem av_0 {w : gLW} : av w V 0 = V 0 := by
  unfold av
  split
  · rw [if_neg (by omega), if_neg (by omega), if_neg (by omega), if_neg (by omega)]
  · rw [if_neg (by omega), if_neg (by omega), if_neg (by omega), if_neg (by omega), if_neg (by omega), if_neg (by omega), if_neg (by omega)]
  · rw [if_neg (by omega), if_neg (by omega), if_neg (by omega)]
  · rw [if_neg (by omega), if_neg (by omega), if_neg (by omega)]
  · rw [if_neg (by omega)]
  · rw [if_neg (by omega)]
  · rw [if_neg (by omega)]
  · rw [if_neg (by omega)]
theorem rdl_0 (n : Nat) : ∀ (f : Nat) (V W : Nat → Int), rdl L e n f V = Sum.inr W → W 0 = V 0 := by
  induction n with
  | zero => intro f V W h_l; unfold rdl at h_l; cases h_l
  | succ n ih_l =>
    intro f V W h_l
    unfold rdl at h_l
    obtain ⟨y_l, h1, h2⟩ := eb_w h_l
    by_cases c1 : y_l.2 = e
    · rw [if_pos c1] at h2
      injection h2 with h3
      rw [← h3]
      exact av_0
    · rw [if_neg c1] at h2
      by_cases c2 : L y_l.2 = 59
      · rw [if_pos c2] at h2
        exact (ih_l _ _ _ h2).trans av_0
      · rw [if_neg c2] at h2
        cases h2
theorem rdb_0 (h : rdb L e V = Sum.inr W) : W 0 = V 0 := by
  unfold rdb at h
  by_cases c : sk L e 0 = e
  · rw [if_pos c] at h
    injection h with h1
    rw [h1]
  · rw [if_neg c] at h
    exact rdl_0 _ _ _ _ h
theorem Tx_n : Tx 0 ∧ Tx 3 ∧ Tx 4 ∧ Tx 5 ∧ Tx 6 := by unfold Tx KK; decide
theorem pk_0 : ∀ k, k < 100 → (k ≠ 1 ∧ k ≠ 2 ∧ k ≠ 15) → pa 9 15 k = 9 → pj k = 10 → k = 0 := by decide +kernel
theorem Rd_RF (hg : RF s) : Rd s := by
  have q_l : ∀ a_l k_l y_l, a_l < 232 → ¬ (k0 a_l = 0 ∧ k_l = 11) → r0 a_l k_l = y_l → gR s a_l k_l = y_l := fun a_l k_l y_l h1 h2 h3 => (hg a_l k_l h1 h2).trans h3
  refine ⟨⟨q_l 6 0 1 (by decide) (by decide +kernel) (by decide +kernel), ⟨q_l 36 0 37 (by decide) (by decide +kernel) (by decide +kernel), q_l 36 1 38 (by decide) (by decide +kernel) (by decide +kernel), q_l 36 2 39 (by decide) (by decide +kernel) (by decide +kernel), q_l 36 3 40 (by decide) (by decide +kernel) (by decide +kernel), q_l 36 4 41 (by decide) (by decide +kernel) (by decide +kernel)⟩, q_l 42 0 43 (by decide) (by decide +kernel) (by decide +kernel), q_l 42 1 44 (by decide) (by decide +kernel) (by decide +kernel), q_l 42 2 45 (by decide) (by decide +kernel) (by decide +kernel)⟩, fun i_l hi_l => ?_⟩
  exact q_l 43 i_l (48 + i_l) (by decide) (fun z_l => by rw [k0_m43.1] at z_l; omega) (r0_m43 i_l hi_l).1
/-- what the class's half of book leaves -/
def Bh (s : gS) (l : Nat) (r : gO) : Prop := (∀ a k, a < 232 → a ≠ 1 → ¬ (9 ≤ a ∧ a < 27) → ¬ (36 ≤ a ∧ a < 54) → ¬ (a = 0 ∧ (k = 14 ∨ k = 16)) → gI r.2.2.2 a k = gI s a k) ∧ ((((r.1 = 2 ∧ ∃ q, rdb (gI s 222) l (gI s 218) = Sum.inl q) ∨ (r.1 = 3 ∧ ¬ gI s 218 0 < 12 ∧ ∃ W, rdb (gI s 222) l (gI s 218) = Sum.inr W)) ∧ (∀ a k, 9 ≤ a → a < 27 → gI r.2.2.2 a k = gI s a k) ∧ gI r.2.2.2 0 14 = gI s 0 14) ∨ (r.1 = 1 ∧ gI s 218 0 < 12 ∧ ∃ W, rdb (gI s 222) l (gI s 218) = Sum.inr W ∧ r.2.1 = gI s 218 0 + 1 ∧ gI r.2.2.2 0 14 = 0 ∧ ∀ k, Tx k → cv r.2.2.2 9 15 k = if k = 0 then gI s 218 0 + 1 else W k))
theorem gI_nw {a k kd : Nat} (hn : 232 ≤ gn s) (ha : a < 232) : gI (gnw s kd) a k = gI s a k := by
  show (if a = s.1 then 0 else s.2.2.1 a k) = _
  have hn2 : 232 ≤ s.1 := hn
  rw [if_neg (by omega)]
  rfl
/-- behind the reading -/
theorem b_89 {l : Nat} {v w0 : Int} {W0 : Nat → Int} (h : Rt s) (hg : RF u) (hn : 232 ≤ gn u) (hF : ∀ a k, a ≠ 1 → ¬ (36 ≤ a ∧ a < 54) → gI u a k = gI s a k) (hv : (v = 0 ∧ ∃ q, rdb (gI s 222) l (gI s 218) = Sum.inl q) ∨ (v = 1 ∧ rdb (gI s 222) l (gI s 218) = Sum.inr W0 ∧ ∀ k, Tx k → cv u 36 42 k = W0 k)) : gQ (fb_89_54 0 v w0 0 u) (Bh s l) := by
  obtain ⟨b1, b2, b3, b4, b5, b6⟩ := k0_b
  unfold fb_89_54
  dsimp only
  have hg8 : RF (gw u 0 16 w0) := RF_sm hg rfl
  rw [(rr_0_0 hg8).2]
  have hg9 : RF (gw (gw u 0 16 w0) 1 1 0) := RF_sm hg rfl
  have hn9 : 232 ≤ gn (gw (gw u 0 16 w0) 1 1 0) := hn
  have hF9 : ∀ a k, a ≠ 1 → ¬ (36 ≤ a ∧ a < 54) → ¬ (a = 0 ∧ k = 16) → gI (gw (gw u 0 16 w0) 1 1 0) a k = gI s a k := fun a k h1 h2 h3 => by
    show (if a = 1 ∧ k = 1 then _ else if a = 0 ∧ k = 16 then _ else gI u a k) = _
    rw [if_neg (by omega), if_neg h3]
    exact hF a k h1 h2
  have hcv : ∀ k, Tx k → cv (gw (gw u 0 16 w0) 1 1 0) 36 42 k = cv u 36 42 k := fun k hk => by
    have hp := pa_d k hk.1.1
    show (if pa 36 42 k = 1 ∧ pj k = 1 then _ else if pa 36 42 k = 0 ∧ pj k = 16 then _ else gI u (pa 36 42 k) (pj k)) = _
    rw [if_neg (by omega), if_neg (by omega)]
    rfl
  generalize gw (gw u 0 16 w0) 1 1 0 = s9 at *
  have q1_l := (h.1 0 Tx_n.1).1
  have q2_l : 0 ≤ gI s 218 0 ∧ gI s 218 0 ≤ 12 := ⟨(h.1 0 Tx_n.1).2.2.1, (h.1 0 Tx_n.1).2.1 rfl⟩
  have c0_l : cv s 9 15 0 = gI s 9 10 := rfl
  rw [c0_l] at q1_l
  have e9_l : gI s9 9 10 = gI s 218 0 := (hF9 9 10 (by decide) (by omega) (by omega)).trans q1_l.symm
  have hfr : ∀ a k, a < 232 → a ≠ 1 → ¬ (9 ≤ a ∧ a < 27) → ¬ (36 ≤ a ∧ a < 54) → ¬ (a = 0 ∧ (k = 14 ∨ k = 16)) → gI (gnw s9 99) a k = gI s a k := fun a k h1 h2 h3 h4 h5 => (gI_nw hn9 h1).trans (hF9 a k h2 h4 (by omega))
  have hfr2 : ∀ a k, 9 ≤ a → a < 27 → gI (gnw s9 99) a k = gI s a k := fun a k h1 h2 => (gI_nw hn9 (by omega)).trans (hF9 a k (by omega) (by omega) (by omega))
  have hfr3 : gI (gnw s9 99) 0 14 = gI s 0 14 := (gI_nw hn9 (by decide)).trans (hF9 0 14 (by decide) (by omega) (by omega))
  rcases hv with ⟨v0_l, hq⟩ | ⟨v1_l, hq, hw⟩
  · rw [if_pos v0_l]
    exact gQ_ret ⟨hfr, Or.inl ⟨Or.inl ⟨rfl, hq⟩, hfr2, hfr3⟩⟩
  rw [if_neg (by omega), (rr_0_4 hg9).2, (rr_0_8 hg9).2, e9_l]
  by_cases c12 : gI s 218 0 < 12
  · rw [if_pos c12]
    refine gQ_v0 (A := fun z_l => BC 9 36 s9 z_l) (fun r_l hr => (gQ_T (s_1 hg9 ⟨by decide, b1⟩ ⟨by decide, b2⟩ (by decide)) r_l hr).2) (fun s10 h10 => ?_)
    have hg10 : RF s10 := RF_bc hg9 b1 h10
    rw [(rr_0_4 hg10).2]
    have w0e := rdb_0 hq
    have e10_l : gI s10 9 10 = gI s 218 0 := by
      rw [(h10.2 9 10).1 (Or.inl ⟨rfl, by decide, by decide⟩)]
      have e1_l : gI s9 (9 - 9 + 36) 10 = cv s9 36 42 0 := rfl
      rw [e1_l, hcv 0 Tx_n.1, hw 0 Tx_n.1]
      exact w0e
    rw [e10_l, g32_eq (v := gI s 218 0 + 1) (by omega) (by omega)]
    have hg12 : RF (gw s10 9 10 (gI s 218 0 + 1)) := RF_sm hg10 rfl
    have i12_l : ∀ a k, ¬ (a = 9 ∧ k = 10) → gI (gw s10 9 10 (gI s 218 0 + 1)) a k = gI s10 a k := fun a k hz => by
      show (if a = 9 ∧ k = 10 then _ else gI s10 a k) = _
      rw [if_neg hz]
    have i12b : gI (gw s10 9 10 (gI s 218 0 + 1)) 9 10 = gI s 218 0 + 1 := rd_same rfl
    generalize gw s10 9 10 (gI s 218 0 + 1) = s12 at *
    rw [(rr_0_5 hg12).2, (rr_0_9 hg12).2]
    refine gQ_v0 (A := fun z_l => CC 15 42 s12 z_l) (fun r_l hr => (gQ_T (s_23 hg12 ⟨by decide, b4⟩ ⟨by decide, b5⟩ (by decide)) r_l hr).2) (fun s13 h13 => ?_)
    have r15 : gR (gw s13 0 14 0) 0 4 = 9 := (rr_0_4 (RF_sm hg12 h13.1.2.2)).2
    rw [r15]
    have i13 : ∀ a k, ¬ (15 ≤ a ∧ a < 27) → gI s13 a k = gI s12 a k := fun a k hz => (h13.2 a k).2 (fun z_l => hz (blk (Or.inl z_l)))
    have i15 : ∀ a k, ¬ (a = 0 ∧ k = 14) → gI (gw s13 0 14 0) a k = gI s13 a k := fun a k hz => by
      show (if a = 0 ∧ k = 14 then _ else gI s13 a k) = _
      rw [if_neg hz]
    have i14 : gI (gw s13 0 14 0) 0 14 = 0 := rd_same rfl
    refine gQ_ret ?_
    generalize gw s13 0 14 0 = s15 at *
    refine ⟨fun a k h1 h2 h3 h4 h5 => ?_, Or.inr ⟨rfl, c12, W0, hq, ?_, i14, fun k hk => ?_⟩⟩
    · dsimp only
      rw [i15 a k (by omega), i13 a k (by omega), i12_l a k (by omega), (h10.2 a k).2 (fun z_l => by have := bkb z_l; omega)]
      exact hF9 a k h2 h4 (by omega)
    · dsimp only
      rw [i15 9 10 (by omega), i13 9 10 (by omega)]
      exact i12b
    · dsimp only
      by_cases ck : k = 0
      · rw [if_pos ck, ck]
        show gI s15 9 10 = _
        rw [i15 9 10 (by omega), i13 9 10 (by omega)]
        exact i12b
      rw [if_neg ck]
      refine Eq.trans ?_ ((hcv k hk).trans (hw k hk))
      have hz := pk_0 k hk.1.1 hk.1.2
      rcases Tx_c hk with c_l | ⟨o, q, o1, o2, o3_l, o4_l⟩
      · obtain ⟨o, q, o1, o2, o3_l, o4_l⟩ := pa_9C c_l
        show gI s15 (pa 9 15 k) (pj k) = gI s9 (pa 36 42 k) (pj k)
        rw [o2, o2, o3_l, i15 _ _ (by omega), (h13.2 _ q).1 (o4_l _), show 15 + o - 15 + 42 = 42 + o by omega, i12_l _ _ (by omega)]
        exact (h10.2 _ q).2 (fun z_l => by have := bkb z_l; omega)
      · rw [o2, o3_l] at hz
        show gI s15 (pa 9 15 k) (pj k) = gI s9 (pa 36 42 k) (pj k)
        rw [o2, o2, o3_l, i15 _ _ (by omega), i13 _ _ (by omega), i12_l _ _ (fun z_l => ck (hz z_l.1 z_l.2)), (h10.2 _ q).1 (o4_l _), show 9 + o - 9 + 36 = 36 + o by omega]
  · rw [if_neg c12]
    exact gQ_ret ⟨hfr, Or.inl ⟨Or.inr ⟨rfl, c12, W0, hq⟩, hfr2, hfr3⟩⟩
theorem rb_89 (hJ : J p s) (h : Rt s) : gQ (f_89 0 s) (Bh s p.2.1.toNat) := by
  have hg : RF s := hJ.1.2.1
  have hl : gI s 1 1 = p.2.1 := hJ.2.2.1
  have hb_l := J_f hJ (kd := 10) (a := 1) (i := 1) t10 rfl (fun z_l => by cases z_l) (x := 0) (y := 400) rfl
  obtain ⟨b1, b2, b3, b4, b5, b6⟩ := k0_b
  unfold f_89
  rw [(rr_0_8 hg).2, (rr_0_4 hg).2]
  refine gQ_v0 (A := fun z_l => BC 36 9 s z_l) (fun r_l hr => (gQ_T (s_1 hg ⟨by decide, b2⟩ ⟨by decide, b1⟩ (by decide)) r_l hr).2) (fun s1_l h1 => ?_)
  have hg1 : RF s1_l := RF_bc hg b2 h1
  rw [(rr_0_9 hg1).2, (rr_0_5 hg1).2]
  refine gQ_v0 (A := fun z_l => CC 42 15 s1_l z_l) (fun r_l hr => (gQ_T (s_23 hg1 ⟨by decide, b5⟩ ⟨by decide, b4⟩ (by decide)) r_l hr).2) (fun s3_l h3 => ?_)
  have hg3 : RF s3_l := RF_sm hg1 h3.1.2.2
  rw [(rr_0_2 hg3).2, (rr_0_8 hg3).2, (rr_0_9 hg3).2]
  have f3_l : ∀ a_l k_l, ¬ (36 ≤ a_l ∧ a_l < 54) → gI s3_l a_l k_l = gI s a_l k_l := fun a_l k_l ha_l => cc_f h1 h3 (by omega) (by omega)
  have hV : ∀ k_l, Tx k_l → cv s3_l 36 42 k_l = gI s 218 k_l := fun k_l hk => (cc_c h1 h3 (by omega) (by omega) hk).trans (h.1 k_l hk).1.symm
  have hT_l : Tp s3_l (gI s 222) p.2.1.toNat := by
    refine ⟨(hg3 1 0 (by decide) (by decide +kernel)).trans (by decide +kernel), ?_, by omega, fun j_l => ?_⟩
    · rw [f3_l 1 1 (by omega), hl]
      omega
    · rw [f3_l 2 j_l (by omega)]
      exact h.2.1 j_l
  have hR : Rg (cv s3_l 36 42) := by
    have m_l : ∀ k_l x_l y_l, arn 218 k_l = some (x_l, y_l) → x_l ≤ gI s 218 k_l ∧ gI s 218 k_l ≤ y_l := fun k_l x_l y_l hk => J_ra hJ (a := 218) (k := k_l) (by decide) (by rw [k0_sp.2.2.2.1]; decide) hk
    refine ⟨?_, ?_, ?_, ?_⟩
    · rw [hV 3 Tx_n.2.1]
      exact m_l 3 0 8 rfl
    · rw [hV 4 Tx_n.2.2.1]
      exact m_l 4 0 6 rfl
    · rw [hV 5 Tx_n.2.2.2.1]
      exact m_l 5 0 6 rfl
    · rw [hV 6 Tx_n.2.2.2.2]
      exact m_l 6 0 6 rfl
  have hS_l := rdb_S (L := gI s 222) (e := p.2.1.toNat) (S := Tx) Tx_n.2.1 Tx_n.2.2.1 Tx_n.2.2.2.1 Tx_n.2.2.2.2 hV
  refine gQ_w1 (A := fun v_l u_l => Df s3_l u_l ∧ ((v_l = 0 ∧ ∃ q_l, rdb (gI s 222) p.2.1.toNat (cv s3_l 36 42) = Sum.inl q_l) ∨ (v_l = 1 ∧ ∃ W_l, rdb (gI s 222) p.2.1.toNat (cv s3_l 36 42) = Sum.inr W_l ∧ ∀ k_l, KK k_l → cv u_l 36 42 k_l = W_l k_l))) (fun r_l hr => ?_) (fun v_l u_l hu => ?_)
  · obtain ⟨x1_l, x2_l, x3⟩ := gQ_T (c_11 hT_l (Rd_RF hg3) hR) r_l hr
    refine ⟨x2_l, ?_⟩
    rcases x3 with ⟨q_l, y1, y2, y3⟩ | ⟨W_l, y1, y2, y3⟩
    · exact Or.inl ⟨y2, q_l, y1⟩
    · exact Or.inr ⟨y2, W_l, y1, y3⟩
  obtain ⟨hD, hv⟩ := hu
  have hgu : RF u_l := fun a_l k_l ha_l hz => (hD.1.2.2 a_l k_l).trans (hg3 a_l k_l ha_l hz)
  have hnu : 232 ≤ gn u_l := by
    rw [hD.1.1]
    show 232 ≤ s3_l.1
    rw [h3.1.1, h1.1.1]
    exact hJ.1.1
  have hFu : ∀ a_l k_l, a_l ≠ 1 → ¬ (36 ≤ a_l ∧ a_l < 54) → gI u_l a_l k_l = gI s a_l k_l := fun a_l k_l ha_l hz => (hD.2 a_l k_l (by omega) hz).trans (f3_l a_l k_l hz)
  have key_l : ∀ w0_l, gQ (fb_89_54 0 v_l w0_l 0 u_l) (Bh s p.2.1.toNat) := fun w0_l => by
    rcases hS_l with ⟨q_l, z1, z2⟩ | ⟨W_l, W', z1, z2, z3⟩
    · rcases hv with ⟨v0_l, _⟩ | ⟨v1_l, W_l, y1, _⟩
      · exact b_89 (W0 := gI s 218) h hgu hnu hFu (Or.inl ⟨v0_l, q_l, z2⟩)
      · rw [z1] at y1
        cases y1
    · rcases hv with ⟨v0_l, q_l, y1⟩ | ⟨v1_l, W1_l, y1, y2⟩
      · rw [z1] at y1
        cases y1
      · rw [z1] at y1
        injection y1 with y3
        exact b_89 (W0 := W') h hgu hnu hFu (Or.inr ⟨v1_l, z2, fun k_l hk => by rw [y2 k_l hk.1, ← y3]; exact z3 k_l hk⟩)
  exact gQ_ite (key_l _) (key_l _)
end Bk
