/-! the model reads a text of the book -/
def ML (x : Nat ⊕ (gLW × Nat)) (L : Nat → Int) (e : Nat) (s t : gS) : Prop := (∃ q : Nat, x = Sum.inl q ∧ gI t 217 12 = (q : Int) ∧ Fm s t) ∨ (∃ w g, x = Sum.inr (w, g) ∧ Fm (mw w s) t ∧ gI t 217 12 = -1 ∧ ∃ b : Nat, gI t 217 11 = (b : Int) ∧ b ≤ e ∧ sk L e b = g)
/-- where the reader stands: a, and f is the next thing -/
def Mat (s : gS) (L : Nat → Int) (e f : Nat) : Prop := Mp s L e ∧ gI s 217 12 = -1 ∧ ∃ a : Nat, gI s 217 11 = (a : Int) ∧ a ≤ e ∧ sk L e a = f
section Mr
variable {s s' : gS} {L : Nat → Int} {e f g q w w' : Nat} {v1 v2 v3 lo hi c j : Int} {x : Nat ⊕ (gLW × Nat)}
theorem ix3 (h : 0 ≤ c ∧ c ≤ 8) (hj : 0 ≤ j ∧ j ≤ 2) : g32 (g32 (16 + g32 (3 * c)) + j) = 16 + 3 * c + j := by
  rw [g32_eq (v := 3 * c) (by omega) (by omega), g32_eq (v := 16 + 3 * c) (by omega) (by omega), g32_eq (by omega) (by omega)]
theorem x_177 (hR : gR s 217 1 = 218) (h0 : 0 ≤ gI s 218 3) (h8 : gI s 218 3 < 8) : gT (gchk (g32 ((g32 (16 + (g32 (3 * (gI s (gR s 217 1) 3))))) + 0)) 740 (gchk (g32 ((g32 (16 + (g32 (3 * (gI s (gR s 217 1) 3))))) + 1)) 740 (gchk (g32 ((g32 (16 + (g32 (3 * (gI s (gR s 217 1) 3))))) + 2)) 740 (some ((0, 0, 0, gw (gw (gw (gw s (gR s 217 1) (g32 ((g32 (16 + (g32 (3 * (gI s (gR s 217 1) 3))))) + 0)).toNat v1) (gR s 217 1) (g32 ((g32 (16 + (g32 (3 * (gI s (gR s 217 1) 3))))) + 1)).toNat v2) (gR s 217 1) (g32 ((g32 (16 + (g32 (3 * (gI s (gR s 217 1) 3))))) + 2)).toNat v3) (gR s 217 1) 3 (g32 (gI (gw (gw (gw s (gR s 217 1) (g32 ((g32 (16 + (g32 (3 * (gI s (gR s 217 1) 3))))) + 0)).toNat v1) (gR s 217 1) (g32 ((g32 (16 + (g32 (3 * (gI s (gR s 217 1) 3))))) + 1)).toNat v2) (gR s 217 1) (g32 ((g32 (16 + (g32 (3 * (gI s (gR s 217 1) 3))))) + 2)).toNat v3) (gR s 217 1) 3 + 1))) : gO))))) (fun r => r.1 = 0 ∧ r.2.2.2 = mw (0, v1, v2, v3) s) := by
  rw [hR]
  have i0_l := ix3 (c := gI s 218 3) (j := 0) (by omega) (by omega)
  have i1_l := ix3 (c := gI s 218 3) (j := 1) (by omega) (by omega)
  have i2_l := ix3 (c := gI s 218 3) (j := 2) (by omega) (by omega)
  have n0_l : (16 + 3 * gI s 218 3 + 0).toNat = 16 + 3 * (gI s 218 3).toNat + 0 := by omega
  have n1_l : (16 + 3 * gI s 218 3 + 1).toNat = 16 + 3 * (gI s 218 3).toNat + 1 := by omega
  have n2_l : (16 + 3 * gI s 218 3 + 2).toNat = 16 + 3 * (gI s 218 3).toNat + 2 := by omega
  rw [i0_l, i1_l, i2_l, n0_l, n1_l, n2_l]
  have hc_l : gI (gw (gw (gw s 218 (16 + 3 * (gI s 218 3).toNat + 0) v1) 218 (16 + 3 * (gI s 218 3).toNat + 1) v2) 218 (16 + 3 * (gI s 218 3).toNat + 2) v3) 218 3 = gI s 218 3 := by
    rw [rd8, if_neg (by omega), rd8, if_neg (by omega), rd8, if_neg (by omega)]
  rw [hc_l, g32_eq (v := gI s 218 3 + 1) (by omega) (by omega)]
  exact gT_chk (by omega) (by omega) (gT_chk (by omega) (by omega) (gT_chk (by omega) (by omega) (gT_ret ⟨rfl, rfl⟩)))
theorem x_157 (hR : gR s 217 1 = 218) (hx : 0 ≤ c ∧ c ≤ 6) (hj : 0 ≤ j ∧ j ≤ 5) : gT (f_157 217 c j v1 s) (fun r => r.1 = 0 ∧ r.2.2.2 = gw s 218 (40 + 6 * c.toNat + j.toNat) v1) := by
  have i0_l : g32 (g32 (40 + g32 (6 * c)) + j) = 40 + 6 * c + j := by
    rw [g32_eq (v := 6 * c) (by omega) (by omega), g32_eq (v := 40 + 6 * c) (by omega) (by omega), g32_eq (by omega) (by omega)]
  have n0_l : (40 + 6 * c + j).toNat = 40 + 6 * c.toNat + j.toNat := by omega
  unfold f_157
  rw [i0_l, hR, n0_l]
  exact gT_chk (by omega) (by omega) (gT_ret ⟨rfl, rfl⟩)
theorem ML_f (hx : x = Sum.inl q) (h1 : gI s' 217 12 = (q : Int)) (hf : Fm s s') : ML x L e s s' := Or.inl ⟨q, hx, h1, hf⟩
theorem ML_r {y : gLW} {t : gS} (hx : x = Sum.inr (y, g)) (hf : Fm s t) (hz : gI (mw y t) 217 12 = -1) (hb : ∃ b : Nat, gI (mw y t) 217 11 = (b : Int) ∧ b ≤ e ∧ sk L e b = g) : ML x L e s (mw y t) := Or.inr ⟨y, g, hx, Fm_mw hf, hz, hb⟩
theorem mw_7 {y : gLW} {k : Nat} : gI (mw y s) 217 k = gI s 217 k := by
  unfold mw
  split <;> simp only [rd_a rfl (show (217 : Nat) ≠ 218 by decide)]
/-- a word and a number, where nothing is wrong; where something is -/
theorem y175 (hw : 43 ≤ w ∧ w < 58) (hww : gtx w = gtx w') (hL : ∀ k, 0 ≤ L k ∧ L k ≤ 255) (h : Mat s L e f) : gT (f_175 217 w lo hi s) (fun r => r.1 = 1 ∧ MBv L e s (nb L e w' lo hi f) r.2.1 r.2.2.2) := by
  obtain ⟨hM_l, hz, a_l, ha_l, hae, hf⟩ := h
  exact m175 hw hww hM_l hL ha_l hae hz hf
theorem y176 (hw : 43 ≤ w ∧ w < 58) (hww : gtx w = gtx w') (h : Mat s L e f) : gT (f_176 217 w s) (fun r => r.1 = 1 ∧ MBv L e s (tb L e w' f) r.2.1 r.2.2.2) := by
  obtain ⟨hM_l, hz, a_l, ha_l, hae, hf⟩ := h
  exact m176 hw hww hM_l ha_l hae hz hf
theorem Mat_b (h : Mp s L e) (hf : Fm s s') (hz : gI s' 217 12 = -1) (hb : ∃ b : Nat, gI s' 217 11 = (b : Int) ∧ b ≤ e ∧ sk L e b = g) : Mat s' L e g := ⟨Mp_fr h hf, hz, hb⟩
theorem z177 (hz : gI s 217 12 ≠ -1) : gT (fb_177_16 217 s) (fun r => r.1 = 0 ∧ r.2.2.2 = s) := by
  unfold fb_177_16
  refine gT_v1 (A := fun _ z_l => z_l = s) (z175 hz) (fun v4_l s3_l h3 => ?_)
  rw [h3]
  refine gT_v1 (A := fun _ z_l => z_l = s) (z175 hz) (fun v6 s5 h5 => ?_)
  rw [h5]
  refine gT_v1 (A := fun _ z_l => z_l = s) (z175 hz) (fun v8 s7 h7 => ?_)
  rw [h7, if_neg hz]
  exact gT_ret ⟨rfl, rfl⟩
theorem z178 (hz : gI s 217 12 ≠ -1) : gT (fb_178_16 217 s) (fun r => r.1 = 0 ∧ r.2.2.2 = s) := by
  unfold fb_178_16
  refine gT_v1 (A := fun _ z_l => z_l = s) (z175 hz) (fun v4_l s3_l h3 => ?_)
  rw [h3]
  refine gT_v1 (A := fun _ z_l => z_l = s) (z175 hz) (fun v6 s5 h5 => ?_)
  rw [h5]
  refine gT_v1 (A := fun _ z_l => z_l = s) (z176 hz) (fun v8 s7 h7 => ?_)
  rw [h7, if_neg hz]
  exact gT_ret ⟨rfl, rfl⟩
theorem z179 (hz : gI s 217 12 ≠ -1) : gT (fb_179_16 217 s) (fun r => r.1 = 0 ∧ r.2.2.2 = s) := by
  unfold fb_179_16
  refine gT_v1 (A := fun _ z_l => z_l = s) (z175 hz) (fun v4_l s3_l h3 => ?_)
  rw [h3]
  refine gT_v1 (A := fun _ z_l => z_l = s) (z176 hz) (fun v6 s5 h5 => ?_)
  rw [h5, if_neg hz]
  exact gT_ret ⟨rfl, rfl⟩
theorem z180 (hz : gI s 217 12 ≠ -1) : gT (fb_180_17 217 s) (fun r => r.1 = 0 ∧ r.2.2.2 = s) := by
  unfold fb_180_17
  refine gT_v1 (A := fun _ z_l => z_l = s) (w_174z hz) (fun v4_l s3_l h3 => ?_)
  rw [h3, if_neg hz]
  exact gT_ret ⟨rfl, rfl⟩
theorem qz (h : gI s 217 12 = (q : Int)) : gI s 217 12 ≠ -1 := by omega
theorem m_177 (hL : ∀ k, 0 ≤ L k ∧ L k ≤ 255) (h : Mat s L e g) (h0 : 0 ≤ gI s 218 3) (h8 : gI s 218 3 ≤ 8) : gT (f_177 217 (f : Int) s) (fun r => r.1 = 0 ∧ ML (if gI s 218 3 < 8 then lnS L e g else Sum.inl f) L e s r.2.2.2) := by
  have hR := h.1.2.1.1
  unfold f_177
  rw [hR]
  refine gT_ite (fun c8_l => ?_) (fun c8_l => ?_)
  · refine gT_v0 (A := fun z_l => Fm s z_l ∧ gI z_l 217 11 = gI s 217 11 ∧ gI z_l 217 12 = if gI s 217 12 = -1 then (f : Int) else gI s 217 12) w_172 (fun s1_l h1 => ?_)
    have hz := h1.2.2
    rw [if_pos h.2.1] at hz
    refine gT_mono (z177 (qz hz)) (fun r hr => ⟨hr.1, ?_⟩)
    rw [hr.2, if_neg (by omega)]
    exact ML_f rfl hz h1.1
  rw [if_pos (show gI s 218 3 < 8 by omega)]
  unfold fb_177_16
  refine gT_v1 (A := MBv L e s (nb L e 18 1 30 g)) (y175 (by decide) ge_43.1 hL h) (fun v4_l s3_l h3 => ?_)
  rcases h3.2 with ⟨q_l, e1_l, e2_l⟩ | ⟨u1_l, g1, e1_l, e2_l, e3_l, e4_l⟩
  · have hz := qz e2_l
    refine gT_v1 (A := fun _ z_l => z_l = s3_l) (z175 hz) (fun v6 s5 h5 => ?_)
    rw [h5]
    refine gT_v1 (A := fun _ z_l => z_l = s3_l) (z175 hz) (fun v8 s7 h7 => ?_)
    rw [h7, if_neg hz]
    exact gT_ret ⟨rfl, ML_f (by unfold lnS; rw [e1_l, eb_l]) e2_l h3.1⟩
  refine gT_v1 (A := MBv L e s3_l (nb L e 19 0 99 g1)) (y175 (by decide) ge_43.2.1 hL (Mat_b h.1 h3.1 e3_l e4_l)) (fun v6 s5 h5 => ?_)
  have hf5 := Fm_t h3.1 h5.1
  rcases h5.2 with ⟨q_l, e5_l, e6_l⟩ | ⟨u2_l, g2, e5_l, e6_l, e7_l, e8⟩
  · have hz := qz e6_l
    refine gT_v1 (A := fun _ z_l => z_l = s5) (z175 hz) (fun v8 s7 h7 => ?_)
    rw [h7, if_neg hz]
    exact gT_ret ⟨rfl, ML_f (by unfold lnS; rw [e1_l, eb_r, e5_l, eb_l]) e6_l hf5⟩
  refine gT_v1 (A := MBv L e s5 (nb L e 20 0 50 g2)) (y175 (by decide) ge_43.2.2.1 hL (Mat_b h.1 hf5 e7_l e8)) (fun v8 s7 h7 => ?_)
  have hf7 := Fm_t hf5 h7.1
  rcases h7.2 with ⟨q_l, e9_l, e10_l⟩ | ⟨u3, g3_l, e9_l, e10_l, e11_l, e12_l⟩
  · rw [if_neg (qz e10_l)]
    exact gT_ret ⟨rfl, ML_f (by unfold lnS; rw [e1_l, eb_r, e5_l, eb_r, e9_l, eb_l]) e10_l hf7⟩
  rw [if_pos e11_l]
  have hc_l : gI s7 218 3 = gI s 218 3 := hf7.2 218 3 (by omega)
  have hR7 : gR s7 217 1 = 218 := (hf7.1.2.2 217 1).trans hR
  refine gT_mono (x_177 (s := s7) (v1 := v4_l) (v2 := v6) (v3 := v8) hR7 (by omega) (by omega)) (fun r hr => ⟨hr.1, ?_⟩)
  rw [hr.2]
  exact ML_r (by unfold lnS; rw [e1_l, eb_r, e5_l, eb_r, e9_l, eb_r, e2_l, e6_l, e10_l]) hf7 (mw_7.trans e11_l) (by rw [mw_7]; exact e12_l)
theorem m_178 (hL : ∀ k, 0 ≤ L k ∧ L k ≤ 255) (h : Mat s L e g) (h0 : 0 ≤ gI s 218 4) (h8 : gI s 218 4 ≤ 6) : gT (f_178 217 (f : Int) s) (fun r => r.1 = 0 ∧ ML (if gI s 218 4 < 6 then lnM L e g else Sum.inl f) L e s r.2.2.2) := by
  have hR := h.1.2.1.1
  unfold f_178
  rw [hR]
  refine gT_ite (fun c8_l => ?_) (fun c8_l => ?_)
  · refine gT_v0 (A := fun z_l => Fm s z_l ∧ gI z_l 217 11 = gI s 217 11 ∧ gI z_l 217 12 = if gI s 217 12 = -1 then (f : Int) else gI s 217 12) w_172 (fun s1_l h1 => ?_)
    have hz := h1.2.2
    rw [if_pos h.2.1] at hz
    refine gT_mono (z178 (qz hz)) (fun r hr => ⟨hr.1, ?_⟩)
    rw [hr.2, if_neg (by omega)]
    exact ML_f rfl hz h1.1
  rw [if_pos (show gI s 218 4 < 6 by omega)]
  unfold fb_178_16
  refine gT_v1 (A := MBv L e s (nb L e 21 0 99 g)) (y175 (by decide) ge_43.2.2.2.1 hL h) (fun v4_l s3_l h3 => ?_)
  rcases h3.2 with ⟨q_l, e1_l, e2_l⟩ | ⟨u1_l, g1, e1_l, e2_l, e3_l, e4_l⟩
  · have hz := qz e2_l
    refine gT_v1 (A := fun _ z_l => z_l = s3_l) (z175 hz) (fun v6 s5 h5 => ?_)
    rw [h5]
    refine gT_v1 (A := fun _ z_l => z_l = s3_l) (z176 hz) (fun v8 s7 h7 => ?_)
    rw [h7, if_neg hz]
    exact gT_ret ⟨rfl, ML_f (by unfold lnM; rw [e1_l, eb_l]) e2_l h3.1⟩
  refine gT_v1 (A := MBv L e s3_l (nb L e 22 0 9 g1)) (y175 (by decide) ge_43.2.2.2.2.1 hL (Mat_b h.1 h3.1 e3_l e4_l)) (fun v6 s5 h5 => ?_)
  have hf5 := Fm_t h3.1 h5.1
  rcases h5.2 with ⟨q_l, e5_l, e6_l⟩ | ⟨u2_l, g2, e5_l, e6_l, e7_l, e8⟩
  · have hz := qz e6_l
    refine gT_v1 (A := fun _ z_l => z_l = s5) (z176 hz) (fun v8 s7 h7 => ?_)
    rw [h7, if_neg hz]
    exact gT_ret ⟨rfl, ML_f (by unfold lnM; rw [e1_l, eb_r, e5_l, eb_l]) e6_l hf5⟩
  refine gT_v1 (A := MBv L e s5 (tb L e 23 g2)) (y176 (by decide) ge_43.2.2.2.2.2.1 (Mat_b h.1 hf5 e7_l e8)) (fun v8 s7 h7 => ?_)
  have hf7 := Fm_t hf5 h7.1
  rcases h7.2 with ⟨q_l, e9_l, e10_l⟩ | ⟨u3, g3_l, e9_l, e10_l, e11_l, e12_l⟩
  · rw [if_neg (qz e10_l)]
    exact gT_ret ⟨rfl, ML_f (by unfold lnM; rw [e1_l, eb_r, e5_l, eb_r, e9_l, eb_l]) e10_l hf7⟩
  rw [if_pos e11_l]
  have hc_l : gI s7 218 4 = gI s 218 4 := hf7.2 218 4 (by omega)
  have hR7 : gR s7 217 1 = 218 := (hf7.1.2.2 217 1).trans hR
  rw [hR7]
  have b7 : 0 ≤ gI s7 218 4 ∧ gI s7 218 4 ≤ 6 := by omega
  refine gT_v0 (A := fun z_l => z_l = gw s7 218 (40 + 6 * (gI s7 218 4).toNat + 0) v4_l) (x_157 hR7 b7 (by decide)) (fun s10 h10 => ?_)
  rw [h10]
  refine gT_v0 (A := fun z_l => z_l = gw (gw s7 218 (40 + 6 * (gI s7 218 4).toNat + 0) v4_l) 218 (40 + 6 * (gI s7 218 4).toNat + 1) v6) (x_157 hR7 b7 (by decide)) (fun s12 h12 => ?_)
  rw [h12]
  refine gT_v0 (A := fun z_l => z_l = gw (gw (gw s7 218 (40 + 6 * (gI s7 218 4).toNat + 0) v4_l) 218 (40 + 6 * (gI s7 218 4).toNat + 1) v6) 218 (40 + 6 * (gI s7 218 4).toNat + 2) v8) (x_157 hR7 b7 (by decide)) (fun s14 h14 => ?_)
  rw [h14]
  refine gT_v0 (A := fun z_l => z_l = gw (gw (gw (gw s7 218 (40 + 6 * (gI s7 218 4).toNat + 0) v4_l) 218 (40 + 6 * (gI s7 218 4).toNat + 1) v6) 218 (40 + 6 * (gI s7 218 4).toNat + 2) v8) 218 (40 + 6 * (gI s7 218 4).toNat + 3) 0) (x_157 hR7 b7 (by decide)) (fun s16 h16_l => ?_)
  rw [h16_l]
  refine gT_v0 (A := fun z_l => z_l = gw (gw (gw (gw (gw s7 218 (40 + 6 * (gI s7 218 4).toNat + 0) v4_l) 218 (40 + 6 * (gI s7 218 4).toNat + 1) v6) 218 (40 + 6 * (gI s7 218 4).toNat + 2) v8) 218 (40 + 6 * (gI s7 218 4).toNat + 3) 0) 218 (40 + 6 * (gI s7 218 4).toNat + 4) 0) (x_157 hR7 b7 (by decide)) (fun s18 h18 => ?_)
  rw [h18]
  refine gT_v0 (A := fun z_l => z_l = gw (gw (gw (gw (gw (gw s7 218 (40 + 6 * (gI s7 218 4).toNat + 0) v4_l) 218 (40 + 6 * (gI s7 218 4).toNat + 1) v6) 218 (40 + 6 * (gI s7 218 4).toNat + 2) v8) 218 (40 + 6 * (gI s7 218 4).toNat + 3) 0) 218 (40 + 6 * (gI s7 218 4).toNat + 4) 0) 218 (40 + 6 * (gI s7 218 4).toNat + 5) 0) (x_157 hR7 b7 (by decide)) (fun s20 h20 => ?_)
  have hR20 : gR s20 217 1 = 218 := by rw [h20]; exact hR7
  have h4 : gI s20 218 4 = gI s7 218 4 := by
    rw [h20, rd8, if_neg (by omega), rd8, if_neg (by omega), rd8, if_neg (by omega), rd8, if_neg (by omega), rd8, if_neg (by omega), rd8, if_neg (by omega)]
  rw [hR20, h4, g32_eq (v := gI s7 218 4 + 1) (by omega) (by omega), h20]
  exact gT_ret ⟨rfl, ML_r (y := (1, v4_l, v6, v8)) (t := s7) (by unfold lnM; rw [e1_l, eb_r, e5_l, eb_r, e9_l, eb_r, e2_l, e6_l, e10_l]) hf7 (mw_7.trans e11_l) (by rw [mw_7]; exact e12_l)⟩
end Mr
