section Ms
variable {s s' : gS} {L : Nat → Int} {e f g q w w' : Nat} {v1 v2 v3 lo hi c j : Int} {x : Nat ⊕ (gLW × Nat)}
theorem ix2 {m : Int} (hm : 76 ≤ m ∧ m ≤ 88) (h : 0 ≤ c ∧ c ≤ 6) (hj : 0 ≤ j ∧ j ≤ 1) : g32 (m + g32 (2 * c)) = m + 2 * c ∧ g32 (g32 (m + g32 (2 * c)) + j) = m + 2 * c + j := by
  rw [g32_eq (v := 2 * c) (by omega) (by omega), g32_eq (v := m + 2 * c) (by omega) (by omega), g32_eq (by omega) (by omega)]
  exact ⟨rfl, rfl⟩
theorem m_179 (hL : ∀ k, 0 ≤ L k ∧ L k ≤ 255) (h : Mat s L e g) (h0 : 0 ≤ gI s 218 5) (h8 : gI s 218 5 ≤ 6) : gT (f_179 217 (f : Int) s) (fun r => r.1 = 0 ∧ ML (if gI s 218 5 < 6 then lnT L e g else Sum.inl f) L e s r.2.2.2) := by
  have hR := h.1.2.1.1
  unfold f_179
  rw [hR]
  refine gT_ite (fun c8_l => ?_) (fun c8_l => ?_)
  · refine gT_v0 (A := fun z_l => Fm s z_l ∧ gI z_l 217 11 = gI s 217 11 ∧ gI z_l 217 12 = if gI s 217 12 = -1 then (f : Int) else gI s 217 12) w_172 (fun s1_l h1 => ?_)
    have hz := h1.2.2
    rw [if_pos h.2.1] at hz
    refine gT_mono (z179 (qz hz)) (fun r hr => ⟨hr.1, ?_⟩)
    rw [hr.2, if_neg (by omega)]
    exact ML_f rfl hz h1.1
  rw [if_pos (show gI s 218 5 < 6 by omega)]
  unfold fb_179_16
  refine gT_v1 (A := MBv L e s (nb L e 19 0 99 g)) (y175 (by decide) ge_43.2.1 hL h) (fun v4_l s3_l h3 => ?_)
  rcases h3.2 with ⟨q_l, e1_l, e2_l⟩ | ⟨u1_l, g1, e1_l, e2_l, e3_l, e4_l⟩
  · have hz := qz e2_l
    refine gT_v1 (A := fun _ z_l => z_l = s3_l) (z176 hz) (fun v8 s7 h7 => ?_)
    rw [h7, if_neg hz]
    exact gT_ret ⟨rfl, ML_f (by unfold lnT; rw [e1_l, eb_l]) e2_l h3.1⟩
  refine gT_v1 (A := MBv L e s3_l (tb L e 24 g1)) (y176 (by decide) ge_43.2.2.2.2.2.2 (Mat_b h.1 h3.1 e3_l e4_l)) (fun v8 s7 h7 => ?_)
  have hf7 := Fm_t h3.1 h7.1
  rcases h7.2 with ⟨q_l, e9_l, e10_l⟩ | ⟨u3, g3_l, e9_l, e10_l, e11_l, e12_l⟩
  · rw [if_neg (qz e10_l)]
    exact gT_ret ⟨rfl, ML_f (by unfold lnT; rw [e1_l, eb_r, e9_l, eb_l]) e10_l hf7⟩
  rw [if_pos e11_l]
  have hc_l : gI s7 218 5 = gI s 218 5 := hf7.2 218 5 (by omega)
  have hR7 : gR s7 217 1 = 218 := (hf7.1.2.2 217 1).trans hR
  have i0_l := (ix2 (m := 76) (c := gI s7 218 5) (j := 0) (by omega) (by omega) (by omega)).1
  have i1_l := g32_eq (v := 76 + 2 * gI s7 218 5 + 1) (by omega) (by omega)
  have n0_l : (76 + 2 * gI s7 218 5).toNat = 76 + 2 * (gI s7 218 5).toNat + 0 := by omega
  have n1_l : (76 + 2 * gI s7 218 5 + 1).toNat = 76 + 2 * (gI s7 218 5).toNat + 1 := by omega
  have c1_l : gI (gw s7 218 (76 + 2 * (gI s7 218 5).toNat + 0) v4_l) 218 5 = gI s7 218 5 := by rw [rd8, if_neg (by omega)]
  have c2_l : gI (gw (gw s7 218 (76 + 2 * (gI s7 218 5).toNat + 0) v4_l) 218 (76 + 2 * (gI s7 218 5).toNat + 1) v8) 218 5 = gI s7 218 5 := by rw [rd8, if_neg (by omega), c1_l]
  simp only [gR_w, hR7, i0_l, n0_l, c1_l, i1_l, n1_l, c2_l, g32_eq (v := gI s7 218 5 + 1) (by omega) (by omega)]
  refine gT_chk (by omega) (by omega) (gT_chk (by omega) (by omega) (gT_ret ⟨rfl, ?_⟩))
  exact ML_r (x := lnT L e g) (y := (2, v4_l, v8, 0)) (t := s7) (by unfold lnT; rw [e1_l, eb_r, e9_l, eb_r, e2_l, e10_l]) hf7 (mw_7.trans e11_l) (by rw [mw_7]; exact e12_l)
/-- a number behind a word that was just read -/
theorem y174 (hL : ∀ k, 0 ≤ L k ∧ L k ≤ 255) (hw : Wd L e w f) (h : Mat s L e (nx L e f)) : gT (f_174 217 lo hi s) (fun r => r.1 = 1 ∧ MBv L e s (nb L e w lo hi f) r.2.1 r.2.2.2) := by
  obtain ⟨hM_l, hz, a_l, ha_l, hae, hf⟩ := h
  have hfe : nx L e f ≤ e := by rw [← hf]; exact (sk_b hae).2
  refine gT_mono (w_174 hM_l hL ha_l hae hz) (fun r hr => ⟨hr.1, hr.2.1, ?_⟩)
  have h2 := hr.2.2
  rw [hf] at h2
  rcases h2 with ⟨h2, h3, h4, h5⟩ | ⟨h2, h3⟩
  · obtain ⟨n1_l, n2_l⟩ := nm_x hfe h2
    exact Or.inr ⟨_, _, by unfold nb; rw [cif_p hw, cif_p h2], h3, h4, _, h5, n1_l, n2_l⟩
  · exact Or.inl ⟨_, by unfold nb; rw [cif_p hw, cif_n h2], h3⟩
theorem m_180 (hL : ∀ k, 0 ≤ L k ∧ L k ≤ 255) (hw : Wd L e 16 f) (h : Mat s L e (nx L e f)) (h0 : 0 ≤ gI s 218 6) (h8 : gI s 218 6 ≤ 6) : gT (f_180 217 (f : Int) s) (fun r => r.1 = 0 ∧ ML (if gI s 218 6 < 6 then ln1 L e 3 16 999 f else Sum.inl f) L e s r.2.2.2) := by
  have hR := h.1.2.1.1
  unfold f_180
  rw [hR]
  refine gT_ite (fun c8_l => ?_) (fun c8_l => ?_)
  · refine gT_v0 (A := fun z_l => Fm s z_l ∧ gI z_l 217 11 = gI s 217 11 ∧ gI z_l 217 12 = if gI s 217 12 = -1 then (f : Int) else gI s 217 12) w_172 (fun s1_l h1 => ?_)
    have hz := h1.2.2
    rw [if_pos h.2.1] at hz
    refine gT_mono (z180 (qz hz)) (fun r hr => ⟨hr.1, ?_⟩)
    rw [hr.2, if_neg (by omega)]
    exact ML_f rfl hz h1.1
  rw [if_pos (show gI s 218 6 < 6 by omega)]
  unfold fb_180_17
  refine gT_v1 (A := MBv L e s (nb L e 16 0 999 f)) (y174 hL hw h) (fun v4_l s7 h7 => ?_)
  have hf7 := h7.1
  rcases h7.2 with ⟨q_l, e9_l, e10_l⟩ | ⟨u3, g3_l, e9_l, e10_l, e11_l, e12_l⟩
  · rw [if_neg (qz e10_l)]
    exact gT_ret ⟨rfl, ML_f (by unfold ln1; rw [e9_l, eb_l]) e10_l hf7⟩
  rw [if_pos e11_l]
  have hc_l : gI s7 218 6 = gI s 218 6 := hf7.2 218 6 (by omega)
  have hR7 : gR s7 217 1 = 218 := (hf7.1.2.2 217 1).trans hR
  have i0_l := (ix2 (m := 88) (c := gI s7 218 6) (j := 0) (by omega) (by omega) (by omega)).2
  have i1_l := (ix2 (m := 88) (c := gI s7 218 6) (j := 1) (by omega) (by omega) (by omega)).2
  have n0_l : (88 + 2 * gI s7 218 6 + 0).toNat = 88 + 2 * (gI s7 218 6).toNat + 0 := by omega
  have n1_l : (88 + 2 * gI s7 218 6 + 1).toNat = 88 + 2 * (gI s7 218 6).toNat + 1 := by omega
  have c1_l : gI (gw s7 218 (88 + 2 * (gI s7 218 6).toNat + 0) v4_l) 218 6 = gI s7 218 6 := by rw [rd8, if_neg (by omega)]
  have c2_l : gI (gw (gw s7 218 (88 + 2 * (gI s7 218 6).toNat + 0) v4_l) 218 (88 + 2 * (gI s7 218 6).toNat + 1) 0) 218 6 = gI s7 218 6 := by rw [rd8, if_neg (by omega), c1_l]
  simp only [gR_w, hR7, i0_l, n0_l, c1_l, i1_l, n1_l, c2_l, g32_eq (v := gI s7 218 6 + 1) (by omega) (by omega)]
  refine gT_chk (by omega) (by omega) (gT_chk (by omega) (by omega) (gT_ret ⟨rfl, ?_⟩))
  exact ML_r (y := (3, v4_l, 0, 0)) (t := s7) (by unfold ln1; rw [e9_l, eb_r, e10_l]) hf7 (mw_7.trans e11_l) (by rw [mw_7]; exact e12_l)
theorem m_181 {t k : Nat} (ht : ∀ v z, mw (t, v, 0, 0) z = gw z 218 k v) (hk : k < 100) (hL : ∀ k, 0 ≤ L k ∧ L k ≤ 255) (hw : Wd L e w f) (h : Mat s L e (nx L e f)) : gT (f_181 217 (k : Int) hi s) (fun r => r.1 = 0 ∧ ML (ln1 L e t w hi f) L e s r.2.2.2) := by
  have hR := h.1.2.1.1
  unfold f_181
  refine gT_v1 (A := MBv L e s (nb L e w 0 hi f)) (y174 hL hw h) (fun v4_l s7 h7 => ?_)
  have hf7 := h7.1
  rcases h7.2 with ⟨q_l, e9_l, e10_l⟩ | ⟨u3, g3_l, e9_l, e10_l, e11_l, e12_l⟩
  · rw [if_neg (qz e10_l)]
    exact gT_ret ⟨rfl, ML_f (by unfold ln1; rw [e9_l, eb_l]) e10_l hf7⟩
  have hR7 : gR s7 217 1 = 218 := (hf7.1.2.2 217 1).trans hR
  rw [if_pos e11_l, hR7]
  refine gT_chk (by omega) (by omega) (gT_ret ⟨rfl, ?_⟩)
  show ML _ L e s (gw s7 218 ((k : Int)).toNat v4_l)
  rw [Int.toNat_natCast, ← ht]
  exact ML_r (y := (t, v4_l, 0, 0)) (t := s7) (by unfold ln1; rw [e9_l, eb_r, e10_l]) hf7 (mw_7.trans e11_l) (by rw [mw_7]; exact e12_l)
/-- a word is looked for -/
def Hz (s : gS) (L : Nat → Int) (e w f : Nat) (v : Int) (t : gS) : Prop := Fm s t ∧ ((v = 1 ∧ Wd L e w f ∧ Mat t L e (nx L e f)) ∨ (v = 0 ∧ ¬ Wd L e w f ∧ Mat t L e f ∧ gI t 217 11 = (f : Int)))
theorem y171 (hw : 43 ≤ w ∧ w < 58) (hww : gtx w = gtx w') (h : Mat s L e f) : gT (f_171 217 w s) (fun r => r.1 = 1 ∧ Hz s L e w' f r.2.1 r.2.2.2) := by
  obtain ⟨hM_l, hz, a_l, ha_l, hae, hf⟩ := h
  refine gT_mono (w_171 (gl_m w hw.1 hw.2) hM_l ha_l hae) (fun r hr => ⟨hr.1, hr.2.1, ?_⟩)
  rw [← Wd_e hww]
  have h3 := hr.2.2
  rw [hf] at h3
  have hfe : f ≤ e := by rw [← hf]; exact (sk_b hae).2
  have hz' := h3.1.trans hz
  rcases h3.2 with ⟨b1, b2, b3⟩ | ⟨b1, b2, b3⟩
  · have hen := en_w (gl_m w hw.1 hw.2) b2
    have hee := (en_b (L := L) hfe).2.1
    refine Or.inl ⟨b1, b2, Mp_fr hM_l hr.2.1, hz', _, b3, by omega, ?_⟩
    unfold nx
    rw [hen.1]
  · exact Or.inr ⟨b1, b2, ⟨Mp_fr hM_l hr.2.1, hz', f, b3, hfe, by rw [← hf]; exact sk_i⟩, b3⟩
theorem ML_t {t : gS} (h : Fm s s') (hm : ML x L e s' t) : ML x L e s t := by
  rcases hm with ⟨q_l, h1, h2, h3⟩ | ⟨y_l, g_l, h1, h2, h3⟩
  · exact Or.inl ⟨q_l, h1, h2, Fm_t h h3⟩
  · exact Or.inr ⟨y_l, g_l, h1, Fm_t (Fm_mw h) h2, h3⟩
theorem ML_v {z : Option gO} (h : gT z (fun r => r.1 = 0 ∧ ML x L e s r.2.2.2)) : gT (z.bind (gv0 (fun s1 => some (((0, 0, 0, s1) : gO))))) (fun r => r.1 = 0 ∧ ML x L e s r.2.2.2) :=
  gT_v0 (A := ML x L e s) h (fun s1 h1 => gT_ret ⟨rfl, h1⟩)
end Ms
