section Mt
variable {s s' : gS} {L : Nat → Int} {e f : Nat} {V : Nat → Int} {x : Nat ⊕ (gLW × Nat)}
theorem m_182 (hL : ∀ k, 0 ≤ L k ∧ L k ≤ 255) (h : Mat s L e f) (hg : Rg (mv s)) : gT (f_182 217 s) (fun r => r.1 = 0 ∧ ML (ln L e f (mv s)) L e s r.2.2.2) := by
  unfold f_182 ln
  refine gT_v1 (A := fun v_l z_l => v_l = (f : Int) ∧ Fm s z_l ∧ Mat z_l L e f) ?_ (fun v2 s1_l h1 => ?_)
  · obtain ⟨hM_l, hz, a_l, ha_l, hae, hf⟩ := h
    refine gT_mono (w_173 hM_l ha_l hae) (fun r hr => ?_)
    rw [hf] at hr
    exact ⟨hr.1, hr.2.1, hr.2.2.1, Mp_fr hM_l hr.2.2.1, hr.2.2.2.1.trans hz, f, hr.2.2.2.2, by rw [← hf]; exact (sk_b hae).2, by rw [← hf]; exact sk_i⟩
  obtain ⟨i1_l, hf1, hm1⟩ := h1
  rw [i1_l]
  have gg : ∀ {t : gS}, Fm s t → ∀ k, gI t 218 k = mv s k := fun ht k => ht.2 218 k (by omega)
  obtain ⟨g1, g2, g3_l, g4⟩ := hg
  refine gT_v1 (A := Hz s1_l L e 13 f) (y171 (by decide) ge_50.1 hm1) (fun v4_l s3_l h3 => ?_)
  have hf3 := Fm_t hf1 h3.1
  rcases h3.2 with ⟨b1, b2, b3⟩ | ⟨b1, b2, b3, -⟩
  · rw [if_neg (by omega), cif_p b2]
    refine ML_v (gT_mono (m_177 hL b3 (by rw [gg hf3]; omega) (by rw [gg hf3]; omega)) (fun r hr => ⟨hr.1, ML_t hf3 ?_⟩))
    rw [← gg hf3 3]
    exact hr.2
  rw [if_pos b1, cif_n b2]
  refine gT_v1 (A := Hz s3_l L e 14 f) (y171 (by decide) ge_50.2.1 b3) (fun v7 s6_l h6 => ?_)
  have hf6 := Fm_t hf3 h6.1
  rcases h6.2 with ⟨b1, b2, b3⟩ | ⟨b1, b2, b3, -⟩
  · rw [if_neg (by omega), cif_p b2]
    refine ML_v (gT_mono (m_178 hL b3 (by rw [gg hf6]; omega) (by rw [gg hf6]; omega)) (fun r hr => ⟨hr.1, ML_t hf6 ?_⟩))
    rw [← gg hf6 4]
    exact hr.2
  rw [if_pos b1, cif_n b2]
  refine gT_v1 (A := Hz s6_l L e 15 f) (y171 (by decide) ge_50.2.2.1 b3) (fun v10 s9 h9 => ?_)
  have hf9 := Fm_t hf6 h9.1
  rcases h9.2 with ⟨b1, b2, b3⟩ | ⟨b1, b2, b3, -⟩
  · rw [if_neg (by omega), cif_p b2]
    refine ML_v (gT_mono (m_179 hL b3 (by rw [gg hf9]; omega) (by rw [gg hf9]; omega)) (fun r hr => ⟨hr.1, ML_t hf9 ?_⟩))
    rw [← gg hf9 5]
    exact hr.2
  rw [if_pos b1, cif_n b2]
  refine gT_v1 (A := Hz s9 L e 16 f) (y171 (by decide) ge_50.2.2.2.1 b3) (fun v13 s12 h12 => ?_)
  have hf12 := Fm_t hf9 h12.1
  rcases h12.2 with ⟨b1, b2, b3⟩ | ⟨b1, b2, b3, -⟩
  · rw [if_neg (by omega), cif_p b2]
    refine ML_v (gT_mono (m_180 hL b2 b3 (by rw [gg hf12]; omega) (by rw [gg hf12]; omega)) (fun r hr => ⟨hr.1, ML_t hf12 ?_⟩))
    rw [← gg hf12 6]
    exact hr.2
  rw [if_pos b1, cif_n b2]
  refine gT_v1 (A := Hz s12 L e 17 f) (y171 (by decide) ge_50.2.2.2.2.1 b3) (fun v16 s15 h15 => ?_)
  have hf15 := Fm_t hf12 h15.1
  rcases h15.2 with ⟨b1, b2, b3⟩ | ⟨b1, b2, b3, -⟩
  · rw [if_neg (by omega), cif_p b2]
    exact ML_v (gT_mono (m_181 (k := 8) (fun _ _ => rfl) (by decide) hL b2 b3) (fun r hr => ⟨hr.1, ML_t hf15 hr.2⟩))
  rw [if_pos b1, cif_n b2]
  refine gT_v1 (A := Hz s15 L e 25 f) (y171 (by decide) ge_50.2.2.2.2.2.1 b3) (fun v19 s18 h18 => ?_)
  have hf18 := Fm_t hf15 h18.1
  rcases h18.2 with ⟨b1, b2, b3⟩ | ⟨b1, b2, b3, -⟩
  · rw [if_neg (by omega), cif_p b2]
    exact ML_v (gT_mono (m_181 (k := 10) (fun _ _ => rfl) (by decide) hL b2 b3) (fun r hr => ⟨hr.1, ML_t hf18 hr.2⟩))
  rw [if_pos b1, cif_n b2]
  refine gT_v1 (A := Hz s18 L e 26 f) (y171 (by decide) ge_50.2.2.2.2.2.2.1 b3) (fun v22 s21 h21 => ?_)
  have hf21 := Fm_t hf18 h21.1
  rcases h21.2 with ⟨b1, b2, b3⟩ | ⟨b1, b2, b3, -⟩
  · rw [if_neg (by omega), cif_p b2]
    exact ML_v (gT_mono (m_181 (k := 11) (fun _ _ => rfl) (by decide) hL b2 b3) (fun r hr => ⟨hr.1, ML_t hf21 hr.2⟩))
  rw [if_pos b1, cif_n b2]
  refine gT_v1 (A := Hz s21 L e 27 f) (y171 (by decide) ge_50.2.2.2.2.2.2.2 b3) (fun v25 s24 h24 => ?_)
  have hf24 := Fm_t hf21 h24.1
  rcases h24.2 with ⟨b1, b2, b3⟩ | ⟨b1, b2, b3, b4⟩
  · rw [if_neg (by omega), cif_p b2]
    exact ML_v (gT_mono (m_181 (k := 12) (fun _ _ => rfl) (by decide) hL b2 b3) (fun r hr => ⟨hr.1, ML_t hf24 hr.2⟩))
  rw [if_pos b1, cif_n b2, b4]
  refine gT_v0 (A := fun z_l => Fm s24 z_l ∧ gI z_l 217 11 = gI s24 217 11 ∧ gI z_l 217 12 = if gI s24 217 12 = -1 then (f : Int) else gI s24 217 12) w_172 (fun s27 h27 => ?_)
  have hz := h27.2.2
  rw [if_pos b3.2.1] at hz
  exact gT_ret ⟨rfl, ML_f rfl hz (Fm_t hf24 h27.1)⟩
/-- what the reading of a book says -/
def MB (x : Nat ⊕ (Nat → Int)) (s : gS) (r : gO) : Prop := r.1 = 1 ∧ Mf s r.2.2.2 ∧ ((∃ q : Nat, x = Sum.inl q ∧ gI r.2.2.2 217 12 = (q : Int)) ∨ (∃ W : Nat → Int, x = Sum.inr W ∧ gI r.2.2.2 217 12 = -1 ∧ ∀ k, k < 100 → gI r.2.2.2 218 k = W k))
theorem MB_t {y : Nat ⊕ (Nat → Int)} {r : gO} (h : Mf s s') (hc : MB y s' r) : MB y s r := ⟨hc.1, Mf_t h hc.2.1, hc.2.2⟩
theorem Mp_mf (h : Mp s L e) (hb : gI s 217 9 = -1) (hf : Mf s s') : Mp s' L e := by
  have k0_l : ∀ k_l, k_l < e → gI s 222 k_l = L k_l ∧ k_l < 400 := by
    intro k_l hk
    have h1 := h.2.2 k_l hk
    unfold f_168 at h1
    rw [if_pos hb, h.2.1.2] at h1
    unfold gchk at h1
    by_cases c : (0 : Int) ≤ (k_l : Int) ∧ (k_l : Int) < 400
    · rw [if_pos c, Int.toNat_natCast] at h1
      injection h1 with h1
      injection h1 with h2 h3
      injection h3 with h4 h5
      exact ⟨h4, by omega⟩
    · rw [if_neg c] at h1; cases h1
  refine ⟨⟨(hf.2 217 10 (by omega) (by omega)).trans h.1.1, h.1.2⟩, ⟨(hf.1.2.2 217 1).trans h.2.1.1, (hf.1.2.2 217 7).trans h.2.1.2⟩, fun k_l hk => ?_⟩
  have h2 := k0_l k_l hk
  unfold f_168
  rw [hf.2 217 9 (by omega) (by omega), if_pos hb, hf.1.2.2 217 7, h.2.1.2]
  unfold gchk
  rw [if_pos (by omega), Int.toNat_natCast, hf.2 222 k_l (by omega) (by omega), h2.1]
/-- blanks leave what is wrong as it is -/
theorem nf_169 : gQ (f_169 217 s) (fun r => gI r.2.2.2 217 12 = gI s 217 12) := by
  unfold f_169
  refine gQ_loop (fun y_l => y_l.1 = 217 ∧ gI y_l.2 217 12 = gI s 217 12) (fun y_l hy => ?_) ⟨rfl, rfl⟩
  obtain ⟨x0_l, y1⟩ := y_l
  obtain ⟨e0_l, h1⟩ := hy
  dsimp only at e0_l h1
  subst e0_l
  show gQ (sb_169_0 217 y1) _
  unfold sb_169_0
  dsimp only
  have h168 : ∀ (k_l : Int) (t_l : gS), gQ (f_168 217 k_l t_l) (fun r => r.2.2.2 = t_l) := by
    intro k_l t_l
    unfold f_168
    exact gQ_ite (gQ_chk (gQ_ret rfl)) (gQ_chk (gQ_ret rfl))
  refine gQ_ite ?_ (gQ_map (gQ_ret h1))
  refine gQ_v1 (A := fun z_l => z_l = y1) (h168 _ _) (fun v2 s2_l h2 => ?_)
  rw [h2]
  refine gQ_ite ?_ (gQ_map (gQ_ret h1))
  exact gQ_ret ⟨rfl, (rd_k (a := 217) (k := 12) rfl (by decide)).trans h1⟩
theorem gT_b0 {z : Option gO} {A B : gS → Prop} (h : gT z (fun r => r.1 = 0 ∧ A r.2.2.2)) (h' : gT z (fun r => r.1 = 0 ∧ B r.2.2.2)) : gT z (fun r => r.1 = 0 ∧ (A r.2.2.2 ∧ B r.2.2.2)) :=
  gT_mono (gT_both h h') (fun _ hr => ⟨hr.1.1, hr.1.2, hr.2.2⟩)
theorem gT_b1 {z : Option gO} {A B : Int → gS → Prop} (h : gT z (fun r => r.1 = 1 ∧ A r.2.1 r.2.2.2)) (h' : gT z (fun r => r.1 = 1 ∧ B r.2.1 r.2.2.2)) : gT z (fun r => r.1 = 1 ∧ (A r.2.1 r.2.2.2 ∧ B r.2.1 r.2.2.2)) :=
  gT_mono (gT_both h h') (fun _ hr => ⟨hr.1.1, hr.1.2, hr.2.2⟩)
theorem t217 : T 12 217 := ⟨by decide, by decide +kernel⟩
theorem k_169z {p : gP} (h : J p s) : gT (f_169 217 s) (fun r => r.1 = 0 ∧ (Fm s r.2.2.2 ∧ gI r.2.2.2 217 12 = gI s 217 12)) := by
  obtain ⟨r, h1, h2, h3⟩ := k_169 h
  refine ⟨r, h1, h2, h3.2.1, ?_⟩
  exact nf_169 r h1
theorem m_lp {p : gP} (hL : ∀ k, 0 ≤ L k ∧ L k ≤ 255) (n : Nat) : ∀ (x3 : Int) (f : Nat) (s : gS) (V : Nat → Int), 0 ≤ x3 → x3 + n = 14 → Mat s L e f → J p s → gI s 217 9 = -1 → Rg V → (∀ k, k < 100 → gI s 218 k = V k) → gT (gloop st_184_23 (217, 0, 1, x3, s)) (MB (rdl L e n f V) s) := by
  induction n with
  | zero =>
    intro x3 f s V h0 hx h_l hJ hb_l hg hV
    obtain ⟨hM_l, hz, a_l, ha_l, hae, hf⟩ := h_l
    refine gT_step ?_
    show gT (sb_184_23 217 0 1 x3 s) _
    unfold sb_184_23
    rw [if_neg (by decide), if_pos hz]
    refine gT_v0 (A := fun z_l => Fm s z_l ∧ gI z_l 217 12 = gI s 217 12 ∧ gI z_l 217 11 = ((sk L e a_l : Nat) : Int)) (w_169 hM_l ha_l hae) (fun s3_l h3 => ?_)
    rw [if_pos rfl]
    unfold fb_184_51
    rw [if_pos (by omega)]
    refine gT_v0 (A := fun z_l => Fm s3_l z_l ∧ gI z_l 217 11 = gI s3_l 217 11 ∧ gI z_l 217 12 = if gI s3_l 217 12 = -1 then gI s3_l 217 11 else gI s3_l 217 12) w_172 (fun s5 h5 => ?_)
    have hz5 := h5.2.2
    rw [if_pos (h3.2.1.trans hz), h3.2.2, hf] at hz5
    have hf5 := Fm_t h3.1 h5.1
    have ha5 : gI s5 217 11 = (f : Int) := by rw [h5.2.1, h3.2.2, hf]
    unfold fb_184_80
    refine gT_v0 (A := fun z_l => Fm s5 z_l ∧ gI z_l 217 12 = gI s5 217 12 ∧ gI z_l 217 11 = ((sk L e f : Nat) : Int)) (w_169 (Mp_fr hM_l hf5) ha5 (by rw [← hf]; exact (sk_b hae).2)) (fun s7 h7 => ?_)
    have hz7 := h7.2.1.trans hz5
    rw [if_neg (qz hz7)]
    refine gT_ret ?_
    show gT (gloop st_184_23 (217, 0, 0, _, s7)) _
    refine gT_step ?_
    show gT (sb_184_23 217 0 0 _ s7) _
    unfold sb_184_23
    rw [if_pos rfl]
    exact gT_map (gT_ret ⟨rfl, Mf_fm (Fm_t hf5 h7.1), Or.inl ⟨f, rfl, hz7⟩⟩)
  | succ n ih_l =>
    intro x3 f s V h0 hx h_l hJ hb_l hg hV
    obtain ⟨hM_l, hz, a_l, ha_l, hae, hf⟩ := h_l
    have h400 := hM_l.1.2
    have hfe : f ≤ e := by rw [← hf]; exact (sk_b hae).2
    refine gT_step ?_
    show gT (sb_184_23 217 0 1 x3 s) _
    unfold sb_184_23
    rw [if_neg (by decide), if_pos hz]
    refine gT_v0 (A := fun z_l => (Fm s z_l ∧ gI z_l 217 12 = gI s 217 12 ∧ gI z_l 217 11 = ((sk L e a_l : Nat) : Int)) ∧ Bm p s z_l) (gT_b0 (A := fun z_l => Fm s z_l ∧ gI z_l 217 12 = gI s 217 12 ∧ gI z_l 217 11 = ((sk L e a_l : Nat) : Int)) (B := fun z_l => Bm p s z_l) (w_169 hM_l ha_l hae) (k_169 hJ)) (fun s3_l h3b => ?_)
    have h3 := h3b.1
    have hJ3 := h3b.2.1
    rw [if_pos rfl]
    unfold fb_184_51
    rw [if_neg (by omega), if_pos rfl]
    have h3m : Mat s3_l L e f := ⟨Mp_fr hM_l h3.1, h3.2.1.trans hz, f, by rw [h3.2.2, hf], hfe, by rw [← hf]; exact sk_i⟩
    have h3v : ∀ k, k < 100 → mv s3_l k = V k := fun k hk => (h3.1.2 218 k (by omega)).trans (hV k hk)
    have hg3 : Rg (mv s3_l) := rg_e hg (fun k hk => h3v k hk.1)
    have hln : ln L e f (mv s3_l) = ln L e f V := ln_S (h3v 3 (by decide)) (h3v 4 (by decide)) (h3v 5 (by decide)) (h3v 6 (by decide))
    refine gT_v0 (A := fun z_l => ML (ln L e f (mv s3_l)) L e s3_l z_l ∧ J p z_l) (gT_b0 (A := fun z_l => ML (ln L e f (mv s3_l)) L e s3_l z_l) (B := fun z_l => J p z_l) (m_182 hL h3m hg3) (c_182 hJ3)) (fun s15 h15b => ?_)
    obtain ⟨h15, hJ15⟩ := h15b
    have hr15 := J_f hJ15 t217 rfl (by decide) (i := 11) rfl
    unfold fb_184_80
    unfold rdl
    rcases h15 with ⟨q_l, e1_l, e2_l, e3_l⟩ | ⟨w_l, g_l, e1_l, e2_l, e3_l, b_l, e4_l, e5_l, e6_l⟩
    · rw [hln] at e1_l
      have hf15 := Fm_t h3.1 e3_l
      refine gT_v0 (A := fun z_l => Fm s15 z_l ∧ gI z_l 217 12 = gI s15 217 12) (k_169z hJ15) (fun s7 h7 => ?_)
      have hz7 := h7.2.trans e2_l
      rw [if_neg (qz hz7)]
      refine gT_ret ?_
      show gT (gloop st_184_23 (217, 0, 0, _, s7)) _
      refine gT_step ?_
      show gT (sb_184_23 217 0 0 _ s7) _
      unfold sb_184_23
      rw [if_pos rfl]
      exact gT_map (gT_ret ⟨rfl, Mf_fm (Fm_t hf15 h7.1), Or.inl ⟨q_l, by rw [e1_l, eb_l], hz7⟩⟩)
    have hw : Rw w_l (mv s3_l) := ln_w e1_l
    have hM15 : Mf s s15 := Mf_t (Mf_fm h3.1) (Mf_t (Mf_mw hg3 hw) (Mf_fm e2_l))
    have hb15 : gI s15 217 9 = -1 := (hM15.2 217 9 (by omega) (by omega)).trans hb_l
    have hV15 : ∀ k, k < 100 → gI s15 218 k = av w_l V k := fun k hk => (e2_l.2 218 k (by omega)).trans ((mv_mw (w := w_l) (s := s3_l) (k := k)).trans (av_S (S := fun k => k < 100) h3v (h3v 3 (by decide)) (h3v 4 (by decide)) (h3v 5 (by decide)) (h3v 6 (by decide)) hk))
    rw [hln] at e1_l
    have hg15 : Rg (av w_l V) := av_rg (ln_w e1_l) hg
    have hMp15 : Mp s15 L e := Mp_mf hM_l hb_l hM15
    refine gT_v0 (A := fun z_l => (Fm s15 z_l ∧ gI z_l 217 12 = gI s15 217 12 ∧ gI z_l 217 11 = ((sk L e b_l : Nat) : Int)) ∧ Bm p s15 z_l) (gT_b0 (A := fun z_l => Fm s15 z_l ∧ gI z_l 217 12 = gI s15 217 12 ∧ gI z_l 217 11 = ((sk L e b_l : Nat) : Int)) (B := fun z_l => Bm p s15 z_l) (w_169 hMp15 e4_l e5_l) (k_169 hJ15)) (fun s7 h7b => ?_)
    have h7 := h7b.1
    have hJ7 := h7b.2.1
    have hz7 := h7.2.1.trans e3_l
    have hM7 := Mf_t hM15 (Mf_fm h7.1)
    have hMp7 := Mp_fr hMp15 h7.1
    have hge : g_l ≤ e := by rw [← e6_l]; exact (sk_b e5_l).2
    have hV7 : ∀ k, k < 100 → gI s7 218 k = av w_l V k := fun k hk => (h7.1.2 218 k (by omega)).trans (hV15 k hk)
    have hb7 : gI s7 217 9 = -1 := (hM7.2 217 9 (by omega) (by omega)).trans hb_l
    have h7a := h7.2.2
    rw [e6_l] at h7a
    rw [if_pos hz7, h7a, hMp7.1.1, e1_l, eb_r]
    by_cases c1 : g_l = e
    · rw [if_pos (by omega), if_pos c1]
      refine gT_ret ?_
      show gT (gloop st_184_23 (217, 0, 0, _, s7)) _
      refine gT_step ?_
      show gT (sb_184_23 217 0 0 _ s7) _
      unfold sb_184_23
      rw [if_pos rfl]
      exact gT_map (gT_ret ⟨rfl, hM7, Or.inr ⟨av w_l V, rfl, hz7, hV7⟩⟩)
    rw [if_neg (by omega), if_neg c1]
    have hskg : sk L e g_l = g_l := by rw [← e6_l]; exact sk_i
    refine gT_v1 (A := fun v_l z_l => (Fm s7 z_l ∧ gI z_l 217 12 = gI s7 217 12 ∧ gI z_l 217 11 = ((sk L e g_l : Nat) : Int) ∧ ((v_l = 1 ∧ sk L e g_l < e ∧ L (sk L e g_l) = 59) ∨ (v_l = 0 ∧ ¬ (sk L e g_l < e ∧ L (sk L e g_l) = 59)))) ∧ ((0 ≤ v_l ∧ v_l ≤ 1) ∧ Bm p s7 z_l ∧ (v_l ≠ 0 → gI z_l 217 11 < gI z_l 217 10))) (gT_b1 (A := fun v_l z_l => Fm s7 z_l ∧ gI z_l 217 12 = gI s7 217 12 ∧ gI z_l 217 11 = ((sk L e g_l : Nat) : Int) ∧ ((v_l = 1 ∧ sk L e g_l < e ∧ L (sk L e g_l) = 59) ∨ (v_l = 0 ∧ ¬ (sk L e g_l < e ∧ L (sk L e g_l) = 59)))) (B := fun v_l z_l => (0 ≤ v_l ∧ v_l ≤ 1) ∧ Bm p s7 z_l ∧ (v_l ≠ 0 → gI z_l 217 11 < gI z_l 217 10)) (w_170 hMp7 h7a hge) (k_170 hJ7)) (fun v10 s9 h9b => ?_)
    obtain ⟨h9, -, hB9, -⟩ := h9b
    have hJ9 := hB9.1
    rw [hskg] at h9
    obtain ⟨hf9, hz9, ha9, h9⟩ := h9
    have hM9 := Mf_t hM7 (Mf_fm hf9)
    have hzz := hz9.trans hz7
    rcases h9 with ⟨e7_l, e8, e9_l⟩ | ⟨e7_l, e8⟩
    · rw [if_neg (by omega), if_pos e9_l, ha9, g32_eq (v := (g_l : Int) + 1) (by omega) (by omega), g32_eq (v := x3 + 1) (by omega) (by omega)]
      refine gT_ret ?_
      show gT (gloop st_184_23 (217, 0, 1, x3 + 1, gw s9 217 11 ((g_l : Int) + 1))) _
      have hfw : Fm s9 (gw s9 217 11 ((g_l : Int) + 1)) := Fm_w (Fm_r s9) (Or.inl rfl)
      have hMw := Mf_t hM9 (Mf_fm hfw)
      have hen : en L e g_l = g_l + 1 := by
        unfold en
        rw [if_pos e8, if_neg (by omega), if_neg (by omega)]
      refine gT_mono (ih_l (x3 + 1) (nx L e g_l) (gw s9 217 11 ((g_l : Int) + 1)) (av w_l V) (by omega) (by omega) ⟨Mp_fr (Mp_fr hMp7 hf9) hfw, (rd_k (a := 217) (k := 12) rfl (by decide)).trans hzz, g_l + 1, (rd_same rfl).trans (by omega), by omega, by unfold nx; rw [hen]⟩ (J_wf hJ9 t217 rfl (by decide) rfl (fun q_l hq => by cases hq; exact ⟨by omega, by have := hMp7.1.2; omega⟩)) ((hMw.2 217 9 (by omega) (by omega)).trans hb_l) hg15 (fun k hk => (hfw.2 218 k (by omega)).trans ((hf9.2 218 k (by omega)).trans (hV7 k hk)))) (fun r_l hc_l => MB_t hMw hc_l)
    · rw [if_pos e7_l, if_neg (fun z_l => e8 ⟨by omega, z_l⟩), ha9]
      refine gT_v0 (A := fun z_l => Fm s9 z_l ∧ gI z_l 217 11 = gI s9 217 11 ∧ gI z_l 217 12 = if gI s9 217 12 = -1 then (g_l : Int) else gI s9 217 12) w_172 (fun s12 h12 => ?_)
      have hz12 := h12.2.2
      rw [if_pos hzz] at hz12
      refine gT_ret ?_
      show gT (gloop st_184_23 (217, 0, 1, _, s12)) _
      refine gT_step ?_
      show gT (sb_184_23 217 0 1 _ s12) _
      unfold sb_184_23
      rw [if_neg (by decide), if_neg (qz hz12)]
      exact gT_map (gT_ret ⟨rfl, Mf_t hM9 (Mf_fm h12.1), Or.inl ⟨g_l, rfl, hz12⟩⟩)
end Mt
