/-! the class reads a text of the book -/
section Rl
variable {s s' z1 : gS} {L : Nat → Int} {e f : Nat} {V : Nat → Int} {x : Nat ⊕ (gLW × Nat)}
theorem CL_p {z : Option gO} (h : gT z (CL x L e s)) : gT (z.bind (gv1 (fun v s1 => if v = 0 then some ((1, 0, 0, s1)) else some ((1, 1, 0, s1))))) (CL x L e s) := by
  refine gT_v1 (A := fun v t_l => (∃ q_l : Nat, x = Sum.inl q_l ∧ v = 0 ∧ gI t_l 1 3 = (q_l : Int) ∧ Df s t_l) ∨ (∃ w_l g_l, x = Sum.inr (w_l, g_l) ∧ v = 1 ∧ At t_l L e g_l ∧ Fr (cw w_l s) t_l)) h (fun v1_l s1 h1 => ?_)
  rcases h1 with ⟨q_l, e1_l, e2_l, e3_l⟩ | ⟨w_l, g_l, e1_l, e2_l, e3_l⟩
  · rw [if_pos e2_l]
    exact gT_ret ⟨rfl, Or.inl ⟨q_l, e1_l, rfl, e3_l⟩⟩
  · rw [if_neg (by omega)]
    exact gT_ret ⟨rfl, Or.inr ⟨w_l, g_l, e1_l, rfl, e3_l⟩⟩
theorem CL_q {z : Option gO} (h : gT z (CL x L e s)) : gT (z.bind (gv1 (fun v s1 => some ((1, v, 0, s1))))) (CL x L e s) :=
  gT_v1 (A := fun v t_l => (∃ q : Nat, x = Sum.inl q ∧ v = 0 ∧ gI t_l 1 3 = (q : Int) ∧ Df s t_l) ∨ (∃ w g, x = Sum.inr (w, g) ∧ v = 1 ∧ At t_l L e g ∧ Fr (cw w s) t_l)) h (fun v1_l s1 h1 => gT_ret ⟨rfl, h1⟩)
theorem c_12 (h : At s L e f) (hr : Rd s) (hg : Rg (cv s 36 42)) : gT (f_12 6 36 42 s) (CL (ln L e f (cv s 36 42)) L e s) := by
  have q3_l : cv s 36 42 3 = gI s 36 5 := rfl
  have q4_l : cv s 36 42 4 = gI s 42 4 := rfl
  have q5_l : cv s 36 42 5 = gI s 36 6 := rfl
  have q6_l : cv s 36 42 6 = gI s 42 5 := rfl
  obtain ⟨g1, g2, g3_l, g4⟩ := hg
  unfold f_12 ln
  rw [hr.1.1]
  refine gT_v1 (A := fun v_l z_l => z_l = s ∧ ((v_l = 1 ∧ Wd L e 13 f) ∨ (v_l = 0 ∧ ¬ Wd L e 13 f))) (v_80 (gl_c 13 (by decide) (by decide)) h) (fun v2 s1_l h1 => ?_)
  obtain ⟨i1_l, h1⟩ := h1
  rw [i1_l]
  rcases h1 with ⟨e1_l, w1_l⟩ | ⟨e1_l, w1_l⟩
  · rw [if_neg (by omega), cif_p w1_l, q3_l]
    refine gT_ite (fun c_l => ?_) (fun c_l => ?_)
    · rw [if_pos c_l]
      exact CL_p (c_15 h hr (by omega) c_l)
    · rw [if_neg c_l]
      exact gT_ret (CL_f rfl h (Df_r s))
  rw [if_pos e1_l, cif_n w1_l, hr.1.1]
  refine gT_v1 (A := fun v_l z_l => z_l = s ∧ ((v_l = 1 ∧ Wd L e 14 f) ∨ (v_l = 0 ∧ ¬ Wd L e 14 f))) (v_80 (gl_c 14 (by decide) (by decide)) h) (fun v5 s4_l h4 => ?_)
  obtain ⟨i4_l, h4⟩ := h4
  rw [i4_l]
  rcases h4 with ⟨e4_l, w4_l⟩ | ⟨e4_l, w4_l⟩
  · rw [if_neg (by omega), cif_p w4_l, q4_l]
    refine gT_ite (fun c_l => ?_) (fun c_l => ?_)
    · rw [if_pos c_l]
      exact CL_p (c_16 h hr (by omega) c_l)
    · rw [if_neg c_l]
      exact gT_ret (CL_f rfl h (Df_r s))
  rw [if_pos e4_l, cif_n w4_l, hr.1.1]
  refine gT_v1 (A := fun v_l z_l => z_l = s ∧ ((v_l = 1 ∧ Wd L e 15 f) ∨ (v_l = 0 ∧ ¬ Wd L e 15 f))) (v_80 (gl_c 15 (by decide) (by decide)) h) (fun v8 s7 h7 => ?_)
  obtain ⟨i7_l, h7⟩ := h7
  rw [i7_l]
  rcases h7 with ⟨e7_l, w7_l⟩ | ⟨e7_l, w7_l⟩
  · rw [if_neg (by omega), cif_p w7_l, q5_l]
    refine gT_ite (fun c_l => ?_) (fun c_l => ?_)
    · rw [if_pos c_l]
      exact CL_p (c_17 h hr (by omega) c_l)
    · rw [if_neg c_l]
      exact gT_ret (CL_f rfl h (Df_r s))
  rw [if_pos e7_l, cif_n w7_l, hr.1.1]
  refine gT_v1 (A := fun v_l z_l => z_l = s ∧ ((v_l = 1 ∧ Wd L e 16 f) ∨ (v_l = 0 ∧ ¬ Wd L e 16 f))) (v_80 (gl_c 16 (by decide) (by decide)) h) (fun v11 s10 h10 => ?_)
  obtain ⟨i10_l, h10⟩ := h10
  rw [i10_l]
  rcases h10 with ⟨e10_l, w10_l⟩ | ⟨e10_l, w10_l⟩
  · rw [if_neg (by omega), cif_p w10_l, q6_l]
    refine gT_ite (fun c_l => ?_) (fun c_l => ?_)
    · rw [if_pos c_l]
      exact CL_p (c_18 h hr (by omega) c_l)
    · rw [if_neg c_l]
      exact gT_ret (CL_f rfl h (Df_r s))
  rw [if_pos e10_l, cif_n w10_l, hr.1.1]
  refine gT_v1 (A := fun v_l z_l => z_l = s ∧ ((v_l = 1 ∧ Wd L e 17 f) ∨ (v_l = 0 ∧ ¬ Wd L e 17 f))) (v_80 (gl_c 17 (by decide) (by decide)) h) (fun v14 s13 h13 => ?_)
  obtain ⟨i13, h13⟩ := h13
  rw [i13]
  rcases h13 with ⟨e13_l, w13_l⟩ | ⟨e13_l, w13_l⟩
  · rw [if_neg (by omega), cif_p w13_l]
    exact CL_q (c_19 h hr)
  rw [if_pos e13_l, cif_n w13_l]
  exact CL_q (c_20 h hr)
theorem v_79 (h : At s L e f) : gT (f_79 1 s) (fun r => r.1 = 1 ∧ r.2.2.2 = s ∧ ((r.2.1 = 1 ∧ f = e) ∨ (r.2.1 = 0 ∧ f < e))) := by
  have hk := h.2.2.2.1
  have hle := h.2.1.1
  unfold f_79
  rw [hk]
  unfold kd
  by_cases c : f < e
  · rw [if_pos c]
    have hz : ¬ (if 97 ≤ L f ∧ L f ≤ 122 then (1 : Int) else if 48 ≤ L f ∧ L f ≤ 57 then 2 else 3) = 0 := by
      split
      · decide
      · split <;> decide
    rw [if_neg hz]
    exact gT_ret ⟨rfl, rfl, Or.inr ⟨rfl, c⟩⟩
  · rw [if_neg c, if_pos rfl]
    exact gT_ret ⟨rfl, rfl, Or.inl ⟨rfl, by omega⟩⟩
theorem gT_step {σ Q : Type} {step : σ → Option (σ ⊕ Q)} {y : σ} {P : Q → Prop} (h : gT (step y) (Sum.elim (fun z => gT (gloop step z) P) P)) : gT (gloop step y) P := by
  obtain ⟨r_l, h1, h2⟩ := h
  cases r_l with
  | inl z => rw [gloop_inl h1]; exact h2
  | inr q_l => rw [gloop_inr h1]; exact ⟨q_l, rfl, h2⟩
def CB (x : Nat ⊕ (Nat → Int)) (s : gS) (r : gO) : Prop := r.1 = 1 ∧ Df s r.2.2.2 ∧ ((∃ q : Nat, x = Sum.inl q ∧ r.2.1 = 0 ∧ gI r.2.2.2 1 3 = (q : Int)) ∨ (∃ W : Nat → Int, x = Sum.inr W ∧ r.2.1 = 1 ∧ ∀ k, KK k → cv r.2.2.2 36 42 k = W k))
theorem Df_cw {w : gLW} (hg : Rg (cv s 36 42)) (hw : Rw w (cv s 36 42)) : Df s (cw w s) := by
  have q4_l : cv s 36 42 4 = gI s 42 4 := rfl
  obtain ⟨t_l, v1_l, v2, v3⟩ := w
  have hm_l := hw.2.1
  have h4 := hg.2.1
  unfold cw
  dsimp only at hm_l ⊢
  split
  · exact Df_w (Df_w (Df_w (Df_w (Df_r s) (by omega)) (by omega)) (by omega)) (by omega)
  · have := hm_l rfl
    exact Df_w (Df_w (Df_w (Df_w (Df_w (Df_w (Df_w (Df_r s) (by omega)) (by omega)) (by omega)) (by omega)) (by omega)) (by omega)) (by omega)
  · exact Df_w (Df_w (Df_w (Df_r s) (by omega)) (by omega)) (by omega)
  · exact Df_w (Df_w (Df_w (Df_r s) (by omega)) (by omega)) (by omega)
  · exact Df_w (Df_r s) (by omega)
  · exact Df_w (Df_r s) (by omega)
  · exact Df_w (Df_r s) (by omega)
  · exact Df_w (Df_r s) (by omega)
theorem Rd_df (h : Rd s) (hf : Df s s') : Rd s' := by
  unfold Rd at h ⊢
  simp only [hf.1.2.2]
  exact h
theorem CB_t {y : Nat ⊕ (Nat → Int)} {r : gO} (h : Df s s') (hc : CB y s' r) : CB y s r := ⟨hc.1, Df_t h hc.2.1, hc.2.2⟩
theorem rg_e {V' : Nat → Int} (h : Rg V) (hV : ∀ k, KK k → V' k = V k) : Rg V' := by
  unfold Rg at h ⊢
  rw [hV 3 (by unfold KK; decide), hV 4 (by unfold KK; decide), hV 5 (by unfold KK; decide), hV 6 (by unfold KK; decide)]
  exact h
theorem c_lp (n : Nat) : ∀ (x3 : Int) (f : Nat) (s : gS) (V : Nat → Int), 0 ≤ x3 → x3 + n = 14 → At s L e f → Rd s → Rg V → (∀ k, KK k → cv s 36 42 k = V k) → gT (gloop st_11_21 (6, 36, 42, x3, s)) (CB (rdl L e n f V) s) := by
  induction n with
  | zero =>
    intro x3 f s V h0 hx h_l hr hg hV
    refine gT_step ?_
    show gT (sb_11_21 6 36 42 x3 s) _
    unfold sb_11_21
    rw [if_neg (by omega)]
    exact gT_map (gT_ret ⟨rfl, Df_r s, Or.inl ⟨f, rfl, rfl, h_l.2.2.1⟩⟩)
  | succ n ih_l =>
    intro x3 f s V h0 hx h_l hr hg hV
    have hgc : Rg (cv s 36 42) := rg_e hg hV
    have hln : ln L e f (cv s 36 42) = ln L e f V := ln_S (hV 3 (by unfold KK; decide)) (hV 4 (by unfold KK; decide)) (hV 5 (by unfold KK; decide)) (hV 6 (by unfold KK; decide))
    refine gT_step ?_
    show gT (sb_11_21 6 36 42 x3 s) _
    unfold sb_11_21
    rw [if_pos (by omega)]
    unfold rdl
    refine gT_v1 (A := fun v_l z_l => (∃ q_l : Nat, ln L e f (cv s 36 42) = Sum.inl q_l ∧ v_l = 0 ∧ gI z_l 1 3 = (q_l : Int) ∧ Df s z_l) ∨ (∃ w_l g_l, ln L e f (cv s 36 42) = Sum.inr (w_l, g_l) ∧ v_l = 1 ∧ At z_l L e g_l ∧ Fr (cw w_l s) z_l)) (c_12 h_l hr hgc) (fun v7 s6_l h6 => ?_)
    rcases h6 with ⟨q_l, e1_l, e2_l, e3_l, e4_l⟩ | ⟨w_l, g_l, e1_l, e2_l, e3_l, e4_l⟩
    · rw [if_pos e2_l]
      rw [hln] at e1_l
      refine gT_map (gT_ret ⟨rfl, e4_l, Or.inl ⟨q_l, ?_, rfl, e3_l⟩⟩)
      rw [e1_l, eb_l]
    have hw : Rw w_l (cv s 36 42) := ln_w e1_l
    have hD : Df s s6_l := Df_t (Df_cw hgc hw) (Df_fr e4_l)
    have hr6 := Rd_df hr hD
    have hV6 : ∀ k, KK k → cv s6_l 36 42 k = av w_l V k := fun k hk => ((cv_fr e4_l hk).trans (cv_cw hw hgc hk)).trans (av_S (S := KK) hV (hV 3 (by unfold KK; decide)) (hV 4 (by unfold KK; decide)) (hV 5 (by unfold KK; decide)) (hV 6 (by unfold KK; decide)) hk)
    have hg6 : Rg (av w_l V) := av_rg (by rw [hln] at e1_l; exact ln_w e1_l) hg
    rw [hln] at e1_l
    rw [if_neg (by omega), e1_l, eb_r, hr6.1.1]
    refine gT_v1 (A := fun v_l z_l => z_l = s6_l ∧ ((v_l = 1 ∧ g_l = e) ∨ (v_l = 0 ∧ g_l < e))) (v_79 e3_l) (fun v10 s9 h9 => ?_)
    obtain ⟨i9_l, h9⟩ := h9
    rw [i9_l]
    rcases h9 with ⟨e9_l, e10_l⟩ | ⟨e9_l, e10_l⟩
    · rw [if_neg (by omega)]
      refine gT_map (gT_ret ⟨rfl, hD, Or.inr ⟨av w_l V, ?_, rfl, hV6⟩⟩)
      exact if_pos e10_l
    rw [if_pos e9_l, hr6.1.1]
    refine gT_v1 (A := fun v_l z_l => Fr s6_l z_l ∧ ((v_l = 1 ∧ (g_l < e ∧ L g_l = 59) ∧ At z_l L e (nx L e g_l)) ∨ (v_l = 0 ∧ ¬ (g_l < e ∧ L g_l = 59) ∧ At z_l L e g_l))) (v_83 (by decide) e3_l) (fun v13 s12 h12 => ?_)
    have hD12 := Df_t hD (Df_fr h12.1)
    rw [if_neg (show ¬ g_l = e by omega)]
    rcases h12.2 with ⟨e11_l, e12_l, e13_l⟩ | ⟨e11_l, e12_l, e13_l⟩
    · rw [if_neg (by omega), g32_eq (v := x3 + 1) (by omega) (by omega), if_pos e12_l.2]
      refine gT_ret ?_
      show gT (gloop st_11_21 (6, 36, 42, x3 + 1, s12)) _
      refine gT_mono (ih_l (x3 + 1) (nx L e g_l) s12 (av w_l V) (by omega) (by omega) e13_l (Rd_df hr hD12) hg6 (fun k hk => (cv_fr h12.1 hk).trans (hV6 k hk))) (fun r_l hc_l => CB_t hD12 hc_l)
    · rw [if_pos e11_l, if_neg (fun z_l => e12_l ⟨e10_l, z_l⟩)]
      exact gT_map (gT_ret ⟨rfl, hD12, Or.inl ⟨g_l, rfl, rfl, e13_l.2.2.1⟩⟩)
/-- reads: the whole text -/
theorem c_11 (hT : Tp s L e) (hr : Rd s) (hg : Rg (cv s 36 42)) : gT (f_11 6 36 42 s) (CB (rdb L e (cv s 36 42)) s) := by
  unfold f_11
  rw [hr.1.1]
  refine gT_v0 (A := fun z_l => Fr s z_l ∧ At z_l L e (sk L e 0)) ?_ (fun s1_l h1 => ?_)
  · unfold f_77
    have hTw : Tp (gw s 1 4 0) L e := ⟨hT.1, (rd_k (k := 1) rfl (by decide)).trans hT.2.1, hT.2.2.1, fun j_l => (rd_a (a := 2) rfl (by decide)).trans (hT.2.2.2 j_l)⟩
    refine gT_v0 (A := fun z_l => Fr (gw s 1 4 0) z_l ∧ gI z_l 1 3 = ((sk L e 0 : Nat) : Int) ∧ gI z_l 1 2 = kd L e (sk L e 0) ∧ gI z_l 1 4 = ((en L e (sk L e 0) : Nat) : Int)) (v_78 (a := 0) hTw (rd_same rfl) (by omega)) (fun s3_l h3 => ?_)
    have hf : Fr s s3_l := Fr_t (Fr_w (Fr_r s) t10 (Or.inr (Or.inr rfl))) h3.1
    exact gT_ret ⟨rfl, hf, Tp_fr hT hf, ⟨(sk_b (by omega)).2, sk_i⟩, h3.2.1, h3.2.2.1, h3.2.2.2⟩
  have hr1 := Rd_fr hr h1.1
  rw [hr1.1.1]
  refine gT_v1 (A := fun v_l z_l => z_l = s1_l ∧ ((v_l = 1 ∧ sk L e 0 = e) ∨ (v_l = 0 ∧ sk L e 0 < e))) (v_79 h1.2) (fun v4_l s3_l h3 => ?_)
  obtain ⟨i3_l, h3⟩ := h3
  rw [i3_l]
  have hV : ∀ k_l, KK k_l → cv s1_l 36 42 k_l = cv s 36 42 k_l := fun k_l hk => cv_fr h1.1 hk
  unfold rdb
  rcases h3 with ⟨e1_l, e2_l⟩ | ⟨e1_l, e2_l⟩
  · rw [if_neg (by omega), if_pos e2_l]
    exact gT_ret ⟨rfl, Df_fr h1.1, Or.inr ⟨_, rfl, rfl, hV⟩⟩
  · rw [if_pos e1_l, if_neg (by omega)]
    exact gT_mono (c_lp 14 0 (sk L e 0) s1_l (cv s 36 42) (by omega) (by omega) h1.2 hr1 hg hV) (fun r_l hc_l => CB_t (Df_fr h1.1) hc_l)
end Rl
