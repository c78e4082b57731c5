/-! the class's lines -/
/-- only the tape's thing and the draft changed -/
def Df (s s' : gS) : Prop := (gn s' = gn s ∧ (∀ a, gK s' a = gK s a) ∧ ∀ a k, gR s' a k = gR s a k) ∧ ∀ a k, ¬ (a = 1 ∧ (k = 2 ∨ k = 3 ∨ k = 4)) → ¬ (36 ≤ a ∧ a < 54) → gI s' a k = gI s a k
theorem Df_r (s : gS) : Df s s := ⟨⟨rfl, fun _ => rfl, fun _ _ => rfl⟩, fun _ _ _ _ => rfl⟩
theorem Df_t {s s' s2 : gS} (h : Df s s') (h2 : Df s' s2) : Df s s2 := ⟨⟨h2.1.1.trans h.1.1, fun a_l => (h2.1.2.1 a_l).trans (h.1.2.1 a_l), fun a_l k_l => (h2.1.2.2 a_l k_l).trans (h.1.2.2 a_l k_l)⟩, fun a_l k_l hc_l hd_l => (h2.2 a_l k_l hc_l hd_l).trans (h.2 a_l k_l hc_l hd_l)⟩
theorem Df_fr {s s' : gS} (h : Fr s s') : Df s s' := ⟨h.1, fun a_l k_l hc_l _ => h.2 a_l k_l hc_l⟩
theorem Df_w {s s' : gS} {a k : Nat} {v : Int} (h : Df s s') (ha : 36 ≤ a ∧ a < 54) : Df s (gw s' a k v) := by
  refine ⟨h.1, fun b_l j_l hc_l hd_l => ?_⟩
  show (if b_l = a ∧ j_l = k then v else gI s' b_l j_l) = _
  rw [if_neg (fun z_l => hd_l (by omega))]
  exact h.2 b_l j_l hc_l hd_l
def NBv (L : Nat → Int) (e : Nat) (s : gS) (x : Nat ⊕ (Int × Nat)) (v : Int) (u : gS) : Prop := Fr s u ∧ ((∃ q, x = Sum.inl q ∧ v = -1 ∧ At u L e q) ∨ (∃ v' g, x = Sum.inr (v', g) ∧ 0 ≤ v' ∧ v = v' ∧ At u L e g))
def CL (x : Nat ⊕ (gLW × Nat)) (L : Nat → Int) (e : Nat) (s : gS) (r : gO) : Prop := r.1 = 1 ∧ ((∃ q, x = Sum.inl q ∧ r.2.1 = 0 ∧ gI r.2.2.2 1 3 = (q : Int) ∧ Df s r.2.2.2) ∨ (∃ w g, x = Sum.inr (w, g) ∧ r.2.1 = 1 ∧ At r.2.2.2 L e g ∧ Fr (cw w s) r.2.2.2))
theorem gl_c0 : ∀ w, w < 28 → 13 ≤ w → 1 ≤ (gtx w).length := by decide +kernel
theorem gl_c (w : Nat) (h1 : 13 ≤ w) (h2 : w < 28) : 1 ≤ (gtx w).length := gl_c0 w h2 h1
section Cln
variable {s s' u : gS} {L : Nat → Int} {e f w : Nat} {lo hi : Int} {x : Nat ⊕ (gLW × Nat)}
theorem n13 (hw : 13 ≤ w ∧ w < 28) (h : At s L e f) (h6 : gR s 6 0 = 1) : gT (f_13 6 w lo hi s) (fun r => r.1 = 1 ∧ NBv L e s (nb L e w lo hi f) r.2.1 r.2.2.2) := v13 (gl_c w hw.1 hw.2) h h6
theorem n14 (hw : 13 ≤ w ∧ w < 28) (h : At s L e f) (h6 : gR s 6 0 = 1) : gT (f_14 6 w s) (fun r => r.1 = 1 ∧ NBv L e s (tb L e w f) r.2.1 r.2.2.2) := v14 (gl_c w hw.1 hw.2) h h6
theorem CL_f {q : Nat} (hx : x = Sum.inl q) (ha : At u L e q) (hf : Df s u) : CL x L e s (1, 0, 0, u) := ⟨rfl, Or.inl ⟨q, hx, rfl, ha.2.2.1, hf⟩⟩
theorem At_w {a k : Nat} {v : Int} (h : At s L e f) (ha : 36 ≤ a) : At (gw s a k v) L e f := by
  have hn : ∀ b_l j_l, b_l < 36 → gI (gw s a k v) b_l j_l = gI s b_l j_l := fun b_l j_l hb_l => rd_a rfl (by omega)
  obtain ⟨⟨h1, h2, h3, h4⟩, h5, h6, h7, h8⟩ := h
  exact ⟨⟨h1, (hn 1 1 (by omega)).trans h2, h3, fun j_l => (hn 2 j_l (by omega)).trans (h4 j_l)⟩, h5, (hn 1 3 (by omega)).trans h6, (hn 1 2 (by omega)).trans h7, (hn 1 4 (by omega)).trans h8⟩
theorem At_cw {y : gLW} (h : At s L e f) : At (cw y s) L e f := by
  unfold cw
  split
  · exact At_w (At_w (At_w (At_w h (by omega)) (by omega)) (by omega)) (by omega)
  · exact At_w (At_w (At_w (At_w (At_w (At_w (At_w h (by omega)) (by omega)) (by omega)) (by omega)) (by omega)) (by omega)) (by omega)
  · exact At_w (At_w (At_w h (by omega)) (by omega)) (by omega)
  · exact At_w (At_w (At_w h (by omega)) (by omega)) (by omega)
  · exact At_w h (by omega)
  · exact At_w h (by omega)
  · exact At_w h (by omega)
  · exact At_w h (by omega)
theorem Fr_cw {y : gLW} (h : Fr s s') : Fr (cw y s) (cw y s') := by
  have hn : ∀ a_l k_l, 36 ≤ a_l → gI s' a_l k_l = gI s a_l k_l := fun a_l k_l ha_l => h.2 a_l k_l (by omega)
  unfold cw
  split
  · rw [hn 36 5 (by omega)]
    exact Fr_ww (Fr_ww (Fr_ww (Fr_ww h)))
  · rw [hn 42 4 (by omega)]
    exact Fr_ww (Fr_ww (Fr_ww (Fr_ww (Fr_ww (Fr_ww (Fr_ww h))))))
  · rw [hn 36 6 (by omega)]
    exact Fr_ww (Fr_ww (Fr_ww h))
  · rw [hn 42 5 (by omega)]
    exact Fr_ww (Fr_ww (Fr_ww h))
  · exact Fr_ww h
  · exact Fr_ww h
  · exact Fr_ww h
  · exact Fr_ww h
theorem CL_r {y : gLW} {g : Nat} (hx : x = Sum.inr (y, g)) (ha : At u L e g) (hf : Fr s u) : CL x L e s (1, 1, 0, cw y u) := ⟨rfl, Or.inr ⟨y, g, hx, rfl, At_cw ha, Fr_cw hf⟩⟩
/-- a step's line -/
theorem c_15 (h : At s L e f) (hr : Rd s) (h0 : 0 ≤ gI s 36 5) (h8 : gI s 36 5 < 8) : gT (f_15 6 36 s) (CL (lnS L e (nx L e f)) L e s) := by
  unfold f_15
  rw [hr.1.1]
  refine gT_v0 (A := fun z_l => Fr s z_l ∧ At z_l L e (nx L e f)) (v_adv h) (fun s1_l h1 => ?_)
  have hr1 := Rd_fr hr h1.1
  refine gT_v1 (A := NBv L e s1_l (nb L e 18 1 30 (nx L e f))) (n13 (by decide) h1.2 hr1.1.1) (fun v4_l s3_l h3 => ?_)
  have hf3 := Fr_t h1.1 h3.1
  have hr3 := Rd_fr hr hf3
  rcases h3.2 with ⟨q_l, e1_l, e2_l, ha_l⟩ | ⟨w1_l, g1, e1_l, e0_l, e2_l, ha_l⟩
  · rw [if_pos e2_l]
    unfold fb_15_35
    rw [if_pos rfl]
    unfold fb_15_54
    rw [if_pos rfl]
    exact gT_ret (CL_f (by unfold lnS; rw [e1_l, eb_l]) ha_l (Df_fr hf3))
  rw [if_neg (by omega)]
  refine gT_v1 (A := NBv L e s3_l (nb L e 19 0 99 g1)) (n13 (by decide) ha_l hr3.1.1) (fun v10 s9 h9 => ?_)
  have hf9 := Fr_t hf3 h9.1
  have hr9 := Rd_fr hr hf9
  unfold fb_15_35
  rcases h9.2 with ⟨q_l, e3_l, e4_l, hb_l⟩ | ⟨w2_l, g2, e3_l, e5_l, e4_l, hb_l⟩
  · rw [if_pos e4_l]
    unfold fb_15_54
    rw [if_pos rfl]
    exact gT_ret (CL_f (by unfold lnS; rw [e1_l, eb_r, e3_l, eb_l]) hb_l (Df_fr hf9))
  rw [if_neg (by omega)]
  refine gT_v1 (A := NBv L e s9 (nb L e 20 0 50 g2)) (n13 (by decide) hb_l hr9.1.1) (fun v8 s7 h7 => ?_)
  have hf7 := Fr_t hf9 h7.1
  have hr7 := Rd_fr hr hf7
  have hc_l : gI s7 36 5 = gI s 36 5 := hf7.2 36 5 (by omega)
  unfold fb_15_54
  rcases h7.2 with ⟨q_l, e6_l, e7_l, hd_l⟩ | ⟨w3_l, g3_l, e6_l, e8, e7_l, hd_l⟩
  · rw [if_pos e7_l]
    exact gT_ret (CL_f (by unfold lnS; rw [e1_l, eb_r, e3_l, eb_r, e6_l, eb_l]) hd_l (Df_fr hf7))
  rw [if_neg (by omega)]
  refine gT_v0 (A := fun z_l => z_l = cw (0, v4_l, v10, v8) s7) (gT_mono (x_2 hr7 (by omega) (by omega)) (fun r_l hq => by rw [hq]; exact ⟨rfl, rfl⟩)) (fun s5 h5 => ?_)
  rw [h5]
  exact gT_ret (CL_r (by unfold lnS; rw [e1_l, eb_r, e3_l, eb_r, e6_l, eb_r, e2_l, e4_l, e7_l]) hd_l hf7)
/-- a man's line -/
theorem c_16 (h : At s L e f) (hr : Rd s) (h0 : 0 ≤ gI s 42 4) (h8 : gI s 42 4 < 6) : gT (f_16 6 42 s) (CL (lnM L e (nx L e f)) L e s) := by
  unfold f_16
  rw [hr.1.1]
  refine gT_v0 (A := fun z_l => Fr s z_l ∧ At z_l L e (nx L e f)) (v_adv h) (fun s1_l h1 => ?_)
  have hr1 := Rd_fr hr h1.1
  refine gT_v1 (A := NBv L e s1_l (nb L e 21 0 99 (nx L e f))) (n13 (by decide) h1.2 hr1.1.1) (fun v4_l s3_l h3 => ?_)
  have hf3 := Fr_t h1.1 h3.1
  have hr3 := Rd_fr hr hf3
  rcases h3.2 with ⟨q_l, e1_l, e2_l, ha_l⟩ | ⟨w1_l, g1, e1_l, e0_l, e2_l, ha_l⟩
  · rw [if_pos e2_l]
    unfold fb_16_35
    rw [if_pos rfl]
    unfold fb_16_51
    rw [if_pos rfl]
    exact gT_ret (CL_f (by unfold lnM; rw [e1_l, eb_l]) ha_l (Df_fr hf3))
  rw [if_neg (by omega)]
  refine gT_v1 (A := NBv L e s3_l (nb L e 22 0 9 g1)) (n13 (by decide) ha_l hr3.1.1) (fun v10 s9 h9 => ?_)
  have hf9 := Fr_t hf3 h9.1
  have hr9 := Rd_fr hr hf9
  unfold fb_16_35
  rcases h9.2 with ⟨q_l, e3_l, e4_l, hb_l⟩ | ⟨w2_l, g2, e3_l, e5_l, e4_l, hb_l⟩
  · rw [if_pos e4_l]
    unfold fb_16_51
    rw [if_pos rfl]
    exact gT_ret (CL_f (by unfold lnM; rw [e1_l, eb_r, e3_l, eb_l]) hb_l (Df_fr hf9))
  rw [if_neg (by omega)]
  refine gT_v1 (A := NBv L e s9 (tb L e 23 g2)) (n14 (by decide) hb_l hr9.1.1) (fun v8 s7 h7 => ?_)
  have hf7 := Fr_t hf9 h7.1
  have hr7 := Rd_fr hr hf7
  have hc_l : gI s7 42 4 = gI s 42 4 := hf7.2 42 4 (by omega)
  unfold fb_16_51
  rcases h7.2 with ⟨q_l, e6_l, e7_l, hd_l⟩ | ⟨w3_l, g3_l, e6_l, e8, e7_l, hd_l⟩
  · rw [if_pos e7_l]
    exact gT_ret (CL_f (by unfold lnM; rw [e1_l, eb_r, e3_l, eb_r, e6_l, eb_l]) hd_l (Df_fr hf7))
  rw [if_neg (by omega)]
  refine gT_v0 (A := fun z_l => z_l = cw (1, v4_l, v10, v8) s7) (gT_mono (x_24 hr7 (by omega) (by omega)) (fun r_l hq => by rw [hq]; exact ⟨rfl, rfl⟩)) (fun s5 h5 => ?_)
  rw [h5]
  exact gT_ret (CL_r (by unfold lnM; rw [e1_l, eb_r, e3_l, eb_r, e6_l, eb_r, e2_l, e4_l, e7_l]) hd_l hf7)
/-- a test's line -/
theorem c_17 (h : At s L e f) (hr : Rd s) (h0 : 0 ≤ gI s 36 6) (h8 : gI s 36 6 < 6) : gT (f_17 6 36 s) (CL (lnT L e (nx L e f)) L e s) := by
  unfold f_17
  rw [hr.1.1]
  refine gT_v0 (A := fun z_l => Fr s z_l ∧ At z_l L e (nx L e f)) (v_adv h) (fun s1_l h1 => ?_)
  have hr1 := Rd_fr hr h1.1
  refine gT_v1 (A := NBv L e s1_l (nb L e 19 0 99 (nx L e f))) (n13 (by decide) h1.2 hr1.1.1) (fun v4_l s3_l h3 => ?_)
  have hf3 := Fr_t h1.1 h3.1
  have hr3 := Rd_fr hr hf3
  rcases h3.2 with ⟨q_l, e1_l, e2_l, ha_l⟩ | ⟨w1_l, g1, e1_l, e0_l, e2_l, ha_l⟩
  · rw [if_pos e2_l]
    unfold fb_17_32
    rw [if_pos rfl]
    exact gT_ret (CL_f (by unfold lnT; rw [e1_l, eb_l]) ha_l (Df_fr hf3))
  rw [if_neg (by omega)]
  refine gT_v1 (A := NBv L e s3_l (tb L e 24 g1)) (n14 (by decide) ha_l hr3.1.1) (fun v8 s7 h7 => ?_)
  have hf7 := Fr_t hf3 h7.1
  have hr7 := Rd_fr hr hf7
  have hc_l : gI s7 36 6 = gI s 36 6 := hf7.2 36 6 (by omega)
  unfold fb_17_32
  rcases h7.2 with ⟨q_l, e6_l, e7_l, hd_l⟩ | ⟨w3_l, g3_l, e6_l, e8, e7_l, hd_l⟩
  · rw [if_pos e7_l]
    exact gT_ret (CL_f (by unfold lnT; rw [e1_l, eb_r, e6_l, eb_l]) hd_l (Df_fr hf7))
  rw [if_neg (by omega)]
  refine gT_v0 (A := fun z_l => z_l = cw (2, v4_l, v8, 0) s7) (gT_mono (x_3 hr7 (by omega) (by omega)) (fun r_l hq => by rw [hq]; exact ⟨rfl, rfl⟩)) (fun s5 h5 => ?_)
  rw [h5]
  exact gT_ret (CL_r (by unfold lnT; rw [e1_l, eb_r, e6_l, eb_r, e2_l, e7_l]) hd_l hf7)
/-- a rival's line -/
theorem c_18 (h : At s L e f) (hr : Rd s) (h0 : 0 ≤ gI s 42 5) (h8 : gI s 42 5 < 6) : gT (f_18 6 42 s) (CL (ln1 L e 3 16 999 f) L e s) := by
  unfold f_18
  refine gT_v1 (A := NBv L e s (nb L e 16 0 999 f)) (n13 (by decide) h hr.1.1) (fun v2 s1_l h1 => ?_)
  have hr1 := Rd_fr hr h1.1
  have hc_l : gI s1_l 42 5 = gI s 42 5 := h1.1.2 42 5 (by omega)
  rcases h1.2 with ⟨q_l, e1_l, e2_l, ha_l⟩ | ⟨w1_l, g1, e1_l, e0_l, e2_l, ha_l⟩
  · rw [if_pos e2_l]
    exact gT_ret (CL_f (by unfold ln1; rw [e1_l, eb_l]) ha_l (Df_fr h1.1))
  rw [if_neg (by omega)]
  refine gT_v0 (A := fun z_l => z_l = cw (3, v2, 0, 0) s1_l) (gT_mono (x_25 hr1 (by omega) (by omega)) (fun r_l hq => by rw [hq]; exact ⟨rfl, rfl⟩)) (fun s5 h5 => ?_)
  rw [h5]
  exact gT_ret (CL_r (by unfold ln1; rw [e1_l, eb_r, e2_l]) ha_l h1.1)
/-- a line with one number -/
theorem c_one {a k t : Nat} (ht : ∀ v z, cw (t, v, 0, 0) z = gw z a k v) (ha : 36 ≤ a ∧ a < 54) (hw : 13 ≤ w ∧ w < 28) (h : At s L e f) (hr : Rd s) : gT ((f_13 6 w 0 hi s).bind (gv1 (fun v2 s1 => if (gI (gw s1 a k v2) a k) = (-1) then some ((1, 0, 0, gw s1 a k v2)) else some ((1, 1, 0, gw s1 a k v2))))) (CL (ln1 L e t w hi f) L e s) := by
  refine gT_v1 (A := NBv L e s (nb L e w 0 hi f)) (n13 hw h hr.1.1) (fun v2 s1 h1 => ?_)
  have hs : gI (gw s1 a k v2) a k = v2 := rd_same rfl
  rw [hs]
  rcases h1.2 with ⟨q_l, e1_l, e2_l, hb_l⟩ | ⟨w1_l, g1, e1_l, e0_l, e2_l, hb_l⟩
  · rw [if_pos e2_l]
    exact gT_ret (CL_f (by unfold ln1; rw [e1_l, eb_l]) (At_w hb_l ha.1) (Df_w (Df_fr h1.1) ha))
  rw [if_neg (by omega), ← ht]
  exact gT_ret (CL_r (by unfold ln1; rw [e1_l, eb_r, e2_l]) hb_l h1.1)
theorem c_19 (h : At s L e f) (hr : Rd s) : gT (f_19 6 42 s) (CL (ln1 L e 4 17 999 f) L e s) := by
  unfold f_19
  exact c_one (fun _ _ => rfl) (by decide) (by decide) h hr
theorem c_20 (h : At s L e f) (hr : Rd s) : gT (f_20 6 36 s) (CL (cif (Wd L e 25 f) (ln1 L e 5 25 99 f) (cif (Wd L e 26 f) (ln1 L e 6 26 100 f) (cif (Wd L e 27 f) (ln1 L e 7 27 50 f) (Sum.inl f)))) L e s) := by
  unfold f_20
  rw [hr.1.1]
  refine gT_v1 (A := fun v_l z_l => z_l = s ∧ ((v_l = 1 ∧ Wd L e 25 f) ∨ (v_l = 0 ∧ ¬ Wd L e 25 f))) (v_80 (gl_c 25 (by decide) (by decide)) h) (fun v2 s1_l h1 => ?_)
  obtain ⟨q1_l, h1⟩ := h1
  rw [q1_l]
  rcases h1 with ⟨e1_l, w1_l⟩ | ⟨e1_l, w1_l⟩
  · rw [if_neg (by omega), cif_p w1_l]
    exact c_one (fun _ _ => rfl) (by decide) (by decide) h hr
  rw [if_pos e1_l, cif_n w1_l, hr.1.1]
  refine gT_v1 (A := fun v_l z_l => z_l = s ∧ ((v_l = 1 ∧ Wd L e 26 f) ∨ (v_l = 0 ∧ ¬ Wd L e 26 f))) (v_80 (gl_c 26 (by decide) (by decide)) h) (fun v5 s4_l h4 => ?_)
  obtain ⟨q4_l, h4⟩ := h4
  rw [q4_l]
  rcases h4 with ⟨e4_l, w4_l⟩ | ⟨e4_l, w4_l⟩
  · rw [if_neg (by omega), cif_p w4_l]
    exact c_one (fun _ _ => rfl) (by decide) (by decide) h hr
  rw [if_pos e4_l, cif_n w4_l, hr.1.1]
  refine gT_v1 (A := fun v_l z_l => z_l = s ∧ ((v_l = 1 ∧ Wd L e 27 f) ∨ (v_l = 0 ∧ ¬ Wd L e 27 f))) (v_80 (gl_c 27 (by decide) (by decide)) h) (fun v8 s7 h7 => ?_)
  obtain ⟨q7_l, h7⟩ := h7
  rw [q7_l]
  rcases h7 with ⟨e7_l, w7_l⟩ | ⟨e7_l, w7_l⟩
  · rw [if_neg (by omega), cif_p w7_l]
    exact c_one (fun _ _ => rfl) (by decide) (by decide) h hr
  rw [if_pos e7_l, cif_n w7_l]
  exact gT_ret (CL_f rfl h (Df_r s))
theorem CL_e {y : Nat ⊕ (gLW × Nat)} {r : gO} (hxy : x = y) (h : CL y L e s r) : CL x L e s r := by
  rw [hxy]; exact h
end Cln
