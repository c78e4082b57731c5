/-! the model's lines -/
section Me
variable {s s' : gS} {L : Nat → Int} {e f a w w' : Nat} {lo hi : Int}
theorem Wd_e (h : gtx w = gtx w') : Wd L e w f = Wd L e w' f := by
  unfold Wd ch gsc
  rw [h]
theorem nb_e (h : gtx w = gtx w') : nb L e w lo hi f = nb L e w' lo hi f := by
  unfold nb
  rw [Wd_e h]
theorem tb_e (h : gtx w = gtx w') : tb L e w f = tb L e w' f := by
  unfold tb
  rw [Wd_e h]
end Me
theorem gl_m0 : ∀ w, w < 58 → 43 ≤ w → 1 ≤ (gtx w).length := by decide +kernel
theorem gl_m (w : Nat) (h1 : 43 ≤ w) (h2 : w < 58) : 1 ≤ (gtx w).length := gl_m0 w h2 h1
theorem ge_43 : gtx 43 = gtx 18 ∧ gtx 44 = gtx 19 ∧ gtx 45 = gtx 20 ∧ gtx 46 = gtx 21 ∧ gtx 47 = gtx 22 ∧ gtx 48 = gtx 23 ∧ gtx 49 = gtx 24 := by decide +kernel
theorem ge_50 : gtx 50 = gtx 13 ∧ gtx 51 = gtx 14 ∧ gtx 52 = gtx 15 ∧ gtx 53 = gtx 16 ∧ gtx 54 = gtx 17 ∧ gtx 55 = gtx 25 ∧ gtx 56 = gtx 26 ∧ gtx 57 = gtx 27 := by decide +kernel
/-- what the model's reading of a number, of letters, says -/
def MBv (L : Nat → Int) (e : Nat) (s : gS) (x : Nat ⊕ (Int × Nat)) (v : Int) (t : gS) : Prop := Fm s t ∧ ((∃ q : Nat, x = Sum.inl q ∧ gI t 217 12 = (q : Int)) ∨ (∃ v' g, x = Sum.inr (v', g) ∧ v = v' ∧ gI t 217 12 = -1 ∧ ∃ b : Nat, gI t 217 11 = (b : Int) ∧ b ≤ e ∧ sk L e b = g))
section Mn
variable {s s' : gS} {L : Nat → Int} {e f a w w' : Nat} {lo hi : Int}
theorem nx_b (hf : f ≤ e) : nx L e f ≤ e := (sk_b (en_b hf).2.1).2
theorem nm_x (hfe : f ≤ e) (h : Nm L e f lo hi) : dr L e f ≤ e ∧ sk L e (dr L e f) = nx L e f := by
  have h1 := en_d h
  have h2 := (en_b (L := L) hfe).2.1
  unfold nx
  rw [h1] at h2 ⊢
  exact ⟨h2, rfl⟩
theorem tr_x (hfe : f ≤ e) (h : Tr L e f) : lr L e f ≤ e ∧ sk L e (lr L e f) = nx L e f := by
  have h1 := en_t h
  have h2 := (en_b (L := L) hfe).2.1
  unfold nx
  rw [h1] at h2 ⊢
  exact ⟨h2, rfl⟩
theorem m175 (hw : 43 ≤ w ∧ w < 58) (hww : gtx w = gtx w') (hM : Mp s L e) (hL : ∀ k, 0 ≤ L k ∧ L k ≤ 255) (ha : gI s 217 11 = (a : Int)) (hae : a ≤ e) (hz : gI s 217 12 = -1) (hf : sk L e a = f) : gT (f_175 217 w lo hi s) (fun r => r.1 = 1 ∧ MBv L e s (nb L e w' lo hi f) r.2.1 r.2.2.2) := by
  have hfe : f ≤ e := by rw [← hf]; exact (sk_b hae).2
  refine gT_mono (w_175 (gl_m w hw.1 hw.2) hM hL ha hae hz hf.symm) (fun r hr => ⟨hr.1, hr.2.1, ?_⟩)
  rw [← nb_e hww]
  rcases hr.2.2 with ⟨h1, h2, h3, h4, h5⟩ | ⟨h1, h3⟩ | ⟨h1, h2, h3⟩
  · obtain ⟨n1_l, n2_l⟩ := nm_x (nx_b hfe) h2
    exact Or.inr ⟨_, _, by unfold nb; rw [cif_p h1, cif_p h2], h3, h4, _, h5, n1_l, n2_l⟩
  · exact Or.inl ⟨_, by unfold nb; rw [cif_n h1], h3⟩
  · exact Or.inl ⟨_, by unfold nb; rw [cif_p h1, cif_n h2], h3⟩
theorem m176 (hw : 43 ≤ w ∧ w < 58) (hww : gtx w = gtx w') (hM : Mp s L e) (ha : gI s 217 11 = (a : Int)) (hae : a ≤ e) (hz : gI s 217 12 = -1) (hf : sk L e a = f) : gT (f_176 217 w s) (fun r => r.1 = 1 ∧ MBv L e s (tb L e w' f) r.2.1 r.2.2.2) := by
  have hfe : f ≤ e := by rw [← hf]; exact (sk_b hae).2
  refine gT_mono (w_176 (gl_m w hw.1 hw.2) hM ha hae hz hf.symm) (fun r hr => ⟨hr.1, hr.2.1, ?_⟩)
  rw [← tb_e hww]
  rcases hr.2.2 with ⟨h1, h2, h3, h4, h5⟩ | ⟨h1, h3⟩ | ⟨h1, h2, h3⟩
  · obtain ⟨n1_l, n2_l⟩ := tr_x (nx_b hfe) h2
    exact Or.inr ⟨_, _, by unfold tb; rw [cif_p h1, cif_p h2], h3, h4, _, h5, n1_l, n2_l⟩
  · exact Or.inl ⟨_, by unfold tb; rw [cif_n h1], h3⟩
  · exact Or.inl ⟨_, by unfold tb; rw [cif_p h1, cif_n h2], h3⟩
/-- where something is wrong already nothing is read -/
theorem z175 (hz : gI s 217 12 ≠ -1) : gT (f_175 217 w lo hi s) (fun r => r.1 = 1 ∧ r.2.2.2 = s) := by
  unfold f_175
  rw [if_neg hz]
  unfold fb_175_24
  refine gT_v1 (A := fun _ z_l => z_l = s) (w_174z hz) (fun v2 s1_l h1 => ?_)
  rw [h1]
  exact gT_ret ⟨rfl, rfl⟩
theorem z176 (hz : gI s 217 12 ≠ -1) : gT (f_176 217 w s) (fun r => r.1 = 1 ∧ r.2.2.2 = s) := by
  unfold f_176
  rw [if_neg hz]
  unfold fb_176_24
  rw [if_neg hz]
  exact gT_ret ⟨rfl, rfl⟩
end Mn
/-- what a line writes into the row -/
def mw (w : gLW) (s : gS) : gS := match w.1 with
  | 0 => gw (gw (gw (gw s 218 (16 + 3 * (gI s 218 3).toNat + 0) w.2.1) 218 (16 + 3 * (gI s 218 3).toNat + 1) w.2.2.1) 218 (16 + 3 * (gI s 218 3).toNat + 2) w.2.2.2) 218 3 (gI s 218 3 + 1)
  | 1 => gw (gw (gw (gw (gw (gw (gw s 218 (40 + 6 * (gI s 218 4).toNat + 0) w.2.1) 218 (40 + 6 * (gI s 218 4).toNat + 1) w.2.2.1) 218 (40 + 6 * (gI s 218 4).toNat + 2) w.2.2.2) 218 (40 + 6 * (gI s 218 4).toNat + 3) 0) 218 (40 + 6 * (gI s 218 4).toNat + 4) 0) 218 (40 + 6 * (gI s 218 4).toNat + 5) 0) 218 4 (gI s 218 4 + 1)
  | 2 => gw (gw (gw s 218 (76 + 2 * (gI s 218 5).toNat + 0) w.2.1) 218 (76 + 2 * (gI s 218 5).toNat + 1) w.2.2.1) 218 5 (gI s 218 5 + 1)
  | 3 => gw (gw (gw s 218 (88 + 2 * (gI s 218 6).toNat + 0) w.2.1) 218 (88 + 2 * (gI s 218 6).toNat + 1) 0) 218 6 (gI s 218 6 + 1)
  | 4 => gw s 218 8 w.2.1
  | 5 => gw s 218 10 w.2.1
  | 6 => gw s 218 11 w.2.1
  | _ => gw s 218 12 w.2.1
def mv (s : gS) (k : Nat) : Int := gI s 218 k
section Mw
variable {s s' : gS} {L : Nat → Int} {e f a k : Nat} {w : gLW}
theorem rd8 {j i : Nat} {v : Int} : gI (gw s 218 j v) 218 i = if i = j then v else gI s 218 i := by
  show (if 218 = 218 ∧ i = j then v else gI s 218 i) = _
  by_cases h : i = j
  · rw [if_pos ⟨rfl, h⟩, if_pos h]
  · rw [if_neg (fun z_l => h z_l.2), if_neg h]
theorem mv_mw : mv (mw w s) k = av w (mv s) k := by
  obtain ⟨t_l, v1_l, v2, v3⟩ := w
  unfold mv mw av
  dsimp only
  split <;> simp only [rd8]
theorem Fm_ww {b j : Nat} {v : Int} (h : Fm s s') : Fm (gw s b j v) (gw s' b j v) := by
  refine ⟨h.1, fun c_l i_l hb_l => ?_⟩
  show (if c_l = b ∧ i_l = j then v else gI s' c_l i_l) = (if c_l = b ∧ i_l = j then v else gI s c_l i_l)
  rw [h.2 c_l i_l hb_l]
theorem Fm_mw (h : Fm s s') : Fm (mw w s) (mw w s') := by
  have hn : ∀ j_l, gI s' 218 j_l = gI s 218 j_l := fun j_l => h.2 218 j_l (by omega)
  unfold mw
  split
  · rw [hn 3]
    exact Fm_ww (Fm_ww (Fm_ww (Fm_ww h)))
  · rw [hn 4]
    exact Fm_ww (Fm_ww (Fm_ww (Fm_ww (Fm_ww (Fm_ww (Fm_ww h))))))
  · rw [hn 5]
    exact Fm_ww (Fm_ww (Fm_ww h))
  · rw [hn 6]
    exact Fm_ww (Fm_ww (Fm_ww h))
  · exact Fm_ww h
  · exact Fm_ww h
  · exact Fm_ww h
  · exact Fm_ww h
/-- only the reader's place and the row's first cells changed -/
def Mf (s s' : gS) : Prop := (gn s' = gn s ∧ (∀ a, gK s' a = gK s a) ∧ ∀ a k, gR s' a k = gR s a k) ∧ ∀ a k, ¬ (a = 217 ∧ (k = 11 ∨ k = 12)) → ¬ (a = 218 ∧ k < 100) → gI s' a k = gI s a k
theorem Mf_r (s : gS) : Mf s s := ⟨⟨rfl, fun _ => rfl, fun _ _ => rfl⟩, fun _ _ _ _ => rfl⟩
theorem Mf_t {s2 : gS} (h : Mf s s') (h2 : Mf s' s2) : Mf s s2 := ⟨⟨h2.1.1.trans h.1.1, fun a_l => (h2.1.2.1 a_l).trans (h.1.2.1 a_l), fun a_l k_l => (h2.1.2.2 a_l k_l).trans (h.1.2.2 a_l k_l)⟩, fun a_l k_l hc_l hd_l => (h2.2 a_l k_l hc_l hd_l).trans (h.2 a_l k_l hc_l hd_l)⟩
theorem Mf_fm (h : Fm s s') : Mf s s' := ⟨h.1, fun a_l k_l hc_l _ => h.2 a_l k_l hc_l⟩
theorem Mf_w {j : Nat} {v : Int} (h : Mf s s') (hj : j < 100) : Mf s (gw s' 218 j v) := by
  refine ⟨h.1, fun b_l i_l hc_l hd_l => ?_⟩
  show (if b_l = 218 ∧ i_l = j then v else gI s' b_l i_l) = _
  rw [if_neg (fun z_l => hd_l (by omega))]
  exact h.2 b_l i_l hc_l hd_l
theorem Mf_mw (hg : Rg (mv s)) (hw : Rw w (mv s)) : Mf s (mw w s) := by
  obtain ⟨t_l, v1_l, v2, v3⟩ := w
  obtain ⟨w1_l, w2_l, w3_l, w4_l⟩ := hw
  obtain ⟨⟨a3, b3⟩, ⟨a4, b4⟩, ⟨a5, b5⟩, ⟨a6, b6⟩⟩ := hg
  unfold mv at w1_l w2_l w3_l w4_l a3 b3 a4 b4 a5 b5 a6 b6
  unfold mw
  dsimp only at w1_l w2_l w3_l w4_l ⊢
  split
  · have := w1_l rfl
    exact Mf_w (Mf_w (Mf_w (Mf_w (Mf_r s) (by omega)) (by omega)) (by omega)) (by omega)
  · have := w2_l rfl
    exact Mf_w (Mf_w (Mf_w (Mf_w (Mf_w (Mf_w (Mf_w (Mf_r s) (by omega)) (by omega)) (by omega)) (by omega)) (by omega)) (by omega)) (by omega)
  · have := w3_l rfl
    exact Mf_w (Mf_w (Mf_w (Mf_r s) (by omega)) (by omega)) (by omega)
  · have := w4_l rfl
    exact Mf_w (Mf_w (Mf_w (Mf_r s) (by omega)) (by omega)) (by omega)
  · exact Mf_w (Mf_r s) (by omega)
  · exact Mf_w (Mf_r s) (by omega)
  · exact Mf_w (Mf_r s) (by omega)
  · exact Mf_w (Mf_r s) (by omega)
end Mw
