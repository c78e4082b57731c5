section Md
variable {s t : gS} {p : gP}
theorem h4_f (hJ : J p s) (ht : Fw WR s t) : gI t 218 4 ≤ 6 := by
  rw [ht.2.2 218 4 (Nat.lt_of_lt_of_le (by decide) ht.1.1) rfl]
  exact (Jr hJ).1.2
theorem rt_213 {a0 : Nat} {a1 a2 : Int} (hJ : J p s) (e0 : a0 = 217) (h : Rt s) : gQ (f_213 a0 a1 a2 s) (fun r => Rt r.2.2.2) := by
  subst e0
  have hg := J_RF hJ
  have hn := hJ.1.1
  have hb_l : ∀ (w0_l : Int) (t_l : gS), 0 ≤ a1 ∧ a1 < 6 → Fw WR s t_l → gQ (fb_213_34 217 a1 a2 w0_l 217 t_l) (fun r => Rt r.2.2.2) := by
    intro w0_l t_l hx ht
    unfold fb_213_34
    refine rt_act (RF_fw hg ht) (Fw_232 ht) (Rt_fw h ht) (h4_f hJ ht) (fun t1_l tg tn_l tm => ?_)
    have h128 : ∀ (x3 : Int) (u1_l : gS), Fw WR t1_l u1_l → gQ (fb_213_128 217 a1 x3 u1_l) (fun r => Fw WR t1_l r.2.2.2) := by
      intro x3 u1_l hu
      unfold fb_213_128 fb_213_139
      refine gQ_ite ?_ ?_
      · exact gQ_v0 (A := Fw WR t1_l) (om_210 tg umd rfl hu) (fun s26 h26 => gQ_bool (gQ_ret h26))
      · exact gQ_v0 (A := Fw WR t1_l) (om_210 tg umd rfl hu) (fun s26 h26 => gQ_bool (gQ_ret h26))
    have h102 : ∀ (x3 w0_l : Int) (u1_l : gS), Fw WR t1_l u1_l → gQ (fb_213_102 217 a1 x3 w0_l 0 a1 217 u1_l) (fun r => Fw WR t1_l r.2.2.2) := by
      intro x3 w0_l u1_l hu
      unfold fb_213_102
      refine gQ_v0 (A := Fw WR t1_l) (om_157 tg umd rfl hx (by decide) hu) (fun s20 h20 => ?_)
      refine gQ_v1 (A := Fw WR t1_l) (om_156 tg um rfl h20) (fun v23 s22 h22 => ?_)
      refine gQ_ite ?_ (h128 _ _ h22)
      exact gQ_v0 (A := Fw WR t1_l) (om_157 tg umd rfl hx (by decide) h22) (fun s24 h24 => h128 _ _ h24)
    refine gQ_v1 (A := Fw WR t1_l) (om_158 tg um rfl (Fw_rf tn_l)) (fun v8 s7 h7 => ?_)
    refine gQ_v0 (A := Fw WR t1_l) (om_200 tg umd rfl h7) (fun s9 h9 => ?_)
    refine gQ_v1 (A := Fw WR t1_l) (om_156 tg um rfl h9) (fun v12 s11 h11 => ?_)
    refine gQ_v1 (A := Fw WR t1_l) (om_212 tg um rfl h11) (fun v14 s13 h13 => ?_)
    refine gQ_ite ?_ ?_
    · refine gQ_v1 (A := Fw WR t1_l) (om_156 tg um rfl h13) (fun v17 s16 h16_l => ?_)
      exact gQ_v1 (A := Fw WR t1_l) (om_151 tg um h16_l) (fun v19 s18 h18 => h102 _ _ _ h18)
    · exact gQ_v1 (A := Fw WR t1_l) (om_156 tg um rfl h13) (fun v29 s28 h28 => h102 _ _ _ h28)
  unfold f_213
  refine gQ_w1 (A := fun v_l z_l => z_l = s ∧ (v_l = 0 ∨ (0 ≤ a1 ∧ a1 < 6))) (qv_162 (rr_217_1 hg).2 (Jr hJ).1) (fun v2 s1_l h1 => ?_)
  rw [h1.1]
  by_cases c : v2 = 0
  · rw [if_pos c]
    unfold fb_213_34
    exact rt_thr (by decide) hn h
  rw [if_neg c]
  have hx : 0 ≤ a1 ∧ a1 < 6 := h1.2.resolve_left c
  refine gQ_v1 (A := Fw WR s) (om_163 hg um rfl (Fw_rf hn)) (fun v31 s30 h30 => ?_)
  refine gQ_ite (hb_l _ _ hx h30) ?_
  refine gQ_v1 (A := Fw WR s) (om_165 hg um rfl h30) (fun v34 s33 h33 => ?_)
  exact gQ_ite (hb_l _ _ hx h33) (hb_l _ _ hx h33)
theorem w88 {x j : Int} (hx : 0 ≤ x ∧ x < 6) (hj : 0 ≤ j ∧ j ≤ 1) : WR 218 (g32 (g32 (88 + g32 (2 * x)) + j)).toNat = true := by
  rw [(ix2 (m := 88) (c := x) (j := j) (by omega) (by omega) hj).2]
  exact umd _ _ (msd_8 (mnt_l _ (by omega) (by omega)))
theorem rt_215 {a0 : Nat} {a1 a2 a3 : Int} (hJ : J p s) (e0 : a0 = 217) (h : Rt s) : gQ (f_215 a0 a1 a2 a3 s) (fun r => Rt r.2.2.2) := by
  subst e0
  have hg := J_RF hJ
  have hn := hJ.1.1
  have hb_l : ∀ (w0_l : Int) (t_l : gS), 0 ≤ a1 ∧ a1 < 6 → 0 ≤ a2 ∧ a2 < 6 → Fw WR s t_l → gQ (fb_215_52 217 a1 a2 a3 w0_l 217 t_l) (fun r => Rt r.2.2.2) := by
    intro w0_l t_l hx hy ht
    unfold fb_215_52
    refine rt_act (RF_fw hg ht) (Fw_232 ht) (Rt_fw h ht) (h4_f hJ ht) (fun t1_l tg tn_l tm => ?_)
    have hr : ∀ {u : gS}, Fw WR t1_l u → gR u 217 1 = 218 := fun hu => fr_r hu rfl (rr_217_1 tg)
    refine gQ_chk (gQ_chk ?_)
    dsimp only
    have w1_l := Fw_w (v := g32 (gI t1_l (gR t1_l 217 1) (g32 (g32 (88 + g32 (2 * a2)) + 0)).toNat - a3)) (Fw_rf (W := WR) tn_l) (hr (Fw_rf tn_l)) (w88 hy (j := 0) (by decide))
    refine gQ_chk ?_
    refine gQ_v1 (A := Fw WR t1_l) (om_156 tg um rfl w1_l) (fun v9 s8 h8 => ?_)
    refine gQ_chk ?_
    have w2_l := Fw_w (v := gor (gI (gw t1_l (gR t1_l 217 1) (g32 (g32 (88 + g32 (2 * a2)) + 0)).toNat (g32 (gI t1_l (gR t1_l 217 1) (g32 (g32 (88 + g32 (2 * a2)) + 0)).toNat - a3))) (gR t1_l 217 1) (g32 (g32 (88 + g32 (2 * a2)) + 1)).toNat) (g32 (gshl 1 v9 - 1))) h8 (hr (Fw_rf tn_l)) (w88 hy (j := 1) (by decide))
    refine gQ_v1 (A := Fw WR t1_l) (om_151 tg um w2_l) (fun v12 s11 h11 => ?_)
    have w3_l := Fw_w (v := v12) h11 (hr w2_l) (umd 218 8 rfl)
    exact gQ_v0 (A := Fw WR t1_l) (om_157 tg umd rfl hx (by decide) w3_l) (fun s14 h14 => gQ_ret h14)
  unfold f_215
  refine gQ_w1 (A := fun v_l z_l => z_l = s ∧ (v_l = 0 ∨ (0 ≤ a1 ∧ a1 < 6))) (qv_162 (rr_217_1 hg).2 (Jr hJ).1) (fun v2 s1_l h1 => ?_)
  rw [h1.1]
  by_cases c : v2 = 0
  · rw [if_pos c]
    unfold fb_215_52
    exact rt_thr (by decide) hn h
  rw [if_neg c]
  have hx : 0 ≤ a1 ∧ a1 < 6 := h1.2.resolve_left c
  refine gQ_w1 (A := fun v_l z_l => z_l = s ∧ (v_l = 0 ∨ (0 ≤ a2 ∧ a2 < 6))) (qv_164 (rr_217_1 hg).2 (Jr hJ).2) (fun v17 s16 h16_l => ?_)
  rw [h16_l.1]
  by_cases c2 : v17 = 0
  · rw [if_pos c2]
    unfold fb_215_52
    exact rt_thr (by decide) hn h
  rw [if_neg c2]
  have hy : 0 ≤ a2 ∧ a2 < 6 := h16_l.2.resolve_left c2
  refine gQ_v1 (A := Fw WR s) (om_160 hg um rfl (Fw_rf hn)) (fun v20 s19 h19 => ?_)
  refine gQ_v1 (A := Fw WR s) (om_150 hg um h19) (fun v22 s21 h21 => ?_)
  refine gQ_ite (hb_l _ _ hx hy h21) ?_
  refine gQ_v1 (A := Fw WR s) (om_165 hg um rfl h21) (fun v25 s24 h24 => ?_)
  exact gQ_ite (hb_l _ _ hx hy h24) (hb_l _ _ hx hy h24)
theorem rt_216 {a0 : Nat} {a1 a2 : Int} (hJ : J p s) (e0 : a0 = 217) (h : Rt s) : gQ (f_216 a0 a1 a2 s) (fun r => Rt r.2.2.2) := by
  subst e0
  have hg := J_RF hJ
  have hn := hJ.1.1
  have hb_l : ∀ (w0_l : Int) (t_l : gS), 0 ≤ a2 ∧ a2 < 6 → Fw WR s t_l → gQ (fb_216_50 217 a1 a2 w0_l 217 t_l) (fun r => Rt r.2.2.2) := by
    intro w0_l t_l hy ht
    unfold fb_216_50
    refine rt_act (RF_fw hg ht) (Fw_232 ht) (Rt_fw h ht) (h4_f hJ ht) (fun t1_l tg tn_l tm => ?_)
    have hr : ∀ {u : gS}, Fw WR t1_l u → gR u 217 1 = 218 := fun hu => fr_r hu rfl (rr_217_1 tg)
    refine gQ_chk (gQ_chk ?_)
    dsimp only
    have w1_l := Fw_w (v := g32 (gI t1_l (gR t1_l 217 1) (g32 (g32 (88 + g32 (2 * a2)) + 0)).toNat - 20)) (Fw_rf (W := WR) tn_l) (hr (Fw_rf tn_l)) (w88 hy (j := 0) (by decide))
    refine gQ_chk (gQ_chk ?_)
    refine gQ_v1 (A := Fw WR t1_l) (om_160 tg um rfl (Fw_w w1_l (hr w1_l) (w88 hy (j := 1) (by decide)))) (fun v10 s9 h9 => gQ_ret h9)
  unfold f_216
  refine gQ_v1 (A := Fw WR s) (om_161 hg um rfl (Fw_rf hn)) (fun v2 s1_l h1 => ?_)
  have hthr : ∀ {u : gS}, Fw WR s u → gQ (fb_216_50 217 a1 a2 1 217 u) (fun r => Rt r.2.2.2) := fun {u} hu => by
    unfold fb_216_50
    exact rt_thr (by decide) (Fw_232 hu) (Rt_fw h hu)
  refine gQ_ite (hthr h1) ?_
  have m6_l : 0 ≤ gI s1_l 218 6 ∧ gI s1_l 218 6 ≤ 6 := by
    rw [h1.2.2 218 6 (Nat.lt_of_lt_of_le (by decide) h1.1.1) rfl]
    exact (Jr hJ).2
  refine gQ_w1 (A := fun v_l z_l => z_l = s1_l ∧ (v_l = 0 ∨ (0 ≤ a2 ∧ a2 < 6))) (qv_164 (fr_r h1 rfl (rr_217_1 hg)) m6_l) (fun v12 s11 h11 => ?_)
  rw [h11.1]
  by_cases c2 : v12 = 0
  · rw [if_pos c2]
    exact hthr h1
  rw [if_neg c2]
  have hy : 0 ≤ a2 ∧ a2 < 6 := h11.2.resolve_left c2
  refine gQ_v1 (A := Fw WR s) (om_160 hg um rfl h1) (fun v15 s14 h14 => ?_)
  refine gQ_v1 (A := Fw WR s) (om_153 hg um h14) (fun v17 s16 h16_l => ?_)
  refine gQ_ite ?_ (hb_l _ _ hy h16_l)
  refine gQ_v1 (A := Fw WR s) (om_160 hg um rfl h16_l) (fun v20 s19 h19 => ?_)
  exact gQ_ite (hb_l _ _ hy h19) (hb_l _ _ hy h19)
/-- span -/
theorem om_255 {W : Nat → Nat → Bool} {g : gS} {a0 : Nat} {a1 a2 : Int} (hg : RF g) (hU : ∀ a k, mss a k = true → W a k = true) (hA : ∀ k, W 220 k = true) (hm : gI g 218 4 ≤ 6) (h4 : W 218 4 = false) (e0 : a0 = 217) (h : Fw W g s) : gQ (f_255 a0 a1 a2 s) (fun r => Fw W g r.2.2.2) := by
  subst e0
  have hb_l : ∀ (w0_l : Int) (t_l : gS), Fw W g t_l → gQ (fb_255_17 217 a1 a2 w0_l 217 t_l) (fun r => Fw W g r.2.2.2) := by
    intro w0_l t_l ht
    unfold fb_255_17
    dsimp only
    have w1_l : Fw W g (gw t_l 217 0 w0_l) := Fw_w ht rfl (hU 217 0 rfl)
    refine gQ_ite (gQ_ret w1_l) ?_
    refine gQ_v0 (A := fun z_l => Fw W g z_l ∧ Asd z_l) (pa_185 hg hA rfl w1_l) (fun s5 h5 => ?_)
    have hg5 := RF_fw hg h5.1
    have hm5 : gI s5 218 4 ≤ 6 := by
      rw [h5.1.2.2 218 4 (Nat.lt_of_lt_of_le (by decide) h5.1.1.1) h4]
      exact hm
    have hn5 := Fw_232 h5.1
    refine gQ_loop (fun y_l => y_l.1 = 217 ∧ Fw mss s5 y_l.2.2.2.2.2) (fun y_l hy => ?_) ⟨rfl, Fw_rf hn5⟩
    obtain ⟨x0_l, x1_l, x2_l, x3, x4_l, y1⟩ := y_l
    obtain ⟨q0, h6⟩ := hy
    dsimp only at q0 h6
    subst q0
    show gQ (sb_255_38 217 x1_l x2_l x3 x4_l y1) _
    unfold sb_255_38
    refine gQ_ite (gQ_map (gQ_ret (Fw_tr h5.1 h6 hU))) ?_
    dsimp only
    have hd_l : Fw msd s5 y1 := Fw_tr (Fw_rf hn5) h6 (mqd_o id_U)
    have w2_l : Fw msd s5 (gw y1 (gR y1 217 1) 14 x4_l) := Fw_w hd_l (fr_r hd_l rfl (rr_217_1 hg5)) rfl
    refine gQ_v1 (A := Fw msd s5) (om_202 hg5 id_U hm5 rfl rfl w2_l) (fun v9 s8 h8 => ?_)
    refine gQ_v0 (A := Fw mss s5) (pa_186 hg5 h5.2 rfl h8) (fun s11 h11 => ?_)
    refine gQ_ite (gQ_ret ⟨rfl, h11⟩) (gQ_ite ?_ ?_)
    · exact gQ_v1 (A := Fw mss s5) (om_151 hg5 (fun _ _ hh => hh) h11) (fun v14 s13 h13 => gQ_ret ⟨rfl, h13⟩)
    · exact gQ_v1 (A := Fw mss s5) (om_152 hg5 (fun _ _ hh => hh) h11) (fun v16 s15 h15 => gQ_ret ⟨rfl, h15⟩)
  unfold f_255
  refine gQ_v1 (A := Fw W g) (om_150 hg hU h) (fun v2 s1_l h1 => ?_)
  exact gQ_ite (hb_l _ _ h1) (hb_l _ _ h1)
end Md
