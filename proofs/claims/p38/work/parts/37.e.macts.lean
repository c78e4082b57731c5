section Mc
variable {W : Nat → Nat → Bool} {g s u : gS} {p : gP} {Q : Type} {P : Q → Prop}
theorem gQ_w1 {z : Option gO} {A : Int → gS → Prop} {E : Int → gS → Option Q} (h : gQ z (fun r => A r.2.1 r.2.2.2)) (k : ∀ v s, A v s → gQ (E v s) P) : gQ (z.bind (gv1 E)) P := by
  cases z with
  | none => exact gQ_none
  | some r =>
    have hA := h r rfl
    show gQ (gv1 E r) P
    unfold gv1
    exact gQ_ite (k _ _ hA) gQ_none
theorem qv_150 {x y z : Int} : gQ (f_150 x y z s) (fun r => r.2.2.2 = s ∧ (r.2.1 = 0 ∨ (y ≤ x ∧ x ≤ z))) := fun r hr => by
  obtain ⟨-, h2, h3⟩ := gQ_T (w_150 (s := s) (x := x) (y := y) (z := z)) r hr
  exact ⟨h3, by omega⟩
theorem qv_162 {x : Int} (r1 : gR s 217 1 = 218) (hm : 0 ≤ gI s 218 4 ∧ gI s 218 4 ≤ 6) : gQ (f_162 217 x s) (fun r => r.2.2.2 = s ∧ (r.2.1 = 0 ∨ (0 ≤ x ∧ x < 6))) := by
  unfold f_162
  rw [r1, g32_eq (v := gI s 218 4 - 1) (by omega) (by omega)]
  refine gQ_w1 (A := fun v_l z_l => z_l = s ∧ (v_l = 0 ∨ (0 ≤ x ∧ x ≤ gI s 218 4 - 1))) qv_150 (fun v2 s1_l h1 => gQ_ret ⟨h1.1, ?_⟩)
  have := h1.2
  dsimp only
  omega
theorem qv_164 {x : Int} (r1 : gR s 217 1 = 218) (hm : 0 ≤ gI s 218 6 ∧ gI s 218 6 ≤ 6) : gQ (f_164 217 x s) (fun r => r.2.2.2 = s ∧ (r.2.1 = 0 ∨ (0 ≤ x ∧ x < 6))) := by
  unfold f_164
  rw [r1, g32_eq (v := gI s 218 6 - 1) (by omega) (by omega)]
  refine gQ_w1 (A := fun v_l z_l => z_l = s ∧ (v_l = 0 ∨ (0 ≤ x ∧ x ≤ gI s 218 6 - 1))) qv_150 (fun v2 s1_l h1 => gQ_ret ⟨h1.1, ?_⟩)
  have := h1.2
  dsimp only
  omega
theorem mnt_l : ∀ k, k < 340 → 88 ≤ k → mnt k = true := by decide +kernel
/-- logs -/
theorem om_210 {a0 : Nat} {a1 a2 : Int} (hg : RF g) (hU : ∀ a k, msd a k = true → W a k = true) (e0 : a0 = 217) (h : Fw W g s) : gQ (f_210 a0 a1 a2 s) (fun r => Fw W g r.2.2.2) := by
  subst e0
  have hr : ∀ {t : gS}, Fw W g t → gR t 217 1 = 218 := fun ht => fr_r ht rfl (rr_217_1 hg)
  have hl : ∀ k, k < 340 → 88 ≤ k → W 218 k = true := fun k h1 h2 => hU _ _ (msd_8 (mnt_l k h1 h2))
  unfold f_210
  refine gQ_loop (fun y_l => y_l.1 = 217 ∧ (3 ≤ y_l.2.2.2.1 ∧ y_l.2.2.2.1 ≤ 239) ∧ Fw W g y_l.2.2.2.2) (fun y_l hy => ?_) ⟨rfl, ⟨(by decide : (3 : Int) ≤ 239), Int.le_refl 239⟩, h⟩
  obtain ⟨x0_l, x1_l, x2_l, x3, y1⟩ := y_l
  obtain ⟨q0, hb_l, h1⟩ := hy
  dsimp only at q0 hb_l h1
  subst q0
  show gQ (sb_210_4 217 x1_l x2_l x3 y1) _
  unfold sb_210_4
  by_cases c : x3 < 4
  · rw [if_pos c]
    refine gQ_map ?_
    dsimp only
    have w1_l : Fw W g (gw y1 (gR y1 217 1) 100 (gI y1 (gR y1 217 1) 7)) := Fw_w h1 (hr h1) (hl 100 (by decide) (by decide))
    have w2_l := Fw_w (v := x1_l) w1_l (hr w1_l) (hl 101 (by decide) (by decide))
    have w3_l := Fw_w (v := x2_l) w2_l (hr w2_l) (hl 102 (by decide) (by decide))
    refine gQ_v1 (A := Fw W g) (om_156 hg (mqd_o hU) rfl w3_l) (fun v5 s4_l h4 => ?_)
    have w4_l := Fw_w (v := v5) h4 (hr w3_l) (hl 103 (by decide) (by decide))
    refine gQ_v1 (A := Fw W g) (om_151 hg (mqd_o hU) w4_l) (fun v8 s7 h7 => ?_)
    exact gQ_ret (Fw_w h7 (hr w4_l) (hU 218 13 rfl))
  · rw [if_neg c, g32_eq (v := 100 + x3) (by omega) (by omega), g32_eq (v := x3 + -1) (by omega) (by omega)]
    refine gQ_chk (gQ_chk (gQ_ret ⟨rfl, by dsimp only; omega, ?_⟩))
    exact Fw_w h1 (hr h1) (hl _ (by omega) (by omega))
theorem z0 {w0 : Int} (hw : 0 < w0) : 0 < gI (gw s 217 0 w0) 217 0 := by
  rw [rd_same rfl]
  exact hw
theorem Jr (h : J p s) : (0 ≤ gI s 218 4 ∧ gI s 218 4 ≤ 6) ∧ (0 ≤ gI s 218 6 ∧ gI s 218 6 ≤ 6) := ⟨J_ra h (a := 218) (k := 4) (by decide) (by rw [k0_sp.2.2.2.1]; decide) rfl, J_ra h (a := 218) (k := 6) (by decide) (by rw [k0_sp.2.2.2.1]; decide) rfl⟩
/-- thrown is noted -/
theorem Fw_0 {w0 : Int} (hn : 232 ≤ gn s) : Fw WR s (gw s 217 0 w0) := Fw_w (Fw_rf hn) rfl (um 217 0 rfl)
/-- an act of the model: what is thrown, or what comes behind remembers -/
theorem rt_act {w0 : Int} {E : gS → Option gO} (hg : RF s) (hn : 232 ≤ gn s) (h : Rt s) (hm : gI s 218 4 ≤ 6) (k : ∀ t, RF t → 232 ≤ gn t → gI t 218 4 ≤ 6 → gQ (E t) (fun r => Fw WR t r.2.2.2)) : gQ (if 0 < gI (gw s 217 0 w0) 217 0 then some ((1, 0, 0, gw s 217 0 w0) : gO) else (f_209 217 (gw s 217 0 w0)).bind (gv0 E)) (fun r => Rt r.2.2.2) := by
  have hf : Fw WR s (gw s 217 0 w0) := Fw_0 hn
  refine gQ_ite (gQ_ret (Rt_fw h hf)) ?_
  refine gQ_v0 (A := fun t => (Rt t ∧ RF t ∧ 232 ≤ gn t) ∧ ∀ k, gI t 218 k = gI (gw s 217 0 w0) 218 k) (rx_209 (RF_fw hg hf) (Fw_232 hf) rfl (Rt_fw h hf)) (fun s5 h5 => ?_)
  have h4 : gI s5 218 4 ≤ 6 := by
    rw [h5.2 4, rd_a (a := 218) rfl (by decide)]
    exact hm
  exact fun r hr => Rt_fw h5.1.1 (k s5 h5.1.2.1 h5.1.2.2 h4 r hr)
theorem rt_thr {w0 : Int} {z : Option gO} (hw : 0 < w0) (hn : 232 ≤ gn s) (h : Rt s) : gQ (if 0 < gI (gw s 217 0 w0) 217 0 then some ((1, 0, 0, gw s 217 0 w0) : gO) else z) (fun r => Rt r.2.2.2) := by
  rw [if_pos (z0 hw)]
  exact gQ_ret (Rt_fw h (Fw_0 hn))
theorem rt_259 {a0 : Nat} {a1 : Int} (hg : RF s) (hn : 232 ≤ gn s) (e0 : a0 = 217) (h : Rt s) : gQ (f_259 a0 a1 s) (fun r => Rt r.2.2.2) := by
  subst e0
  unfold f_259
  exact gQ_ret (Rt_fw h (Fw_w (Fw_0 hn) (fr_r (Fw_0 (w0 := 0) hn) rfl (rr_217_1 hg)) (umd 218 14 rfl)))
theorem rt_218 {a0 : Nat} {a1 : Int} (hJ : J p s) (e0 : a0 = 217) (h : Rt s) : gQ (f_218 a0 a1 s) (fun r => Rt r.2.2.2) := by
  subst e0
  have hg := J_RF hJ
  have hn := hJ.1.1
  have hb_l : ∀ w0_l, gQ (fb_218_17 217 a1 w0_l 217 s) (fun r => Rt r.2.2.2) := by
    intro w0_l
    unfold fb_218_17
    refine rt_act hg hn h (Jr hJ).1.2 (fun t_l tg tn_l tm => ?_)
    refine gQ_v1 (A := Fw WR t_l) (om_202 tg umd tm rfl rfl (Fw_rf tn_l)) (fun v8 s7 h7 => gQ_ret h7)
  unfold f_218
  refine gQ_w1 (A := fun _ z_l => z_l = s) (fun r hr => (qv_150 r hr).1) (fun v2 s1_l h1 => ?_)
  rw [h1]
  exact gQ_ite (hb_l _) (hb_l _)
theorem rt_217 {a0 : Nat} {a1 : Int} (hJ : J p s) (e0 : a0 = 217) (h : Rt s) : gQ (f_217 a0 a1 s) (fun r => Rt r.2.2.2) := by
  subst e0
  have hg := J_RF hJ
  have hn := hJ.1.1
  have hb_l : ∀ (w0_l : Int) (t_l : gS), Fw WR s t_l → gQ (fb_217_31 217 a1 w0_l 217 t_l) (fun r => Rt r.2.2.2) := by
    intro w0_l t_l ht
    have h4 : gI t_l 218 4 ≤ 6 := by
      rw [ht.2.2 218 4 (Nat.lt_of_lt_of_le (by decide) ht.1.1) rfl]
      exact (Jr hJ).1.2
    unfold fb_217_31
    refine rt_act (RF_fw hg ht) (Fw_232 ht) (Rt_fw h ht) h4 (fun t1_l tg tn_l tm => ?_)
    have w1_l : Fw WR t1_l (gw t1_l (gR t1_l 217 1) 8 (g32 (gI t1_l (gR t1_l 217 1) 8 - a1))) := Fw_w (Fw_rf tn_l) (rr_217_1 tg).2 (umd 218 8 rfl)
    exact gQ_ret (Fw_w w1_l (fr_r w1_l rfl (rr_217_1 tg)) (umd 218 9 rfl))
  unfold f_217
  refine gQ_v1 (A := Fw WR s) (om_151 hg um (Fw_rf hn)) (fun v2 s1_l h1 => ?_)
  refine gQ_v1 (A := Fw WR s) (om_150 hg um h1) (fun v4_l s3_l h3 => ?_)
  exact gQ_ite (hb_l _ _ h3) (hb_l _ _ h3)
theorem rt_214 {a0 : Nat} {a1 : Int} (hJ : J p s) (e0 : a0 = 217) (h : Rt s) : gQ (f_214 a0 a1 s) (fun r => Rt r.2.2.2) := by
  subst e0
  have hg := J_RF hJ
  have hn := hJ.1.1
  have hb_l : ∀ (w0_l : Int) (t_l : gS), 0 ≤ a1 ∧ a1 < 6 → Fw WR s t_l → gQ (fb_214_35 217 a1 w0_l 217 t_l) (fun r => Rt r.2.2.2) := by
    intro w0_l t_l hx ht
    have h4 : gI t_l 218 4 ≤ 6 := by
      rw [ht.2.2 218 4 (Nat.lt_of_lt_of_le (by decide) ht.1.1) rfl]
      exact (Jr hJ).1.2
    unfold fb_214_35
    refine rt_act (RF_fw hg ht) (Fw_232 ht) (Rt_fw h ht) h4 (fun t1_l tg tn_l tm => ?_)
    refine gQ_v0 (A := Fw WR t1_l) (om_157 tg umd rfl hx (by decide) (Fw_rf tn_l)) (fun s7 h7 => ?_)
    exact gQ_v1 (A := Fw WR t1_l) (om_156 tg um rfl h7) (fun v10 s9 h9 => gQ_ret h9)
  unfold f_214
  refine gQ_w1 (A := fun v_l z_l => z_l = s ∧ (v_l = 0 ∨ (0 ≤ a1 ∧ a1 < 6))) (qv_162 (rr_217_1 hg).2 (Jr hJ).1) (fun v2 s1_l h1 => ?_)
  rw [h1.1]
  by_cases c : v2 = 0
  · rw [if_pos c]
    unfold fb_214_35
    exact rt_thr (by decide) hn h
  rw [if_neg c]
  have hx : 0 ≤ a1 ∧ a1 < 6 := h1.2.resolve_left c
  refine gQ_v1 (A := Fw WR s) (om_165 hg um rfl (Fw_rf hn)) (fun v12 s11 h11 => ?_)
  refine gQ_ite (hb_l _ _ hx h11) ?_
  refine gQ_v1 (A := Fw WR s) (om_156 hg um rfl h11) (fun v15 s14 h14 => ?_)
  exact gQ_ite (hb_l _ _ hx h14) (hb_l _ _ hx h14)
theorem rt_211 {a0 : Nat} {a1 : Int} (hJ : J p s) (e0 : a0 = 217) (h : Rt s) : gQ (f_211 a0 a1 s) (fun r => Rt r.2.2.2) := by
  subst e0
  have hg := J_RF hJ
  have hn := hJ.1.1
  have hb_l : ∀ (w0_l : Int) (t_l : gS), 0 ≤ a1 ∧ a1 < 6 → Fw WR s t_l → gQ (fb_211_35 217 a1 w0_l 217 t_l) (fun r => Rt r.2.2.2) := by
    intro w0_l t_l hx ht
    have h4 : gI t_l 218 4 ≤ 6 := by
      rw [ht.2.2 218 4 (Nat.lt_of_lt_of_le (by decide) ht.1.1) rfl]
      exact (Jr hJ).1.2
    unfold fb_211_35
    refine rt_act (RF_fw hg ht) (Fw_232 ht) (Rt_fw h ht) h4 (fun t1_l tg tn_l tm => ?_)
    refine gQ_v1 (A := Fw WR t1_l) (om_156 tg um rfl (Fw_rf tn_l)) (fun v8 s7 h7 => ?_)
    refine gQ_v0 (A := Fw WR t1_l) (om_157 tg umd rfl hx (by decide) h7) (fun s9 h9 => ?_)
    refine gQ_v1 (A := Fw WR t1_l) (om_156 tg um rfl h9) (fun v12 s11 h11 => ?_)
    refine gQ_v1 (A := Fw WR t1_l) (om_151 tg um h11) (fun v14 s13 h13 => ?_)
    refine gQ_v0 (A := Fw WR t1_l) (om_157 tg umd rfl hx (by decide) h13) (fun s15 h15 => ?_)
    refine gQ_v0 (A := Fw WR t1_l) (om_210 tg umd rfl h15) (fun s17 h17 => ?_)
    exact gQ_v1 (A := Fw WR t1_l) (om_156 tg um rfl h17) (fun v20 s19 h19 => gQ_ret h19)
  unfold f_211
  refine gQ_w1 (A := fun v_l z_l => z_l = s ∧ (v_l = 0 ∨ (0 ≤ a1 ∧ a1 < 6))) (qv_162 (rr_217_1 hg).2 (Jr hJ).1) (fun v2 s1_l h1 => ?_)
  rw [h1.1]
  by_cases c : v2 = 0
  · rw [if_pos c]
    unfold fb_211_35
    exact rt_thr (by decide) hn h
  rw [if_neg c]
  have hx : 0 ≤ a1 ∧ a1 < 6 := h1.2.resolve_left c
  refine gQ_v1 (A := Fw WR s) (om_165 hg um rfl (Fw_rf hn)) (fun v22 s21 h21 => ?_)
  refine gQ_ite (hb_l _ _ hx h21) ?_
  refine gQ_v1 (A := Fw WR s) (om_156 hg um rfl h21) (fun v25 s24 h24 => ?_)
  exact gQ_ite (hb_l _ _ hx h24) (hb_l _ _ hx h24)
end Mc
