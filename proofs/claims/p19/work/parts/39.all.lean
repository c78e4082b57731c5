section
/-! frames of the tape and of the law reader -/
theorem rr_0_3 {g : gS} (hg : RF g) : 0 < 232 ∧ gR g 0 3 = 7 := ⟨by decide, (hg 0 3 (by decide) (by decide +kernel)).trans (by decide +kernel)⟩
theorem rr_7_0 {g : gS} (hg : RF g) : 7 < 232 ∧ gR g 7 0 = 1 := ⟨by decide, (hg 7 0 (by decide) (by decide +kernel)).trans (by decide +kernel)⟩
theorem rr_7_1 {g : gS} (hg : RF g) : 7 < 232 ∧ gR g 7 1 = 8 := ⟨by decide, (hg 7 1 (by decide) (by decide +kernel)).trans (by decide +kernel)⟩
theorem ofb_78_172 {W : Nat → Nat → Bool} {g s : gS} {x0 : Nat} {x4 : Int} {w0 : Int} (hg_o : RF g) (hU_o : ∀ a k, csq a k = true → W a k = true) (ex0_o : x0 = 1) (h_o : Fw W g s) : gQ (fb_78_172 x0 x4 w0 s) (fun r => Fw W g r.2.2.2) := by
  subst ex0_o
  unfold fb_78_172
  refine gQ_loop (fun y_l => y_l.1 = 1 ∧ Fw W g (y_l.2.2.2)) (fun y_l hy_o => ?_) ⟨rfl, h_o⟩
  obtain ⟨x1_o, x2_o, x3_o, x4_o⟩ := y_l
  obtain ⟨e6_o, h5_o⟩ := hy_o
  dsimp only at e6_o h5_o
  subst e6_o
  show gQ (sb_78_174 1 x2_o x3_o x4_o) _
  unfold sb_78_174
  dsimp only
  refine gQ_ite ?_ ?_
  · refine gQ_map ?_
    exact gQ_ret h5_o
  · refine gQ_ite ?_ ?_
    · refine gQ_chk2 (fun ha7_o hb8_o => ?_)
      refine gQ_ite ?_ ?_
      · refine gQ_map ?_
        exact gQ_ret h5_o
      · refine gQ_chk2 (fun ha9_o hb10_o => ?_)
        refine gQ_ite ?_ ?_
        · refine gQ_map ?_
          exact gQ_ret h5_o
        · exact gQ_ret ⟨rfl, (Fw_w h5_o rfl (hU_o 1 _ rfl))⟩
    · refine gQ_map ?_
      exact gQ_ret h5_o

theorem ofb_78_159 {W : Nat → Nat → Bool} {g s : gS} {x0 : Nat} {x2 : Int} {w0 : Int} (hg_o : RF g) (hU_o : ∀ a k, csq a k = true → W a k = true) (ex0_o : x0 = 1) (h_o : Fw W g s) : gQ (fb_78_159 x0 x2 w0 s) (fun r => Fw W g r.2.2.2) := by
  subst ex0_o
  unfold fb_78_159
  refine gQ_ite ?_ ?_
  · exact (ofb_78_172 hg_o hU_o rfl h_o)
  · exact (ofb_78_172 hg_o hU_o rfl h_o)

theorem ofb_78_135 {W : Nat → Nat → Bool} {g s : gS} {x0 : Nat} {x2 : Int} {w0 : Int} {w1 : Nat} (hg_o : RF g) (hU_o : ∀ a k, csq a k = true → W a k = true) (ex0_o : x0 = 1) (ew1_o : w1 = 1) (h_o : Fw W g s) : gQ (fb_78_135 x0 x2 w0 w1 s) (fun r => Fw W g r.2.2.2) := by
  subst ex0_o ew1_o
  unfold fb_78_135
  dsimp only
  refine gQ_ite ?_ ?_
  · exact (ofb_78_159 hg_o hU_o rfl (Fw_w (Fw_w h_o rfl (hU_o 1 _ rfl)) rfl (hU_o 1 _ rfl)))
  · exact (ofb_78_159 hg_o hU_o rfl (Fw_w (Fw_w h_o rfl (hU_o 1 _ rfl)) rfl (hU_o 1 _ rfl)))

theorem ofb_78_116 {W : Nat → Nat → Bool} {g s : gS} {x0 : Nat} {x2 : Int} {w0 : Int} (hg_o : RF g) (hU_o : ∀ a k, csq a k = true → W a k = true) (ex0_o : x0 = 1) (h_o : Fw W g s) : gQ (fb_78_116 x0 x2 w0 s) (fun r => Fw W g r.2.2.2) := by
  subst ex0_o
  unfold fb_78_116
  refine gQ_ite ?_ ?_
  · refine gQ_ite ?_ ?_
    · exact (ofb_78_135 hg_o hU_o rfl rfl h_o)
    · exact (ofb_78_135 hg_o hU_o rfl rfl h_o)
  · exact (ofb_78_135 hg_o hU_o rfl rfl h_o)

theorem ofb_78_115 {W : Nat → Nat → Bool} {g s : gS} {x0 : Nat} {x2 : Int} (hg_o : RF g) (hU_o : ∀ a k, csq a k = true → W a k = true) (ex0_o : x0 = 1) (h_o : Fw W g s) : gQ (fb_78_115 x0 x2 s) (fun r => Fw W g r.2.2.2) := by
  subst ex0_o
  unfold fb_78_115
  exact (ofb_78_116 hg_o hU_o rfl h_o)

theorem ofb_78_98 {W : Nat → Nat → Bool} {g s : gS} {x0 : Nat} {x1 : Int} {w0 : Int} (hg_o : RF g) (hU_o : ∀ a k, csq a k = true → W a k = true) (ex0_o : x0 = 1) (h_o : Fw W g s) : gQ (fb_78_98 x0 x1 w0 s) (fun r => Fw W g r.2.2.2) := by
  subst ex0_o
  unfold fb_78_98
  refine gQ_ite ?_ ?_
  · exact (ofb_78_115 hg_o hU_o rfl h_o)
  · refine gQ_ite ?_ ?_
    · exact (ofb_78_115 hg_o hU_o rfl h_o)
    · exact (ofb_78_116 hg_o hU_o rfl h_o)

theorem ofb_78_97 {W : Nat → Nat → Bool} {g s : gS} {x0 : Nat} {x1 : Int} (hg_o : RF g) (hU_o : ∀ a k, csq a k = true → W a k = true) (ex0_o : x0 = 1) (h_o : Fw W g s) : gQ (fb_78_97 x0 x1 s) (fun r => Fw W g r.2.2.2) := by
  subst ex0_o
  unfold fb_78_97
  exact (ofb_78_98 hg_o hU_o rfl h_o)

theorem ofb_78_46 {W : Nat → Nat → Bool} {g s : gS} {x0 : Nat} (hg_o : RF g) (hU_o : ∀ a k, csq a k = true → W a k = true) (ex0_o : x0 = 1) (h_o : Fw W g s) : gQ (fb_78_46 x0 s) (fun r => Fw W g r.2.2.2) := by
  subst ex0_o
  unfold fb_78_46
  dsimp only
  refine gQ_ite ?_ ?_
  · refine gQ_chk2 (fun ha11_o hb12_o => ?_)
    refine gQ_ite ?_ ?_
    · exact (ofb_78_97 hg_o hU_o rfl (Fw_w h_o rfl (hU_o 1 _ rfl)))
    · refine gQ_ite ?_ ?_
      · exact (ofb_78_97 hg_o hU_o rfl (Fw_w h_o rfl (hU_o 1 _ rfl)))
      · exact (ofb_78_98 hg_o hU_o rfl (Fw_w h_o rfl (hU_o 1 _ rfl)))
  · exact gQ_ret (Fw_w (Fw_w h_o rfl (hU_o 1 _ rfl)) rfl (hU_o 1 _ rfl))

theorem o_78 {W : Nat → Nat → Bool} {g s : gS} {a0 : Nat} (hg_o : RF g) (hU_o : ∀ a k, csq a k = true → W a k = true) (ea0_o : a0 = 1) (h_o : Fw W g s) : gQ (f_78 a0 s) (fun r => Fw W g r.2.2.2) := by
  subst ea0_o
  unfold f_78
  dsimp only
  refine gQ_loop (fun y_l => y_l.1 = 1 ∧ Fw W g (y_l.2)) (fun y_l hy_o => ?_) ⟨rfl, (Fw_w h_o rfl (hU_o 1 _ rfl))⟩
  obtain ⟨x13_o, x14_o⟩ := y_l
  obtain ⟨e16_o, h15_o⟩ := hy_o
  dsimp only at e16_o h15_o
  subst e16_o
  show gQ (sb_78_8 1 x14_o) _
  unfold sb_78_8
  dsimp only
  refine gQ_ite ?_ ?_
  · refine gQ_chk2 (fun ha17_o hb18_o => ?_)
    refine gQ_ite ?_ ?_
    · exact gQ_ret ⟨rfl, (Fw_w h15_o rfl (hU_o 1 _ rfl))⟩
    · refine gQ_map ?_
      exact (ofb_78_46 hg_o hU_o rfl h15_o)
  · refine gQ_map ?_
    exact (ofb_78_46 hg_o hU_o rfl h15_o)

theorem o_77 {W : Nat → Nat → Bool} {g s : gS} {a0 : Nat} (hg_o : RF g) (hU_o : ∀ a k, csq a k = true → W a k = true) (ea0_o : a0 = 1) (h_o : Fw W g s) : gQ (f_77 a0 s) (fun r => Fw W g r.2.2.2) := by
  subst ea0_o
  unfold f_77
  dsimp only
  refine gQ_v0 (A := Fw W g) (o_78 hg_o hU_o rfl (Fw_w h_o rfl (hU_o 1 _ rfl))) (fun s2_l h19_o => ?_)
  exact gQ_ret h19_o

theorem o_79 {W : Nat → Nat → Bool} {g s : gS} {a0 : Nat} (hg_o : RF g) (hU_o : ∀ a k, csq a k = true → W a k = true) (ea0_o : a0 = 1) (h_o : Fw W g s) : gQ (f_79 a0 s) (fun r => Fw W g r.2.2.2) := by
  subst ea0_o
  unfold f_79
  refine gQ_ite ?_ ?_
  · exact gQ_ret h_o
  · exact gQ_ret h_o

theorem o_80 {W : Nat → Nat → Bool} {g s : gS} {a0 : Nat} {a1 : Nat} (hg_o : RF g) (hU_o : ∀ a k, csq a k = true → W a k = true) (ea0_o : a0 = 1) (h_o : Fw W g s) : gQ (f_80 a0 a1 s) (fun r => Fw W g r.2.2.2) := by
  subst ea0_o
  unfold f_80
  refine gQ_ite ?_ ?_
  · refine gQ_v1 (A := Fw W g) (om_266 h_o) (fun v2 s1_l h20_o => ?_)
    refine gQ_ite ?_ ?_
    · refine gQ_loop (fun y_l => y_l.1 = 1 ∧ Fw W g (y_l.2.2.2)) (fun y_l hy_o => ?_) ⟨rfl, h20_o⟩
      obtain ⟨x21_o, x22_o, x23_o, x24_o⟩ := y_l
      obtain ⟨e26_o, h25_o⟩ := hy_o
      dsimp only at e26_o h25_o
      subst e26_o
      show gQ (sb_80_28 1 x22_o x23_o x24_o) _
      unfold sb_80_28
      refine gQ_v1 (A := Fw W g) (om_266 h25_o) (fun v4_l s3_l h27_o => ?_)
      refine gQ_ite ?_ ?_
      · refine gQ_chk2 (fun ha28_o hb29_o => ?_)
        refine gQ_v1 (A := Fw W g) (om_267 h27_o) (fun v6 s5 h30_o => ?_)
        refine gQ_ite ?_ ?_
        · exact gQ_ret ⟨rfl, h30_o⟩
        · refine gQ_map ?_
          exact gQ_ret h30_o
      · refine gQ_map ?_
        exact gQ_ret h27_o
    · exact gQ_ret h20_o
  · exact gQ_ret h_o

theorem o_81 {W : Nat → Nat → Bool} {g s : gS} {a0 : Nat} {a1 : Int} (hg_o : RF g) (hU_o : ∀ a k, csq a k = true → W a k = true) (ea0_o : a0 = 1) (h_o : Fw W g s) : gQ (f_81 a0 a1 s) (fun r => Fw W g r.2.2.2) := by
  subst ea0_o
  unfold f_81
  refine gQ_ite ?_ ?_
  · refine gQ_chk2 (fun ha31_o hb32_o => ?_)
    refine gQ_ite ?_ ?_
    · exact gQ_ret h_o
    · unfold fb_81_25
      exact gQ_ret h_o
  · unfold fb_81_25
    exact gQ_ret h_o

theorem o_82 {W : Nat → Nat → Bool} {g s : gS} {a0 : Nat} {a1 : Nat} (hg_o : RF g) (hU_o : ∀ a k, csq a k = true → W a k = true) (ea0_o : a0 = 1) (h_o : Fw W g s) : gQ (f_82 a0 a1 s) (fun r => Fw W g r.2.2.2) := by
  subst ea0_o
  unfold f_82
  refine gQ_v1 (A := Fw W g) (o_80 hg_o hU_o rfl h_o) (fun v2 s1_l h33_o => ?_)
  refine gQ_ite ?_ ?_
  · exact gQ_ret h33_o
  · refine gQ_v0 (A := Fw W g) (o_78 hg_o hU_o rfl h33_o) (fun s4_l h34_o => ?_)
    exact gQ_ret h34_o

theorem o_83 {W : Nat → Nat → Bool} {g s : gS} {a0 : Nat} {a1 : Int} (hg_o : RF g) (hU_o : ∀ a k, csq a k = true → W a k = true) (ea0_o : a0 = 1) (h_o : Fw W g s) : gQ (f_83 a0 a1 s) (fun r => Fw W g r.2.2.2) := by
  subst ea0_o
  unfold f_83
  refine gQ_v1 (A := Fw W g) (o_81 hg_o hU_o rfl h_o) (fun v2 s1_l h35_o => ?_)
  refine gQ_ite ?_ ?_
  · exact gQ_ret h35_o
  · refine gQ_v0 (A := Fw W g) (o_78 hg_o hU_o rfl h35_o) (fun s4_l h36_o => ?_)
    exact gQ_ret h36_o

theorem o_84 {W : Nat → Nat → Bool} {g s : gS} {a0 : Nat} {a1 : Int} {a2 : Int} (hg_o : RF g) (hU_o : ∀ a k, csq a k = true → W a k = true) (ea0_o : a0 = 1) (h_o : Fw W g s) : gQ (f_84 a0 a1 a2 s) (fun r => Fw W g r.2.2.2) := by
  subst ea0_o
  unfold f_84
  refine gQ_ite ?_ ?_
  · refine gQ_ite ?_ ?_
    · exact gQ_ret h_o
    · refine gQ_loop (fun y_l => y_l.1 = 1 ∧ Fw W g (y_l.2.2.2.2.2)) (fun y_l hy_o => ?_) ⟨rfl, h_o⟩
      obtain ⟨x37_o, x38_o, x39_o, x40_o, x41_o, x42_o⟩ := y_l
      obtain ⟨e44_o, h43_o⟩ := hy_o
      dsimp only at e44_o h43_o
      subst e44_o
      show gQ (sb_84_31 1 x38_o x39_o x40_o x41_o x42_o) _
      unfold sb_84_31
      dsimp only
      refine gQ_ite ?_ ?_
      · refine gQ_chk2 (fun ha45_o hb46_o => ?_)
        exact gQ_ret ⟨rfl, h43_o⟩
      · refine gQ_map ?_
        refine gQ_ite ?_ ?_
        · exact gQ_ret h43_o
        · refine gQ_ite ?_ ?_
          · exact gQ_ret h43_o
          · refine gQ_v0 (A := Fw W g) (o_78 hg_o hU_o rfl h43_o) (fun s2_l h47_o => ?_)
            exact gQ_ret h47_o
  · exact gQ_ret h_o

theorem o_45 {W : Nat → Nat → Bool} {g s : gS} {a0 : Nat} {a1 : Int} (hg_o : RF g) (hU_o : ∀ a k, csq a k = true → W a k = true) (ea0_o : a0 = 7) (h_o : Fw W g s) : gQ (f_45 a0 a1 s) (fun r => Fw W g r.2.2.2) := by
  subst ea0_o
  unfold f_45
  dsimp only
  refine gQ_ite ?_ ?_
  · refine gQ_chk2 (fun ha48_o hb49_o => ?_)
    exact gQ_ret (Fw_w (Fw_w h_o (fr_r h_o rfl (rr_7_1 hg_o)) (hU_o 8 _ rfl)) rfl (hU_o 7 _ rfl))
  · exact gQ_ret h_o

theorem o_52 {W : Nat → Nat → Bool} {g s : gS} {a0 : Nat} (hg_o : RF g) (hU_o : ∀ a k, csq a k = true → W a k = true) (ea0_o : a0 = 7) (h_o : Fw W g s) : gQ (f_52 a0 s) (fun r => Fw W g r.2.2.2) := by
  subst ea0_o
  unfold f_52
  refine gQ_v1 (A := Fw W g) (o_80 hg_o hU_o (fr_r h_o rfl (rr_7_0 hg_o)) h_o) (fun v2 s1_l h50_o => ?_)
  refine gQ_ite ?_ ?_
  · refine gQ_v1 (A := Fw W g) (o_80 hg_o hU_o (fr_r h50_o rfl (rr_7_0 hg_o)) h50_o) (fun v5 s4_l h51_o => ?_)
    refine gQ_ite ?_ ?_
    · refine gQ_v1 (A := Fw W g) (o_80 hg_o hU_o (fr_r h51_o rfl (rr_7_0 hg_o)) h51_o) (fun v8 s7 h52_o => ?_)
      refine gQ_ite ?_ ?_
      · refine gQ_v1 (A := Fw W g) (o_80 hg_o hU_o (fr_r h52_o rfl (rr_7_0 hg_o)) h52_o) (fun v11 s10 h53_o => ?_)
        refine gQ_ite ?_ ?_
        · refine gQ_v1 (A := Fw W g) (o_80 hg_o hU_o (fr_r h53_o rfl (rr_7_0 hg_o)) h53_o) (fun v14 s13 h54_o => ?_)
          refine gQ_ite ?_ ?_
          · refine gQ_v1 (A := Fw W g) (o_80 hg_o hU_o (fr_r h54_o rfl (rr_7_0 hg_o)) h54_o) (fun v17 s16 h55_o => ?_)
            refine gQ_ite ?_ ?_
            · refine gQ_v1 (A := Fw W g) (o_80 hg_o hU_o (fr_r h55_o rfl (rr_7_0 hg_o)) h55_o) (fun v20 s19 h56_o => ?_)
              refine gQ_ite ?_ ?_
              · exact gQ_ret h56_o
              · exact gQ_ret h56_o
            · exact gQ_ret h55_o
          · exact gQ_ret h54_o
        · exact gQ_ret h53_o
      · exact gQ_ret h52_o
    · exact gQ_ret h51_o
  · exact gQ_ret h50_o

theorem o_51 {W : Nat → Nat → Bool} {g s : gS} {a0 : Nat} (hg_o : RF g) (hU_o : ∀ a k, csq a k = true → W a k = true) (ea0_o : a0 = 7) (h_o : Fw W g s) : gQ (f_51 a0 s) (fun r => Fw W g r.2.2.2) := by
  subst ea0_o
  unfold f_51
  refine gQ_v1 (A := Fw W g) (o_84 hg_o hU_o (fr_r h_o rfl (rr_7_0 hg_o)) h_o) (fun v2 s1_l h57_o => ?_)
  refine gQ_ite ?_ ?_
  · refine gQ_v1 (A := Fw W g) (o_52 hg_o hU_o rfl h57_o) (fun v4_l s3_l h58_o => ?_)
    refine gQ_ite ?_ ?_
    · exact gQ_ret h58_o
    · refine gQ_v0 (A := Fw W g) (o_78 hg_o hU_o (fr_r h58_o rfl (rr_7_0 hg_o)) h58_o) (fun s5 h59_o => ?_)
      refine gQ_v1 (A := Fw W g) (o_45 hg_o hU_o rfl h59_o) (fun v8 s7 h60_o => ?_)
      exact gQ_ret h60_o
  · refine gQ_v1 (A := Fw W g) (o_45 hg_o hU_o rfl h57_o) (fun v11 s10 h61_o => ?_)
    exact gQ_ret h61_o

theorem o_50 {W : Nat → Nat → Bool} {g s : gS} {a0 : Nat} (hg_o : RF g) (hU_o : ∀ a k, csq a k = true → W a k = true) (ea0_o : a0 = 7) (h_o : Fw W g s) : gQ (f_50 a0 s) (fun r => Fw W g r.2.2.2) := by
  subst ea0_o
  unfold f_50
  refine gQ_v1 (A := Fw W g) (o_51 hg_o hU_o rfl h_o) (fun v2 s1_l h62_o => ?_)
  refine gQ_loop (fun y_l => y_l.1 = 7 ∧ Fw W g (y_l.2.2.2)) (fun y_l hy_o => ?_) ⟨rfl, h62_o⟩
  obtain ⟨x63_o, x64_o, x65_o, x66_o⟩ := y_l
  obtain ⟨e68_o, h67_o⟩ := hy_o
  dsimp only at e68_o h67_o
  subst e68_o
  show gQ (sb_50_7 7 x64_o x65_o x66_o) _
  unfold sb_50_7
  refine gQ_ite ?_ ?_
  · refine gQ_ite ?_ ?_
    · refine gQ_map ?_
      refine gQ_bool ?_
      exact gQ_ret h67_o
    · refine gQ_v1 (A := Fw W g) (o_83 hg_o hU_o (fr_r h67_o rfl (rr_7_0 hg_o)) h67_o) (fun v5 s4_l h69_o => ?_)
      refine gQ_ite ?_ ?_
      · refine gQ_map ?_
        refine gQ_bool ?_
        exact gQ_ret h69_o
      · refine gQ_v1 (A := Fw W g) (o_51 hg_o hU_o rfl h69_o) (fun v8 s7 h70_o => ?_)
        refine gQ_ite ?_ ?_
        · unfold fb_50_51
          exact gQ_ret ⟨rfl, h70_o⟩
        · refine gQ_v1 (A := Fw W g) (o_45 hg_o hU_o rfl h70_o) (fun v11 s10 h71_o => ?_)
          refine gQ_ite ?_ ?_
          · unfold fb_50_51
            exact gQ_ret ⟨rfl, h71_o⟩
          · exact gQ_ret ⟨rfl, h71_o⟩
  · refine gQ_map ?_
    refine gQ_bool ?_
    exact gQ_ret h67_o

theorem o_47s {W : Nat → Nat → Bool} {g s : gS} {r_48 : Nat → Int → gS → Option gO} {a0 : Nat} {a1 : Int} (hg_o : RF g) (hU_o : ∀ a k, csq a k = true → W a k = true) (ea0_o : a0 = 7) (hr_48 : ∀ {a1 : Int} {s : gS}, Fw W g s → gQ (r_48 7 a1 s) (fun r => Fw W g r.2.2.2)) (h_o : Fw W g s) : gQ (fo_47 r_48 a0 a1 s) (fun r => Fw W g r.2.2.2) := by
  subst ea0_o
  unfold fo_47
  refine gQ_v1 (A := Fw W g) (hr_48 h_o) (fun v2 s1_l h72_o => ?_)
  refine gQ_loop (fun y_l => y_l.1 = 7 ∧ Fw W g (y_l.2.2.2.2)) (fun y_l hy_o => ?_) ⟨rfl, h72_o⟩
  obtain ⟨x73_o, x74_o, x75_o, x76_o, x77_o⟩ := y_l
  obtain ⟨e79_o, h78_o⟩ := hy_o
  dsimp only at e79_o h78_o
  subst e79_o
  show gQ (sb_47_8 r_48 7 x74_o x75_o x76_o x77_o) _
  unfold sb_47_8
  refine gQ_ite ?_ ?_
  · refine gQ_ite ?_ ?_
    · refine gQ_map ?_
      refine gQ_bool ?_
      exact gQ_ret h78_o
    · refine gQ_v1 (A := Fw W g) (o_82 hg_o hU_o (fr_r h78_o rfl (rr_7_0 hg_o)) h78_o) (fun v5 s4_l h80_o => ?_)
      refine gQ_ite ?_ ?_
      · refine gQ_map ?_
        refine gQ_bool ?_
        exact gQ_ret h80_o
      · refine gQ_v1 (A := Fw W g) (hr_48 h80_o) (fun v8 s7 h81_o => ?_)
        refine gQ_ite ?_ ?_
        · unfold fb_47_53
          exact gQ_ret ⟨rfl, h81_o⟩
        · refine gQ_v1 (A := Fw W g) (o_45 hg_o hU_o rfl h81_o) (fun v11 s10 h82_o => ?_)
          refine gQ_ite ?_ ?_
          · unfold fb_47_53
            exact gQ_ret ⟨rfl, h82_o⟩
          · exact gQ_ret ⟨rfl, h82_o⟩
  · refine gQ_map ?_
    refine gQ_bool ?_
    exact gQ_ret h78_o

theorem o_48s {W : Nat → Nat → Bool} {g s : gS} {r_49 : Nat → Int → gS → Option gO} {a0 : Nat} {a1 : Int} (hg_o : RF g) (hU_o : ∀ a k, csq a k = true → W a k = true) (ea0_o : a0 = 7) (hr_49 : ∀ {a1 : Int} {s : gS}, Fw W g s → gQ (r_49 7 a1 s) (fun r => Fw W g r.2.2.2)) (h_o : Fw W g s) : gQ (fo_48 r_49 a0 a1 s) (fun r => Fw W g r.2.2.2) := by
  subst ea0_o
  unfold fo_48
  refine gQ_v1 (A := Fw W g) (hr_49 h_o) (fun v2 s1_l h83_o => ?_)
  refine gQ_loop (fun y_l => y_l.1 = 7 ∧ Fw W g (y_l.2.2.2.2)) (fun y_l hy_o => ?_) ⟨rfl, h83_o⟩
  obtain ⟨x84_o, x85_o, x86_o, x87_o, x88_o⟩ := y_l
  obtain ⟨e90_o, h89_o⟩ := hy_o
  dsimp only at e90_o h89_o
  subst e90_o
  show gQ (sb_48_8 r_49 7 x85_o x86_o x87_o x88_o) _
  unfold sb_48_8
  refine gQ_ite ?_ ?_
  · refine gQ_ite ?_ ?_
    · refine gQ_map ?_
      refine gQ_bool ?_
      exact gQ_ret h89_o
    · refine gQ_v1 (A := Fw W g) (o_82 hg_o hU_o (fr_r h89_o rfl (rr_7_0 hg_o)) h89_o) (fun v5 s4_l h91_o => ?_)
      refine gQ_ite ?_ ?_
      · refine gQ_map ?_
        refine gQ_bool ?_
        exact gQ_ret h91_o
      · refine gQ_v1 (A := Fw W g) (hr_49 h91_o) (fun v8 s7 h92_o => ?_)
        refine gQ_ite ?_ ?_
        · unfold fb_48_53
          exact gQ_ret ⟨rfl, h92_o⟩
        · refine gQ_v1 (A := Fw W g) (o_45 hg_o hU_o rfl h92_o) (fun v11 s10 h93_o => ?_)
          refine gQ_ite ?_ ?_
          · unfold fb_48_53
            exact gQ_ret ⟨rfl, h93_o⟩
          · exact gQ_ret ⟨rfl, h93_o⟩
  · refine gQ_map ?_
    refine gQ_bool ?_
    exact gQ_ret h89_o

theorem o_49s {W : Nat → Nat → Bool} {g s : gS} {r_47 : Nat → Int → gS → Option gO} {r_49 : Nat → Int → gS → Option gO} {a0 : Nat} {a1 : Int} (hg_o : RF g) (hU_o : ∀ a k, csq a k = true → W a k = true) (ea0_o : a0 = 7) (hr_47 : ∀ {a1 : Int} {s : gS}, Fw W g s → gQ (r_47 7 a1 s) (fun r => Fw W g r.2.2.2)) (hr_49 : ∀ {a1 : Int} {s : gS}, Fw W g s → gQ (r_49 7 a1 s) (fun r => Fw W g r.2.2.2)) (h_o : Fw W g s) : gQ (fo_49 r_47 r_49 a0 a1 s) (fun r => Fw W g r.2.2.2) := by
  subst ea0_o
  unfold fo_49
  refine gQ_v1 (A := Fw W g) (o_80 hg_o hU_o (fr_r h_o rfl (rr_7_0 hg_o)) h_o) (fun v2 s1_l h94_o => ?_)
  refine gQ_ite ?_ ?_
  · refine gQ_v1 (A := Fw W g) (o_81 hg_o hU_o (fr_r h94_o rfl (rr_7_0 hg_o)) h94_o) (fun v5 s4_l h95_o => ?_)
    refine gQ_ite ?_ ?_
    · refine gQ_v1 (A := Fw W g) (o_82 hg_o hU_o (fr_r h95_o rfl (rr_7_0 hg_o)) h95_o) (fun v8 s7 h96_o => ?_)
      refine gQ_ite ?_ ?_
      · refine gQ_v1 (A := Fw W g) (o_82 hg_o hU_o (fr_r h96_o rfl (rr_7_0 hg_o)) h96_o) (fun v11 s10 h97_o => ?_)
        refine gQ_ite ?_ ?_
        · refine gQ_v1 (A := Fw W g) (o_50 hg_o hU_o rfl h97_o) (fun v14 s13 h98_o => ?_)
          refine gQ_ite ?_ ?_
          · exact gQ_ret h98_o
          · refine gQ_v1 (A := Fw W g) (o_83 hg_o hU_o (fr_r h98_o rfl (rr_7_0 hg_o)) h98_o) (fun v17 s16 h99_o => ?_)
            refine gQ_ite ?_ ?_
            · refine gQ_v1 (A := Fw W g) (o_83 hg_o hU_o (fr_r h99_o rfl (rr_7_0 hg_o)) h99_o) (fun v20 s19 h100_o => ?_)
              refine gQ_ite ?_ ?_
              · unfold fb_49_207
                exact gQ_ret h100_o
              · unfold fb_49_176
                refine gQ_v1 (A := Fw W g) (o_50 hg_o hU_o rfl h100_o) (fun v23 s22 h101_o => ?_)
                refine gQ_ite ?_ ?_
                · unfold fb_49_207
                  exact gQ_ret h101_o
                · refine gQ_ite ?_ ?_
                  · unfold fb_49_197
                    refine gQ_v1 (A := Fw W g) (o_45 hg_o hU_o rfl h101_o) (fun v26 s25 h102_o => ?_)
                    refine gQ_ite ?_ ?_
                    · unfold fb_49_207
                      exact gQ_ret h102_o
                    · exact gQ_ret h102_o
                  · unfold fb_49_197
                    refine gQ_v1 (A := Fw W g) (o_45 hg_o hU_o rfl h101_o) (fun v26 s25 h103_o => ?_)
                    refine gQ_ite ?_ ?_
                    · unfold fb_49_207
                      exact gQ_ret h103_o
                    · exact gQ_ret h103_o
            · unfold fb_49_176
              refine gQ_v1 (A := Fw W g) (o_50 hg_o hU_o rfl h99_o) (fun v23 s22 h104_o => ?_)
              refine gQ_ite ?_ ?_
              · unfold fb_49_207
                exact gQ_ret h104_o
              · refine gQ_ite ?_ ?_
                · unfold fb_49_197
                  refine gQ_v1 (A := Fw W g) (o_45 hg_o hU_o rfl h104_o) (fun v26 s25 h105_o => ?_)
                  refine gQ_ite ?_ ?_
                  · unfold fb_49_207
                    exact gQ_ret h105_o
                  · exact gQ_ret h105_o
                · unfold fb_49_197
                  refine gQ_v1 (A := Fw W g) (o_45 hg_o hU_o rfl h104_o) (fun v26 s25 h106_o => ?_)
                  refine gQ_ite ?_ ?_
                  · unfold fb_49_207
                    exact gQ_ret h106_o
                  · exact gQ_ret h106_o
        · refine gQ_v1 (A := Fw W g) (o_45 hg_o hU_o rfl h97_o) (fun v29 s28 h107_o => ?_)
          exact gQ_ret h107_o
      · refine gQ_v1 (A := Fw W g) (o_45 hg_o hU_o rfl h96_o) (fun v32 s31 h108_o => ?_)
        exact gQ_ret h108_o
    · unfold fb_49_26
      refine gQ_ite ?_ ?_
      · refine gQ_v0 (A := Fw W g) (o_78 hg_o hU_o (fr_r h95_o rfl (rr_7_0 hg_o)) h95_o) (fun s34 h109_o => ?_)
        refine gQ_ite ?_ ?_
        · refine gQ_v1 (A := Fw W g) (hr_47 h109_o) (fun v37 s36 h110_o => ?_)
          refine gQ_ite ?_ ?_
          · unfold fb_49_99
            exact gQ_ret h110_o
          · refine gQ_v1 (A := Fw W g) (o_83 hg_o hU_o (fr_r h110_o rfl (rr_7_0 hg_o)) h110_o) (fun v40 s39 h111_o => ?_)
            refine gQ_ite ?_ ?_
            · unfold fb_49_99
              exact gQ_ret h111_o
            · exact gQ_ret h111_o
        · refine gQ_v1 (A := Fw W g) (hr_49 h109_o) (fun v43 s42 h112_o => ?_)
          refine gQ_ite ?_ ?_
          · exact gQ_ret h112_o
          · refine gQ_v1 (A := Fw W g) (o_45 hg_o hU_o rfl h112_o) (fun v46 s45 h113_o => ?_)
            refine gQ_ite ?_ ?_
            · exact gQ_ret h113_o
            · exact gQ_ret h113_o
      · exact gQ_ret h95_o
  · unfold fb_49_26
    refine gQ_ite ?_ ?_
    · refine gQ_v0 (A := Fw W g) (o_78 hg_o hU_o (fr_r h94_o rfl (rr_7_0 hg_o)) h94_o) (fun s34 h114_o => ?_)
      refine gQ_ite ?_ ?_
      · refine gQ_v1 (A := Fw W g) (hr_47 h114_o) (fun v37 s36 h115_o => ?_)
        refine gQ_ite ?_ ?_
        · unfold fb_49_99
          exact gQ_ret h115_o
        · refine gQ_v1 (A := Fw W g) (o_83 hg_o hU_o (fr_r h115_o rfl (rr_7_0 hg_o)) h115_o) (fun v40 s39 h116_o => ?_)
          refine gQ_ite ?_ ?_
          · unfold fb_49_99
            exact gQ_ret h116_o
          · exact gQ_ret h116_o
      · refine gQ_v1 (A := Fw W g) (hr_49 h114_o) (fun v43 s42 h117_o => ?_)
        refine gQ_ite ?_ ?_
        · exact gQ_ret h117_o
        · refine gQ_v1 (A := Fw W g) (o_45 hg_o hU_o rfl h117_o) (fun v46 s45 h118_o => ?_)
          refine gQ_ite ?_ ?_
          · exact gQ_ret h118_o
          · exact gQ_ret h118_o
    · exact gQ_ret h94_o

theorem o_47n {W : Nat → Nat → Bool} {g : gS} (hg_o : RF g) (hU_o : ∀ a k, csq a k = true → W a k = true) (n : Nat) : (∀ {a1 : Int} {s : gS}, Fw W g s → gQ (fn_47 n 7 a1 s) (fun r => Fw W g r.2.2.2)) ∧ (∀ {a1 : Int} {s : gS}, Fw W g s → gQ (fn_48 n 7 a1 s) (fun r => Fw W g r.2.2.2)) ∧ (∀ {a1 : Int} {s : gS}, Fw W g s → gQ (fn_49 n 7 a1 s) (fun r => Fw W g r.2.2.2)) := by
  induction n with
  | zero => exact ⟨fun _ => gQ_none, fun _ => gQ_none, fun _ => gQ_none⟩
  | succ n ih_l =>
    exact ⟨fun {a1 s} hh_o => (o_47s hg_o hU_o rfl (fun h_l => ih_l.2.1 h_l) hh_o : gQ (fo_47 (rg_47 n).2.1 7 a1 s) _), fun {a1 s} hh_o => (o_48s hg_o hU_o rfl (fun h_l => ih_l.2.2 h_l) hh_o : gQ (fo_48 (rg_47 n).2.2 7 a1 s) _), fun {a1 s} hh_o => (o_49s hg_o hU_o rfl (fun h_l => ih_l.1 h_l) (fun h_l => ih_l.2.2 h_l) hh_o : gQ (fo_49 (rg_47 n).1 (rg_47 n).2.2 7 a1 s) _)⟩
theorem o_47 {W : Nat → Nat → Bool} {g s : gS} {a0 : Nat} {a1 : Int} (hg_o : RF g) (hU_o : ∀ a k, csq a k = true → W a k = true) (ea0_o : a0 = 7) (h_o : Fw W g s) : gQ (f_47 a0 a1 s) (fun r => Fw W g r.2.2.2) := by
  subst ea0_o
  exact (o_47n hg_o hU_o 24).1 h_o

theorem ofb_46_97 {W : Nat → Nat → Bool} {g s : gS} {x2 : Int} {w0 : Int} {w1 : Nat} (hg_o : RF g) (hU_o : ∀ a k, csq a k = true → W a k = true) (ew1_o : w1 = 7) (h_o : Fw W g s) : gQ (fb_46_97 x2 w0 w1 s) (fun r => Fw W g r.2.2.2) := by
  subst ew1_o
  unfold fb_46_97
  refine gQ_v1 (A := Fw W g) (o_45 hg_o hU_o rfl h_o) (fun v18 s17 h119_o => ?_)
  refine gQ_ite ?_ ?_
  · unfold fb_46_109
    exact gQ_ret h119_o
  · exact gQ_ret h119_o

theorem ofb_46_78 {W : Nat → Nat → Bool} {g s : gS} {x0 : Nat} {x1 : Int} {x2 : Int} {w0 : Int} (hg_o : RF g) (hU_o : ∀ a k, csq a k = true → W a k = true) (ex0_o : x0 = 7) (h_o : Fw W g s) : gQ (fb_46_78 x0 x1 x2 w0 s) (fun r => Fw W g r.2.2.2) := by
  subst ex0_o
  unfold fb_46_78
  refine gQ_ite ?_ ?_
  · unfold fb_46_109
    exact gQ_ret h_o
  · refine gQ_ite ?_ ?_
    · exact (ofb_46_97 hg_o hU_o rfl h_o)
    · exact (ofb_46_97 hg_o hU_o rfl h_o)

theorem ofb_46_28 {W : Nat → Nat → Bool} {g s : gS} {x0 : Nat} {x1 : Int} (hg_o : RF g) (hU_o : ∀ a k, csq a k = true → W a k = true) (ex0_o : x0 = 7) (h_o : Fw W g s) : gQ (fb_46_28 x0 x1 s) (fun r => Fw W g r.2.2.2) := by
  subst ex0_o
  unfold fb_46_28
  refine gQ_v0 (A := Fw W g) (o_78 hg_o hU_o (fr_r h_o rfl (rr_7_0 hg_o)) h_o) (fun s7 h120_o => ?_)
  refine gQ_v1 (A := Fw W g) (o_84 hg_o hU_o (fr_r h120_o rfl (rr_7_0 hg_o)) h120_o) (fun v10 s9 h121_o => ?_)
  refine gQ_ite ?_ ?_
  · exact gQ_ret h121_o
  · refine gQ_v1 (A := Fw W g) (o_82 hg_o hU_o (fr_r h121_o rfl (rr_7_0 hg_o)) h121_o) (fun v12 s11 h122_o => ?_)
    refine gQ_ite ?_ ?_
    · refine gQ_v1 (A := Fw W g) (o_45 hg_o hU_o rfl h122_o) (fun v15 s14 h123_o => ?_)
      exact (ofb_46_78 hg_o hU_o rfl h123_o)
    · refine gQ_v1 (A := Fw W g) (o_47 hg_o hU_o rfl h122_o) (fun v21 s20 h124_o => ?_)
      exact (ofb_46_78 hg_o hU_o rfl h124_o)

theorem o_46 {W : Nat → Nat → Bool} {g s : gS} {a0 : Nat} (hg_o : RF g) (hU_o : ∀ a k, csq a k = true → W a k = true) (ea0_o : a0 = 7) (h_o : Fw W g s) : gQ (f_46 a0 s) (fun r => Fw W g r.2.2.2) := by
  subst ea0_o
  unfold f_46
  refine gQ_v1 (A := Fw W g) (o_80 hg_o hU_o (fr_r h_o rfl (rr_7_0 hg_o)) h_o) (fun v2 s1_l h125_o => ?_)
  refine gQ_ite ?_ ?_
  · refine gQ_v1 (A := Fw W g) (o_80 hg_o hU_o (fr_r h125_o rfl (rr_7_0 hg_o)) h125_o) (fun v5 s4_l h126_o => ?_)
    refine gQ_ite ?_ ?_
    · exact gQ_ret h126_o
    · exact (ofb_46_28 hg_o hU_o rfl h126_o)
  · exact (ofb_46_28 hg_o hU_o rfl h125_o)

end
section
/-! law on both sides -/
section Lw4
variable {W : Nat → Nat → Bool} {g s t : gS} {Q : Type} {P : Q → Prop} {p : gP}
theorem gQ_vr {z : Option gO} {A : gS → Prop} {E : Nat → gS → Option Q} (h : gQ z (fun r => A r.2.2.2)) (k : ∀ v s, A s → gQ (E v s) P) : gQ (z.bind (gvr E)) P := by
  cases z with
  | none => exact gQ_none
  | some r =>
    have hA := h r rfl
    show gQ (gvr E r) P
    unfold gvr
    exact gQ_ite (k _ _ hA) gQ_none
theorem gQ_c1 {z : Option gO} {A : gS → Prop} {C : Nat → gS → Option Q} {E : Int → gS → Option Q} (h : gQ z (fun r => A r.2.2.2)) (k : ∀ v s, A s → gQ (E v s) P) (kz : ∀ t s, A s → gQ (C t s) P) : gQ (z.bind (gc1 C E)) P := by
  cases z with
  | none => exact gQ_none
  | some r =>
    have hA := h r rfl
    show gQ (gc1 C E r) P
    unfold gc1
    exact gQ_ite (k _ _ hA) (gQ_ite (kz _ _ hA) gQ_none)
theorem Fw_ge {A k : Nat} {v : Int} (h : Fw W g s) (hA : gn g ≤ A) : Fw W g (gw s A k v) := by
  refine ⟨h.1, h.2.1, fun b_l j_l hb_l hf => ?_⟩
  show (if b_l = A ∧ j_l = k then v else gI s b_l j_l) = _
  rw [if_neg (fun e_l => by omega)]
  exact h.2.2 b_l j_l hb_l hf
theorem Fw_gr {A k r : Nat} (h : Fw W g s) (hA : gn g ≤ A) : Fw W g (gwr s A k r) := by
  refine ⟨h.1, fun b_l j_l hb_l => ?_, h.2.2⟩
  show (if b_l = A ∧ j_l = k then r else gR s b_l j_l) = _
  rw [if_neg (fun e_l => by omega)]
  exact h.2.1 b_l j_l hb_l
theorem Fw_gc {A B sp dp n : Nat} (h : Fw W g s) (hB : gn g ≤ B) : Fw W g (gcpy s A sp B dp n) := by
  refine ⟨h.1, h.2.1, fun c_l j_l hc_l hf => ?_⟩
  show (if c_l = B ∧ dp ≤ j_l ∧ j_l < dp + n then gI s A (sp + (j_l - dp)) else gI s c_l j_l) = _
  rw [if_neg (fun e_l => by omega)]
  exact h.2.2 c_l j_l hc_l hf
theorem o_274 {a0 : Nat} {a1 : Int} (h : Fw W g s) : gQ (f_274 a0 a1 s) (fun r => Fw W g r.2.2.2) := by
  unfold f_274
  exact gQ_ite gQ_none (gQ_chk (gQ_ite gQ_none (gQ_ret (Fw_gc (Fw_n h) h.1.2.1))))
theorem o_44e {x B : Nat} {i n : Int} (h : Fw W g s) (hB : B = gn s) : gQ ((f_274 x i (gnw s 4)).bind (gvr (fun v18 s17 => (f_42 B n v18 s17).bind (gv0 (fun s19 => if B = 0 then none else some ((1, 0, B, s19) : gO)))))) (fun r => Fw W g r.2.2.2) := by
  have hl : gn g ≤ B := by
    rw [hB]
    exact h.1.2.1
  refine gQ_vr (A := Fw W g) (o_274 (Fw_n h)) (fun v_l t_l ht => ?_)
  unfold f_42
  dsimp only
  refine gQ_v0 (A := Fw W g) (gQ_ret (Fw_gr (Fw_ge ht hl) hl)) (fun u_l hu => ?_)
  exact gQ_ite gQ_none (gQ_ret hu)
theorem o_44 {a0 : Nat} (hg : RF g) (hU : ∀ a k, csq a k = true → W a k = true) (e0 : a0 = 7) (h : Fw W g s) : gQ (f_44 a0 s) (fun r => Fw W g r.2.2.2) := by
  subst e0
  unfold f_44
  dsimp only
  have h1 : Fw W g (gw s 7 2 0) := Fw_w h rfl (hU 7 _ rfl)
  refine gQ_v0 (A := Fw W g) (o_77 hg hU (fr_r h1 rfl (rr_7_0 hg)) h1) (fun s2_l h2 => ?_)
  refine gQ_v1 (A := Fw W g) (o_79 hg hU (fr_r h2 rfl (rr_7_0 hg)) h2) (fun v5 s4_l h4 => ?_)
  refine gQ_ite ?_ (o_44e h4 rfl)
  refine gQ_loop (fun y_l => y_l.1 = 7 ∧ Fw W g y_l.2.2) (fun y_l hy => ?_) ⟨rfl, h4⟩
  obtain ⟨x0_l, x1_l, t_l⟩ := y_l
  obtain ⟨q0, ht⟩ := hy
  dsimp only at q0 ht
  subst q0
  show gQ (sb_44_41 7 x1_l t_l) _
  unfold sb_44_41
  dsimp only
  refine gQ_ite (gQ_map (gQ_ret ht)) ?_
  refine gQ_v1 (A := Fw W g) (o_46 hg hU rfl ht) (fun v8 s7 h7 => ?_)
  refine gQ_ite (gQ_map (gQ_ret h7)) ?_
  refine gQ_v1 (A := Fw W g) (o_79 hg hU (fr_r h7 rfl (rr_7_0 hg)) h7) (fun v11 s10 h10 => ?_)
  refine gQ_ite ?_ (gQ_map (o_44e h10 rfl))
  refine gQ_v1 (A := Fw W g) (o_83 hg hU (fr_r h10 rfl (rr_7_0 hg)) h10) (fun v14 s13 h13 => ?_)
  exact gQ_ite (gQ_map (gQ_ret h13)) (gQ_ret ⟨rfl, h13⟩)
end Lw4
/-- the clauses of the relation -/
noncomputable def Rc1 (s : gS) : Prop := ∀ k, Tx k → gI s 218 k = cv s 9 15 k ∧ (k = 0 → gI s 218 k ≤ 12) ∧ (0 ≤ gI s 218 k ∧ gI s 218 k ≤ 100)
noncomputable def Rc2 (s : gS) : Prop := ∀ k, gI s 2 k = gI s 222 k
noncomputable def Rc3 (s : gS) : Prop := gI s 217 3 = 1 → ∀ k, Tx k → gI s 219 k = cv s 54 60 k ∧ (k = 0 → gI s 219 k ≤ 12) ∧ (0 ≤ gI s 219 k ∧ gI s 219 k ≤ 100)
noncomputable def Rc4 (s : gS) : Prop := (0 ≤ gI s 0 13 ∧ gI s 0 13 ≤ 11) ∧ (0 ≤ gI s 0 14 ∧ gI s 0 14 ≤ 12) ∧ ∀ j : Nat, (j : Int) < gI s 0 14 → ∀ k, Tc k → cv s 9 (pst (gI s 0 13) j) k = cv s 9 15 k
noncomputable def Rc5 (s : gS) : Prop := (0 ≤ gI s 217 6 ∧ gI s 217 6 ≤ 12) ∧ ∀ j : Nat, (j : Int) < gI s 217 6 → ∀ k, k < 340 → mnt k = false → gI s 221 (340 * j + k) = gI s 218 k
section Cl5
variable {s t : gS} {p : gP}
theorem Rt_5 (h1 : Rc1 s) (h2 : Rc2 s) (h3 : Rc3 s) (h4 : Rc4 s) (h5 : Rc5 s) : Rt s := ⟨h1, h2, h3, h4, h5⟩
theorem c1_e (h : Rc1 s) (h1 : ∀ a k, 9 ≤ a → a < 27 → gI t a k = gI s a k) (h2 : ∀ k, Tx k → gI t 218 k = gI s 218 k) : Rc1 t := fun k hk => by
  have hp := pa_15 k hk.1.1
  have e1_l : cv t 9 15 k = cv s 9 15 k := h1 _ _ hp.1 hp.2.1
  rw [h2 k hk, e1_l]
  exact h k hk
theorem c3_e (h : Rc3 s) (h0 : gI t 217 3 = gI s 217 3) (h1 : ∀ a k, 54 ≤ a → a < 72 → gI t a k = gI s a k) (h2 : ∀ k, gI t 219 k = gI s 219 k) : Rc3 t := fun he k hk => by
  have hp := pa_15 k hk.1.1
  have e1_l : cv t 54 60 k = cv s 54 60 k := h1 _ _ hp.2.2.1 hp.2.2.2
  rw [h2, e1_l]
  exact h (by rw [← h0]; exact he) k hk
theorem c4_0 (h : 0 ≤ gI t 0 13 ∧ gI t 0 13 ≤ 11) (h0 : gI t 0 14 = 0) : Rc4 t := ⟨h, by omega, fun j_l hj => by omega⟩
theorem c4_e (h : Rc4 s) (h3 : gI t 0 13 = gI s 0 13) (h4 : gI t 0 14 = gI s 0 14) (h1 : ∀ a k, 9 ≤ a → a < 27 → gI t a k = gI s a k) (h2 : ∀ a k, 73 ≤ a → a < 217 → gI t a k = gI s a k) : Rc4 t := by
  obtain ⟨x1_l, x2_l, x3⟩ := h
  refine ⟨by rw [h3]; exact x1_l, by rw [h4]; exact x2_l, fun j_l hj k hk => ?_⟩
  rw [h4] at hj
  have hp := pa_15 k (Tc_x hk).1.1
  have e1_l : cv t 9 15 k = cv s 9 15 k := h1 _ _ hp.1 hp.2.1
  obtain ⟨o, q_l, o1, o2, o3_l, o4_l⟩ := Tc_c hk
  have e2_l : cv t 9 (pst (gI s 0 13) j_l) k = cv s 9 (pst (gI s 0 13) j_l) k := by
    refine h2 _ _ ?_ ?_
    · rw [o2]
      unfold pst
      omega
    · rw [o2]
      unfold pst
      omega
  rw [h3, e1_l, e2_l]
  exact x3 j_l hj k hk
theorem c5_0 (h0 : gI t 217 6 = 0) : Rc5 t := ⟨by omega, fun j_l hj => by omega⟩
theorem c5_e (h : Rc5 s) (h0 : gI t 217 6 = gI s 217 6) (h1 : ∀ k, gI t 221 k = gI s 221 k) (h2 : ∀ k, gI t 218 k = gI s 218 k) : Rc5 t := ⟨by rw [h0]; exact h.1, fun j_l hj k hk hm_l => by
  rw [h1, h2]
  exact h.2 j_l (by rw [← h0]; exact hj) k hk hm_l⟩
theorem Rt_wr {a k r : Nat} (h : Rt s) : Rt (gwr s a k r) := h
theorem Rt_eq (h : Rt s) (hb : ∀ a k, a < 231 → gI t a k = gI s a k) : Rt t := by
  obtain ⟨h1, h2, h3, h4, h5⟩ := h
  exact Rt_5 (c1_e h1 (fun a k _ ha_l => hb a k (by omega)) (fun k _ => hb 218 k (by decide))) (fun k => (hb 2 k (by decide)).trans ((h2 k).trans (hb 222 k (by decide)).symm)) (c3_e h3 (hb 217 3 (by decide)) (fun a k _ ha_l => hb a k (by omega)) (fun k => hb 219 k (by decide))) (c4_e h4 (hb 0 13 (by decide)) (hb 0 14 (by decide)) (fun a k _ ha_l => hb a k (by omega)) (fun a k _ ha_l => hb a k (by omega))) (c5_e h5 (hb 217 6 (by decide)) (fun k => hb 221 k (by decide)) (fun k => hb 218 k (by decide)))
theorem Rt_231 {k : Nat} {v : Int} (h : Rt s) : Rt (gw s 231 k v) := Rt_eq h (fun a_l j_l ha_l => rd_a rfl (by omega))
theorem Rt_past (h : Rt s) : Rt (gw s 0 14 0) := by
  obtain ⟨h1, h2, h3, h4, h5⟩ := h
  have hb_l : ∀ a_l k_l, a_l ≠ 0 → gI (gw s 0 14 0) a_l k_l = gI s a_l k_l := fun a_l k_l ha_l => rd_a rfl ha_l
  have e13_l : gI (gw s 0 14 0) 0 13 = gI s 0 13 := rd_k rfl (by decide)
  exact Rt_5 (c1_e h1 (fun a_l k_l ha_l _ => hb_l a_l k_l (by omega)) (fun k_l _ => hb_l 218 k_l (by decide))) (fun k_l => (hb_l 2 k_l (by decide)).trans ((h2 k_l).trans (hb_l 222 k_l (by decide)).symm)) (c3_e h3 (hb_l 217 3 (by decide)) (fun a_l k_l ha_l _ => hb_l a_l k_l (by omega)) (fun k_l => hb_l 219 k_l (by decide))) (c4_0 (by rw [e13_l]; exact h4.1) (rd_same rfl)) (c5_e h5 (hb_l 217 6 (by decide)) (fun k_l => hb_l 221 k_l (by decide)) (fun k_l => hb_l 218 k_l (by decide)))
theorem rt_90 {a0 : Nat} (hg : RF s) (hn : 232 ≤ gn s) (e0 : a0 = 0) (h : Rt s) : gQ (f_90 a0 s) (fun r => Rt r.2.2.2) := by
  subst e0
  unfold f_90
  refine gQ_vr (A := Fw WR s) (o_44 hg uq (rr_0_3 hg).2 (Fw_rf hn)) (fun v2 s1_l h1 => ?_)
  have key_l : ∀ (x1_l : Nat) (w0_l : Int), gQ (fb_90_24 0 x1_l w0_l 0 s1_l) (fun r => Rt r.2.2.2) := fun x1_l w0_l => by
    unfold fb_90_24
    dsimp only
    have h2 : Fw WR s (gw s1_l 0 16 w0_l) := Fw_w h1 rfl rfl
    have q0 : gR (gw s1_l 0 16 w0_l) 0 0 = 1 := fr_r h2 rfl (rr_0_0 hg)
    rw [q0]
    have h3 : Fw WR s (gw (gw s1_l 0 16 w0_l) 1 1 0) := Fw_w h2 rfl rfl
    refine gQ_ite (gQ_ret (Rt_fw h (Fw_n h3))) ?_
    refine gQ_ite gQ_none (gQ_ret ?_)
    exact Rt_past (Rt_wr (Rt_fw h h3))
  exact gQ_ite (key_l _ _) (key_l _ _)
theorem om_183 {W : Nat → Nat → Bool} {g : gS} {a0 : Nat} (hU : ∀ a k, mss a k = true → W a k = true) (e0 : a0 = 217) (h : Fw W g s) : gQ (f_183 a0 s) (fun r => Fw W g r.2.2.2) := by
  subst e0
  unfold f_183
  dsimp only
  exact gQ_ret (Fw_w (Fw_w (Fw_w (Fw_w (Fw_w (Fw_w h rfl (hU 217 12 rfl)) rfl (hU 217 9 rfl)) rfl (hU 217 10 rfl)) rfl (hU 217 8 rfl)) rfl (hU 217 11 rfl)) rfl (hU 217 13 rfl))
theorem rt_195 {a0 : Nat} (hg : RF s) (hn : 232 ≤ gn s) (e0 : a0 = 217) (h : Rt s) : gQ (f_195 a0 s) (fun r => Rt r.2.2.2) := by
  subst e0
  unfold f_195
  refine gQ_v0 (A := Fw WR s) (om_183 um rfl (Fw_rf hn)) (fun s1_l h1 => ?_)
  refine gQ_v1 (A := Fw WR s) (om_184 hg um rfl rfl h1) (fun v4_l s3_l h3 => ?_)
  have key_l : ∀ w0_l : Int, gQ (fb_195_24 217 v4_l w0_l 217 s3_l) (fun r => Rt r.2.2.2) := fun w0_l => by
    unfold fb_195_24
    dsimp only
    have h4 : Fw WR s (gw s3_l 217 0 w0_l) := Fw_w h3 rfl (um 217 0 rfl)
    have hR := Rt_fw h h4
    refine gQ_ite (gQ_ret hR) ?_
    have r1_l : gR (gw s3_l 217 0 w0_l) 217 1 = 218 := fr_r h4 rfl (rr_217_1 hg)
    generalize gw s3_l 217 0 w0_l = u at *
    have r2 : gR (gw u 218 1 v4_l) 217 1 = 218 := r1_l
    rw [r1_l, r2]
    refine gQ_loop (fun y_l => y_l.1 = 217 ∧ 0 ≤ y_l.2.2.1 ∧ y_l.2.2.2.2.2.2 = u.2.2.2 ∧ ∀ a_l k_l, ¬ (a_l = 218 ∧ (k_l = 1 ∨ k_l = 2 ∨ 340 ≤ k_l)) → gI y_l.2.2.2 a_l k_l = gI u a_l k_l) (fun y_l hy => ?_) ⟨rfl, Int.le_refl 0, rfl, fun a_l k_l hz => ?_⟩
    · obtain ⟨y0, y1, x2_l, t_l⟩ := y_l
      obtain ⟨q0, q1_l, q2_l, q3_l⟩ := hy
      dsimp only at q0 q1_l q2_l q3_l
      subst q0
      have rt : gR t_l 217 1 = 218 := by
        show t_l.2.2.2 217 1 = 218
        rw [q2_l]
        exact r1_l
      show gQ (sb_195_55 217 y1 x2_l t_l) _
      unfold sb_195_55
      dsimp only
      rw [rt]
      refine gQ_ite (gQ_chk2 (fun c1_l c2_l => gQ_chk (gQ_ret ⟨rfl, ?_, q2_l, fun a_l k_l hz => ?_⟩))) (gQ_map (gQ_ret ?_))
      · dsimp only
        rw [g32_eq (v := x2_l + 1) (by omega) (by omega)]
        omega
      · dsimp only
        have e_l : g32 (340 + x2_l) = 340 + x2_l := g32_eq (by omega) (by omega)
        show (if a_l = 218 ∧ k_l = (g32 (340 + x2_l)).toNat then _ else gI t_l a_l k_l) = _
        rw [if_neg (fun z_l => by rw [e_l] at z_l; omega)]
        exact q3_l a_l k_l hz
      · have hb_l : ∀ a_l k_l, a_l ≠ 217 → ¬ (a_l = 218 ∧ (k_l = 1 ∨ k_l = 2 ∨ 340 ≤ k_l)) → gI (gw t_l 217 6 0) a_l k_l = gI u a_l k_l := fun a_l k_l ha_l hz => (rd_a rfl ha_l).trans (q3_l a_l k_l hz)
        have e3_l : gI (gw t_l 217 6 0) 217 3 = gI u 217 3 := (rd_k rfl (by decide)).trans (q3_l 217 3 (by omega))
        obtain ⟨h1, h2, h3, h4, h5⟩ := hR
        exact Rt_5 (c1_e h1 (fun a_l k_l ha_l ha2 => hb_l a_l k_l (by omega) (by omega)) (fun k_l hk => hb_l 218 k_l (by decide) (by have := hk.1; unfold KK at this; omega))) (fun k_l => (hb_l 2 k_l (by decide) (by omega)).trans ((h2 k_l).trans (hb_l 222 k_l (by decide) (by omega)).symm)) (c3_e h3 e3_l (fun a_l k_l ha_l ha2 => hb_l a_l k_l (by omega) (by omega)) (fun k_l => hb_l 219 k_l (by decide) (by omega))) (c4_e h4 (hb_l 0 13 (by decide) (by omega)) (hb_l 0 14 (by decide) (by omega)) (fun a_l k_l ha_l ha2 => hb_l a_l k_l (by omega) (by omega)) (fun a_l k_l ha_l ha2 => hb_l a_l k_l (by omega) (by omega))) (c5_0 (rd_same rfl))
    · show (if a_l = 218 ∧ k_l = 2 then _ else if a_l = 218 ∧ k_l = 1 then _ else gI u a_l k_l) = _
      rw [if_neg (by omega), if_neg (by omega)]
  exact gQ_ite (key_l _) (key_l _)
end Cl5

end
section
/-! feed and end on both sides -/
noncomputable def fd5 (a b c d e : Int) (i : Nat) : Int := if i = 0 then a else if i = 1 then b else if i = 2 then c else if i = 3 then d else e
noncomputable def fdv (A : Nat → Int) (i : Nat) : Int := gand (gshr (A (i / 4)) (24 - 8 * ((i % 4 : Nat) : Int))) 255
noncomputable def fdb (A : Nat → Int) (l n : Nat) (L : Nat → Int) (k : Nat) : Int := if l ≤ k ∧ k < l + n then fdv A (k - l) else L k
/-- n bytes are fed: the class -/
noncomputable def FD (s : gS) (l : Nat) (A : Nat → Int) (n : Nat) (t : gS) : Prop := Sm s t ∧ gI t 1 1 = ((l + n : Nat) : Int) ∧ (∀ k, gI t 2 k = fdb A l n (gI s 2) k) ∧ ∀ a k, a ≠ 2 → ¬ (a = 1 ∧ k = 1) → gI t a k = gI s a k
/-- and the model -/
noncomputable def FE (s : gS) (l : Nat) (A : Nat → Int) (n : Nat) (t : gS) : Prop := Sm s t ∧ gI t 217 8 = ((l + n : Nat) : Int) ∧ (∀ k, gI t 222 k = fdb A l n (gI s 222) k) ∧ ∀ a k, a ≠ 222 → ¬ (a = 217 ∧ (k = 0 ∨ k = 8)) → gI t a k = gI s a k
section Fd
variable {s t u : gS} {l n j : Nat} {A : Nat → Int} {p : gP}
theorem fdb_s {L M : Nat → Int} {v : Int} (hM : ∀ k, M k = fdb A l n L k) (hv : v = fdv A n) (k : Nat) : (if k = l + n then v else M k) = fdb A l (n + 1) L k := by
  unfold fdb
  by_cases c : k = l + n
  · rw [if_pos c, if_pos (by omega), hv, c, show l + n - l = n by omega]
  · rw [if_neg c, hM]
    unfold fdb
    by_cases d : l ≤ k ∧ k < l + n
    · rw [if_pos d, if_pos (by omega)]
    · rw [if_neg d, if_neg (by omega)]
theorem FD_s {v : Int} (h : FD s l A n t) (hl : l + n < 400) (hv : v = fdv A n) : FD s l A (n + 1) (gw (gw t 2 (l + n) v) 1 1 (((l + n : Nat) : Int) + 1)) := by
  obtain ⟨h1, h2, h3, h4⟩ := h
  refine ⟨h1, ?_, fun k_l => ?_, fun a_l k_l ha_l hz => ?_⟩
  · rw [rd_same rfl]
    omega
  · have e_l : gI (gw (gw t 2 (l + n) v) 1 1 (((l + n : Nat) : Int) + 1)) 2 k_l = if k_l = l + n then v else gI t 2 k_l := by
      refine (rd_a rfl (by decide)).trans ?_
      show (if 2 = 2 ∧ k_l = l + n then v else gI t 2 k_l) = _
      by_cases c : k_l = l + n
      · rw [if_pos ⟨rfl, c⟩, if_pos c]
      · rw [if_neg (fun z_l => c z_l.2), if_neg c]
    rw [e_l]
    exact fdb_s h3 hv k_l
  · show (if a_l = 1 ∧ k_l = 1 then _ else if a_l = 2 ∧ k_l = l + n then v else gI t a_l k_l) = _
    rw [if_neg hz, if_neg (fun z_l => ha_l z_l.1)]
    exact h4 a_l k_l ha_l hz
theorem x_76 {x : Int} (hr : gR s 1 0 = 2) (h : FD s l A (4 * j) t) (hl : l + 4 * j + 4 ≤ 400) (hx : x = A j) : gQ (f_76 1 x t) (fun r => FD s l A (4 * (j + 1)) r.2.2.2) := by
  unfold f_76
  refine gQ_loop (fun y_l => y_l.1 = 1 ∧ y_l.2.1 = x ∧ ∃ i_l : Nat, i_l ≤ 4 ∧ y_l.2.2.1 = 24 - 8 * (i_l : Int) ∧ FD s l A (4 * j + i_l) y_l.2.2.2) (fun y_l hy => ?_) ⟨rfl, rfl, 0, by omega, by dsimp only; omega, h⟩
  obtain ⟨y0, y1, x2_l, w_l⟩ := y_l
  obtain ⟨q0, q1_l, i_l, hi_l, q2_l, q3_l⟩ := hy
  dsimp only at q0 q1_l q2_l q3_l
  subst q0 q1_l
  have hpos := q3_l.2.1
  have rw2 : gR w_l 1 0 = 2 := by
    show w_l.2.2.2 1 0 = 2
    rw [q3_l.1.2.2]
    exact hr
  show gQ (sb_76_3 1 y1 x2_l w_l) _
  unfold sb_76_3
  dsimp only
  by_cases c : x2_l < 0
  · rw [if_pos c]
    have e4_l : i_l = 4 := by omega
    subst e4_l
    exact gQ_map (gQ_ret q3_l)
  rw [if_neg c, if_pos (by rw [hpos]; omega), rw2]
  refine gQ_chk (gQ_ret ⟨rfl, rfl, i_l + 1, by omega, ?_, ?_⟩)
  · dsimp only
    rw [g32_eq (v := x2_l + -8) (by omega) (by omega)]
    omega
  · dsimp only
    have e1_l : gI (gw w_l 2 (gI w_l 1 1).toNat (gand (gshr y1 x2_l) 255)) 1 1 = gI w_l 1 1 := rd_a rfl (by decide)
    rw [e1_l, hpos, Int.toNat_natCast, g32_eq (v := ((l + (4 * j + i_l) : Nat) : Int) + 1) (by omega) (by omega)]
    refine FD_s (n := 4 * j + i_l) q3_l (by omega) ?_
    unfold fdv
    rw [show (4 * j + i_l) / 4 = j by omega, show (4 * j + i_l) % 4 = i_l by omega, ← hx, q2_l]
theorem FD_0 (h : gI s 1 1 = (l : Int)) : FD s l A (4 * 0) s := by
  refine ⟨Sm_r, h, fun k_l => ?_, fun _ _ _ _ => rfl⟩
  unfold fdb
  rw [if_neg (by omega)]
theorem x_87 {a b c d e : Int} (hg : RF s) (hl : gI s 1 1 = (l : Int)) (h8 : l ≤ 380) : gQ (f_87 0 a b c d e s) (fun r => FD s l (fd5 a b c d e) 20 r.2.2.2) := by
  have r0 : gR s 0 0 = 1 := (rr_0_0 hg).2
  have r1_l : gR s 1 0 = 2 := (hg 1 0 (by decide) (by decide +kernel)).trans (by decide +kernel)
  have rr : ∀ n_l u_l, FD s l (fd5 a b c d e) n_l u_l → gR u_l 0 0 = 1 := fun n_l u_l hu => by
    show u_l.2.2.2 0 0 = 1
    rw [hu.1.2.2]
    exact r0
  unfold f_87
  rw [r0, hl, g32_eq (v := (l : Int) + 20) (by omega) (by omega), if_neg (by omega)]
  refine gQ_v0 (A := FD s l (fd5 a b c d e) (4 * 1)) (x_76 (j := 0) r1_l (FD_0 hl) (by omega) rfl) (fun s1_l h1 => ?_)
  rw [rr _ _ h1]
  refine gQ_v0 (A := FD s l (fd5 a b c d e) (4 * 2)) (x_76 (j := 1) r1_l h1 (by omega) rfl) (fun s2_l h2 => ?_)
  rw [rr _ _ h2]
  refine gQ_v0 (A := FD s l (fd5 a b c d e) (4 * 3)) (x_76 (j := 2) r1_l h2 (by omega) rfl) (fun s3_l h3 => ?_)
  rw [rr _ _ h3]
  refine gQ_v0 (A := FD s l (fd5 a b c d e) (4 * 4)) (x_76 (j := 3) r1_l h3 (by omega) rfl) (fun s4_l h4 => ?_)
  rw [rr _ _ h4]
  refine gQ_v0 (A := FD s l (fd5 a b c d e) (4 * 5)) (x_76 (j := 4) r1_l h4 (by omega) rfl) (fun s5 h5 => ?_)
  exact gQ_ret h5
theorem FE_s {v : Int} (h : FE s l A n t) (hl : l + n < 400) (hv : v = fdv A n) : FE s l A (n + 1) (gw (gw t 222 (l + n) v) 217 8 (((l + n : Nat) : Int) + 1)) := by
  obtain ⟨h1, h2, h3, h4⟩ := h
  refine ⟨h1, ?_, fun k_l => ?_, fun a_l k_l ha_l hz => ?_⟩
  · rw [rd_same rfl]
    omega
  · have e_l : gI (gw (gw t 222 (l + n) v) 217 8 (((l + n : Nat) : Int) + 1)) 222 k_l = if k_l = l + n then v else gI t 222 k_l := by
      refine (rd_a rfl (by decide)).trans ?_
      show (if 222 = 222 ∧ k_l = l + n then v else gI t 222 k_l) = _
      by_cases c : k_l = l + n
      · rw [if_pos ⟨rfl, c⟩, if_pos c]
      · rw [if_neg (fun z_l => c z_l.2), if_neg c]
    rw [e_l]
    exact fdb_s h3 hv k_l
  · show (if a_l = 217 ∧ k_l = 8 then _ else if a_l = 222 ∧ k_l = l + n then v else gI t a_l k_l) = _
    rw [if_neg (by omega), if_neg (fun z_l => ha_l z_l.1)]
    exact h4 a_l k_l ha_l hz
theorem x_166b {a b c d e w0 : Int} {i : Nat} (hr : gR s 217 7 = 222) (h : FE s l A i t) (hl : l + i < 400) (hi : i < 20) (hw : w0 = A (i / 4)) : gQ (fb_166_76 217 a b c d e (i : Int) w0 t) (Sum.elim (fun y => y.1 = 217 ∧ y.2.1 = a ∧ y.2.2.1 = b ∧ y.2.2.2.1 = c ∧ y.2.2.2.2.1 = d ∧ y.2.2.2.2.2.1 = e ∧ ∃ i : Nat, i ≤ 20 ∧ y.2.2.2.2.2.2.1 = (i : Int) ∧ FE s l A i y.2.2.2.2.2.2.2) (fun r => FE s l A 20 r.2.2.2)) := by
  have hpos := h.2.1
  have r7 : gR t 217 7 = 222 := by
    show t.2.2.2 217 7 = 222
    rw [h.1.2.2]
    exact hr
  unfold fb_166_76
  dsimp only
  rw [r7]
  refine gQ_chk (gQ_ret ⟨rfl, rfl, rfl, rfl, rfl, rfl, i + 1, by omega, ?_, ?_⟩)
  · dsimp only
    rw [g32_eq (v := (i : Int) + 1) (by omega) (by omega)]
    omega
  · dsimp only
    have e1_l : gI (gw t 222 (gI t 217 8).toNat (gand (gushr w0 (g32 (24 - g32 (8 * grem (i : Int) 4)))) 255)) 217 8 = gI t 217 8 := rd_a rfl (by decide)
    rw [e1_l, hpos, Int.toNat_natCast, g32_eq (v := ((l + i : Nat) : Int) + 1) (by omega) (by omega)]
    refine FE_s h hl ?_
    rw [grem_eq (x := (i : Int)) (c := 4) (by omega) (by decide), g32_eq (v := 8 * ((i : Int) % 4)) (by omega) (by omega), g32_eq (v := 24 - 8 * ((i : Int) % 4)) (by omega) (by omega)]
    unfold fdv
    rw [show ((i % 4 : Nat) : Int) = (i : Int) % 4 by omega, ← hw]
    exact (gsh_8 (by omega)).symm
theorem x_166 {a b c d e : Int} (hg : RF s) (hl : gI s 217 8 = (l : Int)) (h8 : l ≤ 380) : gQ (f_166 217 a b c d e s) (fun r => FE s l (fd5 a b c d e) 20 r.2.2.2) := by
  have r7 : gR s 217 7 = 222 := (rr_217_7 hg).2
  have e8 : gI (gw s 217 0 0) 217 8 = gI s 217 8 := rd_k (a := 217) (k := 8) rfl (by decide)
  unfold f_166
  dsimp only
  rw [e8, hl, g32_eq (v := (l : Int) + 20) (by omega) (by omega), if_neg (by omega)]
  refine gQ_loop (fun y_l => y_l.1 = 217 ∧ y_l.2.1 = a ∧ y_l.2.2.1 = b ∧ y_l.2.2.2.1 = c ∧ y_l.2.2.2.2.1 = d ∧ y_l.2.2.2.2.2.1 = e ∧ ∃ i_l : Nat, i_l ≤ 20 ∧ y_l.2.2.2.2.2.2.1 = (i_l : Int) ∧ FE s l (fd5 a b c d e) i_l y_l.2.2.2.2.2.2.2) (fun y_l hy => ?_) ⟨rfl, rfl, rfl, rfl, rfl, rfl, 0, by omega, rfl, ?_⟩
  · obtain ⟨y0, y1, y2, y3, y4, y5, x6, w_l⟩ := y_l
    obtain ⟨q0, q1_l, q2_l, q3_l, q4_l, q5_l, i_l, hi_l, q6_l, q7_l⟩ := hy
    dsimp only at q0 q1_l q2_l q3_l q4_l q5_l q6_l q7_l
    subst q0 q1_l q2_l q3_l q4_l q5_l q6_l
    show gQ (sb_166_23 217 y1 y2 y3 y4 y5 (i_l : Int) w_l) _
    unfold sb_166_23
    by_cases c : (i_l : Int) < 20
    · rw [if_pos c]
      by_cases c1 : (i_l : Int) < 4
      · rw [if_pos c1]
        exact x_166b r7 q7_l (by omega) (by omega) (by unfold fd5; rw [if_pos (by omega)])
      rw [if_neg c1]
      by_cases c2 : (i_l : Int) < 8
      · rw [if_pos c2]
        exact x_166b r7 q7_l (by omega) (by omega) (by unfold fd5; rw [if_neg (by omega), if_pos (by omega)])
      rw [if_neg c2]
      by_cases c3 : (i_l : Int) < 12
      · rw [if_pos c3]
        exact x_166b r7 q7_l (by omega) (by omega) (by unfold fd5; rw [if_neg (by omega), if_neg (by omega), if_pos (by omega)])
      rw [if_neg c3]
      by_cases c4 : (i_l : Int) < 16
      · rw [if_pos c4]
        exact x_166b r7 q7_l (by omega) (by omega) (by unfold fd5; rw [if_neg (by omega), if_neg (by omega), if_neg (by omega), if_pos (by omega)])
      rw [if_neg c4]
      exact x_166b r7 q7_l (by omega) (by omega) (by unfold fd5; rw [if_neg (by omega), if_neg (by omega), if_neg (by omega), if_neg (by omega)])
    · rw [if_neg c]
      have e20 : i_l = 20 := by omega
      subst e20
      exact gQ_map (gQ_ret q7_l)
  · dsimp only
    refine ⟨⟨rfl, rfl, rfl⟩, e8.trans hl, fun k_l => ?_, fun a k_l ha_l hz => ?_⟩
    · unfold fdb
      rw [if_neg (by omega)]
      exact rd_a rfl (by decide)
    · show (if a = 217 ∧ k_l = 0 then _ else gI s a k_l) = _
      rw [if_neg (by omega)]
/-- between the two halves of feed -/
noncomputable def Mfd (l : Int) (A : Nat → Int) (s : gS) : Prop := (Rc1 s ∧ Rc3 s ∧ Rc4 s ∧ Rc5 s) ∧ ∀ k, gI s 2 k = fdb A l.toNat 20 (gI s 222) k
theorem rt_87 {a b c d e : Int} (hJ : J p s) (h : Rt s) : gQ (f_87 0 a b c d e s) (fun r => (380 < p.2.1 → Rt r.2.2.2) ∧ (p.2.1 ≤ 380 → Mfd p.2.1 (fd5 a b c d e) r.2.2.2)) := by
  have hg : RF s := hJ.1.2.1
  have r0 : gR s 0 0 = 1 := (rr_0_0 hg).2
  have hl : gI s 1 1 = p.2.1 := hJ.2.2.1
  have hb_l := J_f hJ (kd := 10) (a := 1) (i := 1) t10 rfl (fun z_l => by cases z_l) (x := 0) (y := 400) rfl
  by_cases c : 380 < p.2.1
  · unfold f_87
    rw [r0, hl, g32_eq (v := p.2.1 + 20) (by omega) (by omega), if_pos (by omega)]
    exact gQ_ret ⟨fun _ => h, fun z_l => by omega⟩
  · intro r hr
    refine ⟨fun z_l => by omega, fun _ => ?_⟩
    obtain ⟨h1, h2, h3, h4⟩ := x_87 hg (l := p.2.1.toNat) (by omega) (by omega) r hr
    obtain ⟨g1, g2, g3_l, g4, g5_l⟩ := h
    refine ⟨⟨c1_e g1 (fun a k_l ha_l ha2 => h4 a k_l (by omega) (by omega)) (fun k_l _ => h4 218 k_l (by decide) (by omega)), c3_e g3_l (h4 217 3 (by decide) (by omega)) (fun a k_l ha_l ha2 => h4 a k_l (by omega) (by omega)) (fun k_l => h4 219 k_l (by decide) (by omega)), c4_e g4 (h4 0 13 (by decide) (by omega)) (h4 0 14 (by decide) (by omega)) (fun a k_l ha_l ha2 => h4 a k_l (by omega) (by omega)) (fun a k_l ha_l ha2 => h4 a k_l (by omega) (by omega)), c5_e g5_l (h4 217 6 (by decide) (by omega)) (fun k_l => h4 221 k_l (by decide) (by omega)) (fun k_l => h4 218 k_l (by decide) (by omega))⟩, fun k_l => ?_⟩
    rw [h3 k_l]
    unfold fdb
    rw [g2 k_l, h4 222 k_l (by decide) (by omega)]
theorem rt_166a {a b c d e : Int} (hJ : J p s) (hl8 : 380 < p.2.2.1) (h : Rt s) : gQ (f_166 217 a b c d e s) (fun r => Rt r.2.2.2) := by
  have hl : gI s 217 8 = p.2.2.1 := hJ.2.2.2.1
  have hb_l := J_f hJ (kd := 12) (a := 217) (i := 8) t217 rfl (fun z_l => by cases z_l) (x := 0) (y := 400) rfl
  have e8 : gI (gw s 217 0 0) 217 8 = gI s 217 8 := rd_k (a := 217) (k := 8) rfl (by decide)
  unfold f_166
  dsimp only
  rw [e8, hl, g32_eq (v := p.2.2.1 + 20) (by omega) (by omega), if_pos (by omega)]
  exact gQ_ret (Rt_fw h (Fw_0 hJ.1.1))
theorem rt_166b {a b c d e : Int} (hJ : J p s) (hl8 : p.2.2.1 ≤ 380) (h : Mfd p.2.2.1 (fd5 a b c d e) s) : gQ (f_166 217 a b c d e s) (fun r => Rt r.2.2.2) := by
  have hg : RF s := hJ.1.2.1
  have hl : gI s 217 8 = p.2.2.1 := hJ.2.2.2.1
  have hb_l := J_f hJ (kd := 12) (a := 217) (i := 8) t217 rfl (fun z_l => by cases z_l) (x := 0) (y := 400) rfl
  intro r hr
  obtain ⟨h1, h2, h3, h4⟩ := x_166 hg (l := p.2.2.1.toNat) (by omega) (by omega) r hr
  obtain ⟨⟨g1, g3_l, g4, g5_l⟩, g2⟩ := h
  refine Rt_5 (c1_e g1 (fun a k_l ha_l ha2 => h4 a k_l (by omega) (by omega)) (fun k_l _ => h4 218 k_l (by decide) (by omega))) (fun k_l => ?_) (c3_e g3_l (h4 217 3 (by decide) (by omega)) (fun a k_l ha_l ha2 => h4 a k_l (by omega) (by omega)) (fun k_l => h4 219 k_l (by decide) (by omega))) (c4_e g4 (h4 0 13 (by decide) (by omega)) (h4 0 14 (by decide) (by omega)) (fun a k_l ha_l ha2 => h4 a k_l (by omega) (by omega)) (fun a k_l ha_l ha2 => h4 a k_l (by omega) (by omega))) (c5_e g5_l (h4 217 6 (by decide) (by omega)) (fun k_l => h4 221 k_l (by decide) (by omega)) (fun k_l => h4 218 k_l (by decide) (by omega)))
  rw [h3 k_l, h4 2 k_l (by decide) (by omega), g2 k_l]
theorem rt_88 {n : Int} (hJ : J p s) (h : Rt s) : gQ (f_88 0 n s) (fun r => Rt r.2.2.2) := by
  have r0 : gR s 0 0 = 1 := (rr_0_0 hJ.1.2.1).2
  unfold f_88
  dsimp only
  rw [r0]
  exact gQ_ite (gQ_ret h) (gQ_ite (gQ_ret h) (gQ_ret (Rt_fw h (Fw_w (Fw_rf hJ.1.1) rfl (uq 1 1 rfl)))))
theorem rt_167 {n : Int} (hJ : J p s) (h : Rt s) : gQ (f_167 217 n s) (fun r => Rt r.2.2.2) := by
  have h0 : Fw WR s (gw s 217 0 0) := Fw_0 hJ.1.1
  unfold f_167
  dsimp only
  refine gQ_v1 (A := fun z_l => z_l = gw s 217 0 0) (fun r hr => (qv_150 r hr).1) (fun v_l s2_l e_l => ?_)
  rw [e_l]
  exact gQ_ite (gQ_ret (Rt_fw h h0)) (gQ_ret (Rt_fw h (Fw_w h0 rfl (um 217 8 rfl))))
end Fd

end
section
/-! image and back on both sides -/
section Ib
variable {s t u : gS} {p : gP} {B C D E : Nat}
noncomputable def txq (k : Nat) : Nat := if k = 4 ∨ k = 6 ∨ (42 ≤ k ∧ k ≤ 72 ∧ k % 6 = 0) then 1 else if k = 0 ∨ k = 3 ∨ k = 5 ∨ k = 10 ∨ k = 11 ∨ k = 12 then 2 else if 16 ≤ k ∧ k < 40 then 3 else if 76 ≤ k ∧ k < 88 then 4 else 0
theorem tx_q : ∀ k, k < 100 → (k ≠ 1 ∧ k ≠ 2 ∧ k ≠ 15) → mnt k = false → txq k ≠ 0 := by decide +kernel
theorem tx_c1 (k : Nat) (h1 : k < 100) (h2 : k ≠ 1 ∧ k ≠ 2 ∧ k ≠ 15) (h3 : mnt k = false) : (k = 4 ∨ k = 6 ∨ (42 ≤ k ∧ k ≤ 72 ∧ k % 6 = 0)) ∨ (k = 0 ∨ k = 3 ∨ k = 5 ∨ k = 10 ∨ k = 11 ∨ k = 12) ∨ (16 ≤ k ∧ k < 40) ∨ (76 ≤ k ∧ k < 88) := by
  have h4 := tx_q k h1 h2 h3
  unfold txq at h4
  by_cases c1 : k = 4 ∨ k = 6 ∨ (42 ≤ k ∧ k ≤ 72 ∧ k % 6 = 0)
  · exact Or.inl c1
  rw [if_neg c1] at h4
  by_cases c2 : k = 0 ∨ k = 3 ∨ k = 5 ∨ k = 10 ∨ k = 11 ∨ k = 12
  · exact Or.inr (Or.inl c2)
  rw [if_neg c2] at h4
  by_cases c3 : 16 ≤ k ∧ k < 40
  · exact Or.inr (Or.inr (Or.inl c3))
  rw [if_neg c3] at h4
  by_cases c4 : 76 ≤ k ∧ k < 88
  · exact Or.inr (Or.inr (Or.inr c4))
  rw [if_neg c4] at h4
  exact absurd rfl h4
/-- a cell of a text: in the court, or in the book -/
theorem Tx_c {k : Nat} (hk : Tx k) : Tc k ∨ ∃ o q, o < 6 ∧ (∀ B C, pa B C k = B + o) ∧ pj k = q ∧ ∀ B, BCr B (B + o) q := by
  rcases tx_c1 k hk.1.1 hk.1.2 hk.2 with (c_l | c_l | c_l) | c_l | c_l | c_l
  · exact Or.inl (Or.inl c_l)
  · exact Or.inl (Or.inr (Or.inl c_l))
  · exact Or.inl (Or.inr (Or.inr ⟨(k - 42) / 6, by omega, by omega⟩))
  · refine Or.inr ⟨0, pj k, by decide, ?_, rfl, fun B => Or.inl ⟨rfl, ?_, ?_⟩⟩
    · rcases c_l with rfl | rfl | rfl | rfl | rfl | rfl <;> exact fun B C => rfl
    · rcases c_l with rfl | rfl | rfl | rfl | rfl | rfl <;> decide
    · rcases c_l with rfl | rfl | rfl | rfl | rfl | rfl <;> decide
  · refine Or.inr ⟨1 + (k - 16) % 3, (k - 16) / 3, by omega, fun B C => ?_, ?_, fun B => Or.inr (Or.inl ⟨by omega, by omega⟩)⟩
    · unfold pa
      rw [if_neg (by omega), if_pos (by omega)]
      omega
    · unfold pj
      rw [if_neg (by omega), if_pos (by omega)]
  · refine Or.inr ⟨4 + (k - 76) % 2, (k - 76) / 2, by omega, fun B C => ?_, ?_, fun B => Or.inr (Or.inr ⟨by omega, by omega⟩)⟩
    · unfold pa
      rw [if_neg (by omega), if_neg (by omega), if_neg (by omega), if_pos (by omega)]
      omega
    · unfold pj
      rw [if_neg (by omega), if_neg (by omega), if_neg (by omega), if_pos (by omega)]
theorem pa_9C {k : Nat} (hk : Tc k) : ∃ o q, o < 12 ∧ (∀ B C, pa B C k = C + o) ∧ pj k = q ∧ ∀ C, CCr C (C + o) q := by
  rcases hk with rfl | rfl | ⟨x_l, hx, rfl⟩
  · exact ⟨0, 4, by decide, fun B C => rfl, rfl, fun C => Or.inl ⟨rfl, by decide, by decide⟩⟩
  · exact ⟨0, 5, by decide, fun B C => rfl, rfl, fun C => Or.inl ⟨rfl, by decide, by decide⟩⟩
  · refine ⟨6 + x_l, 2, by omega, fun B C => ?_, ?_, fun C => Or.inr (Or.inr ⟨by omega, by omega, by decide⟩)⟩
    · unfold pa
      rw [if_neg (by omega), if_neg (by omega), if_pos (by omega)]
      omega
    · unfold pj
      rw [if_neg (by omega), if_neg (by omega), if_pos (by omega)]
      omega
theorem bkb {a b j : Nat} (h : BCr a b j) : a ≤ b ∧ b < a + 6 := by
  unfold BCr at h
  omega
theorem ci_f (h1 : BC B D s t) (h2 : FC C E t u) {a k : Nat} (ha : ¬ (B ≤ a ∧ a < B + 6)) (hb : ¬ (C ≤ a ∧ a < C + 12)) : gI u a k = gI s a k :=
  ((h2.2 a k).2 (fun z_l => hb (blk z_l))).trans ((h1.2 a k).2 (fun z_l => ha (bkb z_l)))
theorem ci_c (h1 : BC B D s t) (h2 : FC C E t u) (d1 : B + 6 ≤ C ∨ C + 12 ≤ B) (d2 : B + 6 ≤ E ∨ E + 12 ≤ B) {k : Nat} (hk : Tx k) : cv u B C k = cv s D E k := by
  rcases Tx_c hk with c_l | ⟨o, q_l, o1, o2, o3_l, o4_l⟩
  · obtain ⟨o, q_l, o1, o2, o3_l, o4_l⟩ := pa_9C c_l
    show gI u (pa B C k) (pj k) = gI s (pa D E k) (pj k)
    rw [o2, o2, o3_l, (h2.2 _ q_l).1 (Or.inl (o4_l _)), show C + o - C + E = E + o by omega]
    exact (h1.2 _ q_l).2 (fun z_l => by have := bkb z_l; omega)
  · show gI u (pa B C k) (pj k) = gI s (pa D E k) (pj k)
    rw [o2, o2, o3_l, (h2.2 _ q_l).2 (fun z_l => by have := blk z_l; omega), (h1.2 _ q_l).1 (o4_l _), show B + o - B + D = D + o by omega]
/-- between the two halves of image -/
noncomputable def Mim (s : gS) : Prop := (Rc1 s ∧ Rc2 s ∧ Rc4 s ∧ Rc5 s) ∧ ∀ k, Tx k → cv s 54 60 k = cv s 9 15 k
theorem rt_131 (hJ : J p s) (h : Rt s) : gQ (f_131 0 s) (fun r => Mim r.2.2.2) := by
  have hg : RF s := hJ.1.2.1
  obtain ⟨b1, b2, b3, b4, b5, b6⟩ := k0_b
  unfold f_131
  rw [(rr_0_10 hg).2, (rr_0_4 hg).2]
  refine gQ_v0 (A := fun z_l => BC 54 9 s z_l) (fun r hr => (gQ_T (s_1 hg ⟨by decide, b3⟩ ⟨by decide, b1⟩ (by decide)) r hr).2) (fun s1_l h1 => ?_)
  have hg1 : RF s1_l := RF_bc hg b3 h1
  rw [(rr_0_11 hg1).2, (rr_0_5 hg1).2]
  refine gQ_v0 (A := fun z_l => FC 60 15 s1_l z_l) (fun r hr => (gQ_T (s_22 hg1 ⟨by decide, b6⟩ ⟨by decide, b4⟩ (by decide)) r hr).2) (fun s3_l h3 => ?_)
  refine gQ_bool (gQ_ret ?_)
  dsimp only
  have hf : ∀ a_l k_l, ¬ (54 ≤ a_l ∧ a_l < 72) → ¬ (a_l = 0 ∧ k_l = 15) → gI (gw s3_l 0 15 1) a_l k_l = gI s a_l k_l := fun a_l k_l ha_l hz => by
    show (if a_l = 0 ∧ k_l = 15 then _ else gI s3_l a_l k_l) = _
    rw [if_neg hz]
    exact ci_f h1 h3 (by omega) (by omega)
  obtain ⟨g1, g2, g3_l, g4, g5_l⟩ := h
  refine ⟨⟨c1_e g1 (fun a_l k_l ha_l ha2 => hf a_l k_l (by omega) (by omega)) (fun k_l _ => hf 218 k_l (by omega) (by omega)), fun k_l => (hf 2 k_l (by omega) (by omega)).trans ((g2 k_l).trans (hf 222 k_l (by omega) (by omega)).symm), c4_e g4 (hf 0 13 (by omega) (by omega)) (hf 0 14 (by omega) (by omega)) (fun a_l k_l ha_l ha2 => hf a_l k_l (by omega) (by omega)) (fun a_l k_l ha_l ha2 => hf a_l k_l (by omega) (by omega)), c5_e g5_l (hf 217 6 (by omega) (by omega)) (fun k_l => hf 221 k_l (by omega) (by omega)) (fun k_l => hf 218 k_l (by omega) (by omega))⟩, fun k_l hk => ?_⟩
  have hp := pa_15 k_l hk.1.1
  have e1_l : cv (gw s3_l 0 15 1) 9 15 k_l = cv s 9 15 k_l := hf _ _ (by omega) (by omega)
  have e2_l : cv (gw s3_l 0 15 1) 54 60 k_l = cv s3_l 54 60 k_l := rd_a rfl (by omega)
  rw [e1_l, e2_l]
  exact ci_c h1 h3 (by omega) (by omega) hk
theorem rt_261 (hJ : J p s) (h : Mim s) : gQ (f_261 217 s) (fun r => Rt r.2.2.2) := by
  have hg : RF s := hJ.1.2.1
  obtain ⟨⟨g1, g2, g4, g5_l⟩, g3_l⟩ := h
  intro r hr
  obtain ⟨q1_l, q2_l, q3_l, q4_l⟩ := x_261 (rr_217_1 hg).2 (rr_217_2 hg).2 r hr
  refine Rt_5 (c1_e g1 (fun a_l k_l ha_l ha2 => q4_l a_l k_l (by omega) (by omega)) (fun k_l _ => q4_l 218 k_l (by decide) (by omega))) (fun k_l => (q4_l 2 k_l (by decide) (by omega)).trans ((g2 k_l).trans (q4_l 222 k_l (by decide) (by omega)).symm)) (fun _ k_l hk => ?_) (c4_e g4 (q4_l 0 13 (by decide) (by omega)) (q4_l 0 14 (by decide) (by omega)) (fun a_l k_l ha_l ha2 => q4_l a_l k_l (by omega) (by omega)) (fun a_l k_l ha_l ha2 => q4_l a_l k_l (by omega) (by omega))) (c5_e g5_l (q4_l 217 6 (by decide) (by omega)) (fun k_l => q4_l 221 k_l (by decide) (by omega)) (fun k_l => q4_l 218 k_l (by decide) (by omega)))
  have hp := pa_15 k_l hk.1.1
  have e2_l : cv r.2.2.2 54 60 k_l = cv s 54 60 k_l := q4_l _ _ (by omega) (by omega)
  rw [q2_l k_l (by have := hk.1.1; omega), e2_l, g3_l k_l hk]
  exact g1 k_l hk
/-- between the two halves of back -/
noncomputable def Mbk (s : gS) : Prop := (Rc2 s ∧ Rc3 s ∧ Rc4 s) ∧ ∀ k, Tx k → cv s 9 15 k = cv s 54 60 k
theorem rt_132 (hJ : J p s) (h : Rt s) : gQ (f_132 0 s) (fun r => (p.2.2.2.1 = 0 → Rt r.2.2.2) ∧ (p.2.2.2.1 ≠ 0 → Mbk r.2.2.2)) := by
  have hg : RF s := hJ.1.2.1
  have hi_l : gI s 0 15 = p.2.2.2.1 := hJ.2.2.2.2.1
  obtain ⟨b1, b2, b3, b4, b5, b6⟩ := k0_b
  unfold f_132
  rw [hi_l]
  by_cases c : p.2.2.2.1 = 0
  · rw [if_pos c]
    exact gQ_ret ⟨fun _ => h, fun z_l => absurd c z_l⟩
  rw [if_neg c, (rr_0_10 hg).2, (rr_0_4 hg).2]
  refine gQ_v0 (A := fun z_l => BC 9 54 s z_l) (fun r hr => (gQ_T (s_1 hg ⟨by decide, b1⟩ ⟨by decide, b3⟩ (by decide)) r hr).2) (fun s1_l h1 => ?_)
  have hg1 : RF s1_l := RF_bc hg b1 h1
  rw [(rr_0_11 hg1).2, (rr_0_5 hg1).2]
  refine gQ_v0 (A := fun z_l => FC 15 60 s1_l z_l) (fun r hr => (gQ_T (s_22 hg1 ⟨by decide, b4⟩ ⟨by decide, b6⟩ (by decide)) r hr).2) (fun s3_l h3 => ?_)
  refine gQ_ret ⟨fun z_l => absurd z_l c, fun _ => ?_⟩
  dsimp only
  have hf : ∀ a_l k_l, ¬ (9 ≤ a_l ∧ a_l < 27) → ¬ (a_l = 0 ∧ k_l = 14) → gI (gw s3_l 0 14 0) a_l k_l = gI s a_l k_l := fun a_l k_l ha_l hz => by
    show (if a_l = 0 ∧ k_l = 14 then _ else gI s3_l a_l k_l) = _
    rw [if_neg hz]
    exact ci_f h1 h3 (by omega) (by omega)
  obtain ⟨g1, g2, g3_l, g4, g5_l⟩ := h
  refine ⟨⟨fun k_l => (hf 2 k_l (by omega) (by omega)).trans ((g2 k_l).trans (hf 222 k_l (by omega) (by omega)).symm), c3_e g3_l (hf 217 3 (by omega) (by omega)) (fun a_l k_l ha_l ha2 => hf a_l k_l (by omega) (by omega)) (fun k_l => hf 219 k_l (by omega) (by omega)), c4_0 (by rw [hf 0 13 (by omega) (by omega)]; exact g4.1) (rd_same rfl)⟩, fun k_l hk => ?_⟩
  have hp := pa_15 k_l hk.1.1
  have e1_l : cv (gw s3_l 0 14 0) 54 60 k_l = cv s 54 60 k_l := hf _ _ (by omega) (by omega)
  have e2_l : cv (gw s3_l 0 14 0) 9 15 k_l = cv s3_l 9 15 k_l := rd_a rfl (by omega)
  rw [e1_l, e2_l]
  exact ci_c h1 h3 (by omega) (by omega) hk
theorem rt_262a (hJ : J p s) (hi : p.2.2.2.2 = 0) (h : Rt s) : gQ (f_262 217 s) (fun r => Rt r.2.2.2) := by
  have h3 : gI s 217 3 = p.2.2.2.2 := hJ.2.2.2.2.2
  have e3_l : gI (gw s 217 0 0) 217 3 = gI s 217 3 := rd_k (a := 217) (k := 3) rfl (by decide)
  unfold f_262
  dsimp only
  rw [e3_l, h3, if_pos hi]
  exact gQ_ret (Rt_fw h (Fw_0 hJ.1.1))
theorem rt_262b (hJ : J p s) (hi : p.2.2.2.2 = 1) (h : Mbk s) : gQ (f_262 217 s) (fun r => Rt r.2.2.2) := by
  have hg : RF s := hJ.1.2.1
  have h3 : gI s 217 3 = p.2.2.2.2 := hJ.2.2.2.2.2
  obtain ⟨⟨g2, g3_l, g4⟩, g1⟩ := h
  intro r hr
  obtain ⟨q1_l, q2_l, q3_l, q4_l⟩ := x_262 (rr_217_1 hg).2 (rr_217_2 hg).2 (by rw [h3, hi]; decide) r hr
  have e3_l : gI r.2.2.2 217 3 = gI s 217 3 := q4_l 217 3 (by omega) (by omega)
  refine Rt_5 (fun k_l hk => ?_) (fun k_l => (q4_l 2 k_l (by omega) (by omega)).trans ((g2 k_l).trans (q4_l 222 k_l (by omega) (by omega)).symm)) (c3_e g3_l e3_l (fun a_l k_l ha_l ha2 => q4_l a_l k_l (by omega) (by omega)) (fun k_l => q4_l 219 k_l (by omega) (by omega))) (c4_e g4 (q4_l 0 13 (by omega) (by omega)) (q4_l 0 14 (by omega) (by omega)) (fun a_l k_l ha_l ha2 => q4_l a_l k_l (by omega) (by omega)) (fun a_l k_l ha_l ha2 => q4_l a_l k_l (by omega) (by omega))) (c5_0 q3_l)
  have hp := pa_15 k_l hk.1.1
  have e2_l : cv r.2.2.2 9 15 k_l = cv s 9 15 k_l := q4_l _ _ (by omega) (by omega)
  rw [q2_l k_l (by have := hk.1.1; omega), e2_l, g1 k_l hk]
  exact g3_l (by rw [h3]; exact hi) k_l hk
end Ib

end
section
/-! the class reads a book -/
section Bk
variable {s t u : gS} {p : gP} {B C D E : Nat} {L : Nat → Int} {e : Nat} {V W : Nat → Int}
theorem cc_f (h1 : BC B D s t) (h2 : CC C E t u) {a k : Nat} (ha : ¬ (B ≤ a ∧ a < B + 6)) (hb : ¬ (C ≤ a ∧ a < C + 12)) : gI u a k = gI s a k :=
  ((h2.2 a k).2 (fun z_l => hb (blk (Or.inl z_l)))).trans ((h1.2 a k).2 (fun z_l => ha (bkb z_l)))
theorem cc_c (h1 : BC B D s t) (h2 : CC C E t u) (d1 : B + 6 ≤ C ∨ C + 12 ≤ B) (d2 : B + 6 ≤ E ∨ E + 12 ≤ B) {k : Nat} (hk : Tx k) : cv u B C k = cv s D E k := by
  rcases Tx_c hk with c_l | ⟨o, q_l, o1, o2, o3_l, o4_l⟩
  · obtain ⟨o, q_l, o1, o2, o3_l, o4_l⟩ := pa_9C c_l
    show gI u (pa B C k) (pj k) = gI s (pa D E k) (pj k)
    rw [o2, o2, o3_l, (h2.2 _ q_l).1 (o4_l _), show C + o - C + E = E + o by omega]
    exact (h1.2 _ q_l).2 (fun z_l => by have := bkb z_l; omega)
  · show gI u (pa B C k) (pj k) = gI s (pa D E k) (pj k)
    rw [o2, o2, o3_l, (h2.2 _ q_l).2 (fun z_l => by have := blk (Or.inl z_l); omega), (h1.2 _ q_l).1 (o4_l _), show B + o - B + D = D + o by omega]
theorem av_0 {w : gLW} : av w V 0 = V 0 := by
  unfold av
  split
  · rw [if_neg (by omega), if_neg (by omega), if_neg (by omega), if_neg (by omega)]
  · rw [if_neg (by omega), if_neg (by omega), if_neg (by omega), if_neg (by omega), if_neg (by omega), if_neg (by omega), if_neg (by omega)]
  · rw [if_neg (by omega), if_neg (by omega), if_neg (by omega)]
  · rw [if_neg (by omega), if_neg (by omega), if_neg (by omega)]
  · rw [if_neg (by omega)]
  · rw [if_neg (by omega)]
  · rw [if_neg (by omega)]
  · rw [if_neg (by omega)]
theorem rdl_0 (n : Nat) : ∀ (f : Nat) (V W : Nat → Int), rdl L e n f V = Sum.inr W → W 0 = V 0 := by
  induction n with
  | zero => intro f V W h_l; unfold rdl at h_l; cases h_l
  | succ n ih_l =>
    intro f V W h_l
    unfold rdl at h_l
    obtain ⟨y_l, h1, h2⟩ := eb_w h_l
    by_cases c1 : y_l.2 = e
    · rw [if_pos c1] at h2
      injection h2 with h3
      rw [← h3]
      exact av_0
    · rw [if_neg c1] at h2
      by_cases c2 : L y_l.2 = 59
      · rw [if_pos c2] at h2
        exact (ih_l _ _ _ h2).trans av_0
      · rw [if_neg c2] at h2
        cases h2
theorem rdb_0 (h : rdb L e V = Sum.inr W) : W 0 = V 0 := by
  unfold rdb at h
  by_cases c : sk L e 0 = e
  · rw [if_pos c] at h
    injection h with h1
    rw [h1]
  · rw [if_neg c] at h
    exact rdl_0 _ _ _ _ h
theorem Tx_n : Tx 0 ∧ Tx 3 ∧ Tx 4 ∧ Tx 5 ∧ Tx 6 := by unfold Tx KK; decide
theorem pk_0 : ∀ k, k < 100 → (k ≠ 1 ∧ k ≠ 2 ∧ k ≠ 15) → pa 9 15 k = 9 → pj k = 10 → k = 0 := by decide +kernel
theorem Rd_RF (hg : RF s) : Rd s := by
  have q_l : ∀ a_l k_l y_l, a_l < 232 → ¬ (k0 a_l = 0 ∧ k_l = 11) → r0 a_l k_l = y_l → gR s a_l k_l = y_l := fun a_l k_l y_l h1 h2 h3 => (hg a_l k_l h1 h2).trans h3
  refine ⟨⟨q_l 6 0 1 (by decide) (by decide +kernel) (by decide +kernel), ⟨q_l 36 0 37 (by decide) (by decide +kernel) (by decide +kernel), q_l 36 1 38 (by decide) (by decide +kernel) (by decide +kernel), q_l 36 2 39 (by decide) (by decide +kernel) (by decide +kernel), q_l 36 3 40 (by decide) (by decide +kernel) (by decide +kernel), q_l 36 4 41 (by decide) (by decide +kernel) (by decide +kernel)⟩, q_l 42 0 43 (by decide) (by decide +kernel) (by decide +kernel), q_l 42 1 44 (by decide) (by decide +kernel) (by decide +kernel), q_l 42 2 45 (by decide) (by decide +kernel) (by decide +kernel)⟩, fun i_l hi_l => ?_⟩
  exact q_l 43 i_l (48 + i_l) (by decide) (fun z_l => by rw [k0_m43.1] at z_l; omega) (r0_m43 i_l hi_l).1
/-- what the class's half of book leaves -/
noncomputable def Bh (s : gS) (l : Nat) (r : gO) : Prop := (∀ a k, a < 232 → a ≠ 1 → ¬ (9 ≤ a ∧ a < 27) → ¬ (36 ≤ a ∧ a < 54) → ¬ (a = 0 ∧ (k = 14 ∨ k = 16)) → gI r.2.2.2 a k = gI s a k) ∧ ((((r.1 = 2 ∧ ∃ q, rdb (gI s 222) l (gI s 218) = Sum.inl q) ∨ (r.1 = 3 ∧ ¬ gI s 218 0 < 12 ∧ ∃ W, rdb (gI s 222) l (gI s 218) = Sum.inr W)) ∧ (∀ a k, 9 ≤ a → a < 27 → gI r.2.2.2 a k = gI s a k) ∧ gI r.2.2.2 0 14 = gI s 0 14) ∨ (r.1 = 1 ∧ gI s 218 0 < 12 ∧ ∃ W, rdb (gI s 222) l (gI s 218) = Sum.inr W ∧ r.2.1 = gI s 218 0 + 1 ∧ gI r.2.2.2 0 14 = 0 ∧ ∀ k, Tx k → cv r.2.2.2 9 15 k = if k = 0 then gI s 218 0 + 1 else W k))
theorem gI_nw {a k kd : Nat} (hn : 232 ≤ gn s) (ha : a < 232) : gI (gnw s kd) a k = gI s a k := by
  show (if a = s.1 then 0 else s.2.2.1 a k) = _
  have hn2 : 232 ≤ s.1 := hn
  rw [if_neg (by omega)]
  rfl
/-- behind the reading -/
theorem b_89 {l : Nat} {v w0 : Int} {W0 : Nat → Int} (h : Rt s) (hg : RF u) (hn : 232 ≤ gn u) (hF : ∀ a k, a ≠ 1 → ¬ (36 ≤ a ∧ a < 54) → gI u a k = gI s a k) (hv : (v = 0 ∧ ∃ q, rdb (gI s 222) l (gI s 218) = Sum.inl q) ∨ (v = 1 ∧ rdb (gI s 222) l (gI s 218) = Sum.inr W0 ∧ ∀ k, Tx k → cv u 36 42 k = W0 k)) : gQ (fb_89_54 0 v w0 0 u) (Bh s l) := by
  obtain ⟨b1, b2, b3, b4, b5, b6⟩ := k0_b
  unfold fb_89_54
  dsimp only
  have hg8 : RF (gw u 0 16 w0) := RF_sm hg rfl
  rw [(rr_0_0 hg8).2]
  have hg9 : RF (gw (gw u 0 16 w0) 1 1 0) := RF_sm hg rfl
  have hn9 : 232 ≤ gn (gw (gw u 0 16 w0) 1 1 0) := hn
  have hF9 : ∀ a k, a ≠ 1 → ¬ (36 ≤ a ∧ a < 54) → ¬ (a = 0 ∧ k = 16) → gI (gw (gw u 0 16 w0) 1 1 0) a k = gI s a k := fun a k h1 h2 h3 => by
    show (if a = 1 ∧ k = 1 then _ else if a = 0 ∧ k = 16 then _ else gI u a k) = _
    rw [if_neg (by omega), if_neg h3]
    exact hF a k h1 h2
  have hcv : ∀ k, Tx k → cv (gw (gw u 0 16 w0) 1 1 0) 36 42 k = cv u 36 42 k := fun k hk => by
    have hp := pa_d k hk.1.1
    show (if pa 36 42 k = 1 ∧ pj k = 1 then _ else if pa 36 42 k = 0 ∧ pj k = 16 then _ else gI u (pa 36 42 k) (pj k)) = _
    rw [if_neg (by omega), if_neg (by omega)]
    rfl
  generalize gw (gw u 0 16 w0) 1 1 0 = s9 at *
  have q1_l := (h.1 0 Tx_n.1).1
  have q2_l : 0 ≤ gI s 218 0 ∧ gI s 218 0 ≤ 12 := ⟨(h.1 0 Tx_n.1).2.2.1, (h.1 0 Tx_n.1).2.1 rfl⟩
  have c0_l : cv s 9 15 0 = gI s 9 10 := rfl
  rw [c0_l] at q1_l
  have e9_l : gI s9 9 10 = gI s 218 0 := (hF9 9 10 (by decide) (by omega) (by omega)).trans q1_l.symm
  have hfr : ∀ a k, a < 232 → a ≠ 1 → ¬ (9 ≤ a ∧ a < 27) → ¬ (36 ≤ a ∧ a < 54) → ¬ (a = 0 ∧ (k = 14 ∨ k = 16)) → gI (gnw s9 99) a k = gI s a k := fun a k h1 h2 h3 h4 h5 => (gI_nw hn9 h1).trans (hF9 a k h2 h4 (by omega))
  have hfr2 : ∀ a k, 9 ≤ a → a < 27 → gI (gnw s9 99) a k = gI s a k := fun a k h1 h2 => (gI_nw hn9 (by omega)).trans (hF9 a k (by omega) (by omega) (by omega))
  have hfr3 : gI (gnw s9 99) 0 14 = gI s 0 14 := (gI_nw hn9 (by decide)).trans (hF9 0 14 (by decide) (by omega) (by omega))
  rcases hv with ⟨v0_l, hq⟩ | ⟨v1_l, hq, hw⟩
  · rw [if_pos v0_l]
    exact gQ_ret ⟨hfr, Or.inl ⟨Or.inl ⟨rfl, hq⟩, hfr2, hfr3⟩⟩
  rw [if_neg (by omega), (rr_0_4 hg9).2, (rr_0_8 hg9).2, e9_l]
  by_cases c12 : gI s 218 0 < 12
  · rw [if_pos c12]
    refine gQ_v0 (A := fun z_l => BC 9 36 s9 z_l) (fun r_l hr => (gQ_T (s_1 hg9 ⟨by decide, b1⟩ ⟨by decide, b2⟩ (by decide)) r_l hr).2) (fun s10 h10 => ?_)
    have hg10 : RF s10 := RF_bc hg9 b1 h10
    rw [(rr_0_4 hg10).2]
    have w0e := rdb_0 hq
    have e10_l : gI s10 9 10 = gI s 218 0 := by
      rw [(h10.2 9 10).1 (Or.inl ⟨rfl, by decide, by decide⟩)]
      have e1_l : gI s9 (9 - 9 + 36) 10 = cv s9 36 42 0 := rfl
      rw [e1_l, hcv 0 Tx_n.1, hw 0 Tx_n.1]
      exact w0e
    rw [e10_l, g32_eq (v := gI s 218 0 + 1) (by omega) (by omega)]
    have hg12 : RF (gw s10 9 10 (gI s 218 0 + 1)) := RF_sm hg10 rfl
    have i12_l : ∀ a k, ¬ (a = 9 ∧ k = 10) → gI (gw s10 9 10 (gI s 218 0 + 1)) a k = gI s10 a k := fun a k hz => by
      show (if a = 9 ∧ k = 10 then _ else gI s10 a k) = _
      rw [if_neg hz]
    have i12b : gI (gw s10 9 10 (gI s 218 0 + 1)) 9 10 = gI s 218 0 + 1 := rd_same rfl
    generalize gw s10 9 10 (gI s 218 0 + 1) = s12 at *
    rw [(rr_0_5 hg12).2, (rr_0_9 hg12).2]
    refine gQ_v0 (A := fun z_l => CC 15 42 s12 z_l) (fun r_l hr => (gQ_T (s_23 hg12 ⟨by decide, b4⟩ ⟨by decide, b5⟩ (by decide)) r_l hr).2) (fun s13 h13 => ?_)
    have r15 : gR (gw s13 0 14 0) 0 4 = 9 := (rr_0_4 (RF_sm hg12 h13.1.2.2)).2
    rw [r15]
    have i13 : ∀ a k, ¬ (15 ≤ a ∧ a < 27) → gI s13 a k = gI s12 a k := fun a k hz => (h13.2 a k).2 (fun z_l => hz (blk (Or.inl z_l)))
    have i15 : ∀ a k, ¬ (a = 0 ∧ k = 14) → gI (gw s13 0 14 0) a k = gI s13 a k := fun a k hz => by
      show (if a = 0 ∧ k = 14 then _ else gI s13 a k) = _
      rw [if_neg hz]
    have i14 : gI (gw s13 0 14 0) 0 14 = 0 := rd_same rfl
    refine gQ_ret ?_
    generalize gw s13 0 14 0 = s15 at *
    refine ⟨fun a k h1 h2 h3 h4 h5 => ?_, Or.inr ⟨rfl, c12, W0, hq, ?_, i14, fun k hk => ?_⟩⟩
    · dsimp only
      rw [i15 a k (by omega), i13 a k (by omega), i12_l a k (by omega), (h10.2 a k).2 (fun z_l => by have := bkb z_l; omega)]
      exact hF9 a k h2 h4 (by omega)
    · dsimp only
      rw [i15 9 10 (by omega), i13 9 10 (by omega)]
      exact i12b
    · dsimp only
      by_cases ck : k = 0
      · rw [if_pos ck, ck]
        show gI s15 9 10 = _
        rw [i15 9 10 (by omega), i13 9 10 (by omega)]
        exact i12b
      rw [if_neg ck]
      refine Eq.trans ?_ ((hcv k hk).trans (hw k hk))
      have hz := pk_0 k hk.1.1 hk.1.2
      rcases Tx_c hk with c_l | ⟨o, q, o1, o2, o3_l, o4_l⟩
      · obtain ⟨o, q, o1, o2, o3_l, o4_l⟩ := pa_9C c_l
        show gI s15 (pa 9 15 k) (pj k) = gI s9 (pa 36 42 k) (pj k)
        rw [o2, o2, o3_l, i15 _ _ (by omega), (h13.2 _ q).1 (o4_l _), show 15 + o - 15 + 42 = 42 + o by omega, i12_l _ _ (by omega)]
        exact (h10.2 _ q).2 (fun z_l => by have := bkb z_l; omega)
      · rw [o2, o3_l] at hz
        show gI s15 (pa 9 15 k) (pj k) = gI s9 (pa 36 42 k) (pj k)
        rw [o2, o2, o3_l, i15 _ _ (by omega), i13 _ _ (by omega), i12_l _ _ (fun z_l => ck (hz z_l.1 z_l.2)), (h10.2 _ q).1 (o4_l _), show 9 + o - 9 + 36 = 36 + o by omega]
  · rw [if_neg c12]
    exact gQ_ret ⟨hfr, Or.inl ⟨Or.inr ⟨rfl, c12, W0, hq⟩, hfr2, hfr3⟩⟩
theorem rb_89 (hJ : J p s) (h : Rt s) : gQ (f_89 0 s) (Bh s p.2.1.toNat) := by
  have hg : RF s := hJ.1.2.1
  have hl : gI s 1 1 = p.2.1 := hJ.2.2.1
  have hb_l := J_f hJ (kd := 10) (a := 1) (i := 1) t10 rfl (fun z_l => by cases z_l) (x := 0) (y := 400) rfl
  obtain ⟨b1, b2, b3, b4, b5, b6⟩ := k0_b
  unfold f_89
  rw [(rr_0_8 hg).2, (rr_0_4 hg).2]
  refine gQ_v0 (A := fun z_l => BC 36 9 s z_l) (fun r_l hr => (gQ_T (s_1 hg ⟨by decide, b2⟩ ⟨by decide, b1⟩ (by decide)) r_l hr).2) (fun s1_l h1 => ?_)
  have hg1 : RF s1_l := RF_bc hg b2 h1
  rw [(rr_0_9 hg1).2, (rr_0_5 hg1).2]
  refine gQ_v0 (A := fun z_l => CC 42 15 s1_l z_l) (fun r_l hr => (gQ_T (s_23 hg1 ⟨by decide, b5⟩ ⟨by decide, b4⟩ (by decide)) r_l hr).2) (fun s3_l h3 => ?_)
  have hg3 : RF s3_l := RF_sm hg1 h3.1.2.2
  rw [(rr_0_2 hg3).2, (rr_0_8 hg3).2, (rr_0_9 hg3).2]
  have f3_l : ∀ a_l k_l, ¬ (36 ≤ a_l ∧ a_l < 54) → gI s3_l a_l k_l = gI s a_l k_l := fun a_l k_l ha_l => cc_f h1 h3 (by omega) (by omega)
  have hV : ∀ k_l, Tx k_l → cv s3_l 36 42 k_l = gI s 218 k_l := fun k_l hk => (cc_c h1 h3 (by omega) (by omega) hk).trans (h.1 k_l hk).1.symm
  have hT_l : Tp s3_l (gI s 222) p.2.1.toNat := by
    refine ⟨(hg3 1 0 (by decide) (by decide +kernel)).trans (by decide +kernel), ?_, by omega, fun j_l => ?_⟩
    · rw [f3_l 1 1 (by omega), hl]
      omega
    · rw [f3_l 2 j_l (by omega)]
      exact h.2.1 j_l
  have hR : Rg (cv s3_l 36 42) := by
    have m_l : ∀ k_l x_l y_l, arn 218 k_l = some (x_l, y_l) → x_l ≤ gI s 218 k_l ∧ gI s 218 k_l ≤ y_l := fun k_l x_l y_l hk => J_ra hJ (a := 218) (k := k_l) (by decide) (by rw [k0_sp.2.2.2.1]; decide) hk
    refine ⟨?_, ?_, ?_, ?_⟩
    · rw [hV 3 Tx_n.2.1]
      exact m_l 3 0 8 rfl
    · rw [hV 4 Tx_n.2.2.1]
      exact m_l 4 0 6 rfl
    · rw [hV 5 Tx_n.2.2.2.1]
      exact m_l 5 0 6 rfl
    · rw [hV 6 Tx_n.2.2.2.2]
      exact m_l 6 0 6 rfl
  have hS_l := rdb_S (L := gI s 222) (e := p.2.1.toNat) (S := Tx) Tx_n.2.1 Tx_n.2.2.1 Tx_n.2.2.2.1 Tx_n.2.2.2.2 hV
  refine gQ_w1 (A := fun v_l u_l => Df s3_l u_l ∧ ((v_l = 0 ∧ ∃ q_l, rdb (gI s 222) p.2.1.toNat (cv s3_l 36 42) = Sum.inl q_l) ∨ (v_l = 1 ∧ ∃ W_l, rdb (gI s 222) p.2.1.toNat (cv s3_l 36 42) = Sum.inr W_l ∧ ∀ k_l, KK k_l → cv u_l 36 42 k_l = W_l k_l))) (fun r_l hr => ?_) (fun v_l u_l hu => ?_)
  · obtain ⟨x1_l, x2_l, x3⟩ := gQ_T (c_11 hT_l (Rd_RF hg3) hR) r_l hr
    refine ⟨x2_l, ?_⟩
    rcases x3 with ⟨q_l, y1, y2, y3⟩ | ⟨W_l, y1, y2, y3⟩
    · exact Or.inl ⟨y2, q_l, y1⟩
    · exact Or.inr ⟨y2, W_l, y1, y3⟩
  obtain ⟨hD, hv⟩ := hu
  have hgu : RF u_l := fun a_l k_l ha_l hz => (hD.1.2.2 a_l k_l).trans (hg3 a_l k_l ha_l hz)
  have hnu : 232 ≤ gn u_l := by
    rw [hD.1.1]
    show 232 ≤ s3_l.1
    rw [h3.1.1, h1.1.1]
    exact hJ.1.1
  have hFu : ∀ a_l k_l, a_l ≠ 1 → ¬ (36 ≤ a_l ∧ a_l < 54) → gI u_l a_l k_l = gI s a_l k_l := fun a_l k_l ha_l hz => (hD.2 a_l k_l (by omega) hz).trans (f3_l a_l k_l hz)
  have key_l : ∀ w0_l, gQ (fb_89_54 0 v_l w0_l 0 u_l) (Bh s p.2.1.toNat) := fun w0_l => by
    rcases hS_l with ⟨q_l, z1, z2⟩ | ⟨W_l, W', z1, z2, z3⟩
    · rcases hv with ⟨v0_l, _⟩ | ⟨v1_l, W_l, y1, _⟩
      · exact b_89 (W0 := gI s 218) h hgu hnu hFu (Or.inl ⟨v0_l, q_l, z2⟩)
      · rw [z1] at y1
        cases y1
    · rcases hv with ⟨v0_l, q_l, y1⟩ | ⟨v1_l, W1_l, y1, y2⟩
      · rw [z1] at y1
        cases y1
      · rw [z1] at y1
        injection y1 with y3
        exact b_89 (W0 := W') h hgu hnu hFu (Or.inr ⟨v1_l, z2, fun k_l hk => by rw [y2 k_l hk.1, ← y3]; exact z3 k_l hk⟩)
  exact gQ_ite (key_l _) (key_l _)
end Bk

end
section
/-! the model reads a book; both halves together -/
/-- between the two halves of book -/
noncomputable def Mbo (l : Nat) (v : Int) (s : gS) : Prop := (Rc2 s ∧ Rc3 s ∧ Rc4 s ∧ Rc5 s) ∧ ((((v = 1 ∧ ∃ q, rdb (gI s 222) l (gI s 218) = Sum.inl q) ∨ (v = 2 ∧ gI s 218 0 = 12 ∧ ∃ W, rdb (gI s 222) l (gI s 218) = Sum.inr W)) ∧ Rc1 s) ∨ (v = 0 ∧ (0 ≤ gI s 218 0 ∧ gI s 218 0 < 12) ∧ Rv (gI s 218) ∧ ∃ W, rdb (gI s 222) l (gI s 218) = Sum.inr W ∧ gI s 231 0 = gI s 218 0 + 1 ∧ ∀ k, Tx k → cv s 9 15 k = if k = 0 then gI s 218 0 + 1 else W k))
section Mk
variable {s t u : gS} {p : gP} {L : Nat → Int} {e l : Nat} {V W : Nat → Int} {v : Int}
theorem gQ_d1 {Q : Type} {P : Q → Prop} {z : Option gO} {A : gO → Prop} {K : Nat → gS → Option Q} {E : Int → gS → Option Q} (h : gQ z A) (k : ∀ r, A r → r.1 = 1 → gQ (E r.2.1 r.2.2.2) P) (kz : ∀ r, A r → 2 ≤ r.1 → gQ (K (r.1 - 2) r.2.2.2) P) : gQ (z.bind (gc1 K E)) P := by
  cases z with
  | none => exact gQ_none
  | some r =>
    have hA := h r rfl
    show gQ (gc1 K E r) P
    unfold gc1
    by_cases c : r.1 = 1
    · rw [if_pos c]
      exact k r hA c
    · rw [if_neg c]
      by_cases d : 2 ≤ r.1
      · rw [if_pos d]
        exact kz r hA d
      · rw [if_neg d]
        exact gQ_none
theorem bo_c (h : Rt s) {r : gO} (hB : Bh s l r) (hc : (∀ a k, 9 ≤ a → a < 27 → gI r.2.2.2 a k = gI s a k) ∧ gI r.2.2.2 0 14 = gI s 0 14) : Rc1 r.2.2.2 ∧ Rc4 r.2.2.2 := by
  obtain ⟨hf, -⟩ := hB
  exact ⟨c1_e h.1 hc.1 (fun k _ => hf 218 k (by decide) (by decide) (by omega) (by omega) (by omega)), c4_e h.2.2.2.1 (hf 0 13 (by decide) (by decide) (by omega) (by omega) (by omega)) hc.2 hc.1 (fun a k h1 h2 => hf a k (by omega) (by omega) (by omega) (by omega) (by omega))⟩
theorem bo_d (h : Rt s) {r : gO} (hf : ∀ a k, a < 232 → a ≠ 1 → ¬ (9 ≤ a ∧ a < 27) → ¬ (36 ≤ a ∧ a < 54) → ¬ (a = 0 ∧ (k = 14 ∨ k = 16)) → gI r.2.2.2 a k = gI s a k) : Rc2 r.2.2.2 ∧ Rc3 r.2.2.2 ∧ Rc5 r.2.2.2 := by
  obtain ⟨h1, h2, h3, h4, h5⟩ := h
  exact ⟨fun k => (hf 2 k (by decide) (by decide) (by omega) (by omega) (by omega)).trans ((h2 k).trans (hf 222 k (by decide) (by decide) (by omega) (by omega) (by omega)).symm), c3_e h3 (hf 217 3 (by decide) (by decide) (by omega) (by omega) (by omega)) (fun a k g1 g2 => hf a k (by omega) (by omega) (by omega) (by omega) (by omega)) (fun k => hf 219 k (by decide) (by decide) (by omega) (by omega) (by omega)), c5_e h5 (hf 217 6 (by decide) (by decide) (by omega) (by omega) (by omega)) (fun k => hf 221 k (by decide) (by decide) (by omega) (by omega) (by omega)) (fun k => hf 218 k (by decide) (by decide) (by omega) (by omega) (by omega))⟩
theorem rb_276 (hJ : J p s) (h : Rt s) : gQ (f_276 0 231 s) (fun r => Mbo p.2.1.toNat r.2.1 r.2.2.2) := by
  have q2_l : 0 ≤ gI s 218 0 ∧ gI s 218 0 ≤ 12 := ⟨(h.1 0 Tx_n.1).2.2.1, (h.1 0 Tx_n.1).2.1 rfl⟩
  unfold f_276
  refine gQ_d1 (rb_89 hJ h) (fun r hB_l hr => ?_) (fun r hB_l hr => ?_)
  · refine gQ_chk ?_
    dsimp only
    refine gQ_ret ?_
    dsimp only
    obtain ⟨hf, hc_l⟩ := hB_l
    obtain ⟨d2_l, d3_l, d5_l⟩ := bo_d h hf
    rcases hc_l with ⟨⟨z_l, -⟩ | ⟨z_l, -⟩, -⟩ | ⟨-, c2_l, W_l, c3_l, c4_l, c5_l, c6_l⟩
    · omega
    · omega
    have e2_l : ∀ a_l k_l, a_l ≠ 231 → gI (gw r.2.2.2 231 (0 : Int).toNat r.2.1) a_l k_l = gI r.2.2.2 a_l k_l := fun a_l k_l ha_l => rd_a rfl ha_l
    have e3_l : gI (gw r.2.2.2 231 (0 : Int).toNat r.2.1) 231 0 = r.2.1 := rd_same rfl
    generalize gw r.2.2.2 231 (0 : Int).toNat r.2.1 = t at *
    have g8 : ∀ k_l, gI t 218 k_l = gI s 218 k_l := fun k_l => (e2_l 218 k_l (by decide)).trans (hf 218 k_l (by decide) (by decide) (by omega) (by omega) (by omega))
    have g22 : gI t 222 = gI s 222 := funext fun k_l => (e2_l 222 k_l (by decide)).trans (hf 222 k_l (by decide) (by decide) (by omega) (by omega) (by omega))
    have g18 : gI t 218 = gI s 218 := funext g8
    refine ⟨⟨fun k_l => (e2_l 2 k_l (by decide)).trans ((d2_l k_l).trans (e2_l 222 k_l (by decide)).symm), c3_e d3_l (e2_l 217 3 (by decide)) (fun a_l k_l g1 g2 => e2_l a_l k_l (by omega)) (fun k_l => e2_l 219 k_l (by decide)), c4_0 ?_ ((e2_l 0 14 (by decide)).trans c5_l), c5_e d5_l (e2_l 217 6 (by decide)) (fun k_l => e2_l 221 k_l (by decide)) (fun k_l => e2_l 218 k_l (by decide))⟩, Or.inr ⟨rfl, ?_, ?_, W_l, ?_, ?_, fun k_l hk => ?_⟩⟩
    · rw [e2_l 0 13 (by decide), hf 0 13 (by decide) (by decide) (by omega) (by omega) (by omega)]
      exact h.2.2.2.1.1
    · rw [g18]
      exact ⟨q2_l.1, c2_l⟩
    · rw [g18]
      exact fun k_l hk => (h.1 k_l hk).2.2
    · rw [g22, g18]
      exact c3_l
    · rw [e3_l, g18]
      exact c4_l
    · have hp := pa_15 k_l hk.1.1
      have e4_l : cv t 9 15 k_l = cv r.2.2.2 9 15 k_l := e2_l _ _ (by omega)
      rw [e4_l, g18]
      exact c6_l k_l hk
  · obtain ⟨hf, hc_l⟩ := id hB_l
    obtain ⟨d2_l, d3_l, d5_l⟩ := bo_d h hf
    have g22 : gI r.2.2.2 222 = gI s 222 := funext fun k_l => hf 222 k_l (by decide) (by decide) (by omega) (by omega) (by omega)
    have g18 : gI r.2.2.2 218 = gI s 218 := funext fun k_l => hf 218 k_l (by decide) (by decide) (by omega) (by omega) (by omega)
    rcases hc_l with ⟨hq, hx⟩ | ⟨z_l, -⟩
    · obtain ⟨m1_l, m4_l⟩ := bo_c h hB_l hx
      rcases hq with ⟨z_l, q_l, hq⟩ | ⟨z_l, c12_l, W_l, hq⟩
      · rw [if_pos (by omega)]
        refine gQ_ret ⟨⟨d2_l, d3_l, m4_l, d5_l⟩, Or.inl ⟨Or.inl ⟨rfl, q_l, ?_⟩, m1_l⟩⟩
        dsimp only
        rw [g22, g18]
        exact hq
      · rw [if_neg (by omega), if_pos (by omega)]
        refine gQ_ret ⟨⟨d2_l, d3_l, m4_l, d5_l⟩, Or.inl ⟨Or.inr ⟨rfl, ?_, W_l, ?_⟩, m1_l⟩⟩
        · dsimp only
          rw [g18]
          omega
        · dsimp only
          rw [g22, g18]
          exact hq
    · omega
/-- the model's reading of a book -/
theorem m_184 (hL : ∀ k, 0 ≤ L k ∧ L k ≤ 255) (hM : Mp s L e) (h11 : gI s 217 11 = 0) (h12 : gI s 217 12 = -1) (h9 : gI s 217 9 = -1) (hJ : J p s) (hg : Rg (gI s 218)) : gT (f_184 217 0 s) (MB (rdb L e (gI s 218)) s) := by
  have hb_l := sk_b (L := L) (e := e) (a := 0) (Nat.zero_le e)
  unfold f_184
  refine gT_v0 (A := fun z_l => (Fm s z_l ∧ gI z_l 217 12 = gI s 217 12 ∧ gI z_l 217 11 = ((sk L e 0 : Nat) : Int)) ∧ J p z_l) (gT_b0 (A := fun z_l => Fm s z_l ∧ gI z_l 217 12 = gI s 217 12 ∧ gI z_l 217 11 = ((sk L e 0 : Nat) : Int)) (B := fun z_l => J p z_l) (w_169 (a := 0) hM h11 (Nat.zero_le e)) (gT_mono (k_169 hJ) (fun r_l hr => ⟨hr.1, hr.2.1⟩))) (fun s1_l h1 => ?_)
  obtain ⟨⟨f1_l, f2_l, f3_l⟩, j1⟩ := h1
  have e10_l : gI s1_l 217 10 = (e : Int) := (f1_l.2 217 10 (by omega)).trans hM.1.1
  rw [f3_l, e10_l]
  unfold rdb
  by_cases c : sk L e 0 = e
  · rw [if_pos c, if_neg (by omega)]
    unfold fb_184_20
    refine gT_step ?_
    show gT (sb_184_23 217 0 0 0 s1_l) _
    unfold sb_184_23
    rw [if_pos rfl]
    refine gT_map (gT_ret ⟨rfl, Mf_fm f1_l, Or.inr ⟨_, rfl, f2_l.trans h12, fun k hk => f1_l.2 218 k (by omega)⟩⟩)
  · rw [if_neg c, if_pos (by omega)]
    unfold fb_184_20
    have hMt : Mat s1_l L e (sk L e 0) := ⟨Mp_fr hM f1_l, f2_l.trans h12, sk L e 0, f3_l, hb_l.2, sk_i⟩
    refine gT_mono (m_lp hL 14 0 (sk L e 0) s1_l (gI s 218) (Int.le_refl 0) rfl hMt j1 ((f1_l.2 217 9 (by omega)).trans h9) hg (fun k hk => f1_l.2 218 k (by omega))) (fun r_l hr => MB_t (Mf_fm f1_l) hr)
/-- what is left behind the reading -/
noncomputable def Mq (s u : gS) : Prop := RF u ∧ (∀ k, k < 340 → gI u 220 k = gI s 218 k) ∧ ∀ a k, a ≠ 220 → ¬ (a = 218 ∧ k < 100) → ¬ (a = 217 ∧ (k = 0 ∨ 8 ≤ k)) → gI u a k = gI s a k
theorem bq_1 {w0 : Int} (hw : w0 = 1 ∨ w0 = 2) (h : Mq s u) : gQ (fb_187_43 217 w0 217 u) (fun r => gI r.2.2.2 217 0 = w0 ∧ (∀ k, gI r.2.2.2 218 k = gI s 218 k) ∧ ∀ a k, a ≠ 220 → ¬ (a = 217 ∧ (k = 0 ∨ 8 ≤ k)) → gI r.2.2.2 a k = gI s a k) := by
  obtain ⟨hg, ha_l, hf⟩ := h
  have e0_l : gI (gw u 217 0 w0) 217 0 = w0 := rd_same rfl
  have hg7 : RF (gw u 217 0 w0) := RF_sm hg rfl
  unfold fb_187_43
  dsimp only
  rw [e0_l, if_pos (by omega)]
  have i7_l : ∀ a k, ¬ (a = 217 ∧ k = 0) → gI (gw u 217 0 w0) a k = gI u a k := fun a k hz => by
    show (if a = 217 ∧ k = 0 then _ else gI u a k) = _
    rw [if_neg hz]
  generalize gw u 217 0 w0 = s7 at *
  refine gQ_v0 (A := fun z_l => Sm s7 z_l ∧ (∀ k, k < 340 → gI z_l 218 k = gI s7 220 k) ∧ ∀ a k, ¬ (a = 218 ∧ k < 340) → gI z_l a k = gI s7 a k) (fun r hr => x_186 (rr_217_1 hg7).2 (rr_217_4 hg7).2 r hr) (fun s8 h8 => ?_)
  obtain ⟨x1_l, x2_l, x3⟩ := h8
  have k8_l : ∀ k, gI s8 218 k = gI s 218 k := fun k => by
    by_cases c : k < 340
    · rw [x2_l k c, i7_l 220 k (by omega)]
      exact ha_l k c
    · rw [x3 218 k (by omega), i7_l 218 k (by omega)]
      exact hf 218 k (by omega) (by omega) (by omega)
  refine gQ_ret ⟨(x3 217 0 (by omega)).trans e0_l, k8_l, fun a k h1 h2 => ?_⟩
  dsimp only
  by_cases c : a = 218
  · rw [c]
    exact k8_l k
  · rw [x3 a k (by omega), i7_l a k (by omega)]
    exact hf a k h1 (by omega) h2
theorem bq_0 {x : Int} (h : Mq s u) (hx : gI u 218 0 = x) (hb : 0 ≤ x ∧ x < 12) : gQ (fb_187_43 217 0 217 u) (fun r => r.2.1 = x + 1 ∧ gI r.2.2.2 217 0 = 0 ∧ gI r.2.2.2 217 6 = 0 ∧ gI r.2.2.2 218 0 = x + 1 ∧ (∀ k, k ≠ 0 → gI r.2.2.2 218 k = gI u 218 k) ∧ ∀ a k, a ≠ 220 → a ≠ 218 → ¬ (a = 217 ∧ (k = 0 ∨ k = 6 ∨ 8 ≤ k)) → gI r.2.2.2 a k = gI s a k) := by
  obtain ⟨hg, ha_l, hf⟩ := h
  have e0_l : gI (gw u 217 0 0) 217 0 = 0 := rd_same rfl
  have hg7 : RF (gw u 217 0 0) := RF_sm hg rfl
  unfold fb_187_43
  dsimp only
  rw [e0_l, if_neg (by omega)]
  have i7_l : ∀ a k, ¬ (a = 217 ∧ k = 0) → gI (gw u 217 0 0) a k = gI u a k := fun a k hz => by
    show (if a = 217 ∧ k = 0 then _ else gI u a k) = _
    rw [if_neg hz]
  generalize gw u 217 0 0 = s7 at *
  have r1_l : gR s7 217 1 = 218 := (rr_217_1 hg7).2
  rw [r1_l, i7_l 218 0 (by omega), hx, g32_eq (v := x + 1) (by omega) (by omega)]
  have r2 : gR (gw (gw s7 218 0 (x + 1)) 217 6 0) 217 1 = 218 := r1_l
  rw [r2]
  have j1 : gI (gw (gw s7 218 0 (x + 1)) 217 6 0) 218 0 = x + 1 := (rd_a rfl (by decide)).trans (rd_same rfl)
  have j2_l : gI (gw (gw s7 218 0 (x + 1)) 217 6 0) 217 6 = 0 := rd_same rfl
  have j3_l : ∀ a k, ¬ (a = 217 ∧ k = 6) → ¬ (a = 218 ∧ k = 0) → gI (gw (gw s7 218 0 (x + 1)) 217 6 0) a k = gI s7 a k := fun a k h1 h2 => by
    show (if a = 217 ∧ k = 6 then _ else if a = 218 ∧ k = 0 then _ else gI s7 a k) = _
    rw [if_neg h1, if_neg h2]
  refine gQ_ret ?_
  generalize gw (gw s7 218 0 (x + 1)) 217 6 0 = s11 at *
  refine ⟨j1, (j3_l 217 0 (by omega) (by omega)).trans e0_l, j2_l, j1, fun k hk => ?_, fun a k h1 h2 h3 => ?_⟩
  · dsimp only
    rw [j3_l 218 k (by omega) (by omega), i7_l 218 k (by omega)]
  · dsimp only
    rw [j3_l a k (by omega) (by omega), i7_l a k (by omega)]
    exact hf a k h1 (by omega) (by omega)
theorem rb_187 (hp : -1 ≤ p.1 ∧ p.1 ≤ 0) (hJ : J p s) (h : Mbo p.2.2.1.toNat v s) : gQ (f_187 217 s) (fun r => Rt r.2.2.2 ∧ gI r.2.2.2 217 0 = v ∧ (v = 0 → gI r.2.2.2 231 0 = r.2.1)) := by
  have hg : RF s := hJ.1.2.1
  have hl : gI s 217 8 = p.2.2.1 := hJ.2.2.2.1
  have hb8 := J_f hJ (kd := 12) (a := 217) (i := 8) t217 rfl (fun z_l => by cases z_l) (x := 0) (y := 400) rfl
  have hL : ∀ k_l, 0 ≤ gI s 222 k_l ∧ gI s 222 k_l ≤ 255 := fun k_l => J_ra hJ (a := 222) (k := k_l) (by decide) (by rw [k0_sp.2.1]; decide) rfl
  have m_l : ∀ k_l x_l y_l, arn 218 k_l = some (x_l, y_l) → x_l ≤ gI s 218 k_l ∧ gI s 218 k_l ≤ y_l := fun k_l x_l y_l hk => J_ra hJ (a := 218) (k := k_l) (by decide) (by rw [k0_sp.2.2.2.1]; decide) hk
  have hR : Rg (gI s 218) := ⟨m_l 3 0 8 rfl, m_l 4 0 6 rfl, m_l 5 0 6 rfl, m_l 6 0 6 rfl⟩
  unfold f_187
  refine gQ_v0 (A := fun z_l => (Sm s z_l ∧ Asd z_l ∧ ∀ a_l k_l, a_l ≠ 220 → gI z_l a_l k_l = gI s a_l k_l) ∧ J p z_l) (fun r hr => ⟨x_185 (rr_217_1 hg).2 (rr_217_4 hg).2 r hr, (gQ_T (d_185 hp hJ t217) r hr).2⟩) (fun s1_l h1 => ?_)
  obtain ⟨⟨x1_l, x2_l, x3⟩, j1⟩ := h1
  refine gQ_v0 (A := fun z_l => (Sm s1_l z_l ∧ (gI z_l 217 12 = -1 ∧ gI z_l 217 9 = -1 ∧ gI z_l 217 10 = gI s 217 8 ∧ gI z_l 217 11 = 0) ∧ ∀ a_l k_l, ¬ (a_l = 217 ∧ 8 ≤ k_l) → gI z_l a_l k_l = gI s1_l a_l k_l) ∧ J (p.1, p.2.1, 0, p.2.2.2.1, p.2.2.2.2) z_l) (fun r hr => ⟨?_, (gQ_T (d_183 hp j1 t217) r hr).2⟩) (fun s3_l h3 => ?_)
  · unfold f_183 at hr
    dsimp only at hr
    cases hr
    dsimp only
    refine ⟨⟨rfl, rfl, rfl⟩, ⟨?_, ?_, ?_, ?_⟩, fun a_l k_l hz => ?_⟩
    · simp only [rdw]
      rfl
    · simp only [rdw]
      rfl
    · simp only [rdw]
      exact x3 217 8 (by decide)
    · simp only [rdw]
      rfl
    · simp only [rdw]
      rw [if_neg (by omega), if_neg (by omega), if_neg (by omega), if_neg (by omega), if_neg (by omega), if_neg (by omega)]
  obtain ⟨⟨y1, ⟨y2, y3, y4, y5⟩, y6⟩, j3_l⟩ := h3
  have hg3 : RF s3_l := j3_l.1.2.1
  have i3_l : ∀ a_l k_l, a_l ≠ 220 → ¬ (a_l = 217 ∧ 8 ≤ k_l) → gI s3_l a_l k_l = gI s a_l k_l := fun a_l k_l ha_l hz => (y6 a_l k_l hz).trans (x3 a_l k_l ha_l)
  have g18 : gI s3_l 218 = gI s 218 := funext fun k_l => i3_l 218 k_l (by decide) (by omega)
  have a3 : ∀ k_l, k_l < 340 → gI s3_l 220 k_l = gI s 218 k_l := fun k_l hk => by
    rw [y6 220 k_l (by omega), x2_l k_l hk]
    exact x3 218 k_l (by decide)
  have hM_l : Mp s3_l (gI s 222) p.2.2.1.toNat := by
    refine ⟨⟨?_, by omega⟩, ⟨(rr_217_1 hg3).2, (rr_217_7 hg3).2⟩, fun k_l hk => ?_⟩
    · rw [y4, hl]
      omega
    · unfold f_168
      rw [if_pos y3, (rr_217_7 hg3).2, Int.toNat_natCast]
      unfold gchk
      rw [if_pos (by omega), i3_l 222 k_l (by decide) (by omega)]
  have hT_l := m_184 hL hM_l y5 y2 y3 j3_l (by rw [g18]; exact hR)
  rw [g18] at hT_l
  refine gQ_w1 (A := fun _ z_l => Mf s3_l z_l ∧ ((∃ q_l : Nat, rdb (gI s 222) p.2.2.1.toNat (gI s 218) = Sum.inl q_l ∧ gI z_l 217 12 = (q_l : Int)) ∨ (∃ W_l : Nat → Int, rdb (gI s 222) p.2.2.1.toNat (gI s 218) = Sum.inr W_l ∧ gI z_l 217 12 = -1 ∧ ∀ k_l, k_l < 100 → gI z_l 218 k_l = W_l k_l))) (fun r hr => (gQ_T hT_l r hr).2) (fun v6 s5 h5 => ?_)
  obtain ⟨f5_l, h5⟩ := h5
  have hg5 : RF s5 := fun a_l k_l ha_l hz => (f5_l.1.2.2 a_l k_l).trans (hg3 a_l k_l ha_l hz)
  have hQ : Mq s s5 := ⟨hg5, fun k_l hk => (f5_l.2 220 k_l (by omega) (by omega)).trans (a3 k_l hk), fun a_l k_l h1 h2 h3 => (f5_l.2 a_l k_l (by omega) h2).trans (i3_l a_l k_l h1 (by omega))⟩
  rw [(rr_217_1 hg5).2]
  obtain ⟨⟨d2_l, d3_l, d4_l, d5_l⟩, hc_l⟩ := h
  have bad_l : ∀ w0_l : Int, Rc1 s → (w0_l = 1 ∨ w0_l = 2) → v = w0_l → gQ (fb_187_43 217 w0_l 217 s5) (fun r => Rt r.2.2.2 ∧ gI r.2.2.2 217 0 = v ∧ (v = 0 → gI r.2.2.2 231 0 = r.2.1)) := fun w0_l hC hw hv r hr => by
    obtain ⟨z1, z2, z3⟩ := bq_1 hw hQ r hr
    refine ⟨Rt_5 (c1_e hC (fun a_l k_l h1 h2 => z3 a_l k_l (by omega) (by omega)) (fun k_l _ => z2 k_l)) (fun k_l => (z3 2 k_l (by omega) (by omega)).trans ((d2_l k_l).trans (z3 222 k_l (by omega) (by omega)).symm)) (c3_e d3_l (z3 217 3 (by omega) (by omega)) (fun a_l k_l h1 h2 => z3 a_l k_l (by omega) (by omega)) (fun k_l => z3 219 k_l (by omega) (by omega))) (c4_e d4_l (z3 0 13 (by omega) (by omega)) (z3 0 14 (by omega) (by omega)) (fun a_l k_l h1 h2 => z3 a_l k_l (by omega) (by omega)) (fun a_l k_l h1 h2 => z3 a_l k_l (by omega) (by omega))) (c5_e d5_l (z3 217 6 (by omega) (by omega)) (fun k_l => z3 221 k_l (by omega) (by omega)) z2), z1.trans hv.symm, fun z_l => by omega⟩
  rcases h5 with ⟨q_l, q1_l, q2_l⟩ | ⟨W_l, q1_l, q2_l, q3_l⟩
  · rw [if_neg (by omega)]
    rcases hc_l with ⟨⟨v1_l, -⟩ | ⟨-, -, W_l, q3_l⟩, hC⟩ | ⟨-, -, -, W_l, q3_l, -⟩
    · exact bad_l 1 hC (Or.inl rfl) v1_l
    · rw [q1_l] at q3_l
      cases q3_l
    · rw [q1_l] at q3_l
      cases q3_l
  · have w0_l := rdb_0 q1_l
    have e5_l : gI s5 218 0 = gI s 218 0 := (q3_l 0 (by decide)).trans w0_l
    rw [if_pos q2_l, e5_l]
    rcases hc_l with ⟨⟨-, q_l, z_l⟩ | ⟨v2, c12_l, -⟩, hC⟩ | ⟨v0_l, c12_l, hv, W2_l, z1, z2, z3⟩
    · rw [q1_l] at z_l
      cases z_l
    · rw [if_pos c12_l]
      exact bad_l 2 hC (Or.inr rfl) v2
    · rw [if_neg (by omega)]
      rw [q1_l] at z1
      injection z1 with z4
      intro r hr
      obtain ⟨w1_l, w2_l, w3_l, w4_l, w5, w6_l⟩ := bq_0 hQ e5_l c12_l r hr
      refine ⟨Rt_5 (fun k_l hk => ?_) (fun k_l => (w6_l 2 k_l (by omega) (by omega) (by omega)).trans ((d2_l k_l).trans (w6_l 222 k_l (by omega) (by omega) (by omega)).symm)) (c3_e d3_l (w6_l 217 3 (by omega) (by omega) (by omega)) (fun a_l k_l h1 h2 => w6_l a_l k_l (by omega) (by omega) (by omega)) (fun k_l => w6_l 219 k_l (by omega) (by omega) (by omega))) (c4_e d4_l (w6_l 0 13 (by omega) (by omega) (by omega)) (w6_l 0 14 (by omega) (by omega) (by omega)) (fun a_l k_l h1 h2 => w6_l a_l k_l (by omega) (by omega) (by omega)) (fun a_l k_l h1 h2 => w6_l a_l k_l (by omega) (by omega) (by omega))) (c5_0 w3_l), w2_l.trans v0_l.symm, fun _ => ?_⟩
      · have hp := pa_15 k_l hk.1.1
        have e9_l : cv r.2.2.2 9 15 k_l = cv s 9 15 k_l := w6_l _ _ (by omega) (by omega) (by omega)
        rw [e9_l, z3 k_l hk]
        by_cases ck : k_l = 0
        · rw [if_pos ck, ck, w4_l]
          exact ⟨rfl, fun _ => by omega, by omega⟩
        · rw [if_neg ck, w5 k_l ck, q3_l k_l hk.1.1, z4]
          exact ⟨rfl, fun z_l => absurd z_l ck, by rw [← z4]; exact rdb_R q1_l hR hv k_l hk⟩
      · rw [w6_l 231 0 (by omega) (by omega) (by omega), z2]
        exact w1_l.symm
end Mk

end
