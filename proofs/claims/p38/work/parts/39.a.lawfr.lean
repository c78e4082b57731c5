/-! frames of the tape and of the law reader -/
theorem rr_0_3 {g : gS} (hg : RF g) : 0 < 232 ∧ gR g 0 3 = 7 := ⟨by decide, (hg 0 3 (by decide) (by decide +kernel)).trans (by decide +kernel)⟩
theorem rr_7_0 {g : gS} (hg : RF g) : 7 < 232 ∧ gR g 7 0 = 1 := ⟨by decide, (hg 7 0 (by decide) (by decide +kernel)).trans (by decide +kernel)⟩
theorem rr_7_1 {g : gS} (hg : RF g) : 7 < 232 ∧ gR g 7 1 = 8 := ⟨by decide, (hg 7 1 (by decide) (by decide +kernel)).trans (by decide +kernel)⟩
theorem ofb_78_172 {W : Nat → Nat → Bool} {g s : gS} {x0 : Nat} {x4 : Int} {w0 : Int} (hg_o : RF g) (hU_o : ∀ a k, csq a k = true → W a k = true) (ex0_o : x0 = 1) (h_o : Fw W g s) : gQ (fb_78_172 x0 x4 w0 s) (fun r => Fw W g r.2.2.2) := by
  subst ex0_o
  unfold fb_78_172
  refine gQ_loop (fun y_l => y_l.1 = 1 ∧ Fw W g (y_l.2.2.2)) (fun y_l hy_o => ?_) ⟨rfl, h_o⟩
  obtain ⟨x1_o, x2_o, x3_o, x4_o⟩ := y_l
  obtain ⟨e6_o, h5_o⟩ := hy_o
  dsimp only at e6_o h5_o
  subst e6_o
  show gQ (sb_78_174 1 x2_o x3_o x4_o) _
  unfold sb_78_174
  dsimp only
  refine gQ_ite ?_ ?_
  · refine gQ_map ?_
    exact gQ_ret h5_o
  · refine gQ_ite ?_ ?_
    · refine gQ_chk2 (fun ha7_o hb8_o => ?_)
      refine gQ_ite ?_ ?_
      · refine gQ_map ?_
        exact gQ_ret h5_o
      · refine gQ_chk2 (fun ha9_o hb10_o => ?_)
        refine gQ_ite ?_ ?_
        · refine gQ_map ?_
          exact gQ_ret h5_o
        · exact gQ_ret ⟨rfl, (Fw_w h5_o rfl (hU_o 1 _ rfl))⟩
    · refine gQ_map ?_
      exact gQ_ret h5_o

theorem ofb_78_159 {W : Nat → Nat → Bool} {g s : gS} {x0 : Nat} {x2 : Int} {w0 : Int} (hg_o : RF g) (hU_o : ∀ a k, csq a k = true → W a k = true) (ex0_o : x0 = 1) (h_o : Fw W g s) : gQ (fb_78_159 x0 x2 w0 s) (fun r => Fw W g r.2.2.2) := by
  subst ex0_o
  unfold fb_78_159
  refine gQ_ite ?_ ?_
  · exact (ofb_78_172 hg_o hU_o rfl h_o)
  · exact (ofb_78_172 hg_o hU_o rfl h_o)

theorem ofb_78_135 {W : Nat → Nat → Bool} {g s : gS} {x0 : Nat} {x2 : Int} {w0 : Int} {w1 : Nat} (hg_o : RF g) (hU_o : ∀ a k, csq a k = true → W a k = true) (ex0_o : x0 = 1) (ew1_o : w1 = 1) (h_o : Fw W g s) : gQ (fb_78_135 x0 x2 w0 w1 s) (fun r => Fw W g r.2.2.2) := by
  subst ex0_o ew1_o
  unfold fb_78_135
  dsimp only
  refine gQ_ite ?_ ?_
  · exact (ofb_78_159 hg_o hU_o rfl (Fw_w (Fw_w h_o rfl (hU_o 1 _ rfl)) rfl (hU_o 1 _ rfl)))
  · exact (ofb_78_159 hg_o hU_o rfl (Fw_w (Fw_w h_o rfl (hU_o 1 _ rfl)) rfl (hU_o 1 _ rfl)))

theorem ofb_78_116 {W : Nat → Nat → Bool} {g s : gS} {x0 : Nat} {x2 : Int} {w0 : Int} (hg_o : RF g) (hU_o : ∀ a k, csq a k = true → W a k = true) (ex0_o : x0 = 1) (h_o : Fw W g s) : gQ (fb_78_116 x0 x2 w0 s) (fun r => Fw W g r.2.2.2) := by
  subst ex0_o
  unfold fb_78_116
  refine gQ_ite ?_ ?_
  · refine gQ_ite ?_ ?_
    · exact (ofb_78_135 hg_o hU_o rfl rfl h_o)
    · exact (ofb_78_135 hg_o hU_o rfl rfl h_o)
  · exact (ofb_78_135 hg_o hU_o rfl rfl h_o)

theorem ofb_78_115 {W : Nat → Nat → Bool} {g s : gS} {x0 : Nat} {x2 : Int} (hg_o : RF g) (hU_o : ∀ a k, csq a k = true → W a k = true) (ex0_o : x0 = 1) (h_o : Fw W g s) : gQ (fb_78_115 x0 x2 s) (fun r => Fw W g r.2.2.2) := by
  subst ex0_o
  unfold fb_78_115
  exact (ofb_78_116 hg_o hU_o rfl h_o)

theorem ofb_78_98 {W : Nat → Nat → Bool} {g s : gS} {x0 : Nat} {x1 : Int} {w0 : Int} (hg_o : RF g) (hU_o : ∀ a k, csq a k = true → W a k = true) (ex0_o : x0 = 1) (h_o : Fw W g s) : gQ (fb_78_98 x0 x1 w0 s) (fun r => Fw W g r.2.2.2) := by
  subst ex0_o
  unfold fb_78_98
  refine gQ_ite ?_ ?_
  · exact (ofb_78_115 hg_o hU_o rfl h_o)
  · refine gQ_ite ?_ ?_
    · exact (ofb_78_115 hg_o hU_o rfl h_o)
    · exact (ofb_78_116 hg_o hU_o rfl h_o)

theorem ofb_78_97 {W : Nat → Nat → Bool} {g s : gS} {x0 : Nat} {x1 : Int} (hg_o : RF g) (hU_o : ∀ a k, csq a k = true → W a k = true) (ex0_o : x0 = 1) (h_o : Fw W g s) : gQ (fb_78_97 x0 x1 s) (fun r => Fw W g r.2.2.2) := by
  subst ex0_o
  unfold fb_78_97
  exact (ofb_78_98 hg_o hU_o rfl h_o)

theorem ofb_78_46 {W : Nat → Nat → Bool} {g s : gS} {x0 : Nat} (hg_o : RF g) (hU_o : ∀ a k, csq a k = true → W a k = true) (ex0_o : x0 = 1) (h_o : Fw W g s) : gQ (fb_78_46 x0 s) (fun r => Fw W g r.2.2.2) := by
  subst ex0_o
  unfold fb_78_46
  dsimp only
  refine gQ_ite ?_ ?_
  · refine gQ_chk2 (fun ha11_o hb12_o => ?_)
    refine gQ_ite ?_ ?_
    · exact (ofb_78_97 hg_o hU_o rfl (Fw_w h_o rfl (hU_o 1 _ rfl)))
    · refine gQ_ite ?_ ?_
      · exact (ofb_78_97 hg_o hU_o rfl (Fw_w h_o rfl (hU_o 1 _ rfl)))
      · exact (ofb_78_98 hg_o hU_o rfl (Fw_w h_o rfl (hU_o 1 _ rfl)))
  · exact gQ_ret (Fw_w (Fw_w h_o rfl (hU_o 1 _ rfl)) rfl (hU_o 1 _ rfl))

theorem o_78 {W : Nat → Nat → Bool} {g s : gS} {a0 : Nat} (hg_o : RF g) (hU_o : ∀ a k, csq a k = true → W a k = true) (ea0_o : a0 = 1) (h_o : Fw W g s) : gQ (f_78 a0 s) (fun r => Fw W g r.2.2.2) := by
  subst ea0_o
  unfold f_78
  dsimp only
  refine gQ_loop (fun y_l => y_l.1 = 1 ∧ Fw W g (y_l.2)) (fun y_l hy_o => ?_) ⟨rfl, (Fw_w h_o rfl (hU_o 1 _ rfl))⟩
  obtain ⟨x13_o, x14_o⟩ := y_l
  obtain ⟨e16_o, h15_o⟩ := hy_o
  dsimp only at e16_o h15_o
  subst e16_o
  show gQ (sb_78_8 1 x14_o) _
  unfold sb_78_8
  dsimp only
  refine gQ_ite ?_ ?_
  · refine gQ_chk2 (fun ha17_o hb18_o => ?_)
    refine gQ_ite ?_ ?_
    · exact gQ_ret ⟨rfl, (Fw_w h15_o rfl (hU_o 1 _ rfl))⟩
    · refine gQ_map ?_
      exact (ofb_78_46 hg_o hU_o rfl h15_o)
  · refine gQ_map ?_
    exact (ofb_78_46 hg_o hU_o rfl h15_o)

theorem o_77 {W : Nat → Nat → Bool} {g s : gS} {a0 : Nat} (hg_o : RF g) (hU_o : ∀ a k, csq a k = true → W a k = true) (ea0_o : a0 = 1) (h_o : Fw W g s) : gQ (f_77 a0 s) (fun r => Fw W g r.2.2.2) := by
  subst ea0_o
  unfold f_77
  dsimp only
  refine gQ_v0 (A := Fw W g) (o_78 hg_o hU_o rfl (Fw_w h_o rfl (hU_o 1 _ rfl))) (fun s2_l h19_o => ?_)
  exact gQ_ret h19_o

theorem o_79 {W : Nat → Nat → Bool} {g s : gS} {a0 : Nat} (hg_o : RF g) (hU_o : ∀ a k, csq a k = true → W a k = true) (ea0_o : a0 = 1) (h_o : Fw W g s) : gQ (f_79 a0 s) (fun r => Fw W g r.2.2.2) := by
  subst ea0_o
  unfold f_79
  refine gQ_ite ?_ ?_
  · exact gQ_ret h_o
  · exact gQ_ret h_o

theorem o_80 {W : Nat → Nat → Bool} {g s : gS} {a0 : Nat} {a1 : Nat} (hg_o : RF g) (hU_o : ∀ a k, csq a k = true → W a k = true) (ea0_o : a0 = 1) (h_o : Fw W g s) : gQ (f_80 a0 a1 s) (fun r => Fw W g r.2.2.2) := by
  subst ea0_o
  unfold f_80
  refine gQ_ite ?_ ?_
  · refine gQ_v1 (A := Fw W g) (om_266 h_o) (fun v2 s1_l h20_o => ?_)
    refine gQ_ite ?_ ?_
    · refine gQ_loop (fun y_l => y_l.1 = 1 ∧ Fw W g (y_l.2.2.2)) (fun y_l hy_o => ?_) ⟨rfl, h20_o⟩
      obtain ⟨x21_o, x22_o, x23_o, x24_o⟩ := y_l
      obtain ⟨e26_o, h25_o⟩ := hy_o
      dsimp only at e26_o h25_o
      subst e26_o
      show gQ (sb_80_28 1 x22_o x23_o x24_o) _
      unfold sb_80_28
      refine gQ_v1 (A := Fw W g) (om_266 h25_o) (fun v4_l s3_l h27_o => ?_)
      refine gQ_ite ?_ ?_
      · refine gQ_chk2 (fun ha28_o hb29_o => ?_)
        refine gQ_v1 (A := Fw W g) (om_267 h27_o) (fun v6 s5 h30_o => ?_)
        refine gQ_ite ?_ ?_
        · exact gQ_ret ⟨rfl, h30_o⟩
        · refine gQ_map ?_
          exact gQ_ret h30_o
      · refine gQ_map ?_
        exact gQ_ret h27_o
    · exact gQ_ret h20_o
  · exact gQ_ret h_o

theorem o_81 {W : Nat → Nat → Bool} {g s : gS} {a0 : Nat} {a1 : Int} (hg_o : RF g) (hU_o : ∀ a k, csq a k = true → W a k = true) (ea0_o : a0 = 1) (h_o : Fw W g s) : gQ (f_81 a0 a1 s) (fun r => Fw W g r.2.2.2) := by
  subst ea0_o
  unfold f_81
  refine gQ_ite ?_ ?_
  · refine gQ_chk2 (fun ha31_o hb32_o => ?_)
    refine gQ_ite ?_ ?_
    · exact gQ_ret h_o
    · unfold fb_81_25
      exact gQ_ret h_o
  · unfold fb_81_25
    exact gQ_ret h_o

theorem o_82 {W : Nat → Nat → Bool} {g s : gS} {a0 : Nat} {a1 : Nat} (hg_o : RF g) (hU_o : ∀ a k, csq a k = true → W a k = true) (ea0_o : a0 = 1) (h_o : Fw W g s) : gQ (f_82 a0 a1 s) (fun r => Fw W g r.2.2.2) := by
  subst ea0_o
  unfold f_82
  refine gQ_v1 (A := Fw W g) (o_80 hg_o hU_o rfl h_o) (fun v2 s1_l h33_o => ?_)
  refine gQ_ite ?_ ?_
  · exact gQ_ret h33_o
  · refine gQ_v0 (A := Fw W g) (o_78 hg_o hU_o rfl h33_o) (fun s4_l h34_o => ?_)
    exact gQ_ret h34_o

theorem o_83 {W : Nat → Nat → Bool} {g s : gS} {a0 : Nat} {a1 : Int} (hg_o : RF g) (hU_o : ∀ a k, csq a k = true → W a k = true) (ea0_o : a0 = 1) (h_o : Fw W g s) : gQ (f_83 a0 a1 s) (fun r => Fw W g r.2.2.2) := by
  subst ea0_o
  unfold f_83
  refine gQ_v1 (A := Fw W g) (o_81 hg_o hU_o rfl h_o) (fun v2 s1_l h35_o => ?_)
  refine gQ_ite ?_ ?_
  · exact gQ_ret h35_o
  · refine gQ_v0 (A := Fw W g) (o_78 hg_o hU_o rfl h35_o) (fun s4_l h36_o => ?_)
    exact gQ_ret h36_o

theorem o_84 {W : Nat → Nat → Bool} {g s : gS} {a0 : Nat} {a1 : Int} {a2 : Int} (hg_o : RF g) (hU_o : ∀ a k, csq a k = true → W a k = true) (ea0_o : a0 = 1) (h_o : Fw W g s) : gQ (f_84 a0 a1 a2 s) (fun r => Fw W g r.2.2.2) := by
  subst ea0_o
  unfold f_84
  refine gQ_ite ?_ ?_
  · refine gQ_ite ?_ ?_
    · exact gQ_ret h_o
    · refine gQ_loop (fun y_l => y_l.1 = 1 ∧ Fw W g (y_l.2.2.2.2.2)) (fun y_l hy_o => ?_) ⟨rfl, h_o⟩
      obtain ⟨x37_o, x38_o, x39_o, x40_o, x41_o, x42_o⟩ := y_l
      obtain ⟨e44_o, h43_o⟩ := hy_o
      dsimp only at e44_o h43_o
      subst e44_o
      show gQ (sb_84_31 1 x38_o x39_o x40_o x41_o x42_o) _
      unfold sb_84_31
      dsimp only
      refine gQ_ite ?_ ?_
      · refine gQ_chk2 (fun ha45_o hb46_o => ?_)
        exact gQ_ret ⟨rfl, h43_o⟩
      · refine gQ_map ?_
        refine gQ_ite ?_ ?_
        · exact gQ_ret h43_o
        · refine gQ_ite ?_ ?_
          · exact gQ_ret h43_o
          · refine gQ_v0 (A := Fw W g) (o_78 hg_o hU_o rfl h43_o) (fun s2_l h47_o => ?_)
            exact gQ_ret h47_o
  · exact gQ_ret h_o

theorem o_45 {W : Nat → Nat → Bool} {g s : gS} {a0 : Nat} {a1 : Int} (hg_o : RF g) (hU_o : ∀ a k, csq a k = true → W a k = true) (ea0_o : a0 = 7) (h_o : Fw W g s) : gQ (f_45 a0 a1 s) (fun r => Fw W g r.2.2.2) := by
  subst ea0_o
  unfold f_45
  dsimp only
  refine gQ_ite ?_ ?_
  · refine gQ_chk2 (fun ha48_o hb49_o => ?_)
    exact gQ_ret (Fw_w (Fw_w h_o (fr_r h_o rfl (rr_7_1 hg_o)) (hU_o 8 _ rfl)) rfl (hU_o 7 _ rfl))
  · exact gQ_ret h_o

theorem o_52 {W : Nat → Nat → Bool} {g s : gS} {a0 : Nat} (hg_o : RF g) (hU_o : ∀ a k, csq a k = true → W a k = true) (ea0_o : a0 = 7) (h_o : Fw W g s) : gQ (f_52 a0 s) (fun r => Fw W g r.2.2.2) := by
  subst ea0_o
  unfold f_52
  refine gQ_v1 (A := Fw W g) (o_80 hg_o hU_o (fr_r h_o rfl (rr_7_0 hg_o)) h_o) (fun v2 s1_l h50_o => ?_)
  refine gQ_ite ?_ ?_
  · refine gQ_v1 (A := Fw W g) (o_80 hg_o hU_o (fr_r h50_o rfl (rr_7_0 hg_o)) h50_o) (fun v5 s4_l h51_o => ?_)
    refine gQ_ite ?_ ?_
    · refine gQ_v1 (A := Fw W g) (o_80 hg_o hU_o (fr_r h51_o rfl (rr_7_0 hg_o)) h51_o) (fun v8 s7 h52_o => ?_)
      refine gQ_ite ?_ ?_
      · refine gQ_v1 (A := Fw W g) (o_80 hg_o hU_o (fr_r h52_o rfl (rr_7_0 hg_o)) h52_o) (fun v11 s10 h53_o => ?_)
        refine gQ_ite ?_ ?_
        · refine gQ_v1 (A := Fw W g) (o_80 hg_o hU_o (fr_r h53_o rfl (rr_7_0 hg_o)) h53_o) (fun v14 s13 h54_o => ?_)
          refine gQ_ite ?_ ?_
          · refine gQ_v1 (A := Fw W g) (o_80 hg_o hU_o (fr_r h54_o rfl (rr_7_0 hg_o)) h54_o) (fun v17 s16 h55_o => ?_)
            refine gQ_ite ?_ ?_
            · refine gQ_v1 (A := Fw W g) (o_80 hg_o hU_o (fr_r h55_o rfl (rr_7_0 hg_o)) h55_o) (fun v20 s19 h56_o => ?_)
              refine gQ_ite ?_ ?_
              · exact gQ_ret h56_o
              · exact gQ_ret h56_o
            · exact gQ_ret h55_o
          · exact gQ_ret h54_o
        · exact gQ_ret h53_o
      · exact gQ_ret h52_o
    · exact gQ_ret h51_o
  · exact gQ_ret h50_o

theorem o_51 {W : Nat → Nat → Bool} {g s : gS} {a0 : Nat} (hg_o : RF g) (hU_o : ∀ a k, csq a k = true → W a k = true) (ea0_o : a0 = 7) (h_o : Fw W g s) : gQ (f_51 a0 s) (fun r => Fw W g r.2.2.2) := by
  subst ea0_o
  unfold f_51
  refine gQ_v1 (A := Fw W g) (o_84 hg_o hU_o (fr_r h_o rfl (rr_7_0 hg_o)) h_o) (fun v2 s1_l h57_o => ?_)
  refine gQ_ite ?_ ?_
  · refine gQ_v1 (A := Fw W g) (o_52 hg_o hU_o rfl h57_o) (fun v4_l s3_l h58_o => ?_)
    refine gQ_ite ?_ ?_
    · exact gQ_ret h58_o
    · refine gQ_v0 (A := Fw W g) (o_78 hg_o hU_o (fr_r h58_o rfl (rr_7_0 hg_o)) h58_o) (fun s5 h59_o => ?_)
      refine gQ_v1 (A := Fw W g) (o_45 hg_o hU_o rfl h59_o) (fun v8 s7 h60_o => ?_)
      exact gQ_ret h60_o
  · refine gQ_v1 (A := Fw W g) (o_45 hg_o hU_o rfl h57_o) (fun v11 s10 h61_o => ?_)
    exact gQ_ret h61_o

theorem o_50 {W : Nat → Nat → Bool} {g s : gS} {a0 : Nat} (hg_o : RF g) (hU_o : ∀ a k, csq a k = true → W a k = true) (ea0_o : a0 = 7) (h_o : Fw W g s) : gQ (f_50 a0 s) (fun r => Fw W g r.2.2.2) := by
  subst ea0_o
  unfold f_50
  refine gQ_v1 (A := Fw W g) (o_51 hg_o hU_o rfl h_o) (fun v2 s1_l h62_o => ?_)
  refine gQ_loop (fun y_l => y_l.1 = 7 ∧ Fw W g (y_l.2.2.2)) (fun y_l hy_o => ?_) ⟨rfl, h62_o⟩
  obtain ⟨x63_o, x64_o, x65_o, x66_o⟩ := y_l
  obtain ⟨e68_o, h67_o⟩ := hy_o
  dsimp only at e68_o h67_o
  subst e68_o
  show gQ (sb_50_7 7 x64_o x65_o x66_o) _
  unfold sb_50_7
  refine gQ_ite ?_ ?_
  · refine gQ_ite ?_ ?_
    · refine gQ_map ?_
      refine gQ_bool ?_
      exact gQ_ret h67_o
    · refine gQ_v1 (A := Fw W g) (o_83 hg_o hU_o (fr_r h67_o rfl (rr_7_0 hg_o)) h67_o) (fun v5 s4_l h69_o => ?_)
      refine gQ_ite ?_ ?_
      · refine gQ_map ?_
        refine gQ_bool ?_
        exact gQ_ret h69_o
      · refine gQ_v1 (A := Fw W g) (o_51 hg_o hU_o rfl h69_o) (fun v8 s7 h70_o => ?_)
        refine gQ_ite ?_ ?_
        · unfold fb_50_51
          exact gQ_ret ⟨rfl, h70_o⟩
        · refine gQ_v1 (A := Fw W g) (o_45 hg_o hU_o rfl h70_o) (fun v11 s10 h71_o => ?_)
          refine gQ_ite ?_ ?_
          · unfold fb_50_51
            exact gQ_ret ⟨rfl, h71_o⟩
          · exact gQ_ret ⟨rfl, h71_o⟩
  · refine gQ_map ?_
    refine gQ_bool ?_
    exact gQ_ret h67_o

theorem o_47s {W : Nat → Nat → Bool} {g s : gS} {r_48 : Nat → Int → gS → Option gO} {a0 : Nat} {a1 : Int} (hg_o : RF g) (hU_o : ∀ a k, csq a k = true → W a k = true) (ea0_o : a0 = 7) (hr_48 : ∀ {a1 : Int} {s : gS}, Fw W g s → gQ (r_48 7 a1 s) (fun r => Fw W g r.2.2.2)) (h_o : Fw W g s) : gQ (fo_47 r_48 a0 a1 s) (fun r => Fw W g r.2.2.2) := by
  subst ea0_o
  unfold fo_47
  refine gQ_v1 (A := Fw W g) (hr_48 h_o) (fun v2 s1_l h72_o => ?_)
  refine gQ_loop (fun y_l => y_l.1 = 7 ∧ Fw W g (y_l.2.2.2.2)) (fun y_l hy_o => ?_) ⟨rfl, h72_o⟩
  obtain ⟨x73_o, x74_o, x75_o, x76_o, x77_o⟩ := y_l
  obtain ⟨e79_o, h78_o⟩ := hy_o
  dsimp only at e79_o h78_o
  subst e79_o
  show gQ (sb_47_8 r_48 7 x74_o x75_o x76_o x77_o) _
  unfold sb_47_8
  refine gQ_ite ?_ ?_
  · refine gQ_ite ?_ ?_
    · refine gQ_map ?_
      refine gQ_bool ?_
      exact gQ_ret h78_o
    · refine gQ_v1 (A := Fw W g) (o_82 hg_o hU_o (fr_r h78_o rfl (rr_7_0 hg_o)) h78_o) (fun v5 s4_l h80_o => ?_)
      refine gQ_ite ?_ ?_
      · refine gQ_map ?_
        refine gQ_bool ?_
        exact gQ_ret h80_o
      · refine gQ_v1 (A := Fw W g) (hr_48 h80_o) (fun v8 s7 h81_o => ?_)
        refine gQ_ite ?_ ?_
        · unfold fb_47_53
          exact gQ_ret ⟨rfl, h81_o⟩
        · refine gQ_v1 (A := Fw W g) (o_45 hg_o hU_o rfl h81_o) (fun v11 s10 h82_o => ?_)
          refine gQ_ite ?_ ?_
          · unfold fb_47_53
            exact gQ_ret ⟨rfl, h82_o⟩
          · exact gQ_ret ⟨rfl, h82_o⟩
  · refine gQ_map ?_
    refine gQ_bool ?_
    exact gQ_ret h78_o

theorem o_48s {W : Nat → Nat → Bool} {g s : gS} {r_49 : Nat → Int → gS → Option gO} {a0 : Nat} {a1 : Int} (hg_o : RF g) (hU_o : ∀ a k, csq a k = true → W a k = true) (ea0_o : a0 = 7) (hr_49 : ∀ {a1 : Int} {s : gS}, Fw W g s → gQ (r_49 7 a1 s) (fun r => Fw W g r.2.2.2)) (h_o : Fw W g s) : gQ (fo_48 r_49 a0 a1 s) (fun r => Fw W g r.2.2.2) := by
  subst ea0_o
  unfold fo_48
  refine gQ_v1 (A := Fw W g) (hr_49 h_o) (fun v2 s1_l h83_o => ?_)
  refine gQ_loop (fun y_l => y_l.1 = 7 ∧ Fw W g (y_l.2.2.2.2)) (fun y_l hy_o => ?_) ⟨rfl, h83_o⟩
  obtain ⟨x84_o, x85_o, x86_o, x87_o, x88_o⟩ := y_l
  obtain ⟨e90_o, h89_o⟩ := hy_o
  dsimp only at e90_o h89_o
  subst e90_o
  show gQ (sb_48_8 r_49 7 x85_o x86_o x87_o x88_o) _
  unfold sb_48_8
  refine gQ_ite ?_ ?_
  · refine gQ_ite ?_ ?_
    · refine gQ_map ?_
      refine gQ_bool ?_
      exact gQ_ret h89_o
    · refine gQ_v1 (A := Fw W g) (o_82 hg_o hU_o (fr_r h89_o rfl (rr_7_0 hg_o)) h89_o) (fun v5 s4_l h91_o => ?_)
      refine gQ_ite ?_ ?_
      · refine gQ_map ?_
        refine gQ_bool ?_
        exact gQ_ret h91_o
      · refine gQ_v1 (A := Fw W g) (hr_49 h91_o) (fun v8 s7 h92_o => ?_)
        refine gQ_ite ?_ ?_
        · unfold fb_48_53
          exact gQ_ret ⟨rfl, h92_o⟩
        · refine gQ_v1 (A := Fw W g) (o_45 hg_o hU_o rfl h92_o) (fun v11 s10 h93_o => ?_)
          refine gQ_ite ?_ ?_
          · unfold fb_48_53
            exact gQ_ret ⟨rfl, h93_o⟩
          · exact gQ_ret ⟨rfl, h93_o⟩
  · refine gQ_map ?_
    refine gQ_bool ?_
    exact gQ_ret h89_o

theorem o_49s {W : Nat → Nat → Bool} {g s : gS} {r_47 : Nat → Int → gS → Option gO} {r_49 : Nat → Int → gS → Option gO} {a0 : Nat} {a1 : Int} (hg_o : RF g) (hU_o : ∀ a k, csq a k = true → W a k = true) (ea0_o : a0 = 7) (hr_47 : ∀ {a1 : Int} {s : gS}, Fw W g s → gQ (r_47 7 a1 s) (fun r => Fw W g r.2.2.2)) (hr_49 : ∀ {a1 : Int} {s : gS}, Fw W g s → gQ (r_49 7 a1 s) (fun r => Fw W g r.2.2.2)) (h_o : Fw W g s) : gQ (fo_49 r_47 r_49 a0 a1 s) (fun r => Fw W g r.2.2.2) := by
  subst ea0_o
  unfold fo_49
  refine gQ_v1 (A := Fw W g) (o_80 hg_o hU_o (fr_r h_o rfl (rr_7_0 hg_o)) h_o) (fun v2 s1_l h94_o => ?_)
  refine gQ_ite ?_ ?_
  · refine gQ_v1 (A := Fw W g) (o_81 hg_o hU_o (fr_r h94_o rfl (rr_7_0 hg_o)) h94_o) (fun v5 s4_l h95_o => ?_)
    refine gQ_ite ?_ ?_
    · refine gQ_v1 (A := Fw W g) (o_82 hg_o hU_o (fr_r h95_o rfl (rr_7_0 hg_o)) h95_o) (fun v8 s7 h96_o => ?_)
      refine gQ_ite ?_ ?_
      · refine gQ_v1 (A := Fw W g) (o_82 hg_o hU_o (fr_r h96_o rfl (rr_7_0 hg_o)) h96_o) (fun v11 s10 h97_o => ?_)
        refine gQ_ite ?_ ?_
        · refine gQ_v1 (A := Fw W g) (o_50 hg_o hU_o rfl h97_o) (fun v14 s13 h98_o => ?_)
          refine gQ_ite ?_ ?_
          · exact gQ_ret h98_o
          · refine gQ_v1 (A := Fw W g) (o_83 hg_o hU_o (fr_r h98_o rfl (rr_7_0 hg_o)) h98_o) (fun v17 s16 h99_o => ?_)
            refine gQ_ite ?_ ?_
            · refine gQ_v1 (A := Fw W g) (o_83 hg_o hU_o (fr_r h99_o rfl (rr_7_0 hg_o)) h99_o) (fun v20 s19 h100_o => ?_)
              refine gQ_ite ?_ ?_
              · unfold fb_49_207
                exact gQ_ret h100_o
              · unfold fb_49_176
                refine gQ_v1 (A := Fw W g) (o_50 hg_o hU_o rfl h100_o) (fun v23 s22 h101_o => ?_)
                refine gQ_ite ?_ ?_
                · unfold fb_49_207
                  exact gQ_ret h101_o
                · refine gQ_ite ?_ ?_
                  · unfold fb_49_197
                    refine gQ_v1 (A := Fw W g) (o_45 hg_o hU_o rfl h101_o) (fun v26 s25 h102_o => ?_)
                    refine gQ_ite ?_ ?_
                    · unfold fb_49_207
                      exact gQ_ret h102_o
                    · exact gQ_ret h102_o
                  · unfold fb_49_197
                    refine gQ_v1 (A := Fw W g) (o_45 hg_o hU_o rfl h101_o) (fun v26 s25 h103_o => ?_)
                    refine gQ_ite ?_ ?_
                    · unfold fb_49_207
                      exact gQ_ret h103_o
                    · exact gQ_ret h103_o
            · unfold fb_49_176
              refine gQ_v1 (A := Fw W g) (o_50 hg_o hU_o rfl h99_o) (fun v23 s22 h104_o => ?_)
              refine gQ_ite ?_ ?_
              · unfold fb_49_207
                exact gQ_ret h104_o
              · refine gQ_ite ?_ ?_
                · unfold fb_49_197
                  refine gQ_v1 (A := Fw W g) (o_45 hg_o hU_o rfl h104_o) (fun v26 s25 h105_o => ?_)
                  refine gQ_ite ?_ ?_
                  · unfold fb_49_207
                    exact gQ_ret h105_o
                  · exact gQ_ret h105_o
                · unfold fb_49_197
                  refine gQ_v1 (A := Fw W g) (o_45 hg_o hU_o rfl h104_o) (fun v26 s25 h106_o => ?_)
                  refine gQ_ite ?_ ?_
                  · unfold fb_49_207
                    exact gQ_ret h106_o
                  · exact gQ_ret h106_o
        · refine gQ_v1 (A := Fw W g) (o_45 hg_o hU_o rfl h97_o) (fun v29 s28 h107_o => ?_)
          exact gQ_ret h107_o
      · refine gQ_v1 (A := Fw W g) (o_45 hg_o hU_o rfl h96_o) (fun v32 s31 h108_o => ?_)
        exact gQ_ret h108_o
    · unfold fb_49_26
      refine gQ_ite ?_ ?_
      · refine gQ_v0 (A := Fw W g) (o_78 hg_o hU_o (fr_r h95_o rfl (rr_7_0 hg_o)) h95_o) (fun s34 h109_o => ?_)
        refine gQ_ite ?_ ?_
        · refine gQ_v1 (A := Fw W g) (hr_47 h109_o) (fun v37 s36 h110_o => ?_)
          refine gQ_ite ?_ ?_
          · unfold fb_49_99
            exact gQ_ret h110_o
          · refine gQ_v1 (A := Fw W g) (o_83 hg_o hU_o (fr_r h110_o rfl (rr_7_0 hg_o)) h110_o) (fun v40 s39 h111_o => ?_)
            refine gQ_ite ?_ ?_
            · unfold fb_49_99
              exact gQ_ret h111_o
            · exact gQ_ret h111_o
        · refine gQ_v1 (A := Fw W g) (hr_49 h109_o) (fun v43 s42 h112_o => ?_)
          refine gQ_ite ?_ ?_
          · exact gQ_ret h112_o
          · refine gQ_v1 (A := Fw W g) (o_45 hg_o hU_o rfl h112_o) (fun v46 s45 h113_o => ?_)
            refine gQ_ite ?_ ?_
            · exact gQ_ret h113_o
            · exact gQ_ret h113_o
      · exact gQ_ret h95_o
  · unfold fb_49_26
    refine gQ_ite ?_ ?_
    · refine gQ_v0 (A := Fw W g) (o_78 hg_o hU_o (fr_r h94_o rfl (rr_7_0 hg_o)) h94_o) (fun s34 h114_o => ?_)
      refine gQ_ite ?_ ?_
      · refine gQ_v1 (A := Fw W g) (hr_47 h114_o) (fun v37 s36 h115_o => ?_)
        refine gQ_ite ?_ ?_
        · unfold fb_49_99
          exact gQ_ret h115_o
        · refine gQ_v1 (A := Fw W g) (o_83 hg_o hU_o (fr_r h115_o rfl (rr_7_0 hg_o)) h115_o) (fun v40 s39 h116_o => ?_)
          refine gQ_ite ?_ ?_
          · unfold fb_49_99
            exact gQ_ret h116_o
          · exact gQ_ret h116_o
      · refine gQ_v1 (A := Fw W g) (hr_49 h114_o) (fun v43 s42 h117_o => ?_)
        refine gQ_ite ?_ ?_
        · exact gQ_ret h117_o
        · refine gQ_v1 (A := Fw W g) (o_45 hg_o hU_o rfl h117_o) (fun v46 s45 h118_o => ?_)
          refine gQ_ite ?_ ?_
          · exact gQ_ret h118_o
          · exact gQ_ret h118_o
    · exact gQ_ret h94_o

theorem o_47n {W : Nat → Nat → Bool} {g : gS} (hg_o : RF g) (hU_o : ∀ a k, csq a k = true → W a k = true) (n : Nat) : (∀ {a1 : Int} {s : gS}, Fw W g s → gQ (fn_47 n 7 a1 s) (fun r => Fw W g r.2.2.2)) ∧ (∀ {a1 : Int} {s : gS}, Fw W g s → gQ (fn_48 n 7 a1 s) (fun r => Fw W g r.2.2.2)) ∧ (∀ {a1 : Int} {s : gS}, Fw W g s → gQ (fn_49 n 7 a1 s) (fun r => Fw W g r.2.2.2)) := by
  induction n with
  | zero => exact ⟨fun _ => gQ_none, fun _ => gQ_none, fun _ => gQ_none⟩
  | succ n ih_l =>
    exact ⟨fun {a1 s} hh_o => (o_47s hg_o hU_o rfl (fun h_l => ih_l.2.1 h_l) hh_o : gQ (fo_47 (rg_47 n).2.1 7 a1 s) _), fun {a1 s} hh_o => (o_48s hg_o hU_o rfl (fun h_l => ih_l.2.2 h_l) hh_o : gQ (fo_48 (rg_47 n).2.2 7 a1 s) _), fun {a1 s} hh_o => (o_49s hg_o hU_o rfl (fun h_l => ih_l.1 h_l) (fun h_l => ih_l.2.2 h_l) hh_o : gQ (fo_49 (rg_47 n).1 (rg_47 n).2.2 7 a1 s) _)⟩
theorem o_47 {W : Nat → Nat → Bool} {g s : gS} {a0 : Nat} {a1 : Int} (hg_o : RF g) (hU_o : ∀ a k, csq a k = true → W a k = true) (ea0_o : a0 = 7) (h_o : Fw W g s) : gQ (f_47 a0 a1 s) (fun r => Fw W g r.2.2.2) := by
  subst ea0_o
  exact (o_47n hg_o hU_o 24).1 h_o

theorem ofb_46_97 {W : Nat → Nat → Bool} {g s : gS} {x2 : Int} {w0 : Int} {w1 : Nat} (hg_o : RF g) (hU_o : ∀ a k, csq a k = true → W a k = true) (ew1_o : w1 = 7) (h_o : Fw W g s) : gQ (fb_46_97 x2 w0 w1 s) (fun r => Fw W g r.2.2.2) := by
  subst ew1_o
  unfold fb_46_97
  refine gQ_v1 (A := Fw W g) (o_45 hg_o hU_o rfl h_o) (fun v18 s17 h119_o => ?_)
  refine gQ_ite ?_ ?_
  · unfold fb_46_109
    exact gQ_ret h119_o
  · exact gQ_ret h119_o

theorem ofb_46_78 {W : Nat → Nat → Bool} {g s : gS} {x0 : Nat} {x1 : Int} {x2 : Int} {w0 : Int} (hg_o : RF g) (hU_o : ∀ a k, csq a k = true → W a k = true) (ex0_o : x0 = 7) (h_o : Fw W g s) : gQ (fb_46_78 x0 x1 x2 w0 s) (fun r => Fw W g r.2.2.2) := by
  subst ex0_o
  unfold fb_46_78
  refine gQ_ite ?_ ?_
  · unfold fb_46_109
    exact gQ_ret h_o
  · refine gQ_ite ?_ ?_
    · exact (ofb_46_97 hg_o hU_o rfl h_o)
    · exact (ofb_46_97 hg_o hU_o rfl h_o)

theorem ofb_46_28 {W : Nat → Nat → Bool} {g s : gS} {x0 : Nat} {x1 : Int} (hg_o : RF g) (hU_o : ∀ a k, csq a k = true → W a k = true) (ex0_o : x0 = 7) (h_o : Fw W g s) : gQ (fb_46_28 x0 x1 s) (fun r => Fw W g r.2.2.2) := by
  subst ex0_o
  unfold fb_46_28
  refine gQ_v0 (A := Fw W g) (o_78 hg_o hU_o (fr_r h_o rfl (rr_7_0 hg_o)) h_o) (fun s7 h120_o => ?_)
  refine gQ_v1 (A := Fw W g) (o_84 hg_o hU_o (fr_r h120_o rfl (rr_7_0 hg_o)) h120_o) (fun v10 s9 h121_o => ?_)
  refine gQ_ite ?_ ?_
  · exact gQ_ret h121_o
  · refine gQ_v1 (A := Fw W g) (o_82 hg_o hU_o (fr_r h121_o rfl (rr_7_0 hg_o)) h121_o) (fun v12 s11 h122_o => ?_)
    refine gQ_ite ?_ ?_
    · refine gQ_v1 (A := Fw W g) (o_45 hg_o hU_o rfl h122_o) (fun v15 s14 h123_o => ?_)
      exact (ofb_46_78 hg_o hU_o rfl h123_o)
    · refine gQ_v1 (A := Fw W g) (o_47 hg_o hU_o rfl h122_o) (fun v21 s20 h124_o => ?_)
      exact (ofb_46_78 hg_o hU_o rfl h124_o)

theorem o_46 {W : Nat → Nat → Bool} {g s : gS} {a0 : Nat} (hg_o : RF g) (hU_o : ∀ a k, csq a k = true → W a k = true) (ea0_o : a0 = 7) (h_o : Fw W g s) : gQ (f_46 a0 s) (fun r => Fw W g r.2.2.2) := by
  subst ea0_o
  unfold f_46
  refine gQ_v1 (A := Fw W g) (o_80 hg_o hU_o (fr_r h_o rfl (rr_7_0 hg_o)) h_o) (fun v2 s1_l h125_o => ?_)
  refine gQ_ite ?_ ?_
  · refine gQ_v1 (A := Fw W g) (o_80 hg_o hU_o (fr_r h125_o rfl (rr_7_0 hg_o)) h125_o) (fun v5 s4_l h126_o => ?_)
    refine gQ_ite ?_ ?_
    · exact gQ_ret h126_o
    · exact (ofb_46_28 hg_o hU_o rfl h126_o)
  · exact (ofb_46_28 hg_o hU_o rfl h125_o)
