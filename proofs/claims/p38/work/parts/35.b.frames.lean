theorem o_4 {W : Nat → Nat → Bool} {g s : gS} {a0 : Nat} {a1 : Int} {a2 : Int} (hg_o : RF g) (hU_o : ∀ a k, csq a k = true → W a k = true)  (h_o : Fw W g s) : gQ (f_4 a0 a1 a2 s) (fun r => Fw W g r.2.2.2) := by
  unfold f_4
  refine gQ_chk2 (fun ha1_o hb2_o => ?_)
  refine gQ_ite ?_ ?_
  · exact gQ_ret h_o
  · exact gQ_ret h_o

theorem o_5 {W : Nat → Nat → Bool} {g s : gS} {a0 : Nat} {a1 : Int} {a2 : Int} (hg_o : RF g) (hU_o : ∀ a k, csq a k = true → W a k = true)  (h_o : Fw W g s) : gQ (f_5 a0 a1 a2 s) (fun r => Fw W g r.2.2.2) := by
  unfold f_5
  refine gQ_loop (fun y_l => Fw W g (y_l.2.2.2.2)) (fun y_l hy_o => ?_) h_o
  obtain ⟨x3_o, x4_o, x5_o, x6_o, x7_o⟩ := y_l
  have h8_o := hy_o
  dsimp only at h8_o
  show gQ (sb_5_5 x3_o x4_o x5_o x6_o x7_o) _
  unfold sb_5_5
  dsimp only
  refine gQ_ite ?_ ?_
  · refine gQ_ite ?_ ?_
    · exact gQ_ret h8_o
    · refine gQ_chk2 (fun ha9_o hb10_o => ?_)
      exact gQ_ret h8_o
  · refine gQ_map ?_
    refine gQ_ite ?_ ?_
    · exact gQ_ret h8_o
    · exact gQ_ret h8_o

theorem o_6 {W : Nat → Nat → Bool} {g s : gS} {a0 : Nat} {a1 : Int} (hg_o : RF g) (hU_o : ∀ a k, csq a k = true → W a k = true)  (h_o : Fw W g s) : gQ (f_6 a0 a1 s) (fun r => Fw W g r.2.2.2) := by
  unfold f_6
  refine gQ_loop (fun y_l => Fw W g (y_l.2.2.2.2)) (fun y_l hy_o => ?_) h_o
  obtain ⟨x11_o, x12_o, x13_o, x14_o, x15_o⟩ := y_l
  have h16_o := hy_o
  dsimp only at h16_o
  show gQ (sb_6_4 x11_o x12_o x13_o x14_o x15_o) _
  unfold sb_6_4
  dsimp only
  refine gQ_ite ?_ ?_
  · refine gQ_ite ?_ ?_
    · exact gQ_ret h16_o
    · refine gQ_chk2 (fun ha17_o hb18_o => ?_)
      exact gQ_ret h16_o
  · refine gQ_map ?_
    exact gQ_ret h16_o

theorem o_7 {W : Nat → Nat → Bool} {g s : gS} {a0 : Nat} {a1 : Nat} (hg_o : RF g) (hU_o : ∀ a k, csq a k = true → W a k = true)  (h_o : Fw W g s) : gQ (f_7 a0 a1 s) (fun r => Fw W g r.2.2.2) := by
  unfold f_7
  refine gQ_ite ?_ ?_
  · unfold fb_7_22
    refine gQ_loop (fun y_l => Fw W g (y_l.2.2.2)) (fun y_l hy_o => ?_) h_o
    obtain ⟨x19_o, x20_o, x21_o, x22_o⟩ := y_l
    have h23_o := hy_o
    dsimp only at h23_o
    show gQ (sb_7_23 x19_o x20_o x21_o x22_o) _
    unfold sb_7_23
    dsimp only
    refine gQ_ite ?_ ?_
    · refine gQ_chk2 (fun ha24_o hb25_o => ?_)
      exact gQ_ret h23_o
    · refine gQ_map ?_
      exact gQ_ret h23_o
  · unfold fb_7_22
    refine gQ_loop (fun y_l => Fw W g (y_l.2.2.2)) (fun y_l hy_o => ?_) h_o
    obtain ⟨x26_o, x27_o, x28_o, x29_o⟩ := y_l
    have h30_o := hy_o
    dsimp only at h30_o
    show gQ (sb_7_23 x26_o x27_o x28_o x29_o) _
    unfold sb_7_23
    dsimp only
    refine gQ_ite ?_ ?_
    · refine gQ_chk2 (fun ha31_o hb32_o => ?_)
      exact gQ_ret h30_o
    · refine gQ_map ?_
      exact gQ_ret h30_o

theorem o_8 {W : Nat → Nat → Bool} {g s : gS} {a0 : Nat} {a1 : Nat} (hg_o : RF g) (hU_o : ∀ a k, csq a k = true → W a k = true)  (h_o : Fw W g s) : gQ (f_8 a0 a1 s) (fun r => Fw W g r.2.2.2) := by
  unfold f_8
  dsimp only
  refine gQ_loop (fun y_l => Fw W g (y_l.2.2.2)) (fun y_l hy_o => ?_) h_o
  obtain ⟨x33_o, x34_o, x35_o, x36_o⟩ := y_l
  have h37_o := hy_o
  dsimp only at h37_o
  show gQ (sb_8_11 x33_o x34_o x35_o x36_o) _
  unfold sb_8_11
  dsimp only
  refine gQ_ite ?_ ?_
  · refine gQ_chk2 (fun ha38_o hb39_o => ?_)
    exact gQ_ret h37_o
  · refine gQ_map ?_
    exact gQ_ret h37_o

theorem o_9 {W : Nat → Nat → Bool} {g s : gS} {a0 : Nat} {a1 : Nat} (hg_o : RF g) (hU_o : ∀ a k, csq a k = true → W a k = true)  (h_o : Fw W g s) : gQ (f_9 a0 a1 s) (fun r => Fw W g r.2.2.2) := by
  unfold f_9
  refine gQ_loop (fun y_l => Fw W g (y_l.2.2.2)) (fun y_l hy_o => ?_) h_o
  obtain ⟨x40_o, x41_o, x42_o, x43_o⟩ := y_l
  have h44_o := hy_o
  dsimp only at h44_o
  show gQ (sb_9_7 x40_o x41_o x42_o x43_o) _
  unfold sb_9_7
  dsimp only
  refine gQ_ite ?_ ?_
  · refine gQ_chk2 (fun ha45_o hb46_o => ?_)
    exact gQ_ret h44_o
  · refine gQ_map ?_
    exact gQ_ret h44_o

theorem o_26 {W : Nat → Nat → Bool} {g s : gS} {a0 : Nat} {a1 : Int} (hg_o : RF g) (hU_o : ∀ a k, csq a k = true → W a k = true) (ea0_o : a0 = 42) (h_o : Fw W g s) : gQ (f_26 a0 a1 s) (fun r => Fw W g r.2.2.2) := by
  subst ea0_o
  unfold f_26
  dsimp only
  exact gQ_ret (Fw_w (Fw_w h_o rfl (hU_o 42 _ rfl)) rfl (hU_o 42 _ rfl))

theorem o_26d {W : Nat → Nat → Bool} {g s : gS} {a0 : Nat} {a1 : Int} (hg_o : RF g) (hU_o : ∀ a k, csd a k = true → W a k = true) (ea0_o : a0 = 15) (h_o : Fw W g s) : gQ (f_26 a0 a1 s) (fun r => Fw W g r.2.2.2) := by
  subst ea0_o
  unfold f_26
  dsimp only
  exact gQ_ret (Fw_w (Fw_w h_o rfl (hU_o 15 _ rfl)) rfl (hU_o 15 _ rfl))

theorem o_29 {W : Nat → Nat → Bool} {g s : gS} {a0 : Nat} {a1 : Int} (hg_o : RF g) (hU_o : ∀ a k, csq a k = true → W a k = true)  (h_o : Fw W g s) : gQ (f_29 a0 a1 s) (fun r => Fw W g r.2.2.2) := by
  unfold f_29
  refine gQ_loop (fun y_l => Fw W g (y_l.2.2.2.2)) (fun y_l hy_o => ?_) h_o
  obtain ⟨x47_o, x48_o, x49_o, x50_o, x51_o⟩ := y_l
  have h52_o := hy_o
  dsimp only at h52_o
  show gQ (sb_29_4 x47_o x48_o x49_o x50_o x51_o) _
  unfold sb_29_4
  dsimp only
  refine gQ_ite ?_ ?_
  · refine gQ_chk2 (fun ha53_o hb54_o => ?_)
    refine gQ_ite ?_ ?_
    · exact gQ_ret h52_o
    · exact gQ_ret h52_o
  · refine gQ_map ?_
    exact gQ_ret h52_o

theorem o_30 {W : Nat → Nat → Bool} {g s : gS} {a0 : Nat} (hg_o : RF g) (hU_o : ∀ a k, csq a k = true → W a k = true)  (h_o : Fw W g s) : gQ (f_30 a0 s) (fun r => Fw W g r.2.2.2) := by
  unfold f_30
  refine gQ_loop (fun y_l => Fw W g (y_l.2.2.2)) (fun y_l hy_o => ?_) h_o
  obtain ⟨x55_o, x56_o, x57_o, x58_o⟩ := y_l
  have h59_o := hy_o
  dsimp only at h59_o
  show gQ (sb_30_4 x55_o x56_o x57_o x58_o) _
  unfold sb_30_4
  dsimp only
  refine gQ_ite ?_ ?_
  · refine gQ_chk2 (fun ha60_o hb61_o => ?_)
    refine gQ_ite ?_ ?_
    · refine gQ_chk2 (fun ha62_o hb63_o => ?_)
      exact gQ_ret h59_o
    · exact gQ_ret h59_o
  · refine gQ_map ?_
    exact gQ_ret h59_o

theorem o_31 {W : Nat → Nat → Bool} {g s : gS} {a0 : Nat} {a1 : Int} (hg_o : RF g) (hU_o : ∀ a k, csq a k = true → W a k = true)  (h_o : Fw W g s) : gQ (f_31 a0 a1 s) (fun r => Fw W g r.2.2.2) := by
  unfold f_31
  refine gQ_loop (fun y_l => Fw W g (y_l.2.2.2.2)) (fun y_l hy_o => ?_) h_o
  obtain ⟨x64_o, x65_o, x66_o, x67_o, x68_o⟩ := y_l
  have h69_o := hy_o
  dsimp only at h69_o
  show gQ (sb_31_4 x64_o x65_o x66_o x67_o x68_o) _
  unfold sb_31_4
  dsimp only
  refine gQ_ite ?_ ?_
  · refine gQ_chk2 (fun ha70_o hb71_o => ?_)
    exact gQ_ret h69_o
  · refine gQ_map ?_
    exact gQ_ret h69_o

theorem o_32 {W : Nat → Nat → Bool} {g s : gS} {a0 : Nat} {a1 : Int} (hg_o : RF g) (hU_o : ∀ a k, csq a k = true → W a k = true)  (h_o : Fw W g s) : gQ (f_32 a0 a1 s) (fun r => Fw W g r.2.2.2) := by
  unfold f_32
  refine gQ_loop (fun y_l => Fw W g (y_l.2.2.2.2)) (fun y_l hy_o => ?_) h_o
  obtain ⟨x72_o, x73_o, x74_o, x75_o, x76_o⟩ := y_l
  have h77_o := hy_o
  dsimp only at h77_o
  show gQ (sb_32_4 x72_o x73_o x74_o x75_o x76_o) _
  unfold sb_32_4
  dsimp only
  refine gQ_ite ?_ ?_
  · refine gQ_ite ?_ ?_
    · exact gQ_ret h77_o
    · refine gQ_chk2 (fun ha78_o hb79_o => ?_)
      exact gQ_ret h77_o
  · refine gQ_map ?_
    exact gQ_ret h77_o

theorem o_39 {W : Nat → Nat → Bool} {g s : gS} {a0 : Nat} {a1 : Int} (hg_o : RF g) (hU_o : ∀ a k, csq a k = true → W a k = true)  (h_o : Fw W g s) : gQ (f_39 a0 a1 s) (fun r => Fw W g r.2.2.2) := by
  unfold f_39
  refine gQ_ite ?_ ?_
  · unfold fb_39_19
    exact gQ_ret h_o
  · refine gQ_ite ?_ ?_
    · refine gQ_chk2 (fun ha80_o hb81_o => ?_)
      exact gQ_ret h_o
    · unfold fb_39_19
      exact gQ_ret h_o

theorem o_41 {W : Nat → Nat → Bool} {g s : gS} {a0 : Nat} (hg_o : RF g) (hU_o : ∀ a k, csq a k = true → W a k = true) (ea0_o : a0 = 3) (h_o : Fw W g s) : gQ (f_41 a0 s) (fun r => Fw W g r.2.2.2) := by
  subst ea0_o
  unfold f_41
  dsimp only
  refine gQ_ite ?_ ?_
  · exact gQ_ret h_o
  · refine gQ_chk2 (fun ha82_o hb83_o => ?_)
    exact gQ_ret (Fw_w h_o rfl (hU_o 3 _ rfl))

theorem o_40 {W : Nat → Nat → Bool} {g s : gS} {a0 : Nat} {a1 : Int} (hg_o : RF g) (hU_o : ∀ a k, csq a k = true → W a k = true) (ea0_o : a0 = 3) (h_o : Fw W g s) : gQ (f_40 a0 a1 s) (fun r => Fw W g r.2.2.2) := by
  subst ea0_o
  unfold f_40
  dsimp only
  refine gQ_ite ?_ ?_
  · refine gQ_chk2 (fun ha84_o hb85_o => ?_)
    exact gQ_ret (Fw_w (Fw_w h_o (fr_r h_o rfl (rr_3_1 hg_o)) (hU_o 5 _ rfl)) rfl (hU_o 3 _ rfl))
  · exact gQ_ret h_o

theorem o_38 {W : Nat → Nat → Bool} {g s : gS} {a0 : Nat} {a1 : Int} (hg_o : RF g) (hU_o : ∀ a k, csq a k = true → W a k = true) (ea0_o : a0 = 3) (h_o : Fw W g s) : gQ (f_38 a0 a1 s) (fun r => Fw W g r.2.2.2) := by
  subst ea0_o
  unfold f_38
  refine gQ_v1 (A := Fw W g) (o_41 hg_o hU_o rfl h_o) (fun v2 s1_l h86_o => ?_)
  refine gQ_ite ?_ ?_
  · refine gQ_v0 (A := Fw W g) (o_40 hg_o hU_o rfl h86_o) (fun s3_l h87_o => ?_)
    exact gQ_ret h87_o
  · refine gQ_v1 (A := Fw W g) (o_41 hg_o hU_o rfl h86_o) (fun v6 s5 h88_o => ?_)
    refine gQ_ite ?_ ?_
    · unfold fb_38_114
      refine gQ_v0 (A := Fw W g) (o_40 hg_o hU_o rfl h88_o) (fun s7 h89_o => ?_)
      exact gQ_ret h89_o
    · refine gQ_ite ?_ ?_
      · refine gQ_v0 (A := Fw W g) (o_40 hg_o hU_o rfl h88_o) (fun s9 h90_o => ?_)
        exact gQ_ret h90_o
      · refine gQ_ite ?_ ?_
        · refine gQ_ite ?_ ?_
          · unfold fb_38_81
            refine gQ_v0 (A := Fw W g) (o_40 hg_o hU_o rfl h88_o) (fun s11 h91_o => ?_)
            exact gQ_ret h91_o
          · unfold fb_38_81
            refine gQ_v0 (A := Fw W g) (o_40 hg_o hU_o rfl h88_o) (fun s11 h92_o => ?_)
            exact gQ_ret h92_o
        · refine gQ_ite ?_ ?_
          · refine gQ_ite ?_ ?_
            · unfold fb_38_98
              refine gQ_v0 (A := Fw W g) (o_40 hg_o hU_o rfl h88_o) (fun s13 h93_o => ?_)
              exact gQ_ret h93_o
            · unfold fb_38_98
              refine gQ_v0 (A := Fw W g) (o_40 hg_o hU_o rfl h88_o) (fun s13 h94_o => ?_)
              exact gQ_ret h94_o
          · refine gQ_ite ?_ ?_
            · unfold fb_38_114
              refine gQ_v0 (A := Fw W g) (o_40 hg_o hU_o rfl h88_o) (fun s7 h95_o => ?_)
              exact gQ_ret h95_o
            · refine gQ_ite ?_ ?_
              · refine gQ_v0 (A := Fw W g) (o_40 hg_o hU_o rfl h88_o) (fun s15 h96_o => ?_)
                exact gQ_ret h96_o
              · unfold fb_38_114
                refine gQ_v0 (A := Fw W g) (o_40 hg_o hU_o rfl h88_o) (fun s7 h97_o => ?_)
                exact gQ_ret h97_o

theorem o_35 {W : Nat → Nat → Bool} {g s : gS} {a0 : Nat} {a1 : Int} {a2 : Nat} {a3 : Int} (hg_o : RF g) (hU_o : ∀ a k, csq a k = true → W a k = true) (ea0_o : a0 = 3) (h_o : Fw W g s) : gQ (f_35 a0 a1 a2 a3 s) (fun r => Fw W g r.2.2.2) := by
  subst ea0_o
  unfold f_35
  dsimp only
  refine gQ_ite ?_ ?_
  · unfold fb_35_65
    dsimp only
    refine gQ_chk2 (fun ha98_o hb99_o => ?_)
    refine gQ_ite ?_ ?_
    · exact gQ_ret (Fw_w (Fw_w (Fw_w (Fw_w (Fw_w (Fw_w (Fw_w h_o (fr_r h_o rfl (rr_3_0 hg_o)) (hU_o 4 _ rfl)) (fr_r (Fw_w h_o (fr_r h_o rfl (rr_3_0 hg_o)) (hU_o 4 _ rfl)) rfl (rr_3_0 hg_o)) (hU_o 4 _ rfl)) (fr_r (Fw_w (Fw_w h_o (fr_r h_o rfl (rr_3_0 hg_o)) (hU_o 4 _ rfl)) (fr_r (Fw_w h_o (fr_r h_o rfl (rr_3_0 hg_o)) (hU_o 4 _ rfl)) rfl (rr_3_0 hg_o)) (hU_o 4 _ rfl)) rfl (rr_3_0 hg_o)) (hU_o 4 _ rfl)) (fr_r (Fw_w (Fw_w (Fw_w h_o (fr_r h_o rfl (rr_3_0 hg_o)) (hU_o 4 _ rfl)) (fr_r (Fw_w h_o (fr_r h_o rfl (rr_3_0 hg_o)) (hU_o 4 _ rfl)) rfl (rr_3_0 hg_o)) (hU_o 4 _ rfl)) (fr_r (Fw_w (Fw_w h_o (fr_r h_o rfl (rr_3_0 hg_o)) (hU_o 4 _ rfl)) (fr_r (Fw_w h_o (fr_r h_o rfl (rr_3_0 hg_o)) (hU_o 4 _ rfl)) rfl (rr_3_0 hg_o)) (hU_o 4 _ rfl)) rfl (rr_3_0 hg_o)) (hU_o 4 _ rfl)) rfl (rr_3_0 hg_o)) (hU_o 4 _ rfl)) (fr_r (Fw_w (Fw_w (Fw_w (Fw_w h_o (fr_r h_o rfl (rr_3_0 hg_o)) (hU_o 4 _ rfl)) (fr_r (Fw_w h_o (fr_r h_o rfl (rr_3_0 hg_o)) (hU_o 4 _ rfl)) rfl (rr_3_0 hg_o)) (hU_o 4 _ rfl)) (fr_r (Fw_w (Fw_w h_o (fr_r h_o rfl (rr_3_0 hg_o)) (hU_o 4 _ rfl)) (fr_r (Fw_w h_o (fr_r h_o rfl (rr_3_0 hg_o)) (hU_o 4 _ rfl)) rfl (rr_3_0 hg_o)) (hU_o 4 _ rfl)) rfl (rr_3_0 hg_o)) (hU_o 4 _ rfl)) (fr_r (Fw_w (Fw_w (Fw_w h_o (fr_r h_o rfl (rr_3_0 hg_o)) (hU_o 4 _ rfl)) (fr_r (Fw_w h_o (fr_r h_o rfl (rr_3_0 hg_o)) (hU_o 4 _ rfl)) rfl (rr_3_0 hg_o)) (hU_o 4 _ rfl)) (fr_r (Fw_w (Fw_w h_o (fr_r h_o rfl (rr_3_0 hg_o)) (hU_o 4 _ rfl)) (fr_r (Fw_w h_o (fr_r h_o rfl (rr_3_0 hg_o)) (hU_o 4 _ rfl)) rfl (rr_3_0 hg_o)) (hU_o 4 _ rfl)) rfl (rr_3_0 hg_o)) (hU_o 4 _ rfl)) rfl (rr_3_0 hg_o)) (hU_o 4 _ rfl)) rfl (rr_3_0 hg_o)) (hU_o 4 _ rfl)) (fr_r (Fw_w (Fw_w (Fw_w (Fw_w (Fw_w h_o (fr_r h_o rfl (rr_3_0 hg_o)) (hU_o 4 _ rfl)) (fr_r (Fw_w h_o (fr_r h_o rfl (rr_3_0 hg_o)) (hU_o 4 _ rfl)) rfl (rr_3_0 hg_o)) (hU_o 4 _ rfl)) (fr_r (Fw_w (Fw_w h_o (fr_r h_o rfl (rr_3_0 hg_o)) (hU_o 4 _ rfl)) (fr_r (Fw_w h_o (fr_r h_o rfl (rr_3_0 hg_o)) (hU_o 4 _ rfl)) rfl (rr_3_0 hg_o)) (hU_o 4 _ rfl)) rfl (rr_3_0 hg_o)) (hU_o 4 _ rfl)) (fr_r (Fw_w (Fw_w (Fw_w h_o (fr_r h_o rfl (rr_3_0 hg_o)) (hU_o 4 _ rfl)) (fr_r (Fw_w h_o (fr_r h_o rfl (rr_3_0 hg_o)) (hU_o 4 _ rfl)) rfl (rr_3_0 hg_o)) (hU_o 4 _ rfl)) (fr_r (Fw_w (Fw_w h_o (fr_r h_o rfl (rr_3_0 hg_o)) (hU_o 4 _ rfl)) (fr_r (Fw_w h_o (fr_r h_o rfl (rr_3_0 hg_o)) (hU_o 4 _ rfl)) rfl (rr_3_0 hg_o)) (hU_o 4 _ rfl)) rfl (rr_3_0 hg_o)) (hU_o 4 _ rfl)) rfl (rr_3_0 hg_o)) (hU_o 4 _ rfl)) (fr_r (Fw_w (Fw_w (Fw_w (Fw_w h_o (fr_r h_o rfl (rr_3_0 hg_o)) (hU_o 4 _ rfl)) (fr_r (Fw_w h_o (fr_r h_o rfl (rr_3_0 hg_o)) (hU_o 4 _ rfl)) rfl (rr_3_0 hg_o)) (hU_o 4 _ rfl)) (fr_r (Fw_w (Fw_w h_o (fr_r h_o rfl (rr_3_0 hg_o)) (hU_o 4 _ rfl)) (fr_r (Fw_w h_o (fr_r h_o rfl (rr_3_0 hg_o)) (hU_o 4 _ rfl)) rfl (rr_3_0 hg_o)) (hU_o 4 _ rfl)) rfl (rr_3_0 hg_o)) (hU_o 4 _ rfl)) (fr_r (Fw_w (Fw_w (Fw_w h_o (fr_r h_o rfl (rr_3_0 hg_o)) (hU_o 4 _ rfl)) (fr_r (Fw_w h_o (fr_r h_o rfl (rr_3_0 hg_o)) (hU_o 4 _ rfl)) rfl (rr_3_0 hg_o)) (hU_o 4 _ rfl)) (fr_r (Fw_w (Fw_w h_o (fr_r h_o rfl (rr_3_0 hg_o)) (hU_o 4 _ rfl)) (fr_r (Fw_w h_o (fr_r h_o rfl (rr_3_0 hg_o)) (hU_o 4 _ rfl)) rfl (rr_3_0 hg_o)) (hU_o 4 _ rfl)) rfl (rr_3_0 hg_o)) (hU_o 4 _ rfl)) rfl (rr_3_0 hg_o)) (hU_o 4 _ rfl)) rfl (rr_3_0 hg_o)) (hU_o 4 _ rfl)) rfl (rr_3_0 hg_o)) (hU_o 4 _ rfl)) (fr_r (Fw_w (Fw_w (Fw_w (Fw_w (Fw_w (Fw_w h_o (fr_r h_o rfl (rr_3_0 hg_o)) (hU_o 4 _ rfl)) (fr_r (Fw_w h_o (fr_r h_o rfl (rr_3_0 hg_o)) (hU_o 4 _ rfl)) rfl (rr_3_0 hg_o)) (hU_o 4 _ rfl)) (fr_r (Fw_w (Fw_w h_o (fr_r h_o rfl (rr_3_0 hg_o)) (hU_o 4 _ rfl)) (fr_r (Fw_w h_o (fr_r h_o rfl (rr_3_0 hg_o)) (hU_o 4 _ rfl)) rfl (rr_3_0 hg_o)) (hU_o 4 _ rfl)) rfl (rr_3_0 hg_o)) (hU_o 4 _ rfl)) (fr_r (Fw_w (Fw_w (Fw_w h_o (fr_r h_o rfl (rr_3_0 hg_o)) (hU_o 4 _ rfl)) (fr_r (Fw_w h_o (fr_r h_o rfl (rr_3_0 hg_o)) (hU_o 4 _ rfl)) rfl (rr_3_0 hg_o)) (hU_o 4 _ rfl)) (fr_r (Fw_w (Fw_w h_o (fr_r h_o rfl (rr_3_0 hg_o)) (hU_o 4 _ rfl)) (fr_r (Fw_w h_o (fr_r h_o rfl (rr_3_0 hg_o)) (hU_o 4 _ rfl)) rfl (rr_3_0 hg_o)) (hU_o 4 _ rfl)) rfl (rr_3_0 hg_o)) (hU_o 4 _ rfl)) rfl (rr_3_0 hg_o)) (hU_o 4 _ rfl)) (fr_r (Fw_w (Fw_w (Fw_w (Fw_w h_o (fr_r h_o rfl (rr_3_0 hg_o)) (hU_o 4 _ rfl)) (fr_r (Fw_w h_o (fr_r h_o rfl (rr_3_0 hg_o)) (hU_o 4 _ rfl)) rfl (rr_3_0 hg_o)) (hU_o 4 _ rfl)) (fr_r (Fw_w (Fw_w h_o (fr_r h_o rfl (rr_3_0 hg_o)) (hU_o 4 _ rfl)) (fr_r (Fw_w h_o (fr_r h_o rfl (rr_3_0 hg_o)) (hU_o 4 _ rfl)) rfl (rr_3_0 hg_o)) (hU_o 4 _ rfl)) rfl (rr_3_0 hg_o)) (hU_o 4 _ rfl)) (fr_r (Fw_w (Fw_w (Fw_w h_o (fr_r h_o rfl (rr_3_0 hg_o)) (hU_o 4 _ rfl)) (fr_r (Fw_w h_o (fr_r h_o rfl (rr_3_0 hg_o)) (hU_o 4 _ rfl)) rfl (rr_3_0 hg_o)) (hU_o 4 _ rfl)) (fr_r (Fw_w (Fw_w h_o (fr_r h_o rfl (rr_3_0 hg_o)) (hU_o 4 _ rfl)) (fr_r (Fw_w h_o (fr_r h_o rfl (rr_3_0 hg_o)) (hU_o 4 _ rfl)) rfl (rr_3_0 hg_o)) (hU_o 4 _ rfl)) rfl (rr_3_0 hg_o)) (hU_o 4 _ rfl)) rfl (rr_3_0 hg_o)) (hU_o 4 _ rfl)) rfl (rr_3_0 hg_o)) (hU_o 4 _ rfl)) (fr_r (Fw_w (Fw_w (Fw_w (Fw_w (Fw_w h_o (fr_r h_o rfl (rr_3_0 hg_o)) (hU_o 4 _ rfl)) (fr_r (Fw_w h_o (fr_r h_o rfl (rr_3_0 hg_o)) (hU_o 4 _ rfl)) rfl (rr_3_0 hg_o)) (hU_o 4 _ rfl)) (fr_r (Fw_w (Fw_w h_o (fr_r h_o rfl (rr_3_0 hg_o)) (hU_o 4 _ rfl)) (fr_r (Fw_w h_o (fr_r h_o rfl (rr_3_0 hg_o)) (hU_o 4 _ rfl)) rfl (rr_3_0 hg_o)) (hU_o 4 _ rfl)) rfl (rr_3_0 hg_o)) (hU_o 4 _ rfl)) (fr_r (Fw_w (Fw_w (Fw_w h_o (fr_r h_o rfl (rr_3_0 hg_o)) (hU_o 4 _ rfl)) (fr_r (Fw_w h_o (fr_r h_o rfl (rr_3_0 hg_o)) (hU_o 4 _ rfl)) rfl (rr_3_0 hg_o)) (hU_o 4 _ rfl)) (fr_r (Fw_w (Fw_w h_o (fr_r h_o rfl (rr_3_0 hg_o)) (hU_o 4 _ rfl)) (fr_r (Fw_w h_o (fr_r h_o rfl (rr_3_0 hg_o)) (hU_o 4 _ rfl)) rfl (rr_3_0 hg_o)) (hU_o 4 _ rfl)) rfl (rr_3_0 hg_o)) (hU_o 4 _ rfl)) rfl (rr_3_0 hg_o)) (hU_o 4 _ rfl)) (fr_r (Fw_w (Fw_w (Fw_w (Fw_w h_o (fr_r h_o rfl (rr_3_0 hg_o)) (hU_o 4 _ rfl)) (fr_r (Fw_w h_o (fr_r h_o rfl (rr_3_0 hg_o)) (hU_o 4 _ rfl)) rfl (rr_3_0 hg_o)) (hU_o 4 _ rfl)) (fr_r (Fw_w (Fw_w h_o (fr_r h_o rfl (rr_3_0 hg_o)) (hU_o 4 _ rfl)) (fr_r (Fw_w h_o (fr_r h_o rfl (rr_3_0 hg_o)) (hU_o 4 _ rfl)) rfl (rr_3_0 hg_o)) (hU_o 4 _ rfl)) rfl (rr_3_0 hg_o)) (hU_o 4 _ rfl)) (fr_r (Fw_w (Fw_w (Fw_w h_o (fr_r h_o rfl (rr_3_0 hg_o)) (hU_o 4 _ rfl)) (fr_r (Fw_w h_o (fr_r h_o rfl (rr_3_0 hg_o)) (hU_o 4 _ rfl)) rfl (rr_3_0 hg_o)) (hU_o 4 _ rfl)) (fr_r (Fw_w (Fw_w h_o (fr_r h_o rfl (rr_3_0 hg_o)) (hU_o 4 _ rfl)) (fr_r (Fw_w h_o (fr_r h_o rfl (rr_3_0 hg_o)) (hU_o 4 _ rfl)) rfl (rr_3_0 hg_o)) (hU_o 4 _ rfl)) rfl (rr_3_0 hg_o)) (hU_o 4 _ rfl)) rfl (rr_3_0 hg_o)) (hU_o 4 _ rfl)) rfl (rr_3_0 hg_o)) (hU_o 4 _ rfl)) rfl (rr_3_0 hg_o)) (hU_o 4 _ rfl)) rfl (rr_3_0 hg_o)) (hU_o 4 _ rfl))
    · exact gQ_ret (Fw_w (Fw_w (Fw_w (Fw_w (Fw_w (Fw_w (Fw_w h_o (fr_r h_o rfl (rr_3_0 hg_o)) (hU_o 4 _ rfl)) (fr_r (Fw_w h_o (fr_r h_o rfl (rr_3_0 hg_o)) (hU_o 4 _ rfl)) rfl (rr_3_0 hg_o)) (hU_o 4 _ rfl)) (fr_r (Fw_w (Fw_w h_o (fr_r h_o rfl (rr_3_0 hg_o)) (hU_o 4 _ rfl)) (fr_r (Fw_w h_o (fr_r h_o rfl (rr_3_0 hg_o)) (hU_o 4 _ rfl)) rfl (rr_3_0 hg_o)) (hU_o 4 _ rfl)) rfl (rr_3_0 hg_o)) (hU_o 4 _ rfl)) (fr_r (Fw_w (Fw_w (Fw_w h_o (fr_r h_o rfl (rr_3_0 hg_o)) (hU_o 4 _ rfl)) (fr_r (Fw_w h_o (fr_r h_o rfl (rr_3_0 hg_o)) (hU_o 4 _ rfl)) rfl (rr_3_0 hg_o)) (hU_o 4 _ rfl)) (fr_r (Fw_w (Fw_w h_o (fr_r h_o rfl (rr_3_0 hg_o)) (hU_o 4 _ rfl)) (fr_r (Fw_w h_o (fr_r h_o rfl (rr_3_0 hg_o)) (hU_o 4 _ rfl)) rfl (rr_3_0 hg_o)) (hU_o 4 _ rfl)) rfl (rr_3_0 hg_o)) (hU_o 4 _ rfl)) rfl (rr_3_0 hg_o)) (hU_o 4 _ rfl)) (fr_r (Fw_w (Fw_w (Fw_w (Fw_w h_o (fr_r h_o rfl (rr_3_0 hg_o)) (hU_o 4 _ rfl)) (fr_r (Fw_w h_o (fr_r h_o rfl (rr_3_0 hg_o)) (hU_o 4 _ rfl)) rfl (rr_3_0 hg_o)) (hU_o 4 _ rfl)) (fr_r (Fw_w (Fw_w h_o (fr_r h_o rfl (rr_3_0 hg_o)) (hU_o 4 _ rfl)) (fr_r (Fw_w h_o (fr_r h_o rfl (rr_3_0 hg_o)) (hU_o 4 _ rfl)) rfl (rr_3_0 hg_o)) (hU_o 4 _ rfl)) rfl (rr_3_0 hg_o)) (hU_o 4 _ rfl)) (fr_r (Fw_w (Fw_w (Fw_w h_o (fr_r h_o rfl (rr_3_0 hg_o)) (hU_o 4 _ rfl)) (fr_r (Fw_w h_o (fr_r h_o rfl (rr_3_0 hg_o)) (hU_o 4 _ rfl)) rfl (rr_3_0 hg_o)) (hU_o 4 _ rfl)) (fr_r (Fw_w (Fw_w h_o (fr_r h_o rfl (rr_3_0 hg_o)) (hU_o 4 _ rfl)) (fr_r (Fw_w h_o (fr_r h_o rfl (rr_3_0 hg_o)) (hU_o 4 _ rfl)) rfl (rr_3_0 hg_o)) (hU_o 4 _ rfl)) rfl (rr_3_0 hg_o)) (hU_o 4 _ rfl)) rfl (rr_3_0 hg_o)) (hU_o 4 _ rfl)) rfl (rr_3_0 hg_o)) (hU_o 4 _ rfl)) (fr_r (Fw_w (Fw_w (Fw_w (Fw_w (Fw_w h_o (fr_r h_o rfl (rr_3_0 hg_o)) (hU_o 4 _ rfl)) (fr_r (Fw_w h_o (fr_r h_o rfl (rr_3_0 hg_o)) (hU_o 4 _ rfl)) rfl (rr_3_0 hg_o)) (hU_o 4 _ rfl)) (fr_r (Fw_w (Fw_w h_o (fr_r h_o rfl (rr_3_0 hg_o)) (hU_o 4 _ rfl)) (fr_r (Fw_w h_o (fr_r h_o rfl (rr_3_0 hg_o)) (hU_o 4 _ rfl)) rfl (rr_3_0 hg_o)) (hU_o 4 _ rfl)) rfl (rr_3_0 hg_o)) (hU_o 4 _ rfl)) (fr_r (Fw_w (Fw_w (Fw_w h_o (fr_r h_o rfl (rr_3_0 hg_o)) (hU_o 4 _ rfl)) (fr_r (Fw_w h_o (fr_r h_o rfl (rr_3_0 hg_o)) (hU_o 4 _ rfl)) rfl (rr_3_0 hg_o)) (hU_o 4 _ rfl)) (fr_r (Fw_w (Fw_w h_o (fr_r h_o rfl (rr_3_0 hg_o)) (hU_o 4 _ rfl)) (fr_r (Fw_w h_o (fr_r h_o rfl (rr_3_0 hg_o)) (hU_o 4 _ rfl)) rfl (rr_3_0 hg_o)) (hU_o 4 _ rfl)) rfl (rr_3_0 hg_o)) (hU_o 4 _ rfl)) rfl (rr_3_0 hg_o)) (hU_o 4 _ rfl)) (fr_r (Fw_w (Fw_w (Fw_w (Fw_w h_o (fr_r h_o rfl (rr_3_0 hg_o)) (hU_o 4 _ rfl)) (fr_r (Fw_w h_o (fr_r h_o rfl (rr_3_0 hg_o)) (hU_o 4 _ rfl)) rfl (rr_3_0 hg_o)) (hU_o 4 _ rfl)) (fr_r (Fw_w (Fw_w h_o (fr_r h_o rfl (rr_3_0 hg_o)) (hU_o 4 _ rfl)) (fr_r (Fw_w h_o (fr_r h_o rfl (rr_3_0 hg_o)) (hU_o 4 _ rfl)) rfl (rr_3_0 hg_o)) (hU_o 4 _ rfl)) rfl (rr_3_0 hg_o)) (hU_o 4 _ rfl)) (fr_r (Fw_w (Fw_w (Fw_w h_o (fr_r h_o rfl (rr_3_0 hg_o)) (hU_o 4 _ rfl)) (fr_r (Fw_w h_o (fr_r h_o rfl (rr_3_0 hg_o)) (hU_o 4 _ rfl)) rfl (rr_3_0 hg_o)) (hU_o 4 _ rfl)) (fr_r (Fw_w (Fw_w h_o (fr_r h_o rfl (rr_3_0 hg_o)) (hU_o 4 _ rfl)) (fr_r (Fw_w h_o (fr_r h_o rfl (rr_3_0 hg_o)) (hU_o 4 _ rfl)) rfl (rr_3_0 hg_o)) (hU_o 4 _ rfl)) rfl (rr_3_0 hg_o)) (hU_o 4 _ rfl)) rfl (rr_3_0 hg_o)) (hU_o 4 _ rfl)) rfl (rr_3_0 hg_o)) (hU_o 4 _ rfl)) rfl (rr_3_0 hg_o)) (hU_o 4 _ rfl)) (fr_r (Fw_w (Fw_w (Fw_w (Fw_w (Fw_w (Fw_w h_o (fr_r h_o rfl (rr_3_0 hg_o)) (hU_o 4 _ rfl)) (fr_r (Fw_w h_o (fr_r h_o rfl (rr_3_0 hg_o)) (hU_o 4 _ rfl)) rfl (rr_3_0 hg_o)) (hU_o 4 _ rfl)) (fr_r (Fw_w (Fw_w h_o (fr_r h_o rfl (rr_3_0 hg_o)) (hU_o 4 _ rfl)) (fr_r (Fw_w h_o (fr_r h_o rfl (rr_3_0 hg_o)) (hU_o 4 _ rfl)) rfl (rr_3_0 hg_o)) (hU_o 4 _ rfl)) rfl (rr_3_0 hg_o)) (hU_o 4 _ rfl)) (fr_r (Fw_w (Fw_w (Fw_w h_o (fr_r h_o rfl (rr_3_0 hg_o)) (hU_o 4 _ rfl)) (fr_r (Fw_w h_o (fr_r h_o rfl (rr_3_0 hg_o)) (hU_o 4 _ rfl)) rfl (rr_3_0 hg_o)) (hU_o 4 _ rfl)) (fr_r (Fw_w (Fw_w h_o (fr_r h_o rfl (rr_3_0 hg_o)) (hU_o 4 _ rfl)) (fr_r (Fw_w h_o (fr_r h_o rfl (rr_3_0 hg_o)) (hU_o 4 _ rfl)) rfl (rr_3_0 hg_o)) (hU_o 4 _ rfl)) rfl (rr_3_0 hg_o)) (hU_o 4 _ rfl)) rfl (rr_3_0 hg_o)) (hU_o 4 _ rfl)) (fr_r (Fw_w (Fw_w (Fw_w (Fw_w h_o (fr_r h_o rfl (rr_3_0 hg_o)) (hU_o 4 _ rfl)) (fr_r (Fw_w h_o (fr_r h_o rfl (rr_3_0 hg_o)) (hU_o 4 _ rfl)) rfl (rr_3_0 hg_o)) (hU_o 4 _ rfl)) (fr_r (Fw_w (Fw_w h_o (fr_r h_o rfl (rr_3_0 hg_o)) (hU_o 4 _ rfl)) (fr_r (Fw_w h_o (fr_r h_o rfl (rr_3_0 hg_o)) (hU_o 4 _ rfl)) rfl (rr_3_0 hg_o)) (hU_o 4 _ rfl)) rfl (rr_3_0 hg_o)) (hU_o 4 _ rfl)) (fr_r (Fw_w (Fw_w (Fw_w h_o (fr_r h_o rfl (rr_3_0 hg_o)) (hU_o 4 _ rfl)) (fr_r (Fw_w h_o (fr_r h_o rfl (rr_3_0 hg_o)) (hU_o 4 _ rfl)) rfl (rr_3_0 hg_o)) (hU_o 4 _ rfl)) (fr_r (Fw_w (Fw_w h_o (fr_r h_o rfl (rr_3_0 hg_o)) (hU_o 4 _ rfl)) (fr_r (Fw_w h_o (fr_r h_o rfl (rr_3_0 hg_o)) (hU_o 4 _ rfl)) rfl (rr_3_0 hg_o)) (hU_o 4 _ rfl)) rfl (rr_3_0 hg_o)) (hU_o 4 _ rfl)) rfl (rr_3_0 hg_o)) (hU_o 4 _ rfl)) rfl (rr_3_0 hg_o)) (hU_o 4 _ rfl)) (fr_r (Fw_w (Fw_w (Fw_w (Fw_w (Fw_w h_o (fr_r h_o rfl (rr_3_0 hg_o)) (hU_o 4 _ rfl)) (fr_r (Fw_w h_o (fr_r h_o rfl (rr_3_0 hg_o)) (hU_o 4 _ rfl)) rfl (rr_3_0 hg_o)) (hU_o 4 _ rfl)) (fr_r (Fw_w (Fw_w h_o (fr_r h_o rfl (rr_3_0 hg_o)) (hU_o 4 _ rfl)) (fr_r (Fw_w h_o (fr_r h_o rfl (rr_3_0 hg_o)) (hU_o 4 _ rfl)) rfl (rr_3_0 hg_o)) (hU_o 4 _ rfl)) rfl (rr_3_0 hg_o)) (hU_o 4 _ rfl)) (fr_r (Fw_w (Fw_w (Fw_w h_o (fr_r h_o rfl (rr_3_0 hg_o)) (hU_o 4 _ rfl)) (fr_r (Fw_w h_o (fr_r h_o rfl (rr_3_0 hg_o)) (hU_o 4 _ rfl)) rfl (rr_3_0 hg_o)) (hU_o 4 _ rfl)) (fr_r (Fw_w (Fw_w h_o (fr_r h_o rfl (rr_3_0 hg_o)) (hU_o 4 _ rfl)) (fr_r (Fw_w h_o (fr_r h_o rfl (rr_3_0 hg_o)) (hU_o 4 _ rfl)) rfl (rr_3_0 hg_o)) (hU_o 4 _ rfl)) rfl (rr_3_0 hg_o)) (hU_o 4 _ rfl)) rfl (rr_3_0 hg_o)) (hU_o 4 _ rfl)) (fr_r (Fw_w (Fw_w (Fw_w (Fw_w h_o (fr_r h_o rfl (rr_3_0 hg_o)) (hU_o 4 _ rfl)) (fr_r (Fw_w h_o (fr_r h_o rfl (rr_3_0 hg_o)) (hU_o 4 _ rfl)) rfl (rr_3_0 hg_o)) (hU_o 4 _ rfl)) (fr_r (Fw_w (Fw_w h_o (fr_r h_o rfl (rr_3_0 hg_o)) (hU_o 4 _ rfl)) (fr_r (Fw_w h_o (fr_r h_o rfl (rr_3_0 hg_o)) (hU_o 4 _ rfl)) rfl (rr_3_0 hg_o)) (hU_o 4 _ rfl)) rfl (rr_3_0 hg_o)) (hU_o 4 _ rfl)) (fr_r (Fw_w (Fw_w (Fw_w h_o (fr_r h_o rfl (rr_3_0 hg_o)) (hU_o 4 _ rfl)) (fr_r (Fw_w h_o (fr_r h_o rfl (rr_3_0 hg_o)) (hU_o 4 _ rfl)) rfl (rr_3_0 hg_o)) (hU_o 4 _ rfl)) (fr_r (Fw_w (Fw_w h_o (fr_r h_o rfl (rr_3_0 hg_o)) (hU_o 4 _ rfl)) (fr_r (Fw_w h_o (fr_r h_o rfl (rr_3_0 hg_o)) (hU_o 4 _ rfl)) rfl (rr_3_0 hg_o)) (hU_o 4 _ rfl)) rfl (rr_3_0 hg_o)) (hU_o 4 _ rfl)) rfl (rr_3_0 hg_o)) (hU_o 4 _ rfl)) rfl (rr_3_0 hg_o)) (hU_o 4 _ rfl)) rfl (rr_3_0 hg_o)) (hU_o 4 _ rfl)) rfl (rr_3_0 hg_o)) (hU_o 4 _ rfl))
  · unfold fb_35_65
    dsimp only
    refine gQ_chk2 (fun ha100_o hb101_o => ?_)
    refine gQ_ite ?_ ?_
    · exact gQ_ret (Fw_w (Fw_w (Fw_w (Fw_w (Fw_w (Fw_w (Fw_w h_o (fr_r h_o rfl (rr_3_0 hg_o)) (hU_o 4 _ rfl)) (fr_r (Fw_w h_o (fr_r h_o rfl (rr_3_0 hg_o)) (hU_o 4 _ rfl)) rfl (rr_3_0 hg_o)) (hU_o 4 _ rfl)) (fr_r (Fw_w (Fw_w h_o (fr_r h_o rfl (rr_3_0 hg_o)) (hU_o 4 _ rfl)) (fr_r (Fw_w h_o (fr_r h_o rfl (rr_3_0 hg_o)) (hU_o 4 _ rfl)) rfl (rr_3_0 hg_o)) (hU_o 4 _ rfl)) rfl (rr_3_0 hg_o)) (hU_o 4 _ rfl)) (fr_r (Fw_w (Fw_w (Fw_w h_o (fr_r h_o rfl (rr_3_0 hg_o)) (hU_o 4 _ rfl)) (fr_r (Fw_w h_o (fr_r h_o rfl (rr_3_0 hg_o)) (hU_o 4 _ rfl)) rfl (rr_3_0 hg_o)) (hU_o 4 _ rfl)) (fr_r (Fw_w (Fw_w h_o (fr_r h_o rfl (rr_3_0 hg_o)) (hU_o 4 _ rfl)) (fr_r (Fw_w h_o (fr_r h_o rfl (rr_3_0 hg_o)) (hU_o 4 _ rfl)) rfl (rr_3_0 hg_o)) (hU_o 4 _ rfl)) rfl (rr_3_0 hg_o)) (hU_o 4 _ rfl)) rfl (rr_3_0 hg_o)) (hU_o 4 _ rfl)) (fr_r (Fw_w (Fw_w (Fw_w (Fw_w h_o (fr_r h_o rfl (rr_3_0 hg_o)) (hU_o 4 _ rfl)) (fr_r (Fw_w h_o (fr_r h_o rfl (rr_3_0 hg_o)) (hU_o 4 _ rfl)) rfl (rr_3_0 hg_o)) (hU_o 4 _ rfl)) (fr_r (Fw_w (Fw_w h_o (fr_r h_o rfl (rr_3_0 hg_o)) (hU_o 4 _ rfl)) (fr_r (Fw_w h_o (fr_r h_o rfl (rr_3_0 hg_o)) (hU_o 4 _ rfl)) rfl (rr_3_0 hg_o)) (hU_o 4 _ rfl)) rfl (rr_3_0 hg_o)) (hU_o 4 _ rfl)) (fr_r (Fw_w (Fw_w (Fw_w h_o (fr_r h_o rfl (rr_3_0 hg_o)) (hU_o 4 _ rfl)) (fr_r (Fw_w h_o (fr_r h_o rfl (rr_3_0 hg_o)) (hU_o 4 _ rfl)) rfl (rr_3_0 hg_o)) (hU_o 4 _ rfl)) (fr_r (Fw_w (Fw_w h_o (fr_r h_o rfl (rr_3_0 hg_o)) (hU_o 4 _ rfl)) (fr_r (Fw_w h_o (fr_r h_o rfl (rr_3_0 hg_o)) (hU_o 4 _ rfl)) rfl (rr_3_0 hg_o)) (hU_o 4 _ rfl)) rfl (rr_3_0 hg_o)) (hU_o 4 _ rfl)) rfl (rr_3_0 hg_o)) (hU_o 4 _ rfl)) rfl (rr_3_0 hg_o)) (hU_o 4 _ rfl)) (fr_r (Fw_w (Fw_w (Fw_w (Fw_w (Fw_w h_o (fr_r h_o rfl (rr_3_0 hg_o)) (hU_o 4 _ rfl)) (fr_r (Fw_w h_o (fr_r h_o rfl (rr_3_0 hg_o)) (hU_o 4 _ rfl)) rfl (rr_3_0 hg_o)) (hU_o 4 _ rfl)) (fr_r (Fw_w (Fw_w h_o (fr_r h_o rfl (rr_3_0 hg_o)) (hU_o 4 _ rfl)) (fr_r (Fw_w h_o (fr_r h_o rfl (rr_3_0 hg_o)) (hU_o 4 _ rfl)) rfl (rr_3_0 hg_o)) (hU_o 4 _ rfl)) rfl (rr_3_0 hg_o)) (hU_o 4 _ rfl)) (fr_r (Fw_w (Fw_w (Fw_w h_o (fr_r h_o rfl (rr_3_0 hg_o)) (hU_o 4 _ rfl)) (fr_r (Fw_w h_o (fr_r h_o rfl (rr_3_0 hg_o)) (hU_o 4 _ rfl)) rfl (rr_3_0 hg_o)) (hU_o 4 _ rfl)) (fr_r (Fw_w (Fw_w h_o (fr_r h_o rfl (rr_3_0 hg_o)) (hU_o 4 _ rfl)) (fr_r (Fw_w h_o (fr_r h_o rfl (rr_3_0 hg_o)) (hU_o 4 _ rfl)) rfl (rr_3_0 hg_o)) (hU_o 4 _ rfl)) rfl (rr_3_0 hg_o)) (hU_o 4 _ rfl)) rfl (rr_3_0 hg_o)) (hU_o 4 _ rfl)) (fr_r (Fw_w (Fw_w (Fw_w (Fw_w h_o (fr_r h_o rfl (rr_3_0 hg_o)) (hU_o 4 _ rfl)) (fr_r (Fw_w h_o (fr_r h_o rfl (rr_3_0 hg_o)) (hU_o 4 _ rfl)) rfl (rr_3_0 hg_o)) (hU_o 4 _ rfl)) (fr_r (Fw_w (Fw_w h_o (fr_r h_o rfl (rr_3_0 hg_o)) (hU_o 4 _ rfl)) (fr_r (Fw_w h_o (fr_r h_o rfl (rr_3_0 hg_o)) (hU_o 4 _ rfl)) rfl (rr_3_0 hg_o)) (hU_o 4 _ rfl)) rfl (rr_3_0 hg_o)) (hU_o 4 _ rfl)) (fr_r (Fw_w (Fw_w (Fw_w h_o (fr_r h_o rfl (rr_3_0 hg_o)) (hU_o 4 _ rfl)) (fr_r (Fw_w h_o (fr_r h_o rfl (rr_3_0 hg_o)) (hU_o 4 _ rfl)) rfl (rr_3_0 hg_o)) (hU_o 4 _ rfl)) (fr_r (Fw_w (Fw_w h_o (fr_r h_o rfl (rr_3_0 hg_o)) (hU_o 4 _ rfl)) (fr_r (Fw_w h_o (fr_r h_o rfl (rr_3_0 hg_o)) (hU_o 4 _ rfl)) rfl (rr_3_0 hg_o)) (hU_o 4 _ rfl)) rfl (rr_3_0 hg_o)) (hU_o 4 _ rfl)) rfl (rr_3_0 hg_o)) (hU_o 4 _ rfl)) rfl (rr_3_0 hg_o)) (hU_o 4 _ rfl)) rfl (rr_3_0 hg_o)) (hU_o 4 _ rfl)) (fr_r (Fw_w (Fw_w (Fw_w (Fw_w (Fw_w (Fw_w h_o (fr_r h_o rfl (rr_3_0 hg_o)) (hU_o 4 _ rfl)) (fr_r (Fw_w h_o (fr_r h_o rfl (rr_3_0 hg_o)) (hU_o 4 _ rfl)) rfl (rr_3_0 hg_o)) (hU_o 4 _ rfl)) (fr_r (Fw_w (Fw_w h_o (fr_r h_o rfl (rr_3_0 hg_o)) (hU_o 4 _ rfl)) (fr_r (Fw_w h_o (fr_r h_o rfl (rr_3_0 hg_o)) (hU_o 4 _ rfl)) rfl (rr_3_0 hg_o)) (hU_o 4 _ rfl)) rfl (rr_3_0 hg_o)) (hU_o 4 _ rfl)) (fr_r (Fw_w (Fw_w (Fw_w h_o (fr_r h_o rfl (rr_3_0 hg_o)) (hU_o 4 _ rfl)) (fr_r (Fw_w h_o (fr_r h_o rfl (rr_3_0 hg_o)) (hU_o 4 _ rfl)) rfl (rr_3_0 hg_o)) (hU_o 4 _ rfl)) (fr_r (Fw_w (Fw_w h_o (fr_r h_o rfl (rr_3_0 hg_o)) (hU_o 4 _ rfl)) (fr_r (Fw_w h_o (fr_r h_o rfl (rr_3_0 hg_o)) (hU_o 4 _ rfl)) rfl (rr_3_0 hg_o)) (hU_o 4 _ rfl)) rfl (rr_3_0 hg_o)) (hU_o 4 _ rfl)) rfl (rr_3_0 hg_o)) (hU_o 4 _ rfl)) (fr_r (Fw_w (Fw_w (Fw_w (Fw_w h_o (fr_r h_o rfl (rr_3_0 hg_o)) (hU_o 4 _ rfl)) (fr_r (Fw_w h_o (fr_r h_o rfl (rr_3_0 hg_o)) (hU_o 4 _ rfl)) rfl (rr_3_0 hg_o)) (hU_o 4 _ rfl)) (fr_r (Fw_w (Fw_w h_o (fr_r h_o rfl (rr_3_0 hg_o)) (hU_o 4 _ rfl)) (fr_r (Fw_w h_o (fr_r h_o rfl (rr_3_0 hg_o)) (hU_o 4 _ rfl)) rfl (rr_3_0 hg_o)) (hU_o 4 _ rfl)) rfl (rr_3_0 hg_o)) (hU_o 4 _ rfl)) (fr_r (Fw_w (Fw_w (Fw_w h_o (fr_r h_o rfl (rr_3_0 hg_o)) (hU_o 4 _ rfl)) (fr_r (Fw_w h_o (fr_r h_o rfl (rr_3_0 hg_o)) (hU_o 4 _ rfl)) rfl (rr_3_0 hg_o)) (hU_o 4 _ rfl)) (fr_r (Fw_w (Fw_w h_o (fr_r h_o rfl (rr_3_0 hg_o)) (hU_o 4 _ rfl)) (fr_r (Fw_w h_o (fr_r h_o rfl (rr_3_0 hg_o)) (hU_o 4 _ rfl)) rfl (rr_3_0 hg_o)) (hU_o 4 _ rfl)) rfl (rr_3_0 hg_o)) (hU_o 4 _ rfl)) rfl (rr_3_0 hg_o)) (hU_o 4 _ rfl)) rfl (rr_3_0 hg_o)) (hU_o 4 _ rfl)) (fr_r (Fw_w (Fw_w (Fw_w (Fw_w (Fw_w h_o (fr_r h_o rfl (rr_3_0 hg_o)) (hU_o 4 _ rfl)) (fr_r (Fw_w h_o (fr_r h_o rfl (rr_3_0 hg_o)) (hU_o 4 _ rfl)) rfl (rr_3_0 hg_o)) (hU_o 4 _ rfl)) (fr_r (Fw_w (Fw_w h_o (fr_r h_o rfl (rr_3_0 hg_o)) (hU_o 4 _ rfl)) (fr_r (Fw_w h_o (fr_r h_o rfl (rr_3_0 hg_o)) (hU_o 4 _ rfl)) rfl (rr_3_0 hg_o)) (hU_o 4 _ rfl)) rfl (rr_3_0 hg_o)) (hU_o 4 _ rfl)) (fr_r (Fw_w (Fw_w (Fw_w h_o (fr_r h_o rfl (rr_3_0 hg_o)) (hU_o 4 _ rfl)) (fr_r (Fw_w h_o (fr_r h_o rfl (rr_3_0 hg_o)) (hU_o 4 _ rfl)) rfl (rr_3_0 hg_o)) (hU_o 4 _ rfl)) (fr_r (Fw_w (Fw_w h_o (fr_r h_o rfl (rr_3_0 hg_o)) (hU_o 4 _ rfl)) (fr_r (Fw_w h_o (fr_r h_o rfl (rr_3_0 hg_o)) (hU_o 4 _ rfl)) rfl (rr_3_0 hg_o)) (hU_o 4 _ rfl)) rfl (rr_3_0 hg_o)) (hU_o 4 _ rfl)) rfl (rr_3_0 hg_o)) (hU_o 4 _ rfl)) (fr_r (Fw_w (Fw_w (Fw_w (Fw_w h_o (fr_r h_o rfl (rr_3_0 hg_o)) (hU_o 4 _ rfl)) (fr_r (Fw_w h_o (fr_r h_o rfl (rr_3_0 hg_o)) (hU_o 4 _ rfl)) rfl (rr_3_0 hg_o)) (hU_o 4 _ rfl)) (fr_r (Fw_w (Fw_w h_o (fr_r h_o rfl (rr_3_0 hg_o)) (hU_o 4 _ rfl)) (fr_r (Fw_w h_o (fr_r h_o rfl (rr_3_0 hg_o)) (hU_o 4 _ rfl)) rfl (rr_3_0 hg_o)) (hU_o 4 _ rfl)) rfl (rr_3_0 hg_o)) (hU_o 4 _ rfl)) (fr_r (Fw_w (Fw_w (Fw_w h_o (fr_r h_o rfl (rr_3_0 hg_o)) (hU_o 4 _ rfl)) (fr_r (Fw_w h_o (fr_r h_o rfl (rr_3_0 hg_o)) (hU_o 4 _ rfl)) rfl (rr_3_0 hg_o)) (hU_o 4 _ rfl)) (fr_r (Fw_w (Fw_w h_o (fr_r h_o rfl (rr_3_0 hg_o)) (hU_o 4 _ rfl)) (fr_r (Fw_w h_o (fr_r h_o rfl (rr_3_0 hg_o)) (hU_o 4 _ rfl)) rfl (rr_3_0 hg_o)) (hU_o 4 _ rfl)) rfl (rr_3_0 hg_o)) (hU_o 4 _ rfl)) rfl (rr_3_0 hg_o)) (hU_o 4 _ rfl)) rfl (rr_3_0 hg_o)) (hU_o 4 _ rfl)) rfl (rr_3_0 hg_o)) (hU_o 4 _ rfl)) rfl (rr_3_0 hg_o)) (hU_o 4 _ rfl))
    · exact gQ_ret (Fw_w (Fw_w (Fw_w (Fw_w (Fw_w (Fw_w (Fw_w h_o (fr_r h_o rfl (rr_3_0 hg_o)) (hU_o 4 _ rfl)) (fr_r (Fw_w h_o (fr_r h_o rfl (rr_3_0 hg_o)) (hU_o 4 _ rfl)) rfl (rr_3_0 hg_o)) (hU_o 4 _ rfl)) (fr_r (Fw_w (Fw_w h_o (fr_r h_o rfl (rr_3_0 hg_o)) (hU_o 4 _ rfl)) (fr_r (Fw_w h_o (fr_r h_o rfl (rr_3_0 hg_o)) (hU_o 4 _ rfl)) rfl (rr_3_0 hg_o)) (hU_o 4 _ rfl)) rfl (rr_3_0 hg_o)) (hU_o 4 _ rfl)) (fr_r (Fw_w (Fw_w (Fw_w h_o (fr_r h_o rfl (rr_3_0 hg_o)) (hU_o 4 _ rfl)) (fr_r (Fw_w h_o (fr_r h_o rfl (rr_3_0 hg_o)) (hU_o 4 _ rfl)) rfl (rr_3_0 hg_o)) (hU_o 4 _ rfl)) (fr_r (Fw_w (Fw_w h_o (fr_r h_o rfl (rr_3_0 hg_o)) (hU_o 4 _ rfl)) (fr_r (Fw_w h_o (fr_r h_o rfl (rr_3_0 hg_o)) (hU_o 4 _ rfl)) rfl (rr_3_0 hg_o)) (hU_o 4 _ rfl)) rfl (rr_3_0 hg_o)) (hU_o 4 _ rfl)) rfl (rr_3_0 hg_o)) (hU_o 4 _ rfl)) (fr_r (Fw_w (Fw_w (Fw_w (Fw_w h_o (fr_r h_o rfl (rr_3_0 hg_o)) (hU_o 4 _ rfl)) (fr_r (Fw_w h_o (fr_r h_o rfl (rr_3_0 hg_o)) (hU_o 4 _ rfl)) rfl (rr_3_0 hg_o)) (hU_o 4 _ rfl)) (fr_r (Fw_w (Fw_w h_o (fr_r h_o rfl (rr_3_0 hg_o)) (hU_o 4 _ rfl)) (fr_r (Fw_w h_o (fr_r h_o rfl (rr_3_0 hg_o)) (hU_o 4 _ rfl)) rfl (rr_3_0 hg_o)) (hU_o 4 _ rfl)) rfl (rr_3_0 hg_o)) (hU_o 4 _ rfl)) (fr_r (Fw_w (Fw_w (Fw_w h_o (fr_r h_o rfl (rr_3_0 hg_o)) (hU_o 4 _ rfl)) (fr_r (Fw_w h_o (fr_r h_o rfl (rr_3_0 hg_o)) (hU_o 4 _ rfl)) rfl (rr_3_0 hg_o)) (hU_o 4 _ rfl)) (fr_r (Fw_w (Fw_w h_o (fr_r h_o rfl (rr_3_0 hg_o)) (hU_o 4 _ rfl)) (fr_r (Fw_w h_o (fr_r h_o rfl (rr_3_0 hg_o)) (hU_o 4 _ rfl)) rfl (rr_3_0 hg_o)) (hU_o 4 _ rfl)) rfl (rr_3_0 hg_o)) (hU_o 4 _ rfl)) rfl (rr_3_0 hg_o)) (hU_o 4 _ rfl)) rfl (rr_3_0 hg_o)) (hU_o 4 _ rfl)) (fr_r (Fw_w (Fw_w (Fw_w (Fw_w (Fw_w h_o (fr_r h_o rfl (rr_3_0 hg_o)) (hU_o 4 _ rfl)) (fr_r (Fw_w h_o (fr_r h_o rfl (rr_3_0 hg_o)) (hU_o 4 _ rfl)) rfl (rr_3_0 hg_o)) (hU_o 4 _ rfl)) (fr_r (Fw_w (Fw_w h_o (fr_r h_o rfl (rr_3_0 hg_o)) (hU_o 4 _ rfl)) (fr_r (Fw_w h_o (fr_r h_o rfl (rr_3_0 hg_o)) (hU_o 4 _ rfl)) rfl (rr_3_0 hg_o)) (hU_o 4 _ rfl)) rfl (rr_3_0 hg_o)) (hU_o 4 _ rfl)) (fr_r (Fw_w (Fw_w (Fw_w h_o (fr_r h_o rfl (rr_3_0 hg_o)) (hU_o 4 _ rfl)) (fr_r (Fw_w h_o (fr_r h_o rfl (rr_3_0 hg_o)) (hU_o 4 _ rfl)) rfl (rr_3_0 hg_o)) (hU_o 4 _ rfl)) (fr_r (Fw_w (Fw_w h_o (fr_r h_o rfl (rr_3_0 hg_o)) (hU_o 4 _ rfl)) (fr_r (Fw_w h_o (fr_r h_o rfl (rr_3_0 hg_o)) (hU_o 4 _ rfl)) rfl (rr_3_0 hg_o)) (hU_o 4 _ rfl)) rfl (rr_3_0 hg_o)) (hU_o 4 _ rfl)) rfl (rr_3_0 hg_o)) (hU_o 4 _ rfl)) (fr_r (Fw_w (Fw_w (Fw_w (Fw_w h_o (fr_r h_o rfl (rr_3_0 hg_o)) (hU_o 4 _ rfl)) (fr_r (Fw_w h_o (fr_r h_o rfl (rr_3_0 hg_o)) (hU_o 4 _ rfl)) rfl (rr_3_0 hg_o)) (hU_o 4 _ rfl)) (fr_r (Fw_w (Fw_w h_o (fr_r h_o rfl (rr_3_0 hg_o)) (hU_o 4 _ rfl)) (fr_r (Fw_w h_o (fr_r h_o rfl (rr_3_0 hg_o)) (hU_o 4 _ rfl)) rfl (rr_3_0 hg_o)) (hU_o 4 _ rfl)) rfl (rr_3_0 hg_o)) (hU_o 4 _ rfl)) (fr_r (Fw_w (Fw_w (Fw_w h_o (fr_r h_o rfl (rr_3_0 hg_o)) (hU_o 4 _ rfl)) (fr_r (Fw_w h_o (fr_r h_o rfl (rr_3_0 hg_o)) (hU_o 4 _ rfl)) rfl (rr_3_0 hg_o)) (hU_o 4 _ rfl)) (fr_r (Fw_w (Fw_w h_o (fr_r h_o rfl (rr_3_0 hg_o)) (hU_o 4 _ rfl)) (fr_r (Fw_w h_o (fr_r h_o rfl (rr_3_0 hg_o)) (hU_o 4 _ rfl)) rfl (rr_3_0 hg_o)) (hU_o 4 _ rfl)) rfl (rr_3_0 hg_o)) (hU_o 4 _ rfl)) rfl (rr_3_0 hg_o)) (hU_o 4 _ rfl)) rfl (rr_3_0 hg_o)) (hU_o 4 _ rfl)) rfl (rr_3_0 hg_o)) (hU_o 4 _ rfl)) (fr_r (Fw_w (Fw_w (Fw_w (Fw_w (Fw_w (Fw_w h_o (fr_r h_o rfl (rr_3_0 hg_o)) (hU_o 4 _ rfl)) (fr_r (Fw_w h_o (fr_r h_o rfl (rr_3_0 hg_o)) (hU_o 4 _ rfl)) rfl (rr_3_0 hg_o)) (hU_o 4 _ rfl)) (fr_r (Fw_w (Fw_w h_o (fr_r h_o rfl (rr_3_0 hg_o)) (hU_o 4 _ rfl)) (fr_r (Fw_w h_o (fr_r h_o rfl (rr_3_0 hg_o)) (hU_o 4 _ rfl)) rfl (rr_3_0 hg_o)) (hU_o 4 _ rfl)) rfl (rr_3_0 hg_o)) (hU_o 4 _ rfl)) (fr_r (Fw_w (Fw_w (Fw_w h_o (fr_r h_o rfl (rr_3_0 hg_o)) (hU_o 4 _ rfl)) (fr_r (Fw_w h_o (fr_r h_o rfl (rr_3_0 hg_o)) (hU_o 4 _ rfl)) rfl (rr_3_0 hg_o)) (hU_o 4 _ rfl)) (fr_r (Fw_w (Fw_w h_o (fr_r h_o rfl (rr_3_0 hg_o)) (hU_o 4 _ rfl)) (fr_r (Fw_w h_o (fr_r h_o rfl (rr_3_0 hg_o)) (hU_o 4 _ rfl)) rfl (rr_3_0 hg_o)) (hU_o 4 _ rfl)) rfl (rr_3_0 hg_o)) (hU_o 4 _ rfl)) rfl (rr_3_0 hg_o)) (hU_o 4 _ rfl)) (fr_r (Fw_w (Fw_w (Fw_w (Fw_w h_o (fr_r h_o rfl (rr_3_0 hg_o)) (hU_o 4 _ rfl)) (fr_r (Fw_w h_o (fr_r h_o rfl (rr_3_0 hg_o)) (hU_o 4 _ rfl)) rfl (rr_3_0 hg_o)) (hU_o 4 _ rfl)) (fr_r (Fw_w (Fw_w h_o (fr_r h_o rfl (rr_3_0 hg_o)) (hU_o 4 _ rfl)) (fr_r (Fw_w h_o (fr_r h_o rfl (rr_3_0 hg_o)) (hU_o 4 _ rfl)) rfl (rr_3_0 hg_o)) (hU_o 4 _ rfl)) rfl (rr_3_0 hg_o)) (hU_o 4 _ rfl)) (fr_r (Fw_w (Fw_w (Fw_w h_o (fr_r h_o rfl (rr_3_0 hg_o)) (hU_o 4 _ rfl)) (fr_r (Fw_w h_o (fr_r h_o rfl (rr_3_0 hg_o)) (hU_o 4 _ rfl)) rfl (rr_3_0 hg_o)) (hU_o 4 _ rfl)) (fr_r (Fw_w (Fw_w h_o (fr_r h_o rfl (rr_3_0 hg_o)) (hU_o 4 _ rfl)) (fr_r (Fw_w h_o (fr_r h_o rfl (rr_3_0 hg_o)) (hU_o 4 _ rfl)) rfl (rr_3_0 hg_o)) (hU_o 4 _ rfl)) rfl (rr_3_0 hg_o)) (hU_o 4 _ rfl)) rfl (rr_3_0 hg_o)) (hU_o 4 _ rfl)) rfl (rr_3_0 hg_o)) (hU_o 4 _ rfl)) (fr_r (Fw_w (Fw_w (Fw_w (Fw_w (Fw_w h_o (fr_r h_o rfl (rr_3_0 hg_o)) (hU_o 4 _ rfl)) (fr_r (Fw_w h_o (fr_r h_o rfl (rr_3_0 hg_o)) (hU_o 4 _ rfl)) rfl (rr_3_0 hg_o)) (hU_o 4 _ rfl)) (fr_r (Fw_w (Fw_w h_o (fr_r h_o rfl (rr_3_0 hg_o)) (hU_o 4 _ rfl)) (fr_r (Fw_w h_o (fr_r h_o rfl (rr_3_0 hg_o)) (hU_o 4 _ rfl)) rfl (rr_3_0 hg_o)) (hU_o 4 _ rfl)) rfl (rr_3_0 hg_o)) (hU_o 4 _ rfl)) (fr_r (Fw_w (Fw_w (Fw_w h_o (fr_r h_o rfl (rr_3_0 hg_o)) (hU_o 4 _ rfl)) (fr_r (Fw_w h_o (fr_r h_o rfl (rr_3_0 hg_o)) (hU_o 4 _ rfl)) rfl (rr_3_0 hg_o)) (hU_o 4 _ rfl)) (fr_r (Fw_w (Fw_w h_o (fr_r h_o rfl (rr_3_0 hg_o)) (hU_o 4 _ rfl)) (fr_r (Fw_w h_o (fr_r h_o rfl (rr_3_0 hg_o)) (hU_o 4 _ rfl)) rfl (rr_3_0 hg_o)) (hU_o 4 _ rfl)) rfl (rr_3_0 hg_o)) (hU_o 4 _ rfl)) rfl (rr_3_0 hg_o)) (hU_o 4 _ rfl)) (fr_r (Fw_w (Fw_w (Fw_w (Fw_w h_o (fr_r h_o rfl (rr_3_0 hg_o)) (hU_o 4 _ rfl)) (fr_r (Fw_w h_o (fr_r h_o rfl (rr_3_0 hg_o)) (hU_o 4 _ rfl)) rfl (rr_3_0 hg_o)) (hU_o 4 _ rfl)) (fr_r (Fw_w (Fw_w h_o (fr_r h_o rfl (rr_3_0 hg_o)) (hU_o 4 _ rfl)) (fr_r (Fw_w h_o (fr_r h_o rfl (rr_3_0 hg_o)) (hU_o 4 _ rfl)) rfl (rr_3_0 hg_o)) (hU_o 4 _ rfl)) rfl (rr_3_0 hg_o)) (hU_o 4 _ rfl)) (fr_r (Fw_w (Fw_w (Fw_w h_o (fr_r h_o rfl (rr_3_0 hg_o)) (hU_o 4 _ rfl)) (fr_r (Fw_w h_o (fr_r h_o rfl (rr_3_0 hg_o)) (hU_o 4 _ rfl)) rfl (rr_3_0 hg_o)) (hU_o 4 _ rfl)) (fr_r (Fw_w (Fw_w h_o (fr_r h_o rfl (rr_3_0 hg_o)) (hU_o 4 _ rfl)) (fr_r (Fw_w h_o (fr_r h_o rfl (rr_3_0 hg_o)) (hU_o 4 _ rfl)) rfl (rr_3_0 hg_o)) (hU_o 4 _ rfl)) rfl (rr_3_0 hg_o)) (hU_o 4 _ rfl)) rfl (rr_3_0 hg_o)) (hU_o 4 _ rfl)) rfl (rr_3_0 hg_o)) (hU_o 4 _ rfl)) rfl (rr_3_0 hg_o)) (hU_o 4 _ rfl)) rfl (rr_3_0 hg_o)) (hU_o 4 _ rfl))

theorem o_36 {W : Nat → Nat → Bool} {g s : gS} {a0 : Nat} {a1 : Int} {a2 : Int} (hg_o : RF g) (hU_o : ∀ a k, csq a k = true → W a k = true) (ea0_o : a0 = 3) (h_o : Fw W g s) : gQ (f_36 a0 a1 a2 s) (fun r => Fw W g r.2.2.2) := by
  subst ea0_o
  unfold f_36
  dsimp only
  exact gQ_ret (Fw_w (Fw_w h_o (fr_r h_o rfl (rr_3_0 hg_o)) (hU_o 4 _ rfl)) (fr_r (Fw_w h_o (fr_r h_o rfl (rr_3_0 hg_o)) (hU_o 4 _ rfl)) rfl (rr_3_0 hg_o)) (hU_o 4 _ rfl))

theorem o_37 {W : Nat → Nat → Bool} {g s : gS} {a0 : Nat} {a1 : Nat} (hg_o : RF g) (hU_o : ∀ a k, csq a k = true → W a k = true) (ea0_o : a0 = 3) (h_o : Fw W g s) : gQ (f_37 a0 a1 s) (fun r => Fw W g r.2.2.2) := by
  subst ea0_o
  unfold f_37
  dsimp only
  refine gQ_ite ?_ ?_
  · exact gQ_ret h_o
  · refine gQ_loop (fun y_l => y_l.1 = 3 ∧ Fw W g (y_l.2.2.2.2)) (fun y_l hy_o => ?_) ⟨rfl, (Fw_w h_o rfl (hU_o 3 _ rfl))⟩
    obtain ⟨x102_o, x103_o, x104_o, x105_o, x106_o⟩ := y_l
    obtain ⟨e108_o, h107_o⟩ := hy_o
    dsimp only at e108_o h107_o
    subst e108_o
    show gQ (sb_37_15 3 x103_o x104_o x105_o x106_o) _
    unfold sb_37_15
    dsimp only
    refine gQ_ite ?_ ?_
    · exact gQ_none
    · refine gQ_ite ?_ ?_
      · exact gQ_none
      · refine gQ_ite ?_ ?_
        · refine gQ_ite ?_ ?_
          · exact gQ_none
          · refine gQ_ite ?_ ?_
            · exact gQ_none
            · refine gQ_chk2 (fun ha109_o hb110_o => ?_)
              refine gQ_ite ?_ ?_
              · refine gQ_ite ?_ ?_
                · refine gQ_ite ?_ ?_
                  · refine gQ_ite ?_ ?_
                    · refine gQ_v0 (A := Fw W g) (o_40 hg_o hU_o rfl h107_o) (fun s3_l h111_o => ?_)
                      exact gQ_ret ⟨rfl, h111_o⟩
                    · refine gQ_v1 (A := Fw W g) (o_39 hg_o hU_o  h107_o) (fun v6 s5 h112_o => ?_)
                      refine gQ_v0 (A := Fw W g) (o_40 hg_o hU_o rfl h112_o) (fun s7 h113_o => ?_)
                      exact gQ_ret ⟨rfl, h113_o⟩
                  · refine gQ_v0 (A := Fw W g) (o_38 hg_o hU_o rfl h107_o) (fun s9 h114_o => ?_)
                    exact gQ_ret ⟨rfl, h114_o⟩
                · refine gQ_v1 (A := Fw W g) (o_41 hg_o hU_o rfl h107_o) (fun v12 s11 h115_o => ?_)
                  exact gQ_ret ⟨rfl, h115_o⟩
              · refine gQ_v1 (A := Fw W g) (o_41 hg_o hU_o rfl h107_o) (fun v15 s14 h116_o => ?_)
                exact gQ_ret ⟨rfl, h116_o⟩
        · refine gQ_map ?_
          exact gQ_ret h107_o

theorem o_34 {W : Nat → Nat → Bool} {g s : gS} {a0 : Nat} {a1 : Int} {a2 : Nat} {a3 : Nat} (hg_o : RF g) (hU_o : ∀ a k, csq a k = true → W a k = true) (ea0_o : a0 = 3) (h_o : Fw W g s) : gQ (f_34 a0 a1 a2 a3 s) (fun r => Fw W g r.2.2.2) := by
  subst ea0_o
  unfold f_34
  refine gQ_chk2 (fun ha117_o hb118_o => ?_)
  refine gQ_v0 (A := Fw W g) (o_35 hg_o hU_o rfl h_o) (fun s1_l h119_o => ?_)
  refine gQ_v0 (A := Fw W g) (o_36 hg_o hU_o rfl h119_o) (fun s3_l h120_o => ?_)
  refine gQ_v1 (A := Fw W g) (o_37 hg_o hU_o rfl h120_o) (fun v6 s5 h121_o => ?_)
  exact gQ_ret h121_o

theorem o_60 {W : Nat → Nat → Bool} {g s : gS} {a0 : Nat} {a1 : Int} (hg_o : RF g) (hU_o : ∀ a k, csq a k = true → W a k = true) (ea0_o : Wm W a0) (h_o : Fw W g s) : gQ (f_60 a0 a1 s) (fun r => Fw W g r.2.2.2) := by
  unfold f_60
  dsimp only
  exact gQ_ret (Fw_wv h_o (ea0_o _ (by decide)))

theorem o_61 {W : Nat → Nat → Bool} {g s : gS} {a0 : Nat} {a1 : Nat} (hg_o : RF g) (hU_o : ∀ a k, csq a k = true → W a k = true) (ea0_o : Wm W a0) (h_o : Fw W g s) : gQ (f_61 a0 a1 s) (fun r => Fw W g r.2.2.2) := by
  unfold f_61
  dsimp only
  refine gQ_ite ?_ ?_
  · refine gQ_chk2 (fun ha122_o hb123_o => ?_)
    refine gQ_ite ?_ ?_
    · exact gQ_ret (Fw_wv h_o (ea0_o _ (by decide)))
    · refine gQ_chk2 (fun ha124_o hb125_o => ?_)
      exact gQ_ret (Fw_wv (Fw_wv (Fw_wv h_o (ea0_o _ (by decide))) (ea0_o _ (by decide))) (ea0_o _ (by decide)))
  · exact gQ_ret h_o

theorem o_28 {W : Nat → Nat → Bool} {g s : gS} {a0 : Nat} {a1 : Int} {a2 : Nat} {a3 : Nat} (hg_o : RF g) (hU_o : ∀ a k, csq a k = true → W a k = true) (ea0_o : a0 = 42) (ea2_o : a2 = 9) (ea3_o : a3 = 3) (h_o : Fw W g s) : gQ (f_28 a0 a1 a2 a3 s) (fun r => Fw W g r.2.2.2) := by
  subst ea0_o ea2_o ea3_o
  unfold f_28
  dsimp only
  refine gQ_chk2 (fun ha126_o hb127_o => ?_)
  refine gQ_ite ?_ ?_
  · refine gQ_ite ?_ ?_
    · refine gQ_chk2 (fun ha128_o hb129_o => ?_)
      refine gQ_v0 (A := Fw W g) (o_26 hg_o hU_o rfl h_o) (fun s2_l h130_o => ?_)
      unfold fb_28_42
      dsimp only
      refine gQ_v1 (A := Fw W g) (o_61 hg_o hU_o (fun k_o _ => (fr_m43 h_o hg_o hU_o (fr_r h_o rfl (rr_42_0 hg_o)) ha126_o hb127_o) k_o) h130_o) (fun v5 s4_l h131_o => ?_)
      refine gQ_v0 (A := Fw W g) (o_60 hg_o hU_o (fun k_o _ => (fr_m43 h_o hg_o hU_o (fr_r h_o rfl (rr_42_0 hg_o)) ha126_o hb127_o) k_o) h131_o) (fun s6_l h132_o => ?_)
      refine gQ_v1 (A := Fw W g) (o_34 hg_o hU_o rfl h132_o) (fun v9 s8 h133_o => ?_)
      refine gQ_v0 (A := Fw W g) (o_60 hg_o hU_o (fun k_o _ => (fr_m43 h_o hg_o hU_o (fr_r h_o rfl (rr_42_0 hg_o)) ha126_o hb127_o) k_o) h133_o) (fun s10 h134_o => ?_)
      refine gQ_ite ?_ ?_
      · exact gQ_ret (Fw_wv h134_o ((fr_m43 h_o hg_o hU_o (fr_r h_o rfl (rr_42_0 hg_o)) ha126_o hb127_o) _))
      · exact gQ_ret h134_o
    · unfold fb_28_42
      dsimp only
      refine gQ_v1 (A := Fw W g) (o_61 hg_o hU_o (fun k_o _ => (fr_m43 h_o hg_o hU_o (fr_r h_o rfl (rr_42_0 hg_o)) ha126_o hb127_o) k_o) h_o) (fun v5 s4_l h135_o => ?_)
      refine gQ_v0 (A := Fw W g) (o_60 hg_o hU_o (fun k_o _ => (fr_m43 h_o hg_o hU_o (fr_r h_o rfl (rr_42_0 hg_o)) ha126_o hb127_o) k_o) h135_o) (fun s6_l h136_o => ?_)
      refine gQ_v1 (A := Fw W g) (o_34 hg_o hU_o rfl h136_o) (fun v9 s8 h137_o => ?_)
      refine gQ_v0 (A := Fw W g) (o_60 hg_o hU_o (fun k_o _ => (fr_m43 h_o hg_o hU_o (fr_r h_o rfl (rr_42_0 hg_o)) ha126_o hb127_o) k_o) h137_o) (fun s10 h138_o => ?_)
      refine gQ_ite ?_ ?_
      · exact gQ_ret (Fw_wv h138_o ((fr_m43 h_o hg_o hU_o (fr_r h_o rfl (rr_42_0 hg_o)) ha126_o hb127_o) _))
      · exact gQ_ret h138_o
  · unfold fb_28_42
    dsimp only
    refine gQ_v1 (A := Fw W g) (o_61 hg_o hU_o (fun k_o _ => (fr_m43 h_o hg_o hU_o (fr_r h_o rfl (rr_42_0 hg_o)) ha126_o hb127_o) k_o) h_o) (fun v5 s4_l h139_o => ?_)
    refine gQ_v0 (A := Fw W g) (o_60 hg_o hU_o (fun k_o _ => (fr_m43 h_o hg_o hU_o (fr_r h_o rfl (rr_42_0 hg_o)) ha126_o hb127_o) k_o) h139_o) (fun s6_l h140_o => ?_)
    refine gQ_v1 (A := Fw W g) (o_34 hg_o hU_o rfl h140_o) (fun v9 s8 h141_o => ?_)
    refine gQ_v0 (A := Fw W g) (o_60 hg_o hU_o (fun k_o _ => (fr_m43 h_o hg_o hU_o (fr_r h_o rfl (rr_42_0 hg_o)) ha126_o hb127_o) k_o) h141_o) (fun s10 h142_o => ?_)
    refine gQ_ite ?_ ?_
    · exact gQ_ret (Fw_wv h142_o ((fr_m43 h_o hg_o hU_o (fr_r h_o rfl (rr_42_0 hg_o)) ha126_o hb127_o) _))
    · exact gQ_ret h142_o

theorem o_28d {W : Nat → Nat → Bool} {g s : gS} {a0 : Nat} {a1 : Int} {a2 : Nat} {a3 : Nat} (hg_o : RF g) (hU_o : ∀ a k, csd a k = true → W a k = true) (ea0_o : a0 = 15) (ea2_o : a2 = 9) (ea3_o : a3 = 3) (h_o : Fw W g s) : gQ (f_28 a0 a1 a2 a3 s) (fun r => Fw W g r.2.2.2) := by
  subst ea0_o ea2_o ea3_o
  unfold f_28
  dsimp only
  refine gQ_chk2 (fun ha143_o hb144_o => ?_)
  refine gQ_ite ?_ ?_
  · refine gQ_ite ?_ ?_
    · refine gQ_chk2 (fun ha145_o hb146_o => ?_)
      refine gQ_v0 (A := Fw W g) (o_26d hg_o hU_o rfl h_o) (fun s2_l h147_o => ?_)
      unfold fb_28_42
      dsimp only
      refine gQ_v1 (A := Fw W g) (o_61 hg_o (qd_o hU_o) (fr_m16 h_o hg_o hU_o (fr_r h_o rfl (rr_15_0 hg_o)) ha143_o hb144_o) h147_o) (fun v5 s4_l h148_o => ?_)
      refine gQ_v0 (A := Fw W g) (o_60 hg_o (qd_o hU_o) (fr_m16 h_o hg_o hU_o (fr_r h_o rfl (rr_15_0 hg_o)) ha143_o hb144_o) h148_o) (fun s6_l h149_o => ?_)
      refine gQ_v1 (A := Fw W g) (o_34 hg_o (qd_o hU_o) rfl h149_o) (fun v9 s8 h150_o => ?_)
      refine gQ_v0 (A := Fw W g) (o_60 hg_o (qd_o hU_o) (fr_m16 h_o hg_o hU_o (fr_r h_o rfl (rr_15_0 hg_o)) ha143_o hb144_o) h150_o) (fun s10 h151_o => ?_)
      refine gQ_ite ?_ ?_
      · exact gQ_ret (Fw_wv h151_o ((fr_m16 h_o hg_o hU_o (fr_r h_o rfl (rr_15_0 hg_o)) ha143_o hb144_o) _ (by decide)))
      · exact gQ_ret h151_o
    · unfold fb_28_42
      dsimp only
      refine gQ_v1 (A := Fw W g) (o_61 hg_o (qd_o hU_o) (fr_m16 h_o hg_o hU_o (fr_r h_o rfl (rr_15_0 hg_o)) ha143_o hb144_o) h_o) (fun v5 s4_l h152_o => ?_)
      refine gQ_v0 (A := Fw W g) (o_60 hg_o (qd_o hU_o) (fr_m16 h_o hg_o hU_o (fr_r h_o rfl (rr_15_0 hg_o)) ha143_o hb144_o) h152_o) (fun s6_l h153_o => ?_)
      refine gQ_v1 (A := Fw W g) (o_34 hg_o (qd_o hU_o) rfl h153_o) (fun v9 s8 h154_o => ?_)
      refine gQ_v0 (A := Fw W g) (o_60 hg_o (qd_o hU_o) (fr_m16 h_o hg_o hU_o (fr_r h_o rfl (rr_15_0 hg_o)) ha143_o hb144_o) h154_o) (fun s10 h155_o => ?_)
      refine gQ_ite ?_ ?_
      · exact gQ_ret (Fw_wv h155_o ((fr_m16 h_o hg_o hU_o (fr_r h_o rfl (rr_15_0 hg_o)) ha143_o hb144_o) _ (by decide)))
      · exact gQ_ret h155_o
  · unfold fb_28_42
    dsimp only
    refine gQ_v1 (A := Fw W g) (o_61 hg_o (qd_o hU_o) (fr_m16 h_o hg_o hU_o (fr_r h_o rfl (rr_15_0 hg_o)) ha143_o hb144_o) h_o) (fun v5 s4_l h156_o => ?_)
    refine gQ_v0 (A := Fw W g) (o_60 hg_o (qd_o hU_o) (fr_m16 h_o hg_o hU_o (fr_r h_o rfl (rr_15_0 hg_o)) ha143_o hb144_o) h156_o) (fun s6_l h157_o => ?_)
    refine gQ_v1 (A := Fw W g) (o_34 hg_o (qd_o hU_o) rfl h157_o) (fun v9 s8 h158_o => ?_)
    refine gQ_v0 (A := Fw W g) (o_60 hg_o (qd_o hU_o) (fr_m16 h_o hg_o hU_o (fr_r h_o rfl (rr_15_0 hg_o)) ha143_o hb144_o) h158_o) (fun s10 h159_o => ?_)
    refine gQ_ite ?_ ?_
    · exact gQ_ret (Fw_wv h159_o ((fr_m16 h_o hg_o hU_o (fr_r h_o rfl (rr_15_0 hg_o)) ha143_o hb144_o) _ (by decide)))
    · exact gQ_ret h159_o

theorem o_27 {W : Nat → Nat → Bool} {g s : gS} {a0 : Nat} {a1 : Nat} {a2 : Nat} {a3 : Int} (hg_o : RF g) (hU_o : ∀ a k, csq a k = true → W a k = true) (ea0_o : a0 = 42) (ea1_o : a1 = 9) (ea2_o : a2 = 3) (h_o : Fw W g s) : gQ (f_27 a0 a1 a2 a3 s) (fun r => Fw W g r.2.2.2) := by
  subst ea0_o ea1_o ea2_o
  unfold f_27
  refine gQ_loop (fun y_l => y_l.1 = 42 ∧ y_l.2.1 = 9 ∧ y_l.2.2.1 = 3 ∧ Fw W g (y_l.2.2.2.2.2.2)) (fun y_l hy_o => ?_) ⟨rfl, rfl, rfl, h_o⟩
  obtain ⟨x160_o, x161_o, x162_o, x163_o, x164_o, x165_o, x166_o⟩ := y_l
  obtain ⟨e168_o, e169_o, e170_o, h167_o⟩ := hy_o
  dsimp only at e168_o e169_o e170_o h167_o
  subst e168_o e169_o e170_o
  show gQ (sb_27_6 42 9 3 x163_o x164_o x165_o x166_o) _
  unfold sb_27_6
  dsimp only
  refine gQ_ite ?_ ?_
  · refine gQ_chk2 (fun ha171_o hb172_o => ?_)
    refine gQ_ite ?_ ?_
    · refine gQ_v0 (A := Fw W g) (o_28 hg_o hU_o rfl rfl rfl h167_o) (fun s1_l h173_o => ?_)
      refine gQ_chk2 (fun ha174_o hb175_o => ?_)
      refine gQ_ite ?_ ?_
      · unfold fb_27_57
        exact gQ_ret ⟨rfl, rfl, rfl, h173_o⟩
      · unfold fb_27_57
        exact gQ_ret ⟨rfl, rfl, rfl, h173_o⟩
    · exact gQ_ret ⟨rfl, rfl, rfl, h167_o⟩
  · refine gQ_map ?_
    refine gQ_ite ?_ ?_
    · refine gQ_v1 (A := Fw W g) (o_29 hg_o hU_o  (Fw_w h167_o rfl (hU_o 42 _ rfl))) (fun v6 s5 h176_o => ?_)
      refine gQ_ite ?_ ?_
      · unfold fb_27_128
        dsimp only
        exact gQ_ret (Fw_w h176_o rfl (hU_o 42 _ rfl))
      · unfold fb_27_128
        dsimp only
        exact gQ_ret (Fw_w (Fw_w h176_o rfl (hU_o 42 _ rfl)) rfl (hU_o 42 _ rfl))
    · unfold fb_27_128
      dsimp only
      exact gQ_ret (Fw_w (Fw_w h167_o rfl (hU_o 42 _ rfl)) rfl (hU_o 42 _ rfl))

theorem o_27d {W : Nat → Nat → Bool} {g s : gS} {a0 : Nat} {a1 : Nat} {a2 : Nat} {a3 : Int} (hg_o : RF g) (hU_o : ∀ a k, csd a k = true → W a k = true) (ea0_o : a0 = 15) (ea1_o : a1 = 9) (ea2_o : a2 = 3) (h_o : Fw W g s) : gQ (f_27 a0 a1 a2 a3 s) (fun r => Fw W g r.2.2.2) := by
  subst ea0_o ea1_o ea2_o
  unfold f_27
  refine gQ_loop (fun y_l => y_l.1 = 15 ∧ y_l.2.1 = 9 ∧ y_l.2.2.1 = 3 ∧ Fw W g (y_l.2.2.2.2.2.2)) (fun y_l hy_o => ?_) ⟨rfl, rfl, rfl, h_o⟩
  obtain ⟨x177_o, x178_o, x179_o, x180_o, x181_o, x182_o, x183_o⟩ := y_l
  obtain ⟨e185_o, e186_o, e187_o, h184_o⟩ := hy_o
  dsimp only at e185_o e186_o e187_o h184_o
  subst e185_o e186_o e187_o
  show gQ (sb_27_6 15 9 3 x180_o x181_o x182_o x183_o) _
  unfold sb_27_6
  dsimp only
  refine gQ_ite ?_ ?_
  · refine gQ_chk2 (fun ha188_o hb189_o => ?_)
    refine gQ_ite ?_ ?_
    · refine gQ_v0 (A := Fw W g) (o_28d hg_o hU_o rfl rfl rfl h184_o) (fun s1_l h190_o => ?_)
      refine gQ_chk2 (fun ha191_o hb192_o => ?_)
      refine gQ_ite ?_ ?_
      · unfold fb_27_57
        exact gQ_ret ⟨rfl, rfl, rfl, h190_o⟩
      · unfold fb_27_57
        exact gQ_ret ⟨rfl, rfl, rfl, h190_o⟩
    · exact gQ_ret ⟨rfl, rfl, rfl, h184_o⟩
  · refine gQ_map ?_
    refine gQ_ite ?_ ?_
    · refine gQ_v1 (A := Fw W g) (o_29 hg_o (qd_o hU_o)  (Fw_w h184_o rfl (hU_o 15 _ rfl))) (fun v6 s5 h193_o => ?_)
      refine gQ_ite ?_ ?_
      · unfold fb_27_128
        dsimp only
        exact gQ_ret (Fw_w h193_o rfl (hU_o 15 _ rfl))
      · unfold fb_27_128
        dsimp only
        exact gQ_ret (Fw_w (Fw_w h193_o rfl (hU_o 15 _ rfl)) rfl (hU_o 15 _ rfl))
    · unfold fb_27_128
      dsimp only
      exact gQ_ret (Fw_w (Fw_w h184_o rfl (hU_o 15 _ rfl)) rfl (hU_o 15 _ rfl))

theorem o_59 {W : Nat → Nat → Bool} {g s : gS} {a0 : Nat} {a1 : Nat} (hg_o : RF g) (hU_o : ∀ a k, csq a k = true → W a k = true) (ea0_o : Wa W a0) (h_o : Fw W g s) : gQ (f_59 a0 a1 s) (fun r => Fw W g r.2.2.2) := by
  unfold f_59
  dsimp only
  exact gQ_ret (Fw_wv (Fw_wv (Fw_wv (Fw_wv (Fw_wv (Fw_wv h_o (ea0_o _)) (ea0_o _)) (ea0_o _)) (ea0_o _)) (ea0_o _)) (ea0_o _))

theorem o_23 {W : Nat → Nat → Bool} {g s : gS} {a0 : Nat} {a1 : Nat} (hg_o : RF g) (hU_o : ∀ a k, csq a k = true → W a k = true) (ea0_o : a0 = 42) (ea1_o : a1 = 15) (h_o : Fw W g s) : gQ (f_23 a0 a1 s) (fun r => Fw W g r.2.2.2) := by
  subst ea0_o ea1_o
  unfold f_23
  refine gQ_loop (fun y_l => y_l.1 = 42 ∧ y_l.2.1 = 15 ∧ Fw W g (y_l.2.2.2)) (fun y_l hy_o => ?_) ⟨rfl, rfl, h_o⟩
  obtain ⟨x194_o, x195_o, x196_o, x197_o⟩ := y_l
  obtain ⟨e199_o, e200_o, h198_o⟩ := hy_o
  dsimp only at e199_o e200_o h198_o
  subst e199_o e200_o
  show gQ (sb_23_2 42 15 x196_o x197_o) _
  unfold sb_23_2
  dsimp only
  refine gQ_ite ?_ ?_
  · refine gQ_chk2 (fun ha201_o hb202_o => ?_)
    refine gQ_chk2 (fun ha203_o hb204_o => ?_)
    refine gQ_v0 (A := Fw W g) (o_59 hg_o hU_o (fr_m43 h198_o hg_o hU_o (fr_r h198_o rfl (rr_42_0 hg_o)) ha203_o hb204_o) h198_o) (fun s1_l h205_o => ?_)
    exact gQ_ret ⟨rfl, rfl, h205_o⟩
  · refine gQ_map ?_
    exact gQ_ret (Fw_w (Fw_w (Fw_w (Fw_w (Fw_w (Fw_w (Fw_c (Fw_c h198_o (fr_r h198_o rfl (rr_42_1 hg_o)) (fun k_o => hU_o 44 k_o rfl)) (fr_r (Fw_c h198_o (fr_r h198_o rfl (rr_42_1 hg_o)) (fun k_o => hU_o 44 k_o rfl)) rfl (rr_42_2 hg_o)) (fun k_o => hU_o 45 k_o rfl)) rfl (hU_o 42 _ rfl)) rfl (hU_o 42 _ rfl)) rfl (hU_o 42 _ rfl)) rfl (hU_o 42 _ rfl)) rfl (hU_o 42 _ rfl)) rfl (hU_o 42 _ rfl))

theorem o_72 {W : Nat → Nat → Bool} {g s : gS} {a0 : Nat} {a1 : Int} (hg_o : RF g) (hU_o : ∀ a k, csq a k = true → W a k = true) (ea0_o : a0 = 27) (h_o : Fw W g s) : gQ (f_72 a0 a1 s) (fun r => Fw W g r.2.2.2) := by
  subst ea0_o
  unfold f_72
  exact gQ_ret h_o

theorem o_73 {W : Nat → Nat → Bool} {g s : gS} {a0 : Nat} {a1 : Int} {a2 : Int} {a3 : Int} (hg_o : RF g) (hU_o : ∀ a k, csq a k = true → W a k = true) (ea0_o : a0 = 27) (h_o : Fw W g s) : gQ (f_73 a0 a1 a2 a3 s) (fun r => Fw W g r.2.2.2) := by
  subst ea0_o
  unfold f_73
  dsimp only
  refine gQ_chk2 (fun ha206_o hb207_o => ?_)
  refine gQ_chk2 (fun ha208_o hb209_o => ?_)
  refine gQ_chk2 (fun ha210_o hb211_o => ?_)
  refine gQ_v0 (A := Fw W g) (o_60 hg_o hU_o (fun k_o _ => (fun k_o => (congrArg (fun b_o => W b_o k_o) (fr_r (Fw_w (Fw_w (Fw_w (Fw_w h_o (fr_r h_o rfl (rr_27_2 hg_o)) (hU_o 28 _ rfl)) (fr_r (Fw_w h_o (fr_r h_o rfl (rr_27_2 hg_o)) (hU_o 28 _ rfl)) rfl (rr_27_2 hg_o)) (hU_o 28 _ rfl)) (fr_r (Fw_w (Fw_w h_o (fr_r h_o rfl (rr_27_2 hg_o)) (hU_o 28 _ rfl)) (fr_r (Fw_w h_o (fr_r h_o rfl (rr_27_2 hg_o)) (hU_o 28 _ rfl)) rfl (rr_27_2 hg_o)) (hU_o 28 _ rfl)) rfl (rr_27_2 hg_o)) (hU_o 28 _ rfl)) (fr_r (Fw_w (Fw_w (Fw_w h_o (fr_r h_o rfl (rr_27_2 hg_o)) (hU_o 28 _ rfl)) (fr_r (Fw_w h_o (fr_r h_o rfl (rr_27_2 hg_o)) (hU_o 28 _ rfl)) rfl (rr_27_2 hg_o)) (hU_o 28 _ rfl)) (fr_r (Fw_w (Fw_w h_o (fr_r h_o rfl (rr_27_2 hg_o)) (hU_o 28 _ rfl)) (fr_r (Fw_w h_o (fr_r h_o rfl (rr_27_2 hg_o)) (hU_o 28 _ rfl)) rfl (rr_27_2 hg_o)) (hU_o 28 _ rfl)) rfl (rr_27_2 hg_o)) (hU_o 28 _ rfl)) rfl (rr_27_2 hg_o)) (hU_o 28 _ rfl)) rfl (rr_27_2 hg_o))).trans (hU_o 28 k_o rfl)) k_o) (Fw_w (Fw_w (Fw_w (Fw_w h_o (fr_r h_o rfl (rr_27_2 hg_o)) (hU_o 28 _ rfl)) (fr_r (Fw_w h_o (fr_r h_o rfl (rr_27_2 hg_o)) (hU_o 28 _ rfl)) rfl (rr_27_2 hg_o)) (hU_o 28 _ rfl)) (fr_r (Fw_w (Fw_w h_o (fr_r h_o rfl (rr_27_2 hg_o)) (hU_o 28 _ rfl)) (fr_r (Fw_w h_o (fr_r h_o rfl (rr_27_2 hg_o)) (hU_o 28 _ rfl)) rfl (rr_27_2 hg_o)) (hU_o 28 _ rfl)) rfl (rr_27_2 hg_o)) (hU_o 28 _ rfl)) (fr_r (Fw_w (Fw_w (Fw_w h_o (fr_r h_o rfl (rr_27_2 hg_o)) (hU_o 28 _ rfl)) (fr_r (Fw_w h_o (fr_r h_o rfl (rr_27_2 hg_o)) (hU_o 28 _ rfl)) rfl (rr_27_2 hg_o)) (hU_o 28 _ rfl)) (fr_r (Fw_w (Fw_w h_o (fr_r h_o rfl (rr_27_2 hg_o)) (hU_o 28 _ rfl)) (fr_r (Fw_w h_o (fr_r h_o rfl (rr_27_2 hg_o)) (hU_o 28 _ rfl)) rfl (rr_27_2 hg_o)) (hU_o 28 _ rfl)) rfl (rr_27_2 hg_o)) (hU_o 28 _ rfl)) rfl (rr_27_2 hg_o)) (hU_o 28 _ rfl))) (fun s5 h212_o => ?_)
  refine gQ_v0 (A := Fw W g) (o_35 hg_o hU_o (fr_r h212_o rfl (rr_27_0 hg_o)) h212_o) (fun s7 h213_o => ?_)
  refine gQ_chk2 (fun ha214_o hb215_o => ?_)
  refine gQ_v0 (A := Fw W g) (o_36 hg_o hU_o (fr_r h213_o rfl (rr_27_0 hg_o)) h213_o) (fun s9 h216_o => ?_)
  refine gQ_v1 (A := Fw W g) (o_37 hg_o hU_o (fr_r h216_o rfl (rr_27_0 hg_o)) h216_o) (fun v12 s11 h217_o => ?_)
  refine gQ_v0 (A := Fw W g) (o_60 hg_o hU_o (fun k_o _ => (fun k_o => (congrArg (fun b_o => W b_o k_o) (fr_r h216_o rfl (rr_27_2 hg_o))).trans (hU_o 28 k_o rfl)) k_o) h217_o) (fun s13 h218_o => ?_)
  exact gQ_ret h218_o

theorem o_71s {W : Nat → Nat → Bool} {g s : gS} {r_70 : Nat → Int → Int → Int → gS → Option gO} {a0 : Nat} {a1 : Int} {a2 : Int} {a3 : Int} (hg_o : RF g) (hU_o : ∀ a k, csq a k = true → W a k = true) (ea0_o : a0 = 27) (hr_70 : ∀ {a1 a2 a3 : Int} {s : gS}, Fw W g s → gQ (r_70 27 a1 a2 a3 s) (fun r => Fw W g r.2.2.2)) (h_o : Fw W g s) : gQ (fo_71 r_70 a0 a1 a2 a3 s) (fun r => Fw W g r.2.2.2) := by
  subst ea0_o
  unfold fo_71
  refine gQ_v1 (A := Fw W g) (o_73 hg_o hU_o rfl h_o) (fun v2 s1_l h219_o => ?_)
  refine gQ_ite ?_ ?_
  · exact gQ_ret h219_o
  · refine gQ_v1 (A := Fw W g) (hr_70 h219_o) (fun v4_l s3_l h220_o => ?_)
    exact gQ_ret h220_o

theorem o_70s {W : Nat → Nat → Bool} {g s : gS} {r_70 : Nat → Int → Int → Int → gS → Option gO} {r_71 : Nat → Int → Int → Int → gS → Option gO} {a0 : Nat} {a1 : Int} {a2 : Int} {a3 : Int} (hg_o : RF g) (hU_o : ∀ a k, csq a k = true → W a k = true) (ea0_o : a0 = 27) (hr_70 : ∀ {a1 a2 a3 : Int} {s : gS}, Fw W g s → gQ (r_70 27 a1 a2 a3 s) (fun r => Fw W g r.2.2.2)) (hr_71 : ∀ {a1 a2 a3 : Int} {s : gS}, Fw W g s → gQ (r_71 27 a1 a2 a3 s) (fun r => Fw W g r.2.2.2)) (h_o : Fw W g s) : gQ (fo_70 r_70 r_71 a0 a1 a2 a3 s) (fun r => Fw W g r.2.2.2) := by
  subst ea0_o
  unfold fo_70
  dsimp only
  refine gQ_ite ?_ ?_
  · refine gQ_ite ?_ ?_
    · refine gQ_ite ?_ ?_
      · refine gQ_chk2 (fun ha221_o hb222_o => ?_)
        refine gQ_ite ?_ ?_
        · exact gQ_ret h_o
        · refine gQ_v1 (A := Fw W g) (hr_71 h_o) (fun v5 s4_l h223_o => ?_)
          refine gQ_ite ?_ ?_
          · refine gQ_ite ?_ ?_
            · refine gQ_v1 (A := Fw W g) (o_72 hg_o hU_o rfl h223_o) (fun v7 s6_l h224_o => ?_)
              refine gQ_v1 (A := Fw W g) (hr_70 h224_o) (fun v9 s8 h225_o => ?_)
              unfold fb_70_117
              dsimp only
              refine gQ_chk2 (fun ha226_o hb227_o => ?_)
              refine gQ_chk2 (fun ha228_o hb229_o => ?_)
              exact gQ_ret (Fw_w h225_o (fr_r h225_o rfl (rr_27_7 hg_o)) (hU_o 33 _ rfl))
            · unfold fb_70_117
              dsimp only
              refine gQ_chk2 (fun ha230_o hb231_o => ?_)
              refine gQ_chk2 (fun ha232_o hb233_o => ?_)
              exact gQ_ret (Fw_w h223_o (fr_r h223_o rfl (rr_27_7 hg_o)) (hU_o 33 _ rfl))
          · unfold fb_70_117
            dsimp only
            refine gQ_chk2 (fun ha234_o hb235_o => ?_)
            refine gQ_chk2 (fun ha236_o hb237_o => ?_)
            exact gQ_ret (Fw_w h223_o (fr_r h223_o rfl (rr_27_7 hg_o)) (hU_o 33 _ rfl))
      · exact gQ_ret h_o
    · exact gQ_ret h_o
  · exact gQ_ret h_o

theorem o_70n {W : Nat → Nat → Bool} {g : gS} (hg_o : RF g) (hU_o : ∀ a k, csq a k = true → W a k = true) (n : Nat) : (∀ {a1 a2 a3 : Int} {s : gS}, Fw W g s → gQ (fn_70 n 27 a1 a2 a3 s) (fun r => Fw W g r.2.2.2)) ∧ (∀ {a1 a2 a3 : Int} {s : gS}, Fw W g s → gQ (fn_71 n 27 a1 a2 a3 s) (fun r => Fw W g r.2.2.2)) := by
  induction n with
  | zero => exact ⟨fun _ => gQ_none, fun _ => gQ_none⟩
  | succ n ih_l =>
    exact ⟨fun {a1 a2 a3 s} hh_o => (o_70s hg_o hU_o rfl (fun h_l => ih_l.1 h_l) (fun h_l => ih_l.2 h_l) hh_o : gQ (fo_70 (rg_70 n).1 (rg_70 n).2 27 a1 a2 a3 s) _), fun {a1 a2 a3 s} hh_o => (o_71s hg_o hU_o rfl (fun h_l => ih_l.1 h_l) hh_o : gQ (fo_71 (rg_70 n).1 27 a1 a2 a3 s) _)⟩
theorem o_70 {W : Nat → Nat → Bool} {g s : gS} {a0 : Nat} {a1 a2 a3 : Int} (hg_o : RF g) (hU_o : ∀ a k, csq a k = true → W a k = true) (ea0_o : a0 = 27) (h_o : Fw W g s) : gQ (f_70 a0 a1 a2 a3 s) (fun r => Fw W g r.2.2.2) := by
  subst ea0_o
  exact (o_70n hg_o hU_o 80).1 h_o
theorem o_71 {W : Nat → Nat → Bool} {g s : gS} {a0 : Nat} {a1 a2 a3 : Int} (hg_o : RF g) (hU_o : ∀ a k, csq a k = true → W a k = true) (ea0_o : a0 = 27) (h_o : Fw W g s) : gQ (f_71 a0 a1 a2 a3 s) (fun r => Fw W g r.2.2.2) := by
  subst ea0_o
  exact (o_70n hg_o hU_o 80).2 h_o

theorem o_69 {W : Nat → Nat → Bool} {g s : gS} {a0 : Nat} {a1 : Int} {a2 : Int} (hg_o : RF g) (hU_o : ∀ a k, csq a k = true → W a k = true) (ea0_o : a0 = 27) (h_o : Fw W g s) : gQ (f_69 a0 a1 a2 s) (fun r => Fw W g r.2.2.2) := by
  subst ea0_o
  unfold f_69
  refine gQ_v1 (A := Fw W g) (o_70 hg_o hU_o rfl h_o) (fun v2 s1_l h238_o => ?_)
  exact gQ_ret h238_o

theorem o_74 {W : Nat → Nat → Bool} {g s : gS} {a0 : Nat} {a1 : Int} {a2 : Int} {a3 : Int} (hg_o : RF g) (hU_o : ∀ a k, csq a k = true → W a k = true) (ea0_o : a0 = 27) (h_o : Fw W g s) : gQ (f_74 a0 a1 a2 a3 s) (fun r => Fw W g r.2.2.2) := by
  subst ea0_o
  unfold f_74
  refine gQ_loop (fun y_l => y_l.1 = 27 ∧ Fw W g (y_l.2.2.2.2.2)) (fun y_l hy_o => ?_) ⟨rfl, h_o⟩
  obtain ⟨x239_o, x240_o, x241_o, x242_o, x243_o, x244_o⟩ := y_l
  obtain ⟨e246_o, h245_o⟩ := hy_o
  dsimp only at e246_o h245_o
  subst e246_o
  show gQ (sb_74_9 27 x240_o x241_o x242_o x243_o x244_o) _
  unfold sb_74_9
  refine gQ_ite ?_ ?_
  · refine gQ_map ?_
    exact gQ_ret h245_o
  · refine gQ_loop (fun y_l => y_l.1 = 27 ∧ Fw W g (y_l.2.2.2.2.2.2)) (fun y_l hy_o => ?_) ⟨rfl, h245_o⟩
    obtain ⟨x247_o, x248_o, x249_o, x250_o, x251_o, x252_o, x253_o⟩ := y_l
    obtain ⟨e255_o, h254_o⟩ := hy_o
    dsimp only at e255_o h254_o
    subst e255_o
    show gQ (sb_74_18 27 x248_o x249_o x250_o x251_o x252_o x253_o) _
    unfold sb_74_18
    refine gQ_ite ?_ ?_
    · refine gQ_v1 (A := Fw W g) (o_71 hg_o hU_o rfl h254_o) (fun v2 s1_l h256_o => ?_)
      refine gQ_v1 (A := Fw W g) (o_70 hg_o hU_o rfl h256_o) (fun v4_l s3_l h257_o => ?_)
      refine gQ_ite ?_ ?_
      · refine gQ_v1 (A := Fw W g) (o_72 hg_o hU_o rfl h257_o) (fun v6 s5 h258_o => ?_)
        exact gQ_ret ⟨rfl, h258_o⟩
      · refine gQ_map ?_
        unfold fb_74_63
        refine gQ_ite ?_ ?_
        · refine gQ_map ?_
          exact gQ_ret h257_o
        · refine gQ_v1 (A := Fw W g) (o_73 hg_o hU_o rfl h257_o) (fun v8 s7 h259_o => ?_)
          refine gQ_ite ?_ ?_
          · refine gQ_map ?_
            exact gQ_ret h259_o
          · exact gQ_ret ⟨rfl, h259_o⟩
    · refine gQ_map ?_
      unfold fb_74_63
      refine gQ_ite ?_ ?_
      · refine gQ_map ?_
        exact gQ_ret h254_o
      · refine gQ_v1 (A := Fw W g) (o_73 hg_o hU_o rfl h254_o) (fun v8 s7 h260_o => ?_)
        refine gQ_ite ?_ ?_
        · refine gQ_map ?_
          exact gQ_ret h260_o
        · exact gQ_ret ⟨rfl, h260_o⟩

theorem o_272 {W : Nat → Nat → Bool} {g s : gS} {a0 : Nat} {a1 : Int} (hg_o : RF g) (hU_o : ∀ a k, csq a k = true → W a k = true) (ea0_o : a0 = 33) (h_o : Fw W g s) : gQ (f_272 a0 a1 s) (fun r => Fw W g r.2.2.2) := by
  subst ea0_o
  unfold f_272
  refine gQ_loop (fun y_l => y_l.1 = 33 ∧ Fw W g (y_l.2.2.2.2)) (fun y_l hy_o => ?_) ⟨rfl, h_o⟩
  obtain ⟨x261_o, x262_o, x263_o, x264_o, x265_o⟩ := y_l
  obtain ⟨e267_o, h266_o⟩ := hy_o
  dsimp only at e267_o h266_o
  subst e267_o
  show gQ (sb_272_6 33 x262_o x263_o x264_o x265_o) _
  unfold sb_272_6
  dsimp only
  refine gQ_ite ?_ ?_
  · refine gQ_chk2 (fun ha268_o hb269_o => ?_)
    exact gQ_ret ⟨rfl, (Fw_w h266_o rfl (hU_o 33 _ rfl))⟩
  · refine gQ_map ?_
    exact gQ_ret h266_o

theorem o_68 {W : Nat → Nat → Bool} {g s : gS} {a0 : Nat} {a1 : Int} {a2 : Nat} {a3 : Int} (hg_o : RF g) (hU_o : ∀ a k, csq a k = true → W a k = true) (ea0_o : a0 = 27) (ea2_o : a2 = 42) (h_o : Fw W g s) : gQ (f_68 a0 a1 a2 a3 s) (fun r => Fw W g r.2.2.2) := by
  subst ea0_o ea2_o
  unfold f_68
  dsimp only
  refine gQ_v0 (A := Fw W g) (o_272 hg_o hU_o (fr_r (Fw_w (Fw_w (Fw_w h_o rfl (hU_o 27 _ rfl)) rfl (hU_o 27 _ rfl)) rfl (hU_o 27 _ rfl)) rfl (rr_27_7 hg_o)) (Fw_w (Fw_w (Fw_w h_o rfl (hU_o 27 _ rfl)) rfl (hU_o 27 _ rfl)) rfl (hU_o 27 _ rfl))) (fun s4_l h270_o => ?_)
  refine gQ_chk2 (fun ha271_o hb272_o => ?_)
  refine gQ_v0 (A := Fw W g) (o_59 hg_o hU_o (fun k_o => (congrArg (fun b_o => W b_o k_o) (fr_r h270_o rfl (rr_27_2 hg_o))).trans (hU_o 28 k_o rfl)) h270_o) (fun s6_l h273_o => ?_)
  refine gQ_loop (fun y_l => y_l.1 = 27 ∧ y_l.2.1 = 42 ∧ Fw W g (y_l.2.2.2)) (fun y_l hy_o => ?_) ⟨rfl, rfl, h273_o⟩
  obtain ⟨x274_o, x275_o, x276_o, x277_o⟩ := y_l
  obtain ⟨e279_o, e280_o, h278_o⟩ := hy_o
  dsimp only at e279_o e280_o h278_o
  subst e279_o e280_o
  show gQ (sb_68_47 27 42 x276_o x277_o) _
  unfold sb_68_47
  dsimp only
  refine gQ_ite ?_ ?_
  · refine gQ_chk2 (fun ha281_o hb282_o => ?_)
    refine gQ_v1 (A := Fw W g) (o_27 hg_o hU_o rfl (fr_r (Fw_w h278_o (fr_r h278_o rfl (rr_27_3 hg_o)) (hU_o 29 _ rfl)) rfl (rr_27_1 hg_o)) (fr_r (Fw_w h278_o (fr_r h278_o rfl (rr_27_3 hg_o)) (hU_o 29 _ rfl)) rfl (rr_27_0 hg_o)) (Fw_w h278_o (fr_r h278_o rfl (rr_27_3 hg_o)) (hU_o 29 _ rfl))) (fun v10 s9 h283_o => ?_)
    refine gQ_v1 (A := Fw W g) (o_61 hg_o hU_o (fun k_o _ => (fun k_o => (congrArg (fun b_o => W b_o k_o) (fr_r h283_o rfl (rr_27_2 hg_o))).trans (hU_o 28 k_o rfl)) k_o) h283_o) (fun v12 s11 h284_o => ?_)
    refine gQ_chk2 (fun ha285_o hb286_o => ?_)
    refine gQ_chk2 (fun ha287_o hb288_o => ?_)
    refine gQ_chk2 (fun ha289_o hb290_o => ?_)
    exact gQ_ret ⟨rfl, rfl, (Fw_w (Fw_w (Fw_w h284_o (fr_r h283_o rfl (rr_27_6 hg_o)) (hU_o 32 _ rfl)) (fr_r (Fw_w h284_o (fr_r h283_o rfl (rr_27_6 hg_o)) (hU_o 32 _ rfl)) rfl (rr_27_4 hg_o)) (hU_o 30 _ rfl)) (fr_r (Fw_w (Fw_w h284_o (fr_r h283_o rfl (rr_27_6 hg_o)) (hU_o 32 _ rfl)) (fr_r (Fw_w h284_o (fr_r h283_o rfl (rr_27_6 hg_o)) (hU_o 32 _ rfl)) rfl (rr_27_4 hg_o)) (hU_o 30 _ rfl)) rfl (rr_27_5 hg_o)) (hU_o 31 _ rfl))⟩
  · refine gQ_map ?_
    exact gQ_ret h278_o

theorem o_273 {W : Nat → Nat → Bool} {g s : gS} {a0 : Nat} {a1 : Int} (hg_o : RF g) (hU_o : ∀ a k, csq a k = true → W a k = true) (ea0_o : a0 = 35) (h_o : Fw W g s) : gQ (f_273 a0 a1 s) (fun r => Fw W g r.2.2.2) := by
  subst ea0_o
  unfold f_273
  refine gQ_loop (fun y_l => y_l.1 = 35 ∧ Fw W g (y_l.2.2.2.2)) (fun y_l hy_o => ?_) ⟨rfl, h_o⟩
  obtain ⟨x291_o, x292_o, x293_o, x294_o, x295_o⟩ := y_l
  obtain ⟨e297_o, h296_o⟩ := hy_o
  dsimp only at e297_o h296_o
  subst e297_o
  show gQ (sb_273_5 35 x292_o x293_o x294_o x295_o) _
  unfold sb_273_5
  dsimp only
  refine gQ_ite ?_ ?_
  · refine gQ_chk2 (fun ha298_o hb299_o => ?_)
    exact gQ_ret ⟨rfl, (Fw_w h296_o rfl (hU_o 35 _ rfl))⟩
  · refine gQ_map ?_
    exact gQ_ret h296_o

theorem o_64 {W : Nat → Nat → Bool} {g s : gS} {a0 : Nat} {a1 : Int} {a2 : Int} {a3 : Int} (hg_o : RF g) (hU_o : ∀ a k, csq a k = true → W a k = true) (ea0_o : a0 = 34) (h_o : Fw W g s) : gQ (f_64 a0 a1 a2 a3 s) (fun r => Fw W g r.2.2.2) := by
  subst ea0_o
  unfold f_64
  dsimp only
  refine gQ_ite ?_ ?_
  · refine gQ_chk2 (fun ha300_o hb301_o => ?_)
    exact gQ_ret h_o
  · refine gQ_chk2 (fun ha302_o hb303_o => ?_)
    refine gQ_ite ?_ ?_
    · refine gQ_ite ?_ ?_
      · refine gQ_chk2 (fun ha304_o hb305_o => ?_)
        refine gQ_chk2 (fun ha306_o hb307_o => ?_)
        exact gQ_ret h_o
      · exact gQ_ret h_o
    · exact gQ_ret h_o

theorem o_65 {W : Nat → Nat → Bool} {g s : gS} {a0 : Nat} (hg_o : RF g) (hU_o : ∀ a k, csq a k = true → W a k = true) (ea0_o : a0 = 34) (h_o : Fw W g s) : gQ (f_65 a0 s) (fun r => Fw W g r.2.2.2) := by
  subst ea0_o
  unfold f_65
  exact gQ_ret h_o

theorem o_66 {W : Nat → Nat → Bool} {g s : gS} {a0 : Nat} {a1 : Int} (hg_o : RF g) (hU_o : ∀ a k, csq a k = true → W a k = true) (ea0_o : a0 = 34) (h_o : Fw W g s) : gQ (f_66 a0 a1 s) (fun r => Fw W g r.2.2.2) := by
  subst ea0_o
  unfold f_66
  refine gQ_loop (fun y_l => y_l.1 = 34 ∧ Fw W g (y_l.2.2.2.2.2)) (fun y_l hy_o => ?_) ⟨rfl, h_o⟩
  obtain ⟨x308_o, x309_o, x310_o, x311_o, x312_o, x313_o⟩ := y_l
  obtain ⟨e315_o, h314_o⟩ := hy_o
  dsimp only at e315_o h314_o
  subst e315_o
  show gQ (sb_66_7 34 x309_o x310_o x311_o x312_o x313_o) _
  unfold sb_66_7
  refine gQ_ite ?_ ?_
  · refine gQ_map ?_
    exact gQ_ret h314_o
  · refine gQ_loop (fun y_l => y_l.1 = 34 ∧ Fw W g (y_l.2.2.2.2.2)) (fun y_l hy_o => ?_) ⟨rfl, h314_o⟩
    obtain ⟨x316_o, x317_o, x318_o, x319_o, x320_o, x321_o⟩ := y_l
    obtain ⟨e323_o, h322_o⟩ := hy_o
    dsimp only at e323_o h322_o
    subst e323_o
    show gQ (sb_66_15 34 x317_o x318_o x319_o x320_o x321_o) _
    unfold sb_66_15
    refine gQ_ite ?_ ?_
    · refine gQ_v1 (A := Fw W g) (o_64 hg_o hU_o rfl h322_o) (fun v2 s1_l h324_o => ?_)
      refine gQ_chk2 (fun ha325_o hb326_o => ?_)
      refine gQ_ite ?_ ?_
      · exact gQ_ret ⟨rfl, h324_o⟩
      · refine gQ_map ?_
        unfold fb_66_57
        dsimp only
        refine gQ_ite ?_ ?_
        · exact gQ_ret ⟨rfl, h324_o⟩
        · exact gQ_ret ⟨rfl, h324_o⟩
    · refine gQ_map ?_
      unfold fb_66_57
      dsimp only
      refine gQ_ite ?_ ?_
      · exact gQ_ret ⟨rfl, h322_o⟩
      · exact gQ_ret ⟨rfl, h322_o⟩

theorem o_63 {W : Nat → Nat → Bool} {g s : gS} {a0 : Nat} (hg_o : RF g) (hU_o : ∀ a k, csq a k = true → W a k = true) (ea0_o : a0 = 34) (h_o : Fw W g s) : gQ (f_63 a0 s) (fun r => Fw W g r.2.2.2) := by
  subst ea0_o
  unfold f_63
  dsimp only
  refine gQ_v0 (A := Fw W g) (o_273 hg_o hU_o (fr_r h_o rfl (rr_34_1 hg_o)) h_o) (fun s1_l h327_o => ?_)
  refine gQ_loop (fun y_l => y_l.1 = 34 ∧ Fw W g (y_l.2.2)) (fun y_l hy_o => ?_) ⟨rfl, h327_o⟩
  obtain ⟨x328_o, x329_o, x330_o⟩ := y_l
  obtain ⟨e332_o, h331_o⟩ := hy_o
  dsimp only at e332_o h331_o
  subst e332_o
  show gQ (sb_63_18 34 x329_o x330_o) _
  unfold sb_63_18
  refine gQ_ite ?_ ?_
  · refine gQ_map ?_
    exact gQ_ret h331_o
  · refine gQ_loop (fun y_l => y_l.1 = 34 ∧ Fw W g (y_l.2.2.2)) (fun y_l hy_o => ?_) ⟨rfl, h331_o⟩
    obtain ⟨x333_o, x334_o, x335_o, x336_o⟩ := y_l
    obtain ⟨e338_o, h337_o⟩ := hy_o
    dsimp only at e338_o h337_o
    subst e338_o
    show gQ (sb_63_24 34 x334_o x335_o x336_o) _
    unfold sb_63_24
    refine gQ_ite ?_ ?_
    · refine gQ_v1 (A := Fw W g) (o_64 hg_o hU_o rfl h337_o) (fun v5 s4_l h339_o => ?_)
      refine gQ_loop (fun y_l => y_l.1 = 34 ∧ Fw W g (y_l.2.2.2.2.2)) (fun y_l hy_o => ?_) ⟨rfl, h339_o⟩
      obtain ⟨x340_o, x341_o, x342_o, x343_o, x344_o, x345_o⟩ := y_l
      obtain ⟨e347_o, h346_o⟩ := hy_o
      dsimp only at e347_o h346_o
      subst e347_o
      show gQ (sb_63_48 34 x341_o x342_o x343_o x344_o x345_o) _
      unfold sb_63_48
      dsimp only
      refine gQ_ite ?_ ?_
      · refine gQ_v1 (A := Fw W g) (o_64 hg_o hU_o rfl h346_o) (fun v7 s6_l h348_o => ?_)
        exact gQ_ret ⟨rfl, h348_o⟩
      · refine gQ_map ?_
        refine gQ_chk2 (fun ha349_o hb350_o => ?_)
        exact gQ_ret ⟨rfl, (Fw_w h346_o (fr_r h346_o rfl (rr_34_1 hg_o)) (hU_o 35 _ rfl))⟩
    · refine gQ_map ?_
      exact gQ_ret ⟨rfl, h337_o⟩

theorem o_264 {W : Nat → Nat → Bool} {g s : gS} {a0 : Int} (hg_o : RF g) (hU_o : ∀ a k, csq a k = true → W a k = true)  (h_o : Fw W g s) : gQ (f_264 a0 s) (fun r => Fw W g r.2.2.2) := by
  unfold f_264
  dsimp only
  exact gQ_ret h_o

theorem o_265 {W : Nat → Nat → Bool} {g s : gS} {a0 : Int} (hg_o : RF g) (hU_o : ∀ a k, csq a k = true → W a k = true)  (h_o : Fw W g s) : gQ (f_265 a0 s) (fun r => Fw W g r.2.2.2) := by
  unfold f_265
  dsimp only
  exact gQ_ret h_o

theorem o_134 {W : Nat → Nat → Bool} {g s : gS} {a0 : Nat} {a1 : Int} (hg_o : RF g) (hU_o : ∀ a k, csq a k = true → W a k = true) (ea0_o : a0 = 0) (h_o : Fw W g s) : gQ (f_134 a0 a1 s) (fun r => Fw W g r.2.2.2) := by
  subst ea0_o
  unfold f_134
  refine gQ_ite ?_ ?_
  · unfold fb_134_15
    exact gQ_ret (Fw_n h_o)
  · refine gQ_ite ?_ ?_
    · exact gQ_ret h_o
    · unfold fb_134_15
      exact gQ_ret (Fw_n h_o)

theorem o_135 {W : Nat → Nat → Bool} {g s : gS} {a0 : Nat} {a1 : Int} (hg_o : RF g) (hU_o : ∀ a k, csq a k = true → W a k = true) (ea0_o : a0 = 0) (h_o : Fw W g s) : gQ (f_135 a0 a1 s) (fun r => Fw W g r.2.2.2) := by
  subst ea0_o
  unfold f_135
  refine gQ_ite ?_ ?_
  · unfold fb_135_15
    exact gQ_ret (Fw_n h_o)
  · refine gQ_ite ?_ ?_
    · exact gQ_ret h_o
    · unfold fb_135_15
      exact gQ_ret (Fw_n h_o)

theorem o_136 {W : Nat → Nat → Bool} {g s : gS} {a0 : Nat} {a1 : Int} (hg_o : RF g) (hU_o : ∀ a k, csq a k = true → W a k = true) (ea0_o : a0 = 0) (h_o : Fw W g s) : gQ (f_136 a0 a1 s) (fun r => Fw W g r.2.2.2) := by
  subst ea0_o
  unfold f_136
  refine gQ_ite ?_ ?_
  · unfold fb_136_15
    exact gQ_ret (Fw_n h_o)
  · refine gQ_ite ?_ ?_
    · exact gQ_ret h_o
    · unfold fb_136_15
      exact gQ_ret (Fw_n h_o)

theorem o_137 {W : Nat → Nat → Bool} {g s : gS} {a0 : Nat} {a1 : Int} (hg_o : RF g) (hU_o : ∀ a k, csq a k = true → W a k = true) (ea0_o : a0 = 0) (h_o : Fw W g s) : gQ (f_137 a0 a1 s) (fun r => Fw W g r.2.2.2) := by
  subst ea0_o
  unfold f_137
  refine gQ_ite ?_ ?_
  · unfold fb_137_15
    exact gQ_ret (Fw_n h_o)
  · refine gQ_ite ?_ ?_
    · exact gQ_ret h_o
    · unfold fb_137_15
      exact gQ_ret (Fw_n h_o)

theorem o_138 {W : Nat → Nat → Bool} {g s : gS} {a0 : Nat} {a1 : Int} {a2 : Int} {a3 : Int} (hg_o : RF g) (hU_o : ∀ a k, csq a k = true → W a k = true) (ea0_o : a0 = 0) (h_o : Fw W g s) : gQ (f_138 a0 a1 a2 a3 s) (fun r => Fw W g r.2.2.2) := by
  subst ea0_o
  unfold f_138
  refine gQ_ite ?_ ?_
  · unfold fb_138_10
    exact gQ_ret (Fw_n h_o)
  · refine gQ_ite ?_ ?_
    · unfold fb_138_10
      exact gQ_ret (Fw_n h_o)
    · exact gQ_ret h_o

theorem o_139 {W : Nat → Nat → Bool} {g s : gS} {a0 : Nat} {a1 : Int} (hg_o : RF g) (hU_o : ∀ a k, csq a k = true → W a k = true) (ea0_o : a0 = 0) (h_o : Fw W g s) : gQ (f_139 a0 a1 s) (fun r => Fw W g r.2.2.2) := by
  subst ea0_o
  unfold f_139
  refine gQ_chk2 (fun ha351_o hb352_o => ?_)
  refine gQ_ite ?_ ?_
  · exact gQ_ret h_o
  · exact gQ_ret (Fw_n h_o)

theorem o_141 {W : Nat → Nat → Bool} {g s : gS} {a0 : Nat} {a1 : Int} {a2 : Int} {a3 : Int} (hg_o : RF g) (hU_o : ∀ a k, csq a k = true → W a k = true) (ea0_o : a0 = 0) (h_o : Fw W g s) : gQ (f_141 a0 a1 a2 a3 s) (fun r => Fw W g r.2.2.2) := by
  subst ea0_o
  unfold f_141
  dsimp only
  refine gQ_v0 (A := Fw W g) (o_23 hg_o hU_o (fr_r h_o rfl (rr_0_9 hg_o)) (fr_r h_o rfl (rr_0_5 hg_o)) h_o) (fun s1_l h353_o => ?_)
  refine gQ_loop (fun y_l => y_l.1 = 0 ∧ Fw W g (y_l.2.2.2.2)) (fun y_l hy_o => ?_) ⟨rfl, (Fw_w h353_o (fr_r h353_o rfl (rr_0_9 hg_o)) (hU_o 42 _ rfl))⟩
  obtain ⟨x354_o, x355_o, x356_o, x357_o, x358_o⟩ := y_l
  obtain ⟨e360_o, h359_o⟩ := hy_o
  dsimp only at e360_o h359_o
  subst e360_o
  show gQ (sb_141_22 0 x355_o x356_o x357_o x358_o) _
  unfold sb_141_22
  refine gQ_ite ?_ ?_
  · refine gQ_v1 (A := Fw W g) (o_27 hg_o hU_o (fr_r h359_o rfl (rr_0_9 hg_o)) (fr_r h359_o rfl (rr_0_4 hg_o)) (fr_r h359_o rfl (rr_0_1 hg_o)) h359_o) (fun v5 s4_l h361_o => ?_)
    exact gQ_ret ⟨rfl, h361_o⟩
  · refine gQ_map ?_
    exact gQ_ret h359_o

theorem o_144 {W : Nat → Nat → Bool} {g s : gS} {a0 : Nat} {a1 : Int} {a2 : Int} (hg_o : RF g) (hU_o : ∀ a k, csq a k = true → W a k = true) (ea0_o : a0 = 0) (h_o : Fw W g s) : gQ (f_144 a0 a1 a2 s) (fun r => Fw W g r.2.2.2) := by
  subst ea0_o
  unfold f_144
  refine gQ_loop (fun y_l => y_l.1 = 0 ∧ Fw W g (y_l.2.2.2.2)) (fun y_l hy_o => ?_) ⟨rfl, h_o⟩
  obtain ⟨x362_o, x363_o, x364_o, x365_o, x366_o⟩ := y_l
  obtain ⟨e368_o, h367_o⟩ := hy_o
  dsimp only at e368_o h367_o
  subst e368_o
  show gQ (sb_144_2 0 x363_o x364_o x365_o x366_o) _
  unfold sb_144_2
  refine gQ_ite ?_ ?_
  · refine gQ_chk2 (fun ha369_o hb370_o => ?_)
    refine gQ_v1 (A := Fw W g) (o_4 hg_o hU_o  h367_o) (fun v2 s1_l h371_o => ?_)
    refine gQ_chk2 (fun ha372_o hb373_o => ?_)
    refine gQ_ite ?_ ?_
    · unfold fb_144_46
      refine gQ_ite ?_ ?_
      · exact gQ_ret ⟨rfl, h371_o⟩
      · refine gQ_map ?_
        exact gQ_ret h371_o
    · unfold fb_144_46
      refine gQ_ite ?_ ?_
      · exact gQ_ret ⟨rfl, h371_o⟩
      · refine gQ_map ?_
        exact gQ_ret h371_o
  · refine gQ_map ?_
    exact gQ_ret h367_o

theorem o_145 {W : Nat → Nat → Bool} {g s : gS} {a0 : Nat} {a1 : Int} {a3 : Int} (hg_o : RF g) (hU_o : ∀ a k, csq a k = true → W a k = true) (ea0_o : a0 = 0) (h_o : Fw W g s) : gQ (f_145 a0 a1 a3 s) (fun r => Fw W g r.2.2.2) := by
  subst ea0_o
  unfold f_145
  refine gQ_loop (fun y_l => y_l.1 = 0 ∧ Fw W g (y_l.2.2.2.2.2)) (fun y_l hy_o => ?_) ⟨rfl, h_o⟩
  obtain ⟨x374_o, x375_o, x376_o, x377_o, x378_o, x379_o⟩ := y_l
  obtain ⟨e381_o, h380_o⟩ := hy_o
  dsimp only at e381_o h380_o
  subst e381_o
  show gQ (sb_145_6 0 x375_o x376_o x377_o x378_o x379_o) _
  unfold sb_145_6
  refine gQ_ite ?_ ?_
  · refine gQ_ite ?_ ?_
    · exact gQ_ret ⟨rfl, h380_o⟩
    · refine gQ_v1 (A := Fw W g) (o_4 hg_o hU_o  h380_o) (fun v2 s1_l h382_o => ?_)
      refine gQ_ite ?_ ?_
      · exact gQ_ret ⟨rfl, h382_o⟩
      · exact gQ_ret ⟨rfl, h382_o⟩
  · refine gQ_map ?_
    exact gQ_ret h380_o

theorem o_146 {W : Nat → Nat → Bool} {g s : gS} {a0 : Nat} {a1 : Int} {a2 : Int} {a3 : Int} {a4 : Int} (hg_o : RF g) (hU_o : ∀ a k, csq a k = true → W a k = true) (ea0_o : a0 = 0) (h_o : Fw W g s) : gQ (f_146 a0 a1 a2 a3 a4 s) (fun r => Fw W g r.2.2.2) := by
  subst ea0_o
  unfold f_146
  refine gQ_ite ?_ ?_
  · refine gQ_chk2 (fun ha383_o hb384_o => ?_)
    unfold fb_146_17
    refine gQ_ite ?_ ?_
    · refine gQ_ite ?_ ?_
      · unfold fb_146_38
        refine gQ_ite ?_ ?_
        · exact gQ_ret h_o
        · exact gQ_ret h_o
      · refine gQ_ite ?_ ?_
        · unfold fb_146_38
          refine gQ_ite ?_ ?_
          · exact gQ_ret h_o
          · exact gQ_ret h_o
        · unfold fb_146_37
          unfold fb_146_38
          refine gQ_ite ?_ ?_
          · exact gQ_ret h_o
          · exact gQ_ret h_o
    · unfold fb_146_37
      unfold fb_146_38
      refine gQ_ite ?_ ?_
      · exact gQ_ret h_o
      · exact gQ_ret h_o
  · unfold fb_146_17
    refine gQ_ite ?_ ?_
    · refine gQ_ite ?_ ?_
      · unfold fb_146_38
        refine gQ_ite ?_ ?_
        · exact gQ_ret h_o
        · exact gQ_ret h_o
      · refine gQ_ite ?_ ?_
        · unfold fb_146_38
          refine gQ_ite ?_ ?_
          · exact gQ_ret h_o
          · exact gQ_ret h_o
        · unfold fb_146_37
          unfold fb_146_38
          refine gQ_ite ?_ ?_
          · exact gQ_ret h_o
          · exact gQ_ret h_o
    · unfold fb_146_37
      unfold fb_146_38
      refine gQ_ite ?_ ?_
      · exact gQ_ret h_o
      · exact gQ_ret h_o

theorem o_148 {W : Nat → Nat → Bool} {g s : gS} {a0 : Nat} {a1 : Int} {a2 : Int} (hg_o : RF g) (hU_o : ∀ a k, csq a k = true → W a k = true) (ea0_o : a0 = 0) (h_o : Fw W g s) : gQ (f_148 a0 a1 a2 s) (fun r => Fw W g r.2.2.2) := by
  subst ea0_o
  unfold f_148
  refine gQ_loop (fun y_l => y_l.1 = 0 ∧ Fw W g (y_l.2.2.2.2.2)) (fun y_l hy_o => ?_) ⟨rfl, h_o⟩
  obtain ⟨x385_o, x386_o, x387_o, x388_o, x389_o, x390_o⟩ := y_l
  obtain ⟨e392_o, h391_o⟩ := hy_o
  dsimp only at e392_o h391_o
  subst e392_o
  show gQ (sb_148_5 0 x386_o x387_o x388_o x389_o x390_o) _
  unfold sb_148_5
  dsimp only
  refine gQ_ite ?_ ?_
  · refine gQ_ite ?_ ?_
    · exact gQ_none
    · exact gQ_ret ⟨rfl, h391_o⟩
  · refine gQ_map ?_
    refine gQ_loop (fun y_l => y_l.1 = 0 ∧ Fw W g (y_l.2.2.2.2.2)) (fun y_l hy_o => ?_) ⟨rfl, h391_o⟩
    obtain ⟨x393_o, x394_o, x395_o, x396_o, x397_o, x398_o⟩ := y_l
    obtain ⟨e400_o, h399_o⟩ := hy_o
    dsimp only at e400_o h399_o
    subst e400_o
    show gQ (sb_148_34 0 x394_o x395_o x396_o x397_o x398_o) _
    unfold sb_148_34
    dsimp only
    refine gQ_ite ?_ ?_
    · refine gQ_ite ?_ ?_
      · exact gQ_ret ⟨rfl, h399_o⟩
      · exact gQ_ret ⟨rfl, h399_o⟩
    · refine gQ_map ?_
      exact gQ_ret h399_o

theorem o_143 {W : Nat → Nat → Bool} {g s : gS} {a0 : Nat} {a1 : Int} (hg_o : RF g) (hU_o : ∀ a k, csq a k = true → W a k = true) (ea0_o : a0 = 0) (h_o : Fw W g s) : gQ (f_143 a0 a1 s) (fun r => Fw W g r.2.2.2) := by
  subst ea0_o
  unfold f_143
  refine gQ_ite ?_ ?_
  · exact gQ_ret h_o
  · refine gQ_ite ?_ ?_
    · refine gQ_loop (fun y_l => y_l.1 = 0 ∧ Fw W g (y_l.2.2.2)) (fun y_l hy_o => ?_) ⟨rfl, h_o⟩
      obtain ⟨x401_o, x402_o, x403_o, x404_o⟩ := y_l
      obtain ⟨e406_o, h405_o⟩ := hy_o
      dsimp only at e406_o h405_o
      subst e406_o
      show gQ (sb_143_16 0 x402_o x403_o x404_o) _
      unfold sb_143_16
      refine gQ_ite ?_ ?_
      · refine gQ_chk2 (fun ha407_o hb408_o => ?_)
        refine gQ_ite ?_ ?_
        · refine gQ_chk2 (fun ha409_o hb410_o => ?_)
          refine gQ_ite ?_ ?_
          · refine gQ_map ?_
            exact gQ_ret h405_o
          · exact gQ_ret ⟨rfl, h405_o⟩
        · refine gQ_map ?_
          exact gQ_ret h405_o
      · refine gQ_map ?_
        exact gQ_ret h405_o
    · exact gQ_ret h_o

theorem o_147 {W : Nat → Nat → Bool} {g s : gS} {a0 : Int} {a1 : Int} {a2 : Int} {a3 : Int} (hg_o : RF g) (hU_o : ∀ a k, csq a k = true → W a k = true)  (h_o : Fw W g s) : gQ (f_147 a0 a1 a2 a3 s) (fun r => Fw W g r.2.2.2) := by
  unfold f_147
  refine gQ_ite ?_ ?_
  · exact gQ_ret h_o
  · refine gQ_ite ?_ ?_
    · refine gQ_ite ?_ ?_
      · unfold fb_147_21
        exact gQ_ret h_o
      · exact gQ_ret h_o
    · unfold fb_147_21
      exact gQ_ret h_o

theorem o_142 {W : Nat → Nat → Bool} {g s : gS} {a0 : Nat} (hg_o : RF g) (hU_o : ∀ a k, csq a k = true → W a k = true) (ea0_o : a0 = 0) (h_o : Fw W g s) : gQ (f_142 a0 s) (fun r => Fw W g r.2.2.2) := by
  subst ea0_o
  unfold f_142
  dsimp only
  refine gQ_v1 (A := Fw W g) (o_143 hg_o hU_o rfl (Fw_w h_o (fr_r h_o rfl (rr_0_0 hg_o)) (hU_o 1 _ rfl))) (fun v4_l s3_l h411_o => ?_)
  refine gQ_ite ?_ ?_
  · exact gQ_ret (Fw_n h411_o)
  · refine gQ_loop (fun y_l => y_l.1 = 0 ∧ Fw W g (y_l.2.2.2.2)) (fun y_l hy_o => ?_) ⟨rfl, h411_o⟩
    obtain ⟨x412_o, x413_o, x414_o, x415_o, x416_o⟩ := y_l
    obtain ⟨e418_o, h417_o⟩ := hy_o
    dsimp only at e418_o h417_o
    subst e418_o
    show gQ (sb_142_40 0 x413_o x414_o x415_o x416_o) _
    unfold sb_142_40
    dsimp only
    refine gQ_ite ?_ ?_
    · refine gQ_v1 (A := Fw W g) (o_144 hg_o hU_o rfl h417_o) (fun v7 s6_l h419_o => ?_)
      refine gQ_ite ?_ ?_
      · exact gQ_ret ⟨rfl, h419_o⟩
      · exact gQ_ret ⟨rfl, h419_o⟩
    · refine gQ_map ?_
      exact gQ_ret h417_o

theorem o_56 {W : Nat → Nat → Bool} {g s : gS} {a0 : Nat} {a1 : Int} {a2 : Int} (hg_o : RF g) (hU_o : ∀ a k, csq a k = true → W a k = true)  (h_o : Fw W g s) : gQ (f_56 a0 a1 a2 s) (fun r => Fw W g r.2.2.2) := by
  unfold f_56
  refine gQ_ite ?_ ?_
  · exact gQ_ret h_o
  · refine gQ_ite ?_ ?_
    · refine gQ_ite ?_ ?_
      · exact gQ_ret h_o
      · refine gQ_ite ?_ ?_
        · refine gQ_chk2 (fun ha420_o hb421_o => ?_)
          exact gQ_ret h_o
        · exact gQ_ret h_o
    · exact gQ_ret h_o

theorem o_57 {W : Nat → Nat → Bool} {g s : gS} {a0 : Nat} {a1 : Int} {a2 : Int} (hg_o : RF g) (hU_o : ∀ a k, csq a k = true → W a k = true)  (h_o : Fw W g s) : gQ (f_57 a0 a1 a2 s) (fun r => Fw W g r.2.2.2) := by
  unfold f_57
  refine gQ_loop (fun y_l => Fw W g (y_l.2.2.2.2.2)) (fun y_l hy_o => ?_) h_o
  obtain ⟨x422_o, x423_o, x424_o, x425_o, x426_o, x427_o⟩ := y_l
  have h428_o := hy_o
  dsimp only at h428_o
  show gQ (sb_57_5 x422_o x423_o x424_o x425_o x426_o x427_o) _
  unfold sb_57_5
  refine gQ_ite ?_ ?_
  · refine gQ_chk2 (fun ha429_o hb430_o => ?_)
    refine gQ_ite ?_ ?_
    · unfold fb_57_34
      refine gQ_ite ?_ ?_
      · exact gQ_ret h428_o
      · refine gQ_ite ?_ ?_
        · unfold fb_57_60
          exact gQ_ret h428_o
        · refine gQ_chk2 (fun ha431_o hb432_o => ?_)
          refine gQ_ite ?_ ?_
          · unfold fb_57_60
            exact gQ_ret h428_o
          · exact gQ_ret h428_o
    · unfold fb_57_34
      refine gQ_ite ?_ ?_
      · exact gQ_ret h428_o
      · refine gQ_ite ?_ ?_
        · unfold fb_57_60
          exact gQ_ret h428_o
        · refine gQ_chk2 (fun ha433_o hb434_o => ?_)
          refine gQ_ite ?_ ?_
          · unfold fb_57_60
            exact gQ_ret h428_o
          · exact gQ_ret h428_o
  · refine gQ_map ?_
    exact gQ_ret h428_o

theorem o_55 {W : Nat → Nat → Bool} {g s : gS} {a0 : Nat} {a1 : Int} {a2 : Int} {a3 : Int} {a4 : Int} (hg_o : RF g) (hU_o : ∀ a k, csd a k = true → W a k = true) (ea0_o : a0 = 19) (h_o : Fw W g s) : gQ (f_55 a0 a1 a2 a3 a4 s) (fun r => Fw W g r.2.2.2) := by
  subst ea0_o
  unfold f_55
  dsimp only
  refine gQ_ite ?_ ?_
  · unfold fb_55_31
    dsimp only
    refine gQ_chk2 (fun ha435_o hb436_o => ?_)
    refine gQ_chk2 (fun ha437_o hb438_o => ?_)
    refine gQ_chk2 (fun ha439_o hb440_o => ?_)
    refine gQ_chk2 (fun ha441_o hb442_o => ?_)
    exact gQ_ret (Fw_w (Fw_w (Fw_w (Fw_w (Fw_w h_o (fr_r h_o rfl (rr_19_0 hg_o)) (hU_o 20 _ rfl)) (fr_r (Fw_w h_o (fr_r h_o rfl (rr_19_0 hg_o)) (hU_o 20 _ rfl)) rfl (rr_19_0 hg_o)) (hU_o 20 _ rfl)) (fr_r (Fw_w (Fw_w h_o (fr_r h_o rfl (rr_19_0 hg_o)) (hU_o 20 _ rfl)) (fr_r (Fw_w h_o (fr_r h_o rfl (rr_19_0 hg_o)) (hU_o 20 _ rfl)) rfl (rr_19_0 hg_o)) (hU_o 20 _ rfl)) rfl (rr_19_0 hg_o)) (hU_o 20 _ rfl)) (fr_r (Fw_w (Fw_w (Fw_w h_o (fr_r h_o rfl (rr_19_0 hg_o)) (hU_o 20 _ rfl)) (fr_r (Fw_w h_o (fr_r h_o rfl (rr_19_0 hg_o)) (hU_o 20 _ rfl)) rfl (rr_19_0 hg_o)) (hU_o 20 _ rfl)) (fr_r (Fw_w (Fw_w h_o (fr_r h_o rfl (rr_19_0 hg_o)) (hU_o 20 _ rfl)) (fr_r (Fw_w h_o (fr_r h_o rfl (rr_19_0 hg_o)) (hU_o 20 _ rfl)) rfl (rr_19_0 hg_o)) (hU_o 20 _ rfl)) rfl (rr_19_0 hg_o)) (hU_o 20 _ rfl)) rfl (rr_19_0 hg_o)) (hU_o 20 _ rfl)) rfl (hU_o 19 _ rfl))
  · unfold fb_55_31
    dsimp only
    refine gQ_chk2 (fun ha443_o hb444_o => ?_)
    refine gQ_chk2 (fun ha445_o hb446_o => ?_)
    refine gQ_chk2 (fun ha447_o hb448_o => ?_)
    refine gQ_chk2 (fun ha449_o hb450_o => ?_)
    exact gQ_ret (Fw_w (Fw_w (Fw_w (Fw_w (Fw_w (Fw_w (Fw_c h_o (fr_r h_o rfl (rr_19_0 hg_o)) (fun k_o => hU_o 20 k_o rfl)) rfl (hU_o 19 _ rfl)) (fr_r (Fw_w (Fw_c h_o (fr_r h_o rfl (rr_19_0 hg_o)) (fun k_o => hU_o 20 k_o rfl)) rfl (hU_o 19 _ rfl)) rfl (rr_19_0 hg_o)) (hU_o 20 _ rfl)) (fr_r (Fw_w (Fw_w (Fw_c h_o (fr_r h_o rfl (rr_19_0 hg_o)) (fun k_o => hU_o 20 k_o rfl)) rfl (hU_o 19 _ rfl)) (fr_r (Fw_w (Fw_c h_o (fr_r h_o rfl (rr_19_0 hg_o)) (fun k_o => hU_o 20 k_o rfl)) rfl (hU_o 19 _ rfl)) rfl (rr_19_0 hg_o)) (hU_o 20 _ rfl)) rfl (rr_19_0 hg_o)) (hU_o 20 _ rfl)) (fr_r (Fw_w (Fw_w (Fw_w (Fw_c h_o (fr_r h_o rfl (rr_19_0 hg_o)) (fun k_o => hU_o 20 k_o rfl)) rfl (hU_o 19 _ rfl)) (fr_r (Fw_w (Fw_c h_o (fr_r h_o rfl (rr_19_0 hg_o)) (fun k_o => hU_o 20 k_o rfl)) rfl (hU_o 19 _ rfl)) rfl (rr_19_0 hg_o)) (hU_o 20 _ rfl)) (fr_r (Fw_w (Fw_w (Fw_c h_o (fr_r h_o rfl (rr_19_0 hg_o)) (fun k_o => hU_o 20 k_o rfl)) rfl (hU_o 19 _ rfl)) (fr_r (Fw_w (Fw_c h_o (fr_r h_o rfl (rr_19_0 hg_o)) (fun k_o => hU_o 20 k_o rfl)) rfl (hU_o 19 _ rfl)) rfl (rr_19_0 hg_o)) (hU_o 20 _ rfl)) rfl (rr_19_0 hg_o)) (hU_o 20 _ rfl)) rfl (rr_19_0 hg_o)) (hU_o 20 _ rfl)) (fr_r (Fw_w (Fw_w (Fw_w (Fw_w (Fw_c h_o (fr_r h_o rfl (rr_19_0 hg_o)) (fun k_o => hU_o 20 k_o rfl)) rfl (hU_o 19 _ rfl)) (fr_r (Fw_w (Fw_c h_o (fr_r h_o rfl (rr_19_0 hg_o)) (fun k_o => hU_o 20 k_o rfl)) rfl (hU_o 19 _ rfl)) rfl (rr_19_0 hg_o)) (hU_o 20 _ rfl)) (fr_r (Fw_w (Fw_w (Fw_c h_o (fr_r h_o rfl (rr_19_0 hg_o)) (fun k_o => hU_o 20 k_o rfl)) rfl (hU_o 19 _ rfl)) (fr_r (Fw_w (Fw_c h_o (fr_r h_o rfl (rr_19_0 hg_o)) (fun k_o => hU_o 20 k_o rfl)) rfl (hU_o 19 _ rfl)) rfl (rr_19_0 hg_o)) (hU_o 20 _ rfl)) rfl (rr_19_0 hg_o)) (hU_o 20 _ rfl)) (fr_r (Fw_w (Fw_w (Fw_w (Fw_c h_o (fr_r h_o rfl (rr_19_0 hg_o)) (fun k_o => hU_o 20 k_o rfl)) rfl (hU_o 19 _ rfl)) (fr_r (Fw_w (Fw_c h_o (fr_r h_o rfl (rr_19_0 hg_o)) (fun k_o => hU_o 20 k_o rfl)) rfl (hU_o 19 _ rfl)) rfl (rr_19_0 hg_o)) (hU_o 20 _ rfl)) (fr_r (Fw_w (Fw_w (Fw_c h_o (fr_r h_o rfl (rr_19_0 hg_o)) (fun k_o => hU_o 20 k_o rfl)) rfl (hU_o 19 _ rfl)) (fr_r (Fw_w (Fw_c h_o (fr_r h_o rfl (rr_19_0 hg_o)) (fun k_o => hU_o 20 k_o rfl)) rfl (hU_o 19 _ rfl)) rfl (rr_19_0 hg_o)) (hU_o 20 _ rfl)) rfl (rr_19_0 hg_o)) (hU_o 20 _ rfl)) rfl (rr_19_0 hg_o)) (hU_o 20 _ rfl)) rfl (rr_19_0 hg_o)) (hU_o 20 _ rfl)) rfl (hU_o 19 _ rfl))

theorem o_91 {W : Nat → Nat → Bool} {g s : gS} {a0 : Nat} (hg_o : RF g) (hU_o : ∀ a k, csq a k = true → W a k = true) (ea0_o : a0 = 0) (h_o : Fw W g s) : gQ (f_91 a0 s) (fun r => Fw W g r.2.2.2) := by
  subst ea0_o
  unfold f_91
  exact gQ_ret h_o

theorem o_92 {W : Nat → Nat → Bool} {g s : gS} {a0 : Nat} {a1 : Int} {a2 : Int} (hg_o : RF g) (hU_o : ∀ a k, csq a k = true → W a k = true) (ea0_o : a0 = 0) (h_o : Fw W g s) : gQ (f_92 a0 a1 a2 s) (fun r => Fw W g r.2.2.2) := by
  subst ea0_o
  unfold f_92
  refine gQ_t0 (A := Fw W g) (o_134 hg_o hU_o rfl h_o) (fun s1_l h451_o => ?_) (fun _ _ hz_o => hz_o)
  refine gQ_ite ?_ ?_
  · exact gQ_ret (Fw_n h451_o)
  · refine gQ_ite ?_ ?_
    · refine gQ_chk2 (fun ha452_o hb453_o => ?_)
      exact gQ_ret h451_o
    · refine gQ_ite ?_ ?_
      · refine gQ_chk2 (fun ha454_o hb455_o => ?_)
        exact gQ_ret h451_o
      · refine gQ_ite ?_ ?_
        · refine gQ_chk2 (fun ha456_o hb457_o => ?_)
          exact gQ_ret h451_o
        · refine gQ_ite ?_ ?_
          · refine gQ_v1 (A := Fw W g) (o_31 hg_o hU_o  h451_o) (fun v4_l s3_l h458_o => ?_)
            exact gQ_ret h458_o
          · exact gQ_ret (Fw_n h451_o)

theorem o_93 {W : Nat → Nat → Bool} {g s : gS} {a0 : Nat} {a1 : Int} {a2 : Int} (hg_o : RF g) (hU_o : ∀ a k, csq a k = true → W a k = true) (ea0_o : a0 = 0) (h_o : Fw W g s) : gQ (f_93 a0 a1 a2 s) (fun r => Fw W g r.2.2.2) := by
  subst ea0_o
  unfold f_93
  dsimp only
  refine gQ_t0 (A := Fw W g) (o_135 hg_o hU_o rfl h_o) (fun s1_l h459_o => ?_) (fun _ _ hz_o => hz_o)
  refine gQ_chk2 (fun ha460_o hb461_o => ?_)
  refine gQ_ite ?_ ?_
  · exact gQ_ret (Fw_n h459_o)
  · refine gQ_ite ?_ ?_
    · exact gQ_ret h459_o
    · refine gQ_ite ?_ ?_
      · exact gQ_ret h459_o
      · refine gQ_ite ?_ ?_
        · exact gQ_ret h459_o
        · refine gQ_ite ?_ ?_
          · exact gQ_ret h459_o
          · refine gQ_ite ?_ ?_
            · exact gQ_ret h459_o
            · refine gQ_ite ?_ ?_
              · exact gQ_ret h459_o
              · refine gQ_ite ?_ ?_
                · refine gQ_v1 (A := Fw W g) (o_34 hg_o hU_o (fr_r h459_o rfl (rr_0_1 hg_o)) h459_o) (fun v5 s4_l h462_o => ?_)
                  exact gQ_ret h462_o
                · refine gQ_ite ?_ ?_
                  · refine gQ_v1 (A := Fw W g) (o_7 hg_o hU_o  h459_o) (fun v7 s6_l h463_o => ?_)
                    exact gQ_ret h463_o
                  · refine gQ_ite ?_ ?_
                    · refine gQ_v1 (A := Fw W g) (o_8 hg_o hU_o  h459_o) (fun v9 s8 h464_o => ?_)
                      exact gQ_ret h464_o
                    · refine gQ_ite ?_ ?_
                      · refine gQ_v1 (A := Fw W g) (o_9 hg_o hU_o  h459_o) (fun v11 s10 h465_o => ?_)
                        refine gQ_v1 (A := Fw W g) (o_7 hg_o hU_o  h465_o) (fun v13 s12 h466_o => ?_)
                        exact gQ_ret h466_o
                      · exact gQ_ret (Fw_n h459_o)

theorem o_94 {W : Nat → Nat → Bool} {g s : gS} {a0 : Nat} {a1 : Int} {a2 : Int} (hg_o : RF g) (hU_o : ∀ a k, csq a k = true → W a k = true) (ea0_o : a0 = 0) (h_o : Fw W g s) : gQ (f_94 a0 a1 a2 s) (fun r => Fw W g r.2.2.2) := by
  subst ea0_o
  unfold f_94
  refine gQ_t0 (A := Fw W g) (o_136 hg_o hU_o rfl h_o) (fun s1_l h467_o => ?_) (fun _ _ hz_o => hz_o)
  refine gQ_ite ?_ ?_
  · refine gQ_chk2 (fun ha468_o hb469_o => ?_)
    exact gQ_ret h467_o
  · refine gQ_chk2 (fun ha470_o hb471_o => ?_)
    exact gQ_ret h467_o

theorem o_95 {W : Nat → Nat → Bool} {g s : gS} {a0 : Nat} {a1 : Int} {a2 : Int} (hg_o : RF g) (hU_o : ∀ a k, csq a k = true → W a k = true) (ea0_o : a0 = 0) (h_o : Fw W g s) : gQ (f_95 a0 a1 a2 s) (fun r => Fw W g r.2.2.2) := by
  subst ea0_o
  unfold f_95
  refine gQ_t0 (A := Fw W g) (o_137 hg_o hU_o rfl h_o) (fun s1_l h472_o => ?_) (fun _ _ hz_o => hz_o)
  refine gQ_ite ?_ ?_
  · refine gQ_chk2 (fun ha473_o hb474_o => ?_)
    exact gQ_ret h472_o
  · refine gQ_chk2 (fun ha475_o hb476_o => ?_)
    exact gQ_ret h472_o

theorem o_103 {W : Nat → Nat → Bool} {g s : gS} {a0 : Nat} {a1 : Int} {a2 : Int} {a3 : Int} (hg_o : RF g) (hU_o : ∀ a k, csq a k = true → W a k = true) (ea0_o : a0 = 0) (h_o : Fw W g s) : gQ (f_103 a0 a1 a2 a3 s) (fun r => Fw W g r.2.2.2) := by
  subst ea0_o
  unfold f_103
  dsimp only
  refine gQ_t0 (A := Fw W g) (o_135 hg_o hU_o rfl h_o) (fun s1_l h477_o => ?_) (fun _ _ hz_o => hz_o)
  refine gQ_t0 (A := Fw W g) (o_138 hg_o hU_o rfl h477_o) (fun s3_l h478_o => ?_) (fun _ _ hz_o => hz_o)
  refine gQ_ite ?_ ?_
  · unfold fb_103_23
    exact gQ_ret (Fw_n h478_o)
  · refine gQ_ite ?_ ?_
    · unfold fb_103_23
      exact gQ_ret (Fw_n h478_o)
    · refine gQ_v0 (A := Fw W g) (o_141 hg_o hU_o rfl h478_o) (fun s5 h479_o => ?_)
      refine gQ_chk2 (fun ha480_o hb481_o => ?_)
      refine gQ_ite ?_ ?_
      · exact gQ_ret h479_o
      · refine gQ_ite ?_ ?_
        · exact gQ_ret h479_o
        · refine gQ_ite ?_ ?_
          · exact gQ_ret h479_o
          · refine gQ_ite ?_ ?_
            · exact gQ_ret h479_o
            · exact gQ_ret h479_o

theorem o_104 {W : Nat → Nat → Bool} {g s : gS} {a0 : Nat} {a1 : Int} (hg_o : RF g) (hU_o : ∀ a k, csq a k = true → W a k = true) (ea0_o : a0 = 0) (h_o : Fw W g s) : gQ (f_104 a0 a1 s) (fun r => Fw W g r.2.2.2) := by
  subst ea0_o
  unfold f_104
  refine gQ_t0 (A := Fw W g) (o_138 hg_o hU_o rfl h_o) (fun s1_l h482_o => ?_) (fun _ _ hz_o => hz_o)
  refine gQ_v0 (A := Fw W g) (o_141 hg_o hU_o rfl h482_o) (fun s3_l h483_o => ?_)
  exact gQ_ret h483_o

theorem o_105 {W : Nat → Nat → Bool} {g s : gS} {a0 : Nat} {a1 : Int} (hg_o : RF g) (hU_o : ∀ a k, csq a k = true → W a k = true) (ea0_o : a0 = 0) (h_o : Fw W g s) : gQ (f_105 a0 a1 s) (fun r => Fw W g r.2.2.2) := by
  subst ea0_o
  unfold f_105
  refine gQ_t0 (A := Fw W g) (o_138 hg_o hU_o rfl h_o) (fun s1_l h484_o => ?_) (fun _ _ hz_o => hz_o)
  refine gQ_v0 (A := Fw W g) (o_141 hg_o hU_o rfl h484_o) (fun s3_l h485_o => ?_)
  exact gQ_ret h485_o

theorem o_106 {W : Nat → Nat → Bool} {g s : gS} {a0 : Nat} {a1 : Int} (hg_o : RF g) (hU_o : ∀ a k, csq a k = true → W a k = true) (ea0_o : a0 = 0) (h_o : Fw W g s) : gQ (f_106 a0 a1 s) (fun r => Fw W g r.2.2.2) := by
  subst ea0_o
  unfold f_106
  dsimp only
  refine gQ_t0 (A := Fw W g) (o_135 hg_o hU_o rfl h_o) (fun s1_l h486_o => ?_) (fun _ _ hz_o => hz_o)
  refine gQ_v0 (A := Fw W g) (o_23 hg_o hU_o (fr_r h486_o rfl (rr_0_9 hg_o)) (fr_r h486_o rfl (rr_0_5 hg_o)) h486_o) (fun s3_l h487_o => ?_)
  refine gQ_chk2 (fun ha488_o hb489_o => ?_)
  refine gQ_loop (fun y_l => y_l.1 = 0 ∧ Wa W (y_l.2.1) ∧ Fw W g (y_l.2.2.2)) (fun y_l hy_o => ?_) ⟨rfl, (fr_m43 h487_o hg_o hU_o (fr_r h487_o (fr_r h487_o rfl (rr_0_9 hg_o)) (rr_42_0 hg_o)) ha488_o hb489_o), h487_o⟩
  obtain ⟨x490_o, x491_o, x492_o, x493_o⟩ := y_l
  obtain ⟨e495_o, e496_o, h494_o⟩ := hy_o
  dsimp only at e495_o e496_o h494_o
  subst e495_o
  show gQ (sb_106_28 0 x491_o x492_o x493_o) _
  unfold sb_106_28
  refine gQ_ite ?_ ?_
  · refine gQ_map ?_
    exact gQ_ret h494_o
  · refine gQ_ite ?_ ?_
    · refine gQ_v1 (A := Fw W g) (o_27 hg_o hU_o (fr_r h494_o rfl (rr_0_9 hg_o)) (fr_r h494_o rfl (rr_0_4 hg_o)) (fr_r h494_o rfl (rr_0_1 hg_o)) h494_o) (fun v7 s6_l h497_o => ?_)
      refine gQ_ite ?_ ?_
      · refine gQ_map ?_
        exact gQ_ret h497_o
      · exact gQ_ret ⟨rfl, e496_o, h497_o⟩
    · refine gQ_map ?_
      exact gQ_ret h494_o

theorem o_107 {W : Nat → Nat → Bool} {g s : gS} {a0 : Nat} {a1 : Int} (hg_o : RF g) (hU_o : ∀ a k, csq a k = true → W a k = true) (ea0_o : a0 = 0) (h_o : Fw W g s) : gQ (f_107 a0 a1 s) (fun r => Fw W g r.2.2.2) := by
  subst ea0_o
  unfold f_107
  dsimp only
  refine gQ_t0 (A := Fw W g) (o_135 hg_o hU_o rfl h_o) (fun s1_l h498_o => ?_) (fun _ _ hz_o => hz_o)
  refine gQ_v0 (A := Fw W g) (o_23 hg_o hU_o (fr_r h498_o rfl (rr_0_9 hg_o)) (fr_r h498_o rfl (rr_0_5 hg_o)) h498_o) (fun s3_l h499_o => ?_)
  refine gQ_chk2 (fun ha500_o hb501_o => ?_)
  refine gQ_loop (fun y_l => y_l.1 = 0 ∧ Wa W (y_l.2.1) ∧ Fw W g (y_l.2.2.2)) (fun y_l hy_o => ?_) ⟨rfl, (fr_m43 h499_o hg_o hU_o (fr_r h499_o (fr_r h499_o rfl (rr_0_9 hg_o)) (rr_42_0 hg_o)) ha500_o hb501_o), h499_o⟩
  obtain ⟨x502_o, x503_o, x504_o, x505_o⟩ := y_l
  obtain ⟨e507_o, e508_o, h506_o⟩ := hy_o
  dsimp only at e507_o e508_o h506_o
  subst e507_o
  show gQ (sb_107_28 0 x503_o x504_o x505_o) _
  unfold sb_107_28
  refine gQ_ite ?_ ?_
  · refine gQ_map ?_
    exact gQ_ret h506_o
  · refine gQ_ite ?_ ?_
    · refine gQ_ite ?_ ?_
      · refine gQ_v1 (A := Fw W g) (o_27 hg_o hU_o (fr_r h506_o rfl (rr_0_9 hg_o)) (fr_r h506_o rfl (rr_0_4 hg_o)) (fr_r h506_o rfl (rr_0_1 hg_o)) h506_o) (fun v7 s6_l h509_o => ?_)
        exact gQ_ret ⟨rfl, e508_o, h509_o⟩
      · refine gQ_map ?_
        exact gQ_ret h506_o
    · refine gQ_map ?_
      exact gQ_ret h506_o

theorem o_108 {W : Nat → Nat → Bool} {g s : gS} {a0 : Nat} {a1 : Int} {a2 : Int} (hg_o : RF g) (hU_o : ∀ a k, csq a k = true → W a k = true) (ea0_o : a0 = 0) (h_o : Fw W g s) : gQ (f_108 a0 a1 a2 s) (fun r => Fw W g r.2.2.2) := by
  subst ea0_o
  unfold f_108
  dsimp only
  refine gQ_t0 (A := Fw W g) (o_135 hg_o hU_o rfl h_o) (fun s1_l h510_o => ?_) (fun _ _ hz_o => hz_o)
  refine gQ_t0 (A := Fw W g) (o_138 hg_o hU_o rfl h510_o) (fun s3_l h511_o => ?_) (fun _ _ hz_o => hz_o)
  refine gQ_chk2 (fun ha512_o hb513_o => ?_)
  refine gQ_ite ?_ ?_
  · refine gQ_v0 (A := Fw W g) (o_23 hg_o hU_o (fr_r h511_o rfl (rr_0_9 hg_o)) (fr_r h511_o rfl (rr_0_5 hg_o)) h511_o) (fun s6_l h514_o => ?_)
    refine gQ_v0 (A := Fw W g) (o_68 hg_o hU_o (fr_r h514_o rfl (rr_0_6 hg_o)) (fr_r h514_o rfl (rr_0_9 hg_o)) h514_o) (fun s8 h515_o => ?_)
    refine gQ_ite ?_ ?_
    · refine gQ_v1 (A := Fw W g) (o_69 hg_o hU_o (fr_r h515_o rfl (rr_0_6 hg_o)) h515_o) (fun v11 s10 h516_o => ?_)
      exact gQ_ret h516_o
    · refine gQ_v1 (A := Fw W g) (o_74 hg_o hU_o (fr_r h515_o rfl (rr_0_6 hg_o)) h515_o) (fun v13 s12 h517_o => ?_)
      exact gQ_ret h517_o
  · exact gQ_ret h511_o

theorem o_109 {W : Nat → Nat → Bool} {g s : gS} {a0 : Nat} {a1 : Int} {a2 : Int} (hg_o : RF g) (hU_o : ∀ a k, csq a k = true → W a k = true) (ea0_o : a0 = 0) (h_o : Fw W g s) : gQ (f_109 a0 a1 a2 s) (fun r => Fw W g r.2.2.2) := by
  subst ea0_o
  unfold f_109
  dsimp only
  refine gQ_t0 (A := Fw W g) (o_135 hg_o hU_o rfl h_o) (fun s1_l h518_o => ?_) (fun _ _ hz_o => hz_o)
  refine gQ_t0 (A := Fw W g) (o_138 hg_o hU_o rfl h518_o) (fun s3_l h519_o => ?_) (fun _ _ hz_o => hz_o)
  refine gQ_chk2 (fun ha520_o hb521_o => ?_)
  refine gQ_ite ?_ ?_
  · refine gQ_loop (fun y_l => y_l.1 = 0 ∧ Fw W g (y_l.2.2.2.2.2)) (fun y_l hy_o => ?_) ⟨rfl, h519_o⟩
    obtain ⟨x522_o, x523_o, x524_o, x525_o, x526_o, x527_o⟩ := y_l
    obtain ⟨e529_o, h528_o⟩ := hy_o
    dsimp only at e529_o h528_o
    subst e529_o
    show gQ (sb_109_35 0 x523_o x524_o x525_o x526_o x527_o) _
    unfold sb_109_35
    dsimp only
    refine gQ_ite ?_ ?_
    · refine gQ_v0 (A := Fw W g) (o_23 hg_o hU_o (fr_r h528_o rfl (rr_0_9 hg_o)) (fr_r h528_o rfl (rr_0_5 hg_o)) h528_o) (fun s6_l h530_o => ?_)
      refine gQ_chk2 (fun ha531_o hb532_o => ?_)
      refine gQ_v0 (A := Fw W g) (o_68 hg_o hU_o (fr_r (Fw_wv h530_o ((fr_m43 h530_o hg_o hU_o (fr_r h530_o (fr_r h530_o rfl (rr_0_9 hg_o)) (rr_42_0 hg_o)) ha531_o hb532_o) _)) rfl (rr_0_6 hg_o)) (fr_r (Fw_wv h530_o ((fr_m43 h530_o hg_o hU_o (fr_r h530_o (fr_r h530_o rfl (rr_0_9 hg_o)) (rr_42_0 hg_o)) ha531_o hb532_o) _)) rfl (rr_0_9 hg_o)) (Fw_wv h530_o ((fr_m43 h530_o hg_o hU_o (fr_r h530_o (fr_r h530_o rfl (rr_0_9 hg_o)) (rr_42_0 hg_o)) ha531_o hb532_o) _))) (fun s9 h533_o => ?_)
      refine gQ_v1 (A := Fw W g) (o_69 hg_o hU_o (fr_r h533_o rfl (rr_0_6 hg_o)) h533_o) (fun v12 s11 h534_o => ?_)
      refine gQ_ite ?_ ?_
      · exact gQ_ret ⟨rfl, h534_o⟩
      · refine gQ_map ?_
        exact gQ_ret h534_o
    · refine gQ_map ?_
      exact gQ_ret h528_o
  · exact gQ_ret h519_o

theorem o_110 {W : Nat → Nat → Bool} {g s : gS} {a0 : Nat} {a1 : Int} {a2 : Int} (hg_o : RF g) (hU_o : ∀ a k, csq a k = true → W a k = true) (ea0_o : a0 = 0) (h_o : Fw W g s) : gQ (f_110 a0 a1 a2 s) (fun r => Fw W g r.2.2.2) := by
  subst ea0_o
  unfold f_110
  refine gQ_t0 (A := Fw W g) (o_135 hg_o hU_o rfl h_o) (fun s1_l h535_o => ?_) (fun _ _ hz_o => hz_o)
  refine gQ_chk2 (fun ha536_o hb537_o => ?_)
  refine gQ_v1 (A := Fw W g) (o_5 hg_o hU_o  h535_o) (fun v4_l s3_l h538_o => ?_)
  exact gQ_ret h538_o

theorem o_111 {W : Nat → Nat → Bool} {g s : gS} {a0 : Nat} {a1 : Int} (hg_o : RF g) (hU_o : ∀ a k, csq a k = true → W a k = true) (ea0_o : a0 = 0) (h_o : Fw W g s) : gQ (f_111 a0 a1 s) (fun r => Fw W g r.2.2.2) := by
  subst ea0_o
  unfold f_111
  refine gQ_t0 (A := Fw W g) (o_135 hg_o hU_o rfl h_o) (fun s1_l h539_o => ?_) (fun _ _ hz_o => hz_o)
  refine gQ_loop (fun y_l => y_l.1 = 0 ∧ Fw W g (y_l.2.2.2.2)) (fun y_l hy_o => ?_) ⟨rfl, h539_o⟩
  obtain ⟨x540_o, x541_o, x542_o, x543_o, x544_o⟩ := y_l
  obtain ⟨e546_o, h545_o⟩ := hy_o
  dsimp only at e546_o h545_o
  subst e546_o
  show gQ (sb_111_9 0 x541_o x542_o x543_o x544_o) _
  unfold sb_111_9
  refine gQ_ite ?_ ?_
  · refine gQ_chk2 (fun ha547_o hb548_o => ?_)
    refine gQ_v1 (A := Fw W g) (o_5 hg_o hU_o  h545_o) (fun v4_l s3_l h549_o => ?_)
    refine gQ_ite ?_ ?_
    · exact gQ_ret ⟨rfl, h549_o⟩
    · refine gQ_ite ?_ ?_
      · unfold fb_111_61
        exact gQ_ret ⟨rfl, h549_o⟩
      · refine gQ_v1 (A := Fw W g) (o_264 hg_o hU_o  h549_o) (fun v7 s6_l h550_o => ?_)
        refine gQ_v1 (A := Fw W g) (o_264 hg_o hU_o  h550_o) (fun v9 s8 h551_o => ?_)
        refine gQ_ite ?_ ?_
        · unfold fb_111_61
          exact gQ_ret ⟨rfl, h551_o⟩
        · exact gQ_ret ⟨rfl, h551_o⟩
  · refine gQ_map ?_
    exact gQ_ret h545_o

theorem o_112 {W : Nat → Nat → Bool} {g s : gS} {a0 : Nat} {a1 : Int} {a2 : Int} (hg_o : RF g) (hU_o : ∀ a k, csq a k = true → W a k = true) (ea0_o : a0 = 0) (h_o : Fw W g s) : gQ (f_112 a0 a1 a2 s) (fun r => Fw W g r.2.2.2) := by
  subst ea0_o
  unfold f_112
  refine gQ_t0 (A := Fw W g) (o_135 hg_o hU_o rfl h_o) (fun s1_l h552_o => ?_) (fun _ _ hz_o => hz_o)
  refine gQ_loop (fun y_l => y_l.1 = 0 ∧ Fw W g (y_l.2.2.2.2.2.2)) (fun y_l hy_o => ?_) ⟨rfl, h552_o⟩
  obtain ⟨x553_o, x554_o, x555_o, x556_o, x557_o, x558_o, x559_o⟩ := y_l
  obtain ⟨e561_o, h560_o⟩ := hy_o
  dsimp only at e561_o h560_o
  subst e561_o
  show gQ (sb_112_13 0 x554_o x555_o x556_o x557_o x558_o x559_o) _
  unfold sb_112_13
  refine gQ_ite ?_ ?_
  · refine gQ_chk2 (fun ha562_o hb563_o => ?_)
    refine gQ_v1 (A := Fw W g) (o_5 hg_o hU_o  h560_o) (fun v4_l s3_l h564_o => ?_)
    refine gQ_ite ?_ ?_
    · exact gQ_ret ⟨rfl, h564_o⟩
    · refine gQ_v1 (A := Fw W g) (o_6 hg_o hU_o  h564_o) (fun v7 s6_l h565_o => ?_)
      refine gQ_ite ?_ ?_
      · unfold fb_112_74
        exact gQ_ret ⟨rfl, h565_o⟩
      · refine gQ_ite ?_ ?_
        · unfold fb_112_74
          exact gQ_ret ⟨rfl, h565_o⟩
        · exact gQ_ret ⟨rfl, h565_o⟩
  · refine gQ_map ?_
    refine gQ_ite ?_ ?_
    · exact gQ_ret h560_o
    · exact gQ_ret h560_o

theorem o_113 {W : Nat → Nat → Bool} {g s : gS} {a0 : Nat} {a1 : Int} (hg_o : RF g) (hU_o : ∀ a k, csq a k = true → W a k = true) (ea0_o : a0 = 0) (h_o : Fw W g s) : gQ (f_113 a0 a1 s) (fun r => Fw W g r.2.2.2) := by
  subst ea0_o
  unfold f_113
  refine gQ_t0 (A := Fw W g) (o_135 hg_o hU_o rfl h_o) (fun s1_l h566_o => ?_) (fun _ _ hz_o => hz_o)
  refine gQ_loop (fun y_l => y_l.1 = 0 ∧ Fw W g (y_l.2.2.2.2)) (fun y_l hy_o => ?_) ⟨rfl, h566_o⟩
  obtain ⟨x567_o, x568_o, x569_o, x570_o, x571_o⟩ := y_l
  obtain ⟨e573_o, h572_o⟩ := hy_o
  dsimp only at e573_o h572_o
  subst e573_o
  show gQ (sb_113_9 0 x568_o x569_o x570_o x571_o) _
  unfold sb_113_9
  dsimp only
  refine gQ_ite ?_ ?_
  · refine gQ_chk2 (fun ha574_o hb575_o => ?_)
    refine gQ_v1 (A := Fw W g) (o_4 hg_o hU_o  h572_o) (fun v4_l s3_l h576_o => ?_)
    refine gQ_ite ?_ ?_
    · exact gQ_ret ⟨rfl, h576_o⟩
    · exact gQ_ret ⟨rfl, h576_o⟩
  · refine gQ_map ?_
    exact gQ_ret h572_o

theorem o_114 {W : Nat → Nat → Bool} {g s : gS} {a0 : Nat} {a1 : Int} (hg_o : RF g) (hU_o : ∀ a k, csq a k = true → W a k = true) (ea0_o : a0 = 0) (h_o : Fw W g s) : gQ (f_114 a0 a1 s) (fun r => Fw W g r.2.2.2) := by
  subst ea0_o
  unfold f_114
  refine gQ_t1 (A := Fw W g) (o_142 hg_o hU_o rfl h_o) (fun v2 s1_l h577_o => ?_) (fun _ _ hz_o => hz_o)
  refine gQ_ite ?_ ?_
  · refine gQ_v1 (A := Fw W g) (o_265 hg_o hU_o  h577_o) (fun v4_l s3_l h578_o => ?_)
    exact gQ_ret h578_o
  · refine gQ_ite ?_ ?_
    · exact gQ_ret h577_o
    · refine gQ_loop (fun y_l => Fw W g (y_l.2.2.2)) (fun y_l hy_o => ?_) h577_o
      obtain ⟨x579_o, x580_o, x581_o, x582_o⟩ := y_l
      have h583_o := hy_o
      dsimp only at h583_o
      show gQ (sb_114_29 x579_o x580_o x581_o x582_o) _
      unfold sb_114_29
      refine gQ_ite ?_ ?_
      · refine gQ_ite ?_ ?_
        · exact gQ_ret h583_o
        · exact gQ_ret h583_o
      · refine gQ_map ?_
        exact gQ_ret h583_o

theorem o_115 {W : Nat → Nat → Bool} {g s : gS} {a0 : Nat} (hg_o : RF g) (hU_o : ∀ a k, csq a k = true → W a k = true) (ea0_o : a0 = 0) (h_o : Fw W g s) : gQ (f_115 a0 s) (fun r => Fw W g r.2.2.2) := by
  subst ea0_o
  unfold f_115
  refine gQ_t1 (A := Fw W g) (o_142 hg_o hU_o rfl h_o) (fun v2 s1_l h584_o => ?_) (fun _ _ hz_o => hz_o)
  refine gQ_v1 (A := Fw W g) (o_265 hg_o hU_o  h584_o) (fun v4_l s3_l h585_o => ?_)
  refine gQ_loop (fun y_l => y_l.1 = 0 ∧ Fw W g (y_l.2.2.2.2.2.2)) (fun y_l hy_o => ?_) ⟨rfl, h585_o⟩
  obtain ⟨x586_o, x587_o, x588_o, x589_o, x590_o, x591_o, x592_o⟩ := y_l
  obtain ⟨e594_o, h593_o⟩ := hy_o
  dsimp only at e594_o h593_o
  subst e594_o
  show gQ (sb_115_19 0 x587_o x588_o x589_o x590_o x591_o x592_o) _
  unfold sb_115_19
  dsimp only
  refine gQ_ite ?_ ?_
  · refine gQ_ite ?_ ?_
    · refine gQ_map ?_
      exact gQ_ret h593_o
    · refine gQ_v1 (A := Fw W g) (o_145 hg_o hU_o rfl h593_o) (fun v6 s5 h595_o => ?_)
      refine gQ_ite ?_ ?_
      · unfold fb_115_69
        exact gQ_ret ⟨rfl, h595_o⟩
      · refine gQ_ite ?_ ?_
        · unfold fb_115_69
          exact gQ_ret ⟨rfl, h595_o⟩
        · exact gQ_ret ⟨rfl, h595_o⟩
  · refine gQ_map ?_
    exact gQ_ret h593_o

theorem o_116 {W : Nat → Nat → Bool} {g s : gS} {a0 : Nat} {a1 : Int} {a2 : Int} (hg_o : RF g) (hU_o : ∀ a k, csq a k = true → W a k = true) (ea0_o : a0 = 0) (h_o : Fw W g s) : gQ (f_116 a0 a1 a2 s) (fun r => Fw W g r.2.2.2) := by
  subst ea0_o
  unfold f_116
  dsimp only
  refine gQ_t0 (A := Fw W g) (o_135 hg_o hU_o rfl h_o) (fun s1_l h596_o => ?_) (fun _ _ hz_o => hz_o)
  refine gQ_t0 (A := Fw W g) (o_136 hg_o hU_o rfl h596_o) (fun s3_l h597_o => ?_) (fun _ _ hz_o => hz_o)
  refine gQ_chk2 (fun ha598_o hb599_o => ?_)
  refine gQ_v1 (A := Fw W g) (o_4 hg_o hU_o  h597_o) (fun v7 s6_l h600_o => ?_)
  refine gQ_loop (fun y_l => y_l.1 = 0 ∧ Fw W g (y_l.2.2.2.2.2.2)) (fun y_l hy_o => ?_) ⟨rfl, h600_o⟩
  obtain ⟨x601_o, x602_o, x603_o, x604_o, x605_o, x606_o, x607_o⟩ := y_l
  obtain ⟨e609_o, h608_o⟩ := hy_o
  dsimp only at e609_o h608_o
  subst e609_o
  show gQ (sb_116_40 0 x602_o x603_o x604_o x605_o x606_o x607_o) _
  unfold sb_116_40
  refine gQ_ite ?_ ?_
  · refine gQ_v1 (A := Fw W g) (o_146 hg_o hU_o rfl h608_o) (fun v10 s9 h610_o => ?_)
    refine gQ_v1 (A := Fw W g) (o_146 hg_o hU_o rfl h610_o) (fun v12 s11 h611_o => ?_)
    refine gQ_ite ?_ ?_
    · unfold fb_116_90
      refine gQ_v1 (A := Fw W g) (o_147 hg_o hU_o  h611_o) (fun v14 s13 h612_o => ?_)
      refine gQ_v1 (A := Fw W g) (o_147 hg_o hU_o  h612_o) (fun v16 s15 h613_o => ?_)
      refine gQ_ite ?_ ?_
      · unfold fb_116_128
        dsimp only
        refine gQ_ite ?_ ?_
        · exact gQ_ret ⟨rfl, h613_o⟩
        · refine gQ_ite ?_ ?_
          · exact gQ_ret ⟨rfl, h613_o⟩
          · exact gQ_ret ⟨rfl, h613_o⟩
      · unfold fb_116_128
        dsimp only
        refine gQ_ite ?_ ?_
        · exact gQ_ret ⟨rfl, h613_o⟩
        · refine gQ_ite ?_ ?_
          · exact gQ_ret ⟨rfl, h613_o⟩
          · exact gQ_ret ⟨rfl, h613_o⟩
    · unfold fb_116_90
      refine gQ_v1 (A := Fw W g) (o_147 hg_o hU_o  h611_o) (fun v14 s13 h614_o => ?_)
      refine gQ_v1 (A := Fw W g) (o_147 hg_o hU_o  h614_o) (fun v16 s15 h615_o => ?_)
      refine gQ_ite ?_ ?_
      · unfold fb_116_128
        dsimp only
        refine gQ_ite ?_ ?_
        · exact gQ_ret ⟨rfl, h615_o⟩
        · refine gQ_ite ?_ ?_
          · exact gQ_ret ⟨rfl, h615_o⟩
          · exact gQ_ret ⟨rfl, h615_o⟩
      · unfold fb_116_128
        dsimp only
        refine gQ_ite ?_ ?_
        · exact gQ_ret ⟨rfl, h615_o⟩
        · refine gQ_ite ?_ ?_
          · exact gQ_ret ⟨rfl, h615_o⟩
          · exact gQ_ret ⟨rfl, h615_o⟩
  · refine gQ_map ?_
    exact gQ_ret h608_o

theorem o_117 {W : Nat → Nat → Bool} {g s : gS} {a0 : Nat} {a1 : Int} {a2 : Int} (hg_o : RF g) (hU_o : ∀ a k, csq a k = true → W a k = true) (ea0_o : a0 = 0) (h_o : Fw W g s) : gQ (f_117 a0 a1 a2 s) (fun r => Fw W g r.2.2.2) := by
  subst ea0_o
  unfold f_117
  refine gQ_t0 (A := Fw W g) (o_138 hg_o hU_o rfl h_o) (fun s1_l h616_o => ?_) (fun _ _ hz_o => hz_o)
  refine gQ_t0 (A := Fw W g) (o_138 hg_o hU_o rfl h616_o) (fun s3_l h617_o => ?_) (fun _ _ hz_o => hz_o)
  refine gQ_loop (fun y_l => y_l.1 = 0 ∧ Fw W g (y_l.2.2.2.2.2.2)) (fun y_l hy_o => ?_) ⟨rfl, h617_o⟩
  obtain ⟨x618_o, x619_o, x620_o, x621_o, x622_o, x623_o, x624_o⟩ := y_l
  obtain ⟨e626_o, h625_o⟩ := hy_o
  dsimp only at e626_o h625_o
  subst e626_o
  show gQ (sb_117_22 0 x619_o x620_o x621_o x622_o x623_o x624_o) _
  unfold sb_117_22
  refine gQ_ite ?_ ?_
  · exact gQ_ret ⟨rfl, h625_o⟩
  · refine gQ_map ?_
    refine gQ_loop (fun y_l => y_l.1 = 0 ∧ Fw W g (y_l.2.2.2.2.2)) (fun y_l hy_o => ?_) ⟨rfl, h625_o⟩
    obtain ⟨x627_o, x628_o, x629_o, x630_o, x631_o, x632_o⟩ := y_l
    obtain ⟨e634_o, h633_o⟩ := hy_o
    dsimp only at e634_o h633_o
    subst e634_o
    show gQ (sb_117_45 0 x628_o x629_o x630_o x631_o x632_o) _
    unfold sb_117_45
    refine gQ_ite ?_ ?_
    · refine gQ_map ?_
      refine gQ_ite ?_ ?_
      · exact gQ_none
      · exact gQ_ret h633_o
    · refine gQ_v1 (A := Fw W g) (o_148 hg_o hU_o rfl h633_o) (fun v6 s5 h635_o => ?_)
      exact gQ_ret ⟨rfl, h635_o⟩

theorem o_118 {W : Nat → Nat → Bool} {g s : gS} {a0 : Nat} {a1 : Int} (hg_o : RF g) (hU_o : ∀ a k, csq a k = true → W a k = true) (ea0_o : a0 = 0) (h_o : Fw W g s) : gQ (f_118 a0 a1 s) (fun r => Fw W g r.2.2.2) := by
  subst ea0_o
  unfold f_118
  refine gQ_loop (fun y_l => y_l.1 = 0 ∧ Fw W g (y_l.2.2.2.2.2)) (fun y_l hy_o => ?_) ⟨rfl, h_o⟩
  obtain ⟨x636_o, x637_o, x638_o, x639_o, x640_o, x641_o⟩ := y_l
  obtain ⟨e643_o, h642_o⟩ := hy_o
  dsimp only at e643_o h642_o
  subst e643_o
  show gQ (sb_118_7 0 x637_o x638_o x639_o x640_o x641_o) _
  unfold sb_118_7
  dsimp only
  refine gQ_ite ?_ ?_
  · refine gQ_chk2 (fun ha644_o hb645_o => ?_)
    refine gQ_ite ?_ ?_
    · exact gQ_ret ⟨rfl, h642_o⟩
    · refine gQ_chk2 (fun ha646_o hb647_o => ?_)
      refine gQ_ite ?_ ?_
      · refine gQ_chk2 (fun ha648_o hb649_o => ?_)
        exact gQ_ret ⟨rfl, h642_o⟩
      · exact gQ_ret ⟨rfl, h642_o⟩
  · refine gQ_map ?_
    refine gQ_ite ?_ ?_
    · exact gQ_ret h642_o
    · exact gQ_ret h642_o

theorem o_119 {W : Nat → Nat → Bool} {g s : gS} {a0 : Nat} {a1 : Int} (hg_o : RF g) (hU_o : ∀ a k, csq a k = true → W a k = true) (ea0_o : a0 = 0) (h_o : Fw W g s) : gQ (f_119 a0 a1 s) (fun r => Fw W g r.2.2.2) := by
  subst ea0_o
  unfold f_119
  refine gQ_ite ?_ ?_
  · unfold fb_119_10
    refine gQ_v0 (A := Fw W g) (o_63 hg_o hU_o (fr_r h_o rfl (rr_0_7 hg_o)) h_o) (fun s1_l h650_o => ?_)
    refine gQ_ite ?_ ?_
    · refine gQ_v1 (A := Fw W g) (o_65 hg_o hU_o (fr_r h650_o rfl (rr_0_7 hg_o)) h650_o) (fun v4_l s3_l h651_o => ?_)
      exact gQ_ret h651_o
    · refine gQ_v1 (A := Fw W g) (o_66 hg_o hU_o (fr_r h650_o rfl (rr_0_7 hg_o)) h650_o) (fun v6 s5 h652_o => ?_)
      exact gQ_ret h652_o
  · refine gQ_t0 (A := Fw W g) (o_137 hg_o hU_o rfl h_o) (fun s7 h653_o => ?_) (fun _ _ hz_o => hz_o)
    unfold fb_119_10
    refine gQ_v0 (A := Fw W g) (o_63 hg_o hU_o (fr_r h653_o rfl (rr_0_7 hg_o)) h653_o) (fun s1_l h654_o => ?_)
    refine gQ_ite ?_ ?_
    · refine gQ_v1 (A := Fw W g) (o_65 hg_o hU_o (fr_r h654_o rfl (rr_0_7 hg_o)) h654_o) (fun v4_l s3_l h655_o => ?_)
      exact gQ_ret h655_o
    · refine gQ_v1 (A := Fw W g) (o_66 hg_o hU_o (fr_r h654_o rfl (rr_0_7 hg_o)) h654_o) (fun v6 s5 h656_o => ?_)
      exact gQ_ret h656_o

theorem o_120 {W : Nat → Nat → Bool} {g s : gS} {a0 : Nat} (hg_o : RF g) (hU_o : ∀ a k, csq a k = true → W a k = true) (ea0_o : a0 = 0) (h_o : Fw W g s) : gQ (f_120 a0 s) (fun r => Fw W g r.2.2.2) := by
  subst ea0_o
  unfold f_120
  dsimp only
  refine gQ_loop (fun y_l => y_l.1 = 0 ∧ Fw W g (y_l.2.2.2.2)) (fun y_l hy_o => ?_) ⟨rfl, h_o⟩
  obtain ⟨x657_o, x658_o, x659_o, x660_o, x661_o⟩ := y_l
  obtain ⟨e663_o, h662_o⟩ := hy_o
  dsimp only at e663_o h662_o
  subst e663_o
  show gQ (sb_120_16 0 x658_o x659_o x660_o x661_o) _
  unfold sb_120_16
  refine gQ_ite ?_ ?_
  · refine gQ_v1 (A := Fw W g) (o_32 hg_o hU_o  h662_o) (fun v3 s2_l h664_o => ?_)
    refine gQ_ite ?_ ?_
    · refine gQ_ite ?_ ?_
      · unfold fb_120_57
        exact gQ_ret ⟨rfl, h664_o⟩
      · refine gQ_v1 (A := Fw W g) (o_264 hg_o hU_o  h664_o) (fun v5 s4_l h665_o => ?_)
        refine gQ_v1 (A := Fw W g) (o_264 hg_o hU_o  h665_o) (fun v7 s6_l h666_o => ?_)
        refine gQ_ite ?_ ?_
        · unfold fb_120_57
          exact gQ_ret ⟨rfl, h666_o⟩
        · exact gQ_ret ⟨rfl, h666_o⟩
    · exact gQ_ret ⟨rfl, h664_o⟩
  · refine gQ_map ?_
    exact gQ_ret h662_o

theorem o_121 {W : Nat → Nat → Bool} {g s : gS} {a0 : Nat} (hg_o : RF g) (hU_o : ∀ a k, csq a k = true → W a k = true) (ea0_o : a0 = 0) (h_o : Fw W g s) : gQ (f_121 a0 s) (fun r => Fw W g r.2.2.2) := by
  subst ea0_o
  unfold f_121
  refine gQ_loop (fun y_l => y_l.1 = 0 ∧ Fw W g (y_l.2.2.2)) (fun y_l hy_o => ?_) ⟨rfl, h_o⟩
  obtain ⟨x667_o, x668_o, x669_o, x670_o⟩ := y_l
  obtain ⟨e672_o, h671_o⟩ := hy_o
  dsimp only at e672_o h671_o
  subst e672_o
  show gQ (sb_121_4 0 x668_o x669_o x670_o) _
  unfold sb_121_4
  refine gQ_ite ?_ ?_
  · refine gQ_loop (fun y_l => y_l.1 = 0 ∧ Fw W g (y_l.2.2.2.2)) (fun y_l hy_o => ?_) ⟨rfl, h671_o⟩
    obtain ⟨x673_o, x674_o, x675_o, x676_o, x677_o⟩ := y_l
    obtain ⟨e679_o, h678_o⟩ := hy_o
    dsimp only at e679_o h678_o
    subst e679_o
    show gQ (sb_121_19 0 x674_o x675_o x676_o x677_o) _
    unfold sb_121_19
    refine gQ_ite ?_ ?_
    · refine gQ_chk2 (fun ha680_o hb681_o => ?_)
      refine gQ_chk2 (fun ha682_o hb683_o => ?_)
      refine gQ_ite ?_ ?_
      · exact gQ_ret ⟨rfl, h678_o⟩
      · exact gQ_ret ⟨rfl, h678_o⟩
    · refine gQ_map ?_
      exact gQ_ret ⟨rfl, h678_o⟩
  · refine gQ_map ?_
    exact gQ_ret h671_o

theorem o_122 {W : Nat → Nat → Bool} {g s : gS} {a0 : Nat} {a1 : Int} (hg_o : RF g) (hU_o : ∀ a k, csq a k = true → W a k = true) (ea0_o : a0 = 0) (h_o : Fw W g s) : gQ (f_122 a0 a1 s) (fun r => Fw W g r.2.2.2) := by
  subst ea0_o
  unfold f_122
  refine gQ_t0 (A := Fw W g) (o_138 hg_o hU_o rfl h_o) (fun s1_l h684_o => ?_) (fun _ _ hz_o => hz_o)
  refine gQ_loop (fun y_l => y_l.1 = 0 ∧ Fw W g (y_l.2.2.2.2)) (fun y_l hy_o => ?_) ⟨rfl, h684_o⟩
  obtain ⟨x685_o, x686_o, x687_o, x688_o, x689_o⟩ := y_l
  obtain ⟨e691_o, h690_o⟩ := hy_o
  dsimp only at e691_o h690_o
  subst e691_o
  show gQ (sb_122_11 0 x686_o x687_o x688_o x689_o) _
  unfold sb_122_11
  dsimp only
  refine gQ_ite ?_ ?_
  · refine gQ_chk2 (fun ha692_o hb693_o => ?_)
    exact gQ_ret ⟨rfl, h690_o⟩
  · refine gQ_map ?_
    exact gQ_ret h690_o

theorem o_123 {W : Nat → Nat → Bool} {g s : gS} {a0 : Nat} (hg_o : RF g) (hU_o : ∀ a k, csq a k = true → W a k = true) (ea0_o : a0 = 0) (h_o : Fw W g s) : gQ (f_123 a0 s) (fun r => Fw W g r.2.2.2) := by
  subst ea0_o
  unfold f_123
  refine gQ_loop (fun y_l => y_l.1 = 0 ∧ Fw W g (y_l.2.2.2)) (fun y_l hy_o => ?_) ⟨rfl, h_o⟩
  obtain ⟨x694_o, x695_o, x696_o, x697_o⟩ := y_l
  obtain ⟨e699_o, h698_o⟩ := hy_o
  dsimp only at e699_o h698_o
  subst e699_o
  show gQ (sb_123_4 0 x695_o x696_o x697_o) _
  unfold sb_123_4
  refine gQ_ite ?_ ?_
  · refine gQ_ite ?_ ?_
    · unfold fb_123_41
      exact gQ_ret ⟨rfl, h698_o⟩
    · refine gQ_chk2 (fun ha700_o hb701_o => ?_)
      refine gQ_chk2 (fun ha702_o hb703_o => ?_)
      refine gQ_ite ?_ ?_
      · unfold fb_123_41
        exact gQ_ret ⟨rfl, h698_o⟩
      · exact gQ_ret ⟨rfl, h698_o⟩
  · refine gQ_map ?_
    exact gQ_ret h698_o

theorem o_124 {W : Nat → Nat → Bool} {g s : gS} {a0 : Nat} {a1 : Int} (hg_o : RF g) (hU_o : ∀ a k, csq a k = true → W a k = true) (ea0_o : a0 = 0) (h_o : Fw W g s) : gQ (f_124 a0 a1 s) (fun r => Fw W g r.2.2.2) := by
  subst ea0_o
  unfold f_124
  refine gQ_ite ?_ ?_
  · unfold fb_124_13
    refine gQ_v1 (A := Fw W g) (o_29 hg_o hU_o  h_o) (fun v2 s1_l h704_o => ?_)
    exact gQ_ret h704_o
  · unfold fb_124_13
    refine gQ_v1 (A := Fw W g) (o_29 hg_o hU_o  h_o) (fun v2 s1_l h705_o => ?_)
    exact gQ_ret h705_o

theorem o_125 {W : Nat → Nat → Bool} {g s : gS} {a0 : Nat} {a1 : Int} {a2 : Int} (hg_o : RF g) (hU_o : ∀ a k, csq a k = true → W a k = true) (ea0_o : a0 = 0) (h_o : Fw W g s) : gQ (f_125 a0 a1 a2 s) (fun r => Fw W g r.2.2.2) := by
  subst ea0_o
  unfold f_125
  refine gQ_t0 (A := Fw W g) (o_138 hg_o hU_o rfl h_o) (fun s1_l h706_o => ?_) (fun _ _ hz_o => hz_o)
  refine gQ_v0 (A := Fw W g) (o_141 hg_o hU_o rfl h706_o) (fun s3_l h707_o => ?_)
  refine gQ_ite ?_ ?_
  · exact gQ_ret h707_o
  · refine gQ_v1 (A := Fw W g) (o_29 hg_o hU_o  h707_o) (fun v6 s5 h708_o => ?_)
    refine gQ_v1 (A := Fw W g) (o_264 hg_o hU_o  h708_o) (fun v8 s7 h709_o => ?_)
    exact gQ_ret h709_o

theorem o_126 {W : Nat → Nat → Bool} {g s : gS} {a0 : Nat} {a1 : Int} {a2 : Int} (hg_o : RF g) (hU_o : ∀ a k, csq a k = true → W a k = true) (ea0_o : a0 = 0) (h_o : Fw W g s) : gQ (f_126 a0 a1 a2 s) (fun r => Fw W g r.2.2.2) := by
  subst ea0_o
  unfold f_126
  refine gQ_t0 (A := Fw W g) (o_138 hg_o hU_o rfl h_o) (fun s1_l h710_o => ?_) (fun _ _ hz_o => hz_o)
  refine gQ_loop (fun y_l => y_l.1 = 0 ∧ Fw W g (y_l.2.2.2.2.2)) (fun y_l hy_o => ?_) ⟨rfl, h710_o⟩
  obtain ⟨x711_o, x712_o, x713_o, x714_o, x715_o, x716_o⟩ := y_l
  obtain ⟨e718_o, h717_o⟩ := hy_o
  dsimp only at e718_o h717_o
  subst e718_o
  show gQ (sb_126_14 0 x712_o x713_o x714_o x715_o x716_o) _
  unfold sb_126_14
  dsimp only
  refine gQ_ite ?_ ?_
  · refine gQ_map ?_
    exact gQ_ret h717_o
  · refine gQ_v0 (A := Fw W g) (o_141 hg_o hU_o rfl h717_o) (fun s3_l h719_o => ?_)
    refine gQ_ite ?_ ?_
    · unfold fb_126_48
      dsimp only
      refine gQ_ite ?_ ?_
      · exact gQ_ret ⟨rfl, h719_o⟩
      · exact gQ_ret ⟨rfl, h719_o⟩
    · unfold fb_126_48
      dsimp only
      refine gQ_ite ?_ ?_
      · exact gQ_ret ⟨rfl, h719_o⟩
      · exact gQ_ret ⟨rfl, h719_o⟩

theorem o_127 {W : Nat → Nat → Bool} {g s : gS} {a0 : Nat} {a1 : Int} {a2 : Int} (hg_o : RF g) (hU_o : ∀ a k, csq a k = true → W a k = true) (ea0_o : a0 = 0) (h_o : Fw W g s) : gQ (f_127 a0 a1 a2 s) (fun r => Fw W g r.2.2.2) := by
  subst ea0_o
  unfold f_127
  refine gQ_t0 (A := Fw W g) (o_135 hg_o hU_o rfl h_o) (fun s1_l h720_o => ?_) (fun _ _ hz_o => hz_o)
  refine gQ_v1 (A := Fw W g) (o_57 hg_o hU_o  h720_o) (fun v4_l s3_l h721_o => ?_)
  exact gQ_ret h721_o

theorem o_128 {W : Nat → Nat → Bool} {g s : gS} {a0 : Nat} {a1 : Int} {a2 : Int} (hg_o : RF g) (hU_o : ∀ a k, csq a k = true → W a k = true) (ea0_o : a0 = 0) (h_o : Fw W g s) : gQ (f_128 a0 a1 a2 s) (fun r => Fw W g r.2.2.2) := by
  subst ea0_o
  unfold f_128
  refine gQ_ite ?_ ?_
  · unfold fb_128_9
    exact gQ_ret (Fw_n h_o)
  · refine gQ_ite ?_ ?_
    · refine gQ_v1 (A := Fw W g) (o_56 hg_o hU_o  h_o) (fun v2 s1_l h722_o => ?_)
      exact gQ_ret h722_o
    · unfold fb_128_9
      exact gQ_ret (Fw_n h_o)

theorem o_133 {W : Nat → Nat → Bool} {g s : gS} {a0 : Nat} {a1 : Int} (hg_o : RF g) (hU_o : ∀ a k, csq a k = true → W a k = true) (ea0_o : a0 = 0) (h_o : Fw W g s) : gQ (f_133 a0 a1 s) (fun r => Fw W g r.2.2.2) := by
  subst ea0_o
  unfold f_133
  refine gQ_ite ?_ ?_
  · exact gQ_ret h_o
  · refine gQ_ite ?_ ?_
    · exact gQ_ret h_o
    · refine gQ_ite ?_ ?_
      · exact gQ_ret h_o
      · refine gQ_ite ?_ ?_
        · exact gQ_ret h_o
        · refine gQ_ite ?_ ?_
          · exact gQ_ret h_o
          · refine gQ_ite ?_ ?_
            · exact gQ_ret h_o
            · refine gQ_ite ?_ ?_
              · refine gQ_ite ?_ ?_
                · exact gQ_ret h_o
                · refine gQ_ite ?_ ?_
                  · exact gQ_none
                  · exact gQ_ret h_o
              · refine gQ_ite ?_ ?_
                · exact gQ_ret h_o
                · refine gQ_ite ?_ ?_
                  · exact gQ_ret h_o
                  · refine gQ_ite ?_ ?_
                    · exact gQ_ret h_o
                    · refine gQ_ite ?_ ?_
                      · exact gQ_ret h_o
                      · refine gQ_ite ?_ ?_
                        · exact gQ_ret h_o
                        · refine gQ_ite ?_ ?_
                          · exact gQ_ret h_o
                          · refine gQ_ite ?_ ?_
                            · refine gQ_v1 (A := Fw W g) (o_30 hg_o hU_o  h_o) (fun v2 s1_l h723_o => ?_)
                              exact gQ_ret h723_o
                            · refine gQ_ite ?_ ?_
                              · exact gQ_ret h_o
                              · refine gQ_ite ?_ ?_
                                · exact gQ_ret h_o
                                · exact gQ_ret h_o
