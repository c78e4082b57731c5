-- X11_kept
theorem tb_124_13 {X : gX} (ok : gOK X) (hX : gHX X) (d : Nat)  (w0 : Int) (w1 : Nat) (s : gS) : Go X em_124 124 (d + 1) 13 [] [] [(0, w0, 0), (18, 0, w1)] s 0 0 (fb_124_13 w0 w1 s) some := by
  delta fb_124_13
  refine g_rb gs_124 3 (cd' := gb_124_13) rfl rfl ?_
  refine g_cv1 ok (me_29 hX) rfl rfl rfl rfl (t_29 ok hX _ w1 w0 s) (fun v2 s1 => ?_)
  exact g_ireturn ok rfl rfl (rfl)
theorem t_124 {X : gX} (ok : gOK X) (hX : gHX X) (d : Nat) (a0 : Nat) (a1 : Int) (s : gS) : Go X em_124 124 (d + 1) 0 [] [(0, (27, 0, a0)), (1, (0, a1, 0))] [] s 0 0 (f_124 a0 a1 s) some := by
  delta f_124
  refine g_rb gs_124 0 (cd' := gb_124_0) rfl rfl ?_
  refine g_aload_n ok rfl rfl ?_
  refine g_getr ok 18 rfl rfl rfl ?_
  refine g_iload_n ok rfl ?_
  refine g_if_eq ok rfl (fun _ => ?_) (fun _ => ?_)
  · refine g_rb gs_124 2 (cd' := gb_124_12) rfl rfl ?_
    refine g_iconst ok (v := 0) rfl ?_
    exact g_wk ok [] trivial (tb_124_13 ok hX d  0 (gR s a0 5) s)
  · refine g_rb gs_124 1 (cd' := gb_124_8) rfl rfl ?_
    refine g_iconst ok (v := 1) rfl ?_
    refine g_goto ok rfl ?_
    exact g_wk ok [] trivial (tb_124_13 ok hX d  1 (gR s a0 5) s)
-- X11_trial
theorem t_125 {X : gX} (ok : gOK X) (hX : gHX X) (d : Nat) (a0 : Nat) (a1 : Int) (a2 : Int) (s : gS) : Go X em_125 125 (d + 7) 0 [] [(0, (27, 0, a0)), (1, (0, a1, 0)), (2, (0, a2, 0))] [] s 0 0 (f_125 a0 a1 a2 s) some := by
  delta f_125
  refine g_rb gs_125 0 (cd' := gb_125_0) rfl rfl ?_
  refine g_aload_n ok rfl rfl ?_
  refine g_iload_n ok rfl ?_
  refine g_iconst ok (v := 0) rfl ?_
  refine g_sipush ok (v := 200) rfl ?_
  refine g_cvt0 ok (me_138 hX) rfl rfl rfl rfl rfl (fun _ => rfl) (t_138 ok hX _ a0 a1 0 200 s) (fun s1 => ?_)
  refine g_aload_n ok rfl rfl ?_
  refine g_iload_n ok rfl ?_
  refine g_aload_n ok rfl rfl ?_
  refine g_getr ok 16 rfl rfl rfl ?_
  refine g_geti ok rfl rfl ?_
  refine g_aload_n ok rfl rfl ?_
  refine g_getr ok 18 rfl rfl rfl ?_
  refine g_geti ok rfl rfl ?_
  refine g_cv0 ok (me_141 hX) rfl rfl rfl (t_141 ok hX _ a0 a1 (gI s1 (gR s1 a0 4) 8) (gI s1 (gR s1 a0 5) 9) s1) (fun s3 => ?_)
  refine g_iload_n ok rfl ?_
  refine g_if_eq ok rfl (fun _ => ?_) (fun _ => ?_)
  · refine g_rb gs_125 2 (cd' := gb_125_46) rfl rfl ?_
    refine g_aload_n ok rfl rfl ?_
    refine g_getr ok 18 rfl rfl rfl ?_
    refine g_geti ok rfl rfl ?_
    refine g_rb gs_125 3 (cd' := gb_125_53) rfl rfl ?_
    exact g_ireturn ok rfl rfl (rfl)
  · refine g_rb gs_125 1 (cd' := gb_125_32) rfl rfl ?_
    refine g_aload_n ok rfl rfl ?_
    refine g_getr ok 18 rfl rfl rfl ?_
    refine g_iconst ok (v := 0) rfl ?_
    refine g_cv1 ok (me_29 hX) rfl rfl rfl rfl (t_29 ok hX _ (gR s3 a0 9) 0 s3) (fun v6 s5 => ?_)
    refine g_cs1 ok (me_264 hX) rfl rfl rfl (t_264 ok hX _ v6 s5) (fun v8 s7 => ?_)
    refine g_goto ok rfl ?_
    refine g_rb gs_125 3 (cd' := gb_125_53) rfl rfl ?_
    exact g_ireturn ok rfl rfl (rfl)
-- X11_span
theorem tb_126_48 {X : gX} (ok : gOK X) (hX : gHX X) (d : Nat) {k14 : (Nat × Int × Int × Int × Int × gS) ⊕ gO → Option gO} (hl14 : ∀ y : (Nat × Int × Int × Int × Int × gS), Go X em_126 126 (d + 7) 14 [] [(0, (27, 0, y.1)), (1, (0, y.2.1, 0)), (2, (0, y.2.2.1, 0)), (3, (0, y.2.2.2.1, 0)), (4, (0, y.2.2.2.2.1, 0))] [] y.2.2.2.2.2 1 6 (some (Sum.inl y)) k14) (hr14 : ∀ q, k14 (Sum.inr q) = some q) (x0 : Nat) (x1 : Int) (x2 : Int) (x3 : Int) (x4 : Int) (s : gS) : Go X em_126 126 (d + 7) 48 [] [(0, (27, 0, x0)), (1, (0, x1, 0)), (2, (0, x2, 0)), (3, (0, x3, 0)), (4, (0, x4, 0))] [] s 1 6 (fb_126_48 x0 x1 x2 x3 x4 s) k14 := by
  delta fb_126_48
  refine g_rb gs_126 4 (cd' := gb_126_48) rfl rfl ?_
  refine g_iload_n ok rfl ?_
  refine g_if_eq ok rfl (fun _ => ?_) (fun _ => ?_)
  · refine g_rb gs_126 6 (cd' := gb_126_66) rfl rfl ?_
    refine g_iload_n ok rfl ?_
    refine g_aload_n ok rfl rfl ?_
    refine g_getr ok 18 rfl rfl rfl ?_
    refine g_geti ok rfl rfl ?_
    refine g_min ok rfl ?_
    refine g_rb gs_126 7 (cd' := gb_126_77) rfl rfl ?_
    let v6 : Int := (min x3 (gI s (gR s x0 9) 6))
    refine g_istore_n ok rfl (L' := [(0, (27, 0, x0)), (1, (0, x1, 0)), (2, (0, x2, 0)), (3, (0, v6, 0)), (4, (0, x4, 0))]) rfl ?_
    refine g_iinc ok rfl rfl (L' := [(0, (27, 0, x0)), (1, (0, x1, 0)), (2, (0, x2, 0)), (3, (0, v6, 0)), (4, (0, (g32 (x4 + 1)), 0))]) rfl ?_
    refine g_goto ok rfl ?_
    exact g_wk ok [(0, (27, 0, x0)), (1, (0, x1, 0)), (2, (0, x2, 0)), (3, (0, v6, 0)), (4, (0, (g32 (x4 + 1)), 0))] ⟨rfl, rfl, rfl, rfl, rfl, trivial⟩ (hl14 (x0, x1, x2, v6, (g32 (x4 + 1)), s))
  · refine g_rb gs_126 5 (cd' := gb_126_52) rfl rfl ?_
    refine g_iload_n ok rfl ?_
    refine g_aload_n ok rfl rfl ?_
    refine g_getr ok 18 rfl rfl rfl ?_
    refine g_geti ok rfl rfl ?_
    refine g_max ok rfl ?_
    refine g_goto ok rfl ?_
    refine g_rb gs_126 7 (cd' := gb_126_77) rfl rfl ?_
    let v7 : Int := (max x3 (gI s (gR s x0 9) 6))
    refine g_istore_n ok rfl (L' := [(0, (27, 0, x0)), (1, (0, x1, 0)), (2, (0, x2, 0)), (3, (0, v7, 0)), (4, (0, x4, 0))]) rfl ?_
    refine g_iinc ok rfl rfl (L' := [(0, (27, 0, x0)), (1, (0, x1, 0)), (2, (0, x2, 0)), (3, (0, v7, 0)), (4, (0, (g32 (x4 + 1)), 0))]) rfl ?_
    refine g_goto ok rfl ?_
    exact g_wk ok [(0, (27, 0, x0)), (1, (0, x1, 0)), (2, (0, x2, 0)), (3, (0, v7, 0)), (4, (0, (g32 (x4 + 1)), 0))] ⟨rfl, rfl, rfl, rfl, rfl, trivial⟩ (hl14 (x0, x1, x2, v7, (g32 (x4 + 1)), s))
theorem ts_126_14 {X : gX} (ok : gOK X) (hX : gHX X) (d : Nat) {k14 : (Nat × Int × Int × Int × Int × gS) ⊕ gO → Option gO} (hl14 : ∀ y : (Nat × Int × Int × Int × Int × gS), Go X em_126 126 (d + 7) 14 [] [(0, (27, 0, y.1)), (1, (0, y.2.1, 0)), (2, (0, y.2.2.1, 0)), (3, (0, y.2.2.2.1, 0)), (4, (0, y.2.2.2.2.1, 0))] [] y.2.2.2.2.2 1 6 (some (Sum.inl y)) k14) (hr14 : ∀ q, k14 (Sum.inr q) = some q) (x0 : Nat) (x1 : Int) (x2 : Int) (x3 : Int) (x4 : Int) (s : gS) : Go X em_126 126 (d + 7) 14 [] [(0, (27, 0, x0)), (1, (0, x1, 0)), (2, (0, x2, 0)), (3, (0, x3, 0)), (4, (0, x4, 0))] [] s 1 6 (sb_126_14 x0 x1 x2 x3 x4 s) k14 := by
  delta sb_126_14
  refine g_rb gs_126 1 (cd' := gb_126_14) rfl rfl ?_
  refine g_iload ok rfl ?_
  refine g_bipush ok (v := 6) rfl ?_
  refine g_ic_gt ok rfl (fun _ => ?_) (fun _ => ?_)
  · refine g_map hr14 ?_
    refine g_rb gs_126 8 (cd' := gb_126_84) rfl rfl ?_
    refine g_iload_n ok rfl ?_
    exact g_ireturn ok rfl rfl (rfl)
  · refine g_rb gs_126 2 (cd' := gb_126_21) rfl rfl ?_
    refine g_aload_n ok rfl rfl ?_
    refine g_iload_n ok rfl ?_
    refine g_aload_n ok rfl rfl ?_
    refine g_getr ok 16 rfl rfl rfl ?_
    refine g_geti ok rfl rfl ?_
    refine g_iload ok rfl ?_
    refine g_cv0 ok (me_141 hX) rfl rfl rfl (t_141 ok hX _ x0 x1 (gI s (gR s x0 4) 8) x4 s) (fun s3 => ?_)
    refine g_iload_n ok rfl ?_
    refine g_iconst ok (v := (-1)) rfl ?_
    refine g_ic_ne ok rfl (fun _ => ?_) (fun _ => ?_)
    · refine g_rb gs_126 3 (cd' := gb_126_40) rfl rfl ?_
      refine g_aload_n ok rfl rfl ?_
      refine g_getr ok 18 rfl rfl rfl ?_
      refine g_geti ok rfl rfl ?_
      let v5 : Int := (gI s3 (gR s3 x0 9) 6)
      refine g_istore_n ok rfl (L' := [(0, (27, 0, x0)), (1, (0, x1, 0)), (2, (0, x2, 0)), (3, (0, v5, 0)), (4, (0, x4, 0))]) rfl ?_
      exact g_wk ok [(0, (27, 0, x0)), (1, (0, x1, 0)), (2, (0, x2, 0)), (3, (0, v5, 0)), (4, (0, x4, 0))] ⟨rfl, rfl, rfl, rfl, rfl, trivial⟩ (tb_126_48 ok hX d hl14 hr14 x0 x1 x2 v5 x4 s3)
    · exact g_wk ok [(0, (27, 0, x0)), (1, (0, x1, 0)), (2, (0, x2, 0)), (3, (0, x3, 0)), (4, (0, x4, 0))] ⟨rfl, rfl, rfl, rfl, rfl, trivial⟩ (tb_126_48 ok hX d hl14 hr14 x0 x1 x2 x3 x4 s3)
theorem tl_126_14 {X : gX} (ok : gOK X) (hX : gHX X) (d : Nat)  (y : (Nat × Int × Int × Int × Int × gS)) : Go X em_126 126 (d + 7) 14 [] [(0, (27, 0, y.1)), (1, (0, y.2.1, 0)), (2, (0, y.2.2.1, 0)), (3, (0, y.2.2.2.1, 0)), (4, (0, y.2.2.2.2.1, 0))] [] y.2.2.2.2.2 1 6 (gloop (st_126_14) y) some :=
  g_loop (Lh := fun y => [(0, (27, 0, y.1)), (1, (0, y.2.1, 0)), (2, (0, y.2.2.1, 0)), (3, (0, y.2.2.2.1, 0)), (4, (0, y.2.2.2.2.1, 0))]) (sh := fun y => y.2.2.2.2.2) (fun k14 hl14 hr14 y => ts_126_14 ok hX d  hl14 hr14 y.1 y.2.1 y.2.2.1 y.2.2.2.1 y.2.2.2.2.1 y.2.2.2.2.2) y
theorem t_126 {X : gX} (ok : gOK X) (hX : gHX X) (d : Nat) (a0 : Nat) (a1 : Int) (a2 : Int) (s : gS) : Go X em_126 126 (d + 7) 0 [] [(0, (27, 0, a0)), (1, (0, a1, 0)), (2, (0, a2, 0))] [] s 0 0 (f_126 a0 a1 a2 s) some := by
  delta f_126
  refine g_rb gs_126 0 (cd' := gb_126_0) rfl rfl ?_
  refine g_aload_n ok rfl rfl ?_
  refine g_iload_n ok rfl ?_
  refine g_iconst ok (v := 0) rfl ?_
  refine g_sipush ok (v := 200) rfl ?_
  refine g_cvt0 ok (me_138 hX) rfl rfl rfl rfl rfl (fun _ => rfl) (t_138 ok hX _ a0 a1 0 200 s) (fun s1 => ?_)
  refine g_iconst ok (v := (-1)) rfl ?_
  refine g_istore_n ok rfl (L' := [(0, (27, 0, a0)), (1, (0, a1, 0)), (2, (0, a2, 0)), (3, (0, (-1), 0))]) rfl ?_
  refine g_iconst ok (v := 1) rfl ?_
  refine g_istore ok rfl (L' := [(0, (27, 0, a0)), (1, (0, a1, 0)), (2, (0, a2, 0)), (3, (0, (-1), 0)), (4, (0, 1, 0))]) rfl ?_
  exact g_wk ok [(0, (27, 0, a0)), (1, (0, a1, 0)), (2, (0, a2, 0)), (3, (0, (-1), 0)), (4, (0, 1, 0))] ⟨rfl, rfl, rfl, rfl, rfl, trivial⟩ (tl_126_14 ok hX d  (a0, a1, a2, (-1), 1, s1))
-- X11_led
theorem t_127 {X : gX} (ok : gOK X) (hX : gHX X) (d : Nat) (a0 : Nat) (a1 : Int) (a2 : Int) (s : gS) : Go X em_127 127 (d + 1) 0 [] [(0, (27, 0, a0)), (1, (0, a1, 0)), (2, (0, a2, 0))] [] s 0 0 (f_127 a0 a1 a2 s) some := by
  delta f_127
  refine g_rb gs_127 0 (cd' := gb_127_0) rfl rfl ?_
  refine g_aload_n ok rfl rfl ?_
  refine g_iload_n ok rfl ?_
  refine g_cvt0 ok (me_135 hX) rfl rfl rfl rfl rfl (fun _ => rfl) (t_135 ok hX _ a0 a1 s) (fun s1 => ?_)
  refine g_aload_n ok rfl rfl ?_
  refine g_getr ok 18 rfl rfl rfl ?_
  refine g_getr ok 22 rfl rfl rfl ?_
  refine g_iload_n ok rfl ?_
  refine g_iload_n ok rfl ?_
  refine g_cv1 ok (me_57 hX) rfl rfl rfl rfl (t_57 ok hX _ (gR s1 (gR s1 a0 5) 3) a1 a2 s1) (fun v4 s3 => ?_)
  exact g_ireturn ok rfl rfl (rfl)
-- X11_log
theorem tb_128_9 {X : gX} (ok : gOK X) (hX : gHX X) (d : Nat)   (s : gS) : Go X em_128 128 (d + 1) 9 [] [] [] s 0 0 (fb_128_9  s) some := by
  delta fb_128_9
  refine g_rb gs_128 2 (cd' := gb_128_9) rfl rfl ?_
  exact g_throw ok rfl rfl (rfl)
theorem t_128 {X : gX} (ok : gOK X) (hX : gHX X) (d : Nat) (a0 : Nat) (a1 : Int) (a2 : Int) (s : gS) : Go X em_128 128 (d + 1) 0 [] [(0, (27, 0, a0)), (1, (0, a1, 0)), (2, (0, a2, 0))] [] s 0 0 (f_128 a0 a1 a2 s) some := by
  delta f_128
  refine g_rb gs_128 0 (cd' := gb_128_0) rfl rfl ?_
  refine g_iload_n ok rfl ?_
  refine g_if_lt ok rfl (fun _ => ?_) (fun _ => ?_)
  · exact g_wk ok [] trivial (tb_128_9 ok hX d   s)
  · refine g_rb gs_128 1 (cd' := gb_128_4) rfl rfl ?_
    refine g_iload_n ok rfl ?_
    refine g_iconst ok (v := 4) rfl ?_
    refine g_ic_lt ok rfl (fun _ => ?_) (fun _ => ?_)
    · refine g_rb gs_128 3 (cd' := gb_128_19) rfl rfl ?_
      refine g_aload_n ok rfl rfl ?_
      refine g_getr ok 18 rfl rfl rfl ?_
      refine g_getr ok 22 rfl rfl rfl ?_
      refine g_iload_n ok rfl ?_
      refine g_iload_n ok rfl ?_
      refine g_cv1 ok (me_56 hX) rfl rfl rfl rfl (t_56 ok hX _ (gR s (gR s a0 5) 3) a1 a2 s) (fun v2 s1 => ?_)
      exact g_ireturn ok rfl rfl (rfl)
    · exact g_wk ok [] trivial (tb_128_9 ok hX d   s)
-- X11_seed
theorem t_129 {X : gX} (ok : gOK X) (hX : gHX X) (d : Nat) (a0 : Nat) (a1 : Int) (s : gS) : Go X em_129 129 d 0 [] [(0, (27, 0, a0)), (1, (0, a1, 0))] [] s 0 0 (f_129 a0 a1 s) some := by
  delta f_129
  refine g_rb gs_129 0 (cd' := gb_129_0) rfl rfl ?_
  refine g_aload_n ok rfl rfl ?_
  refine g_getr ok 18 rfl rfl rfl ?_
  refine g_geti ok rfl rfl ?_
  let v1 : Int := (gI s (gR s a0 5) 9)
  refine g_istore_n ok rfl (L' := [(0, (27, 0, a0)), (1, (0, a1, 0)), (2, (0, v1, 0))]) rfl ?_
  refine g_aload_n ok rfl rfl ?_
  refine g_getr ok 18 rfl rfl rfl ?_
  refine g_iload_n ok rfl ?_
  refine g_puti ok rfl rfl rfl ?_
  let s2 : gS := gw s (gR s a0 5) 9 a1
  refine g_iload_n ok rfl ?_
  exact g_ireturn ok rfl rfl (rfl)
-- X11_undo
theorem t_130 {X : gX} (ok : gOK X) (hX : gHX X) (d : Nat) (a0 : Nat) (s : gS) : Go X em_130 130 (d + 3) 0 [] [(0, (27, 0, a0))] [] s 0 0 (f_130 a0 s) some := by
  delta f_130
  refine g_rb gs_130 0 (cd' := gb_130_0) rfl rfl ?_
  refine g_aload_n ok rfl rfl ?_
  refine g_geti ok rfl rfl ?_
  refine g_iconst ok (v := 1) rfl ?_
  refine g_ic_ge ok rfl (fun _ => ?_) (fun _ => ?_)
  · refine g_rb gs_130 1 (cd' := gb_130_8) rfl rfl ?_
    refine g_iconst ok (v := 0) rfl ?_
    exact g_zreturn ok rfl (Or.inl rfl) rfl (rfl)
  · refine g_rb gs_130 2 (cd' := gb_130_10) rfl rfl ?_
    refine g_aload_n ok rfl rfl ?_
    refine g_getr ok 18 rfl rfl rfl ?_
    refine g_aload_n ok rfl rfl ?_
    refine g_getr ok 215 rfl rfl rfl ?_
    refine g_aload_n ok rfl rfl ?_
    refine g_geti ok rfl rfl ?_
    refine g_aaload3 ok (n := 12) rfl rfl (fun _ _ => ?_)
    refine g_cv0 ok (me_22 hX) rfl rfl rfl (t_22 ok hX _ (gR s a0 5) (gR s (gR s a0 12) ((gI s a0 13) : Int).toNat) s) (fun s1 => ?_)
    refine g_aload_n ok rfl rfl ?_
    refine g_aload_n ok rfl rfl ?_
    refine g_geti ok rfl rfl ?_
    refine g_bipush ok (v := 12) rfl ?_
    refine g_iadd ok ?_
    refine g_iconst ok (v := 1) rfl ?_
    refine g_isub ok ?_
    refine g_bipush ok (v := 12) rfl ?_
    refine g_irem ok (by decide) ?_
    refine g_puti ok rfl rfl rfl ?_
    let s3 : gS := gw s1 a0 13 (grem (g32 ((g32 ((gI s1 a0 13) + 12)) - 1)) 12)
    refine g_aload_n ok rfl rfl ?_
    refine g_dup ok rfl ?_
    refine g_geti ok rfl rfl ?_
    refine g_iconst ok (v := 1) rfl ?_
    refine g_isub ok ?_
    refine g_puti ok rfl rfl rfl ?_
    let s4 : gS := gw s3 a0 14 (g32 ((gI s3 a0 14) - 1))
    refine g_iconst ok (v := 1) rfl ?_
    exact g_zreturn ok rfl (Or.inr rfl) rfl (rfl)
-- X11_image
theorem t_131 {X : gX} (ok : gOK X) (hX : gHX X) (d : Nat) (a0 : Nat) (s : gS) : Go X em_131 131 (d + 3) 0 [] [(0, (27, 0, a0))] [] s 0 0 (f_131 a0 s) some := by
  delta f_131
  refine g_rb gs_131 0 (cd' := gb_131_0) rfl rfl ?_
  refine g_aload_n ok rfl rfl ?_
  refine g_getr ok 16 rfl rfl rfl ?_
  refine g_aload_n ok rfl rfl ?_
  refine g_getr ok 16 rfl rfl rfl ?_
  refine g_cv0 ok (me_1 hX) rfl rfl rfl (t_1 ok hX _ (gR s a0 10) (gR s a0 4) s) (fun s1 => ?_)
  refine g_aload_n ok rfl rfl ?_
  refine g_getr ok 18 rfl rfl rfl ?_
  refine g_aload_n ok rfl rfl ?_
  refine g_getr ok 18 rfl rfl rfl ?_
  refine g_cv0 ok (me_22 hX) rfl rfl rfl (t_22 ok hX _ (gR s1 a0 11) (gR s1 a0 5) s1) (fun s3 => ?_)
  refine g_aload_n ok rfl rfl ?_
  refine g_iconst ok (v := 1) rfl ?_
  refine g_putz ok rfl rfl rfl (fun _ => ?_)
  let s5 : gS := gw s3 a0 15 1
  exact g_return ok rfl rfl (rfl)
-- X11_back
theorem t_132 {X : gX} (ok : gOK X) (hX : gHX X) (d : Nat) (a0 : Nat) (s : gS) : Go X em_132 132 (d + 3) 0 [] [(0, (27, 0, a0))] [] s 0 0 (f_132 a0 s) some := by
  delta f_132
  refine g_rb gs_132 0 (cd' := gb_132_0) rfl rfl ?_
  refine g_aload_n ok rfl rfl ?_
  refine g_geti ok rfl rfl ?_
  refine g_if_ne ok rfl (fun _ => ?_) (fun _ => ?_)
  · refine g_rb gs_132 1 (cd' := gb_132_7) rfl rfl ?_
    refine g_iconst ok (v := 0) rfl ?_
    exact g_zreturn ok rfl (Or.inl rfl) rfl (rfl)
  · refine g_rb gs_132 2 (cd' := gb_132_9) rfl rfl ?_
    refine g_aload_n ok rfl rfl ?_
    refine g_getr ok 16 rfl rfl rfl ?_
    refine g_aload_n ok rfl rfl ?_
    refine g_getr ok 16 rfl rfl rfl ?_
    refine g_cv0 ok (me_1 hX) rfl rfl rfl (t_1 ok hX _ (gR s a0 4) (gR s a0 10) s) (fun s1 => ?_)
    refine g_aload_n ok rfl rfl ?_
    refine g_getr ok 18 rfl rfl rfl ?_
    refine g_aload_n ok rfl rfl ?_
    refine g_getr ok 18 rfl rfl rfl ?_
    refine g_cv0 ok (me_22 hX) rfl rfl rfl (t_22 ok hX _ (gR s1 a0 5) (gR s1 a0 11) s1) (fun s3 => ?_)
    refine g_aload_n ok rfl rfl ?_
    refine g_iconst ok (v := 0) rfl ?_
    refine g_puti ok rfl rfl rfl ?_
    let s5 : gS := gw s3 a0 14 0
    refine g_iconst ok (v := 1) rfl ?_
    exact g_zreturn ok rfl (Or.inr rfl) rfl (rfl)
-- X11_count
theorem t_133 {X : gX} (ok : gOK X) (hX : gHX X) (d : Nat) (a0 : Nat) (a1 : Int) (s : gS) : Go X em_133 133 (d + 1) 0 [] [(0, (27, 0, a0)), (1, (0, a1, 0))] [] s 0 0 (f_133 a0 a1 s) some := by
  delta f_133
  refine g_rb gs_133 0 (cd' := gb_133_0) rfl rfl ?_
  refine g_iload_n ok rfl ?_
  refine g_ite (fun hq => g_tswo ok (Or.inl hq) rfl ?_) (fun hq0 => ?_)
  · refine g_rb gs_133 19 (cd' := gb_133_213) rfl rfl ?_
    refine g_iconst ok (v := (-1)) rfl ?_
    exact g_ireturn ok rfl rfl (rfl)
  refine g_ite (fun hq => g_tsw ok (c := 0) (by omega) rfl rfl ?_) (fun hq1 => ?_)
  · refine g_rb gs_133 1 (cd' := gb_133_76) rfl rfl ?_
    refine g_aload_n ok rfl rfl ?_
    refine g_getr ok 16 rfl rfl rfl ?_
    refine g_geti ok rfl rfl ?_
    exact g_ireturn ok rfl rfl (rfl)
  refine g_ite (fun hq => g_tsw ok (c := 1) (by omega) rfl rfl ?_) (fun hq2 => ?_)
  · refine g_rb gs_133 2 (cd' := gb_133_84) rfl rfl ?_
    refine g_aload_n ok rfl rfl ?_
    refine g_getr ok 18 rfl rfl rfl ?_
    refine g_geti ok rfl rfl ?_
    exact g_ireturn ok rfl rfl (rfl)
  refine g_ite (fun hq => g_tsw ok (c := 2) (by omega) rfl rfl ?_) (fun hq3 => ?_)
  · refine g_rb gs_133 3 (cd' := gb_133_92) rfl rfl ?_
    refine g_aload_n ok rfl rfl ?_
    refine g_getr ok 16 rfl rfl rfl ?_
    refine g_geti ok rfl rfl ?_
    exact g_ireturn ok rfl rfl (rfl)
  refine g_ite (fun hq => g_tsw ok (c := 3) (by omega) rfl rfl ?_) (fun hq4 => ?_)
  · refine g_rb gs_133 4 (cd' := gb_133_100) rfl rfl ?_
    refine g_aload_n ok rfl rfl ?_
    refine g_getr ok 18 rfl rfl rfl ?_
    refine g_geti ok rfl rfl ?_
    exact g_ireturn ok rfl rfl (rfl)
  refine g_ite (fun hq => g_tsw ok (c := 4) (by omega) rfl rfl ?_) (fun hq5 => ?_)
  · refine g_rb gs_133 5 (cd' := gb_133_108) rfl rfl ?_
    refine g_aload_n ok rfl rfl ?_
    refine g_getr ok 16 rfl rfl rfl ?_
    refine g_geti ok rfl rfl ?_
    exact g_ireturn ok rfl rfl (rfl)
  refine g_ite (fun hq => g_tsw ok (c := 5) (by omega) rfl rfl ?_) (fun hq6 => ?_)
  · refine g_rb gs_133 6 (cd' := gb_133_116) rfl rfl ?_
    refine g_aload_n ok rfl rfl ?_
    refine g_getr ok 16 rfl rfl rfl ?_
    refine g_getr ok 11 rfl rfl rfl ?_
    refine g_ifnonnull ok (Or.inl rfl) rfl (fun _ => ?_) (fun _ => ?_)
    · refine g_rb gs_133 7 (cd' := gb_133_126) rfl rfl ?_
      refine g_iconst ok (v := (-1)) rfl ?_
      refine g_goto ok rfl ?_
      refine g_rb gs_133 9 (cd' := gb_133_140) rfl rfl ?_
      exact g_ireturn ok rfl rfl (rfl)
    · refine g_rb gs_133 8 (cd' := gb_133_130) rfl rfl ?_
      refine g_aload_n ok rfl rfl ?_
      refine g_getr ok 16 rfl rfl rfl ?_
      refine g_getr ok 11 rfl rfl rfl ?_
      refine g_ite (fun _ => g_none) (fun hz => g_getl ok hz rfl (w := (0, (gI s (gR s (gR s a0 4) 11) 0), 0)) rfl ?_)
      refine g_rb gs_133 9 (cd' := gb_133_140) rfl rfl ?_
      exact g_ireturn ok rfl rfl (rfl)
  refine g_ite (fun hq => g_tsw ok (c := 6) (by omega) rfl rfl ?_) (fun hq7 => ?_)
  · refine g_rb gs_133 10 (cd' := gb_133_141) rfl rfl ?_
    refine g_aload_n ok rfl rfl ?_
    refine g_getr ok 18 rfl rfl rfl ?_
    refine g_geti ok rfl rfl ?_
    exact g_ireturn ok rfl rfl (rfl)
  refine g_ite (fun hq => g_tsw ok (c := 7) (by omega) rfl rfl ?_) (fun hq8 => ?_)
  · refine g_rb gs_133 11 (cd' := gb_133_149) rfl rfl ?_
    refine g_aload_n ok rfl rfl ?_
    refine g_getr ok 18 rfl rfl rfl ?_
    refine g_geti ok rfl rfl ?_
    exact g_ireturn ok rfl rfl (rfl)
  refine g_ite (fun hq => g_tsw ok (c := 8) (by omega) rfl rfl ?_) (fun hq9 => ?_)
  · refine g_rb gs_133 12 (cd' := gb_133_157) rfl rfl ?_
    refine g_aload_n ok rfl rfl ?_
    refine g_getr ok 18 rfl rfl rfl ?_
    refine g_geti ok rfl rfl ?_
    exact g_ireturn ok rfl rfl (rfl)
  refine g_ite (fun hq => g_tsw ok (c := 9) (by omega) rfl rfl ?_) (fun hq10 => ?_)
  · refine g_rb gs_133 13 (cd' := gb_133_165) rfl rfl ?_
    refine g_aload_n ok rfl rfl ?_
    refine g_getr ok 16 rfl rfl rfl ?_
    refine g_geti ok rfl rfl ?_
    exact g_ireturn ok rfl rfl (rfl)
  refine g_ite (fun hq => g_tsw ok (c := 10) (by omega) rfl rfl ?_) (fun hq11 => ?_)
  · refine g_rb gs_133 14 (cd' := gb_133_173) rfl rfl ?_
    refine g_aload_n ok rfl rfl ?_
    refine g_getr ok 16 rfl rfl rfl ?_
    refine g_geti ok rfl rfl ?_
    exact g_ireturn ok rfl rfl (rfl)
  refine g_ite (fun hq => g_tsw ok (c := 11) (by omega) rfl rfl ?_) (fun hq12 => ?_)
  · refine g_rb gs_133 15 (cd' := gb_133_181) rfl rfl ?_
    refine g_aload_n ok rfl rfl ?_
    refine g_getr ok 16 rfl rfl rfl ?_
    refine g_geti ok rfl rfl ?_
    exact g_ireturn ok rfl rfl (rfl)
  refine g_ite (fun hq => g_tsw ok (c := 12) (by omega) rfl rfl ?_) (fun hq13 => ?_)
  · refine g_rb gs_133 16 (cd' := gb_133_189) rfl rfl ?_
    refine g_aload_n ok rfl rfl ?_
    refine g_getr ok 18 rfl rfl rfl ?_
    refine g_cv1 ok (me_30 hX) rfl rfl rfl rfl (t_30 ok hX _ (gR s a0 5) s) (fun v2 s1 => ?_)
    exact g_ireturn ok rfl rfl (rfl)
  refine g_ite (fun hq => g_tsw ok (c := 13) (by omega) rfl rfl ?_) (fun hq14 => ?_)
  · refine g_rb gs_133 17 (cd' := gb_133_197) rfl rfl ?_
    refine g_aload_n ok rfl rfl ?_
    refine g_getr ok 18 rfl rfl rfl ?_
    refine g_getr ok 22 rfl rfl rfl ?_
    refine g_geti ok rfl rfl ?_
    exact g_ireturn ok rfl rfl (rfl)
  refine g_ite (fun hq => g_tsw ok (c := 14) (by omega) rfl rfl ?_) (fun hq15 => ?_)
  · refine g_rb gs_133 18 (cd' := gb_133_208) rfl rfl ?_
    refine g_aload_n ok rfl rfl ?_
    refine g_geti ok rfl rfl ?_
    exact g_ireturn ok rfl rfl (rfl)
  refine g_tswo ok (Or.inr (by omega)) rfl ?_
  refine g_rb gs_133 19 (cd' := gb_133_213) rfl rfl ?_
  refine g_iconst ok (v := (-1)) rfl ?_
  exact g_ireturn ok rfl rfl (rfl)
-- X12_isIn
theorem tb_150_14 {X : gX} (ok : gOK X) (hX : gHX X) (d : Nat)   (s : gS) : Go X em_150 150 d 14 [] [] [] s 0 0 (fb_150_14  s) some := by
  delta fb_150_14
  refine g_rb gs_150 3 (cd' := gb_150_14) rfl rfl ?_
  refine g_iconst ok (v := 0) rfl ?_
  refine g_rb gs_150 4 (cd' := gb_150_15) rfl rfl ?_
  exact g_zreturn ok rfl (Or.inl rfl) rfl (rfl)
theorem t_150 {X : gX} (ok : gOK X) (hX : gHX X) (d : Nat) (a0 : Int) (a1 : Int) (a2 : Int) (s : gS) : Go X em_150 150 d 0 [] [(0, (0, a0, 0)), (1, (0, a1, 0)), (2, (0, a2, 0))] [] s 0 0 (f_150 a0 a1 a2 s) some := by
  delta f_150
  refine g_rb gs_150 0 (cd' := gb_150_0) rfl rfl ?_
  refine g_iload_n ok rfl ?_
  refine g_iload_n ok rfl ?_
  refine g_ic_lt ok rfl (fun _ => ?_) (fun _ => ?_)
  · exact g_wk ok [] trivial (tb_150_14 ok hX d   s)
  · refine g_rb gs_150 1 (cd' := gb_150_5) rfl rfl ?_
    refine g_iload_n ok rfl ?_
    refine g_iload_n ok rfl ?_
    refine g_ic_gt ok rfl (fun _ => ?_) (fun _ => ?_)
    · exact g_wk ok [] trivial (tb_150_14 ok hX d   s)
    · refine g_rb gs_150 2 (cd' := gb_150_10) rfl rfl ?_
      refine g_iconst ok (v := 1) rfl ?_
      refine g_goto ok rfl ?_
      refine g_rb gs_150 4 (cd' := gb_150_15) rfl rfl ?_
      exact g_zreturn ok rfl (Or.inr rfl) rfl (rfl)
-- X12_lesser
theorem t_151 {X : gX} (ok : gOK X) (hX : gHX X) (d : Nat) (a0 : Int) (a1 : Int) (s : gS) : Go X em_151 151 d 0 [] [(0, (0, a0, 0)), (1, (0, a1, 0))] [] s 0 0 (f_151 a0 a1 s) some := by
  delta f_151
  refine g_rb gs_151 0 (cd' := gb_151_0) rfl rfl ?_
  refine g_iload_n ok rfl ?_
  refine g_iload_n ok rfl ?_
  refine g_ic_ge ok rfl (fun _ => ?_) (fun _ => ?_)
  · refine g_rb gs_151 1 (cd' := gb_151_5) rfl rfl ?_
    refine g_iload_n ok rfl ?_
    refine g_goto ok rfl ?_
    refine g_rb gs_151 3 (cd' := gb_151_10) rfl rfl ?_
    exact g_ireturn ok rfl rfl (rfl)
  · refine g_rb gs_151 2 (cd' := gb_151_9) rfl rfl ?_
    refine g_iload_n ok rfl ?_
    refine g_rb gs_151 3 (cd' := gb_151_10) rfl rfl ?_
    exact g_ireturn ok rfl rfl (rfl)
-- X12_greater
theorem t_152 {X : gX} (ok : gOK X) (hX : gHX X) (d : Nat) (a0 : Int) (a1 : Int) (s : gS) : Go X em_152 152 d 0 [] [(0, (0, a0, 0)), (1, (0, a1, 0))] [] s 0 0 (f_152 a0 a1 s) some := by
  delta f_152
  refine g_rb gs_152 0 (cd' := gb_152_0) rfl rfl ?_
  refine g_iload_n ok rfl ?_
  refine g_iload_n ok rfl ?_
  refine g_ic_le ok rfl (fun _ => ?_) (fun _ => ?_)
  · refine g_rb gs_152 1 (cd' := gb_152_5) rfl rfl ?_
    refine g_iload_n ok rfl ?_
    refine g_goto ok rfl ?_
    refine g_rb gs_152 3 (cd' := gb_152_10) rfl rfl ?_
    exact g_ireturn ok rfl rfl (rfl)
  · refine g_rb gs_152 2 (cd' := gb_152_9) rfl rfl ?_
    refine g_iload_n ok rfl ?_
    refine g_rb gs_152 3 (cd' := gb_152_10) rfl rfl ?_
    exact g_ireturn ok rfl rfl (rfl)
-- X12_isOf
theorem t_153 {X : gX} (ok : gOK X) (hX : gHX X) (d : Nat) (a0 : Int) (a1 : Int) (s : gS) : Go X em_153 153 d 0 [] [(0, (0, a0, 0)), (1, (0, a1, 0))] [] s 0 0 (f_153 a0 a1 s) some := by
  delta f_153
  refine g_rb gs_153 0 (cd' := gb_153_0) rfl rfl ?_
  refine g_iload_n ok rfl ?_
  refine g_iload_n ok rfl ?_
  refine g_ishr ok ?_
  refine g_iconst ok (v := 1) rfl ?_
  refine g_iand ok ?_
  refine g_iconst ok (v := 1) rfl ?_
  refine g_ic_ne ok rfl (fun _ => ?_) (fun _ => ?_)
  · refine g_rb gs_153 1 (cd' := gb_153_9) rfl rfl ?_
    refine g_iconst ok (v := 1) rfl ?_
    refine g_goto ok rfl ?_
    refine g_rb gs_153 3 (cd' := gb_153_14) rfl rfl ?_
    exact g_zreturn ok rfl (Or.inr rfl) rfl (rfl)
  · refine g_rb gs_153 2 (cd' := gb_153_13) rfl rfl ?_
    refine g_iconst ok (v := 0) rfl ?_
    refine g_rb gs_153 3 (cd' := gb_153_14) rfl rfl ?_
    exact g_zreturn ok rfl (Or.inl rfl) rfl (rfl)
-- X12_bits
theorem ts_154_4 {X : gX} (ok : gOK X) (hX : gHX X) (d : Nat) {k4 : (Int × Int × Int × gS) ⊕ gO → Option gO} (hl4 : ∀ y : (Int × Int × Int × gS), Go X em_154 154 d 4 [] [(0, (0, y.1, 0)), (1, (0, y.2.1, 0)), (2, (0, y.2.2.1, 0))] [] y.2.2.2 0 0 (some (Sum.inl y)) k4) (hr4 : ∀ q, k4 (Sum.inr q) = some q) (x0 : Int) (x1 : Int) (x2 : Int) (s : gS) : Go X em_154 154 d 4 [] [(0, (0, x0, 0)), (1, (0, x1, 0)), (2, (0, x2, 0))] [] s 0 0 (sb_154_4 x0 x1 x2 s) k4 := by
  delta sb_154_4
  refine g_rb gs_154 1 (cd' := gb_154_4) rfl rfl ?_
  refine g_iload_n ok rfl ?_
  refine g_bipush ok (v := 31) rfl ?_
  refine g_ic_ge ok rfl (fun _ => ?_) (fun _ => ?_)
  · refine g_rb gs_154 2 (cd' := gb_154_10) rfl rfl ?_
    refine g_iload_n ok rfl ?_
    refine g_iload_n ok rfl ?_
    refine g_iload_n ok rfl ?_
    refine g_ishr ok ?_
    refine g_iconst ok (v := 1) rfl ?_
    refine g_iand ok ?_
    refine g_iadd ok ?_
    let v1 : Int := (g32 (x1 + (gand (gshr x0 x2) 1)))
    refine g_istore_n ok rfl (L' := [(0, (0, x0, 0)), (1, (0, v1, 0)), (2, (0, x2, 0))]) rfl ?_
    refine g_iinc ok rfl rfl (L' := [(0, (0, x0, 0)), (1, (0, v1, 0)), (2, (0, (g32 (x2 + 1)), 0))]) rfl ?_
    refine g_goto ok rfl ?_
    exact g_wk ok [(0, (0, x0, 0)), (1, (0, v1, 0)), (2, (0, (g32 (x2 + 1)), 0))] ⟨rfl, rfl, rfl, trivial⟩ (hl4 (x0, v1, (g32 (x2 + 1)), s))
  · refine g_map hr4 ?_
    refine g_rb gs_154 3 (cd' := gb_154_24) rfl rfl ?_
    refine g_iload_n ok rfl ?_
    exact g_ireturn ok rfl rfl (rfl)
theorem tl_154_4 {X : gX} (ok : gOK X) (hX : gHX X) (d : Nat)  (y : (Int × Int × Int × gS)) : Go X em_154 154 d 4 [] [(0, (0, y.1, 0)), (1, (0, y.2.1, 0)), (2, (0, y.2.2.1, 0))] [] y.2.2.2 0 0 (gloop (st_154_4) y) some :=
  g_loop (Lh := fun y => [(0, (0, y.1, 0)), (1, (0, y.2.1, 0)), (2, (0, y.2.2.1, 0))]) (sh := fun y => y.2.2.2) (fun k4 hl4 hr4 y => ts_154_4 ok hX d  hl4 hr4 y.1 y.2.1 y.2.2.1 y.2.2.2) y
theorem t_154 {X : gX} (ok : gOK X) (hX : gHX X) (d : Nat) (a0 : Int) (s : gS) : Go X em_154 154 d 0 [] [(0, (0, a0, 0))] [] s 0 0 (f_154 a0 s) some := by
  delta f_154
  refine g_rb gs_154 0 (cd' := gb_154_0) rfl rfl ?_
  refine g_iconst ok (v := 0) rfl ?_
  refine g_istore_n ok rfl (L' := [(0, (0, a0, 0)), (1, (0, 0, 0))]) rfl ?_
  refine g_iconst ok (v := 0) rfl ?_
  refine g_istore_n ok rfl (L' := [(0, (0, a0, 0)), (1, (0, 0, 0)), (2, (0, 0, 0))]) rfl ?_
  exact g_wk ok [(0, (0, a0, 0)), (1, (0, 0, 0)), (2, (0, 0, 0))] ⟨rfl, rfl, rfl, trivial⟩ (tl_154_4 ok hX d  (a0, 0, 0, s))
-- X12_ofStep
theorem t_155 {X : gX} (ok : gOK X) (hX : gHX X) (d : Nat) (a0 : Nat) (a1 : Int) (a2 : Int) (s : gS) : Go X em_155 155 d 0 [] [(0, (28, 0, a0)), (1, (0, a1, 0)), (2, (0, a2, 0))] [] s 0 0 (f_155 a0 a1 a2 s) some := by
  delta f_155
  refine g_rb gs_155 0 (cd' := gb_155_0) rfl rfl ?_
  refine g_aload_n ok rfl rfl ?_
  refine g_getr ok 6036 rfl rfl rfl ?_
  refine g_bipush ok (v := 16) rfl ?_
  refine g_iconst ok (v := 3) rfl ?_
  refine g_iload_n ok rfl ?_
  refine g_imul ok ?_
  refine g_iadd ok ?_
  refine g_iload_n ok rfl ?_
  refine g_iadd ok ?_
  refine g_iaload ok (n := 740) rfl rfl (fun _ _ => ?_)
  exact g_ireturn ok rfl rfl (rfl)
-- X12_of
theorem t_156 {X : gX} (ok : gOK X) (hX : gHX X) (d : Nat) (a0 : Nat) (a1 : Int) (a2 : Int) (s : gS) : Go X em_156 156 d 0 [] [(0, (28, 0, a0)), (1, (0, a1, 0)), (2, (0, a2, 0))] [] s 0 0 (f_156 a0 a1 a2 s) some := by
  delta f_156
  refine g_rb gs_156 0 (cd' := gb_156_0) rfl rfl ?_
  refine g_aload_n ok rfl rfl ?_
  refine g_getr ok 6036 rfl rfl rfl ?_
  refine g_bipush ok (v := 40) rfl ?_
  refine g_bipush ok (v := 6) rfl ?_
  refine g_iload_n ok rfl ?_
  refine g_imul ok ?_
  refine g_iadd ok ?_
  refine g_iload_n ok rfl ?_
  refine g_iadd ok ?_
  refine g_iaload ok (n := 740) rfl rfl (fun _ _ => ?_)
  exact g_ireturn ok rfl rfl (rfl)
-- X12_put
theorem t_157 {X : gX} (ok : gOK X) (hX : gHX X) (d : Nat) (a0 : Nat) (a1 : Int) (a2 : Int) (a3 : Int) (s : gS) : Go X em_157 157 d 0 [] [(0, (28, 0, a0)), (1, (0, a1, 0)), (2, (0, a2, 0)), (3, (0, a3, 0))] [] s 0 0 (f_157 a0 a1 a2 a3 s) some := by
  delta f_157
  refine g_rb gs_157 0 (cd' := gb_157_0) rfl rfl ?_
  refine g_aload_n ok rfl rfl ?_
  refine g_getr ok 6036 rfl rfl rfl ?_
  refine g_bipush ok (v := 40) rfl ?_
  refine g_bipush ok (v := 6) rfl ?_
  refine g_iload_n ok rfl ?_
  refine g_imul ok ?_
  refine g_iadd ok ?_
  refine g_iload_n ok rfl ?_
  refine g_iadd ok ?_
  refine g_iload_n ok rfl ?_
  refine g_iastore ok (n := 740) rfl rfl (fun _ _ => ?_)
  let s1 : gS := gw s (gR s a0 1) ((g32 ((g32 (40 + (g32 (6 * a1)))) + a2)) : Int).toNat a3
  exact g_return ok rfl rfl (rfl)
-- X12_costOf
theorem t_158 {X : gX} (ok : gOK X) (hX : gHX X) (d : Nat) (a0 : Nat) (a1 : Int) (s : gS) : Go X em_158 158 d 0 [] [(0, (28, 0, a0)), (1, (0, a1, 0))] [] s 0 0 (f_158 a0 a1 s) some := by
  delta f_158
  refine g_rb gs_158 0 (cd' := gb_158_0) rfl rfl ?_
  refine g_aload_n ok rfl rfl ?_
  refine g_getr ok 6036 rfl rfl rfl ?_
  refine g_bipush ok (v := 76) rfl ?_
  refine g_iconst ok (v := 2) rfl ?_
  refine g_iload_n ok rfl ?_
  refine g_imul ok ?_
  refine g_iadd ok ?_
  refine g_iaload ok (n := 740) rfl rfl (fun _ _ => ?_)
  exact g_ireturn ok rfl rfl (rfl)
-- X12_stopsOf
theorem t_159 {X : gX} (ok : gOK X) (hX : gHX X) (d : Nat) (a0 : Nat) (a1 : Int) (s : gS) : Go X em_159 159 d 0 [] [(0, (28, 0, a0)), (1, (0, a1, 0))] [] s 0 0 (f_159 a0 a1 s) some := by
  delta f_159
  refine g_rb gs_159 0 (cd' := gb_159_0) rfl rfl ?_
  refine g_aload_n ok rfl rfl ?_
  refine g_getr ok 6036 rfl rfl rfl ?_
  refine g_bipush ok (v := 76) rfl ?_
  refine g_iconst ok (v := 2) rfl ?_
  refine g_iload_n ok rfl ?_
  refine g_imul ok ?_
  refine g_iadd ok ?_
  refine g_iconst ok (v := 1) rfl ?_
  refine g_iadd ok ?_
  refine g_iaload ok (n := 740) rfl rfl (fun _ _ => ?_)
  exact g_ireturn ok rfl rfl (rfl)
-- X12_ofRival
theorem t_160 {X : gX} (ok : gOK X) (hX : gHX X) (d : Nat) (a0 : Nat) (a1 : Int) (a2 : Int) (s : gS) : Go X em_160 160 d 0 [] [(0, (28, 0, a0)), (1, (0, a1, 0)), (2, (0, a2, 0))] [] s 0 0 (f_160 a0 a1 a2 s) some := by
  delta f_160
  refine g_rb gs_160 0 (cd' := gb_160_0) rfl rfl ?_
  refine g_aload_n ok rfl rfl ?_
  refine g_getr ok 6036 rfl rfl rfl ?_
  refine g_bipush ok (v := 88) rfl ?_
  refine g_iconst ok (v := 2) rfl ?_
  refine g_iload_n ok rfl ?_
  refine g_imul ok ?_
  refine g_iadd ok ?_
  refine g_iload_n ok rfl ?_
  refine g_iadd ok ?_
  refine g_iaload ok (n := 740) rfl rfl (fun _ _ => ?_)
  exact g_ireturn ok rfl rfl (rfl)
-- X12_isStep
theorem t_161 {X : gX} (ok : gOK X) (hX : gHX X) (d : Nat) (a0 : Nat) (a1 : Int) (s : gS) : Go X em_161 161 (d + 1) 0 [] [(0, (28, 0, a0)), (1, (0, a1, 0))] [] s 0 0 (f_161 a0 a1 s) some := by
  delta f_161
  refine g_rb gs_161 0 (cd' := gb_161_0) rfl rfl ?_
  refine g_iload_n ok rfl ?_
  refine g_iconst ok (v := 0) rfl ?_
  refine g_aload_n ok rfl rfl ?_
  refine g_getr ok 6036 rfl rfl rfl ?_
  refine g_iconst ok (v := 3) rfl ?_
  refine g_ialoadc ok (n := 740) 3 rfl rfl rfl ?_
  refine g_iconst ok (v := 1) rfl ?_
  refine g_isub ok ?_
  refine g_csz ok (me_150 hX) rfl rfl rfl (t_150 ok hX _ a1 0 (g32 ((gI s (gR s a0 1) 3) - 1)) s) (fun v2 s1 hb3 => ?_)
  exact g_zreturn ok rfl hb3 rfl (rfl)
-- X12_isMan
theorem t_162 {X : gX} (ok : gOK X) (hX : gHX X) (d : Nat) (a0 : Nat) (a1 : Int) (s : gS) : Go X em_162 162 (d + 1) 0 [] [(0, (28, 0, a0)), (1, (0, a1, 0))] [] s 0 0 (f_162 a0 a1 s) some := by
  delta f_162
  refine g_rb gs_162 0 (cd' := gb_162_0) rfl rfl ?_
  refine g_iload_n ok rfl ?_
  refine g_iconst ok (v := 0) rfl ?_
  refine g_aload_n ok rfl rfl ?_
  refine g_getr ok 6036 rfl rfl rfl ?_
  refine g_iconst ok (v := 4) rfl ?_
  refine g_ialoadc ok (n := 740) 4 rfl rfl rfl ?_
  refine g_iconst ok (v := 1) rfl ?_
  refine g_isub ok ?_
  refine g_csz ok (me_150 hX) rfl rfl rfl (t_150 ok hX _ a1 0 (g32 ((gI s (gR s a0 1) 4) - 1)) s) (fun v2 s1 hb3 => ?_)
  exact g_zreturn ok rfl hb3 rfl (rfl)
-- X12_isTest
theorem t_163 {X : gX} (ok : gOK X) (hX : gHX X) (d : Nat) (a0 : Nat) (a1 : Int) (s : gS) : Go X em_163 163 (d + 1) 0 [] [(0, (28, 0, a0)), (1, (0, a1, 0))] [] s 0 0 (f_163 a0 a1 s) some := by
  delta f_163
  refine g_rb gs_163 0 (cd' := gb_163_0) rfl rfl ?_
  refine g_iload_n ok rfl ?_
  refine g_iconst ok (v := 0) rfl ?_
  refine g_aload_n ok rfl rfl ?_
  refine g_getr ok 6036 rfl rfl rfl ?_
  refine g_iconst ok (v := 5) rfl ?_
  refine g_ialoadc ok (n := 740) 5 rfl rfl rfl ?_
  refine g_iconst ok (v := 1) rfl ?_
  refine g_isub ok ?_
  refine g_csz ok (me_150 hX) rfl rfl rfl (t_150 ok hX _ a1 0 (g32 ((gI s (gR s a0 1) 5) - 1)) s) (fun v2 s1 hb3 => ?_)
  exact g_zreturn ok rfl hb3 rfl (rfl)
-- X12_isRival
theorem t_164 {X : gX} (ok : gOK X) (hX : gHX X) (d : Nat) (a0 : Nat) (a1 : Int) (s : gS) : Go X em_164 164 (d + 1) 0 [] [(0, (28, 0, a0)), (1, (0, a1, 0))] [] s 0 0 (f_164 a0 a1 s) some := by
  delta f_164
  refine g_rb gs_164 0 (cd' := gb_164_0) rfl rfl ?_
  refine g_iload_n ok rfl ?_
  refine g_iconst ok (v := 0) rfl ?_
  refine g_aload_n ok rfl rfl ?_
  refine g_getr ok 6036 rfl rfl rfl ?_
  refine g_bipush ok (v := 6) rfl ?_
  refine g_ialoadc ok (n := 740) 6 rfl rfl rfl ?_
  refine g_iconst ok (v := 1) rfl ?_
  refine g_isub ok ?_
  refine g_csz ok (me_150 hX) rfl rfl rfl (t_150 ok hX _ a1 0 (g32 ((gI s (gR s a0 1) 6) - 1)) s) (fun v2 s1 hb3 => ?_)
  exact g_zreturn ok rfl hb3 rfl (rfl)
-- X12_isKept
theorem t_165 {X : gX} (ok : gOK X) (hX : gHX X) (d : Nat) (a0 : Nat) (a1 : Int) (s : gS) : Go X em_165 165 (d + 1) 0 [] [(0, (28, 0, a0)), (1, (0, a1, 0))] [] s 0 0 (f_165 a0 a1 s) some := by
  delta f_165
  refine g_rb gs_165 0 (cd' := gb_165_0) rfl rfl ?_
  refine g_aload_n ok rfl rfl ?_
  refine g_iload_n ok rfl ?_
  refine g_iconst ok (v := 5) rfl ?_
  refine g_cv1 ok (me_156 hX) rfl rfl rfl rfl (t_156 ok hX _ a0 a1 5 s) (fun v2 s1 => ?_)
  refine g_if_ne ok rfl (fun _ => ?_) (fun _ => ?_)
  · refine g_rb gs_165 1 (cd' := gb_165_9) rfl rfl ?_
    refine g_iconst ok (v := 1) rfl ?_
    refine g_goto ok rfl ?_
    refine g_rb gs_165 3 (cd' := gb_165_14) rfl rfl ?_
    exact g_zreturn ok rfl (Or.inr rfl) rfl (rfl)
  · refine g_rb gs_165 2 (cd' := gb_165_13) rfl rfl ?_
    refine g_iconst ok (v := 0) rfl ?_
    refine g_rb gs_165 3 (cd' := gb_165_14) rfl rfl ?_
    exact g_zreturn ok rfl (Or.inl rfl) rfl (rfl)
-- X12_feed
theorem tb_166_76 {X : gX} (ok : gOK X) (hX : gHX X) (d : Nat) {k23 : (Nat × Int × Int × Int × Int × Int × Int × gS) ⊕ gO → Option gO} (hl23 : ∀ y : (Nat × Int × Int × Int × Int × Int × Int × gS), Go X em_166 166 d 23 [] [(0, (28, 0, y.1)), (1, (0, y.2.1, 0)), (2, (0, y.2.2.1, 0)), (3, (0, y.2.2.2.1, 0)), (4, (0, y.2.2.2.2.1, 0)), (5, (0, y.2.2.2.2.2.1, 0)), (6, (0, y.2.2.2.2.2.2.1, 0))] [] y.2.2.2.2.2.2.2 0 0 (some (Sum.inl y)) k23) (hr23 : ∀ q, k23 (Sum.inr q) = some q) (x0 : Nat) (x1 : Int) (x2 : Int) (x3 : Int) (x4 : Int) (x5 : Int) (x6 : Int) (w0 : Int) (s : gS) : Go X em_166 166 d 76 [] [(0, (28, 0, x0)), (1, (0, x1, 0)), (2, (0, x2, 0)), (3, (0, x3, 0)), (4, (0, x4, 0)), (5, (0, x5, 0)), (6, (0, x6, 0))] [(0, w0, 0)] s 0 0 (fb_166_76 x0 x1 x2 x3 x4 x5 x6 w0 s) k23 := by
  delta fb_166_76
  refine g_rb gs_166 13 (cd' := gb_166_76) rfl rfl ?_
  refine g_istore ok rfl (L' := [(0, (28, 0, x0)), (1, (0, x1, 0)), (2, (0, x2, 0)), (3, (0, x3, 0)), (4, (0, x4, 0)), (5, (0, x5, 0)), (6, (0, x6, 0)), (7, (0, w0, 0))]) rfl ?_
  refine g_aload_n ok rfl rfl ?_
  refine g_getr ok 3316 rfl rfl rfl ?_
  refine g_aload_n ok rfl rfl ?_
  refine g_geti ok rfl rfl ?_
  refine g_iload ok rfl ?_
  refine g_bipush ok (v := 24) rfl ?_
  refine g_bipush ok (v := 8) rfl ?_
  refine g_iload ok rfl ?_
  refine g_iconst ok (v := 4) rfl ?_
  refine g_irem ok (by decide) ?_
  refine g_imul ok ?_
  refine g_isub ok ?_
  refine g_iushr ok ?_
  refine g_sipush ok (v := 255) rfl ?_
  refine g_iand ok ?_
  refine g_iastore ok (n := 400) rfl rfl (fun _ _ => ?_)
  let s2 : gS := gw s (gR s x0 7) ((gI s x0 8) : Int).toNat (gand (gushr w0 (g32 (24 - (g32 (8 * (grem x6 4)))))) 255)
  refine g_aload_n ok rfl rfl ?_
  refine g_dup ok rfl ?_
  refine g_geti ok rfl rfl ?_
  refine g_iconst ok (v := 1) rfl ?_
  refine g_iadd ok ?_
  refine g_puti ok rfl rfl rfl ?_
  let s3 : gS := gw s2 x0 8 (g32 ((gI s2 x0 8) + 1))
  refine g_iinc ok rfl rfl (L' := [(0, (28, 0, x0)), (1, (0, x1, 0)), (2, (0, x2, 0)), (3, (0, x3, 0)), (4, (0, x4, 0)), (5, (0, x5, 0)), (6, (0, (g32 (x6 + 1)), 0)), (7, (0, w0, 0))]) rfl ?_
  refine g_goto ok rfl ?_
  exact g_wk ok [(0, (28, 0, x0)), (1, (0, x1, 0)), (2, (0, x2, 0)), (3, (0, x3, 0)), (4, (0, x4, 0)), (5, (0, x5, 0)), (6, (0, (g32 (x6 + 1)), 0))] ⟨rfl, rfl, rfl, rfl, rfl, rfl, rfl, trivial⟩ (hl23 (x0, x1, x2, x3, x4, x5, (g32 (x6 + 1)), s3))
theorem ts_166_23 {X : gX} (ok : gOK X) (hX : gHX X) (d : Nat) {k23 : (Nat × Int × Int × Int × Int × Int × Int × gS) ⊕ gO → Option gO} (hl23 : ∀ y : (Nat × Int × Int × Int × Int × Int × Int × gS), Go X em_166 166 d 23 [] [(0, (28, 0, y.1)), (1, (0, y.2.1, 0)), (2, (0, y.2.2.1, 0)), (3, (0, y.2.2.2.1, 0)), (4, (0, y.2.2.2.2.1, 0)), (5, (0, y.2.2.2.2.2.1, 0)), (6, (0, y.2.2.2.2.2.2.1, 0))] [] y.2.2.2.2.2.2.2 0 0 (some (Sum.inl y)) k23) (hr23 : ∀ q, k23 (Sum.inr q) = some q) (x0 : Nat) (x1 : Int) (x2 : Int) (x3 : Int) (x4 : Int) (x5 : Int) (x6 : Int) (s : gS) : Go X em_166 166 d 23 [] [(0, (28, 0, x0)), (1, (0, x1, 0)), (2, (0, x2, 0)), (3, (0, x3, 0)), (4, (0, x4, 0)), (5, (0, x5, 0)), (6, (0, x6, 0))] [] s 0 0 (sb_166_23 x0 x1 x2 x3 x4 x5 x6 s) k23 := by
  delta sb_166_23
  refine g_rb gs_166 3 (cd' := gb_166_23) rfl rfl ?_
  refine g_iload ok rfl ?_
  refine g_bipush ok (v := 20) rfl ?_
  refine g_ic_ge ok rfl (fun _ => ?_) (fun _ => ?_)
  · refine g_rb gs_166 4 (cd' := gb_166_30) rfl rfl ?_
    refine g_iload ok rfl ?_
    refine g_iconst ok (v := 4) rfl ?_
    refine g_ic_ge ok rfl (fun _ => ?_) (fun _ => ?_)
    · refine g_rb gs_166 5 (cd' := gb_166_36) rfl rfl ?_
      refine g_iload_n ok rfl ?_
      refine g_goto ok rfl ?_
      exact g_wk ok [(0, (28, 0, x0)), (1, (0, x1, 0)), (2, (0, x2, 0)), (3, (0, x3, 0)), (4, (0, x4, 0)), (5, (0, x5, 0)), (6, (0, x6, 0))] ⟨rfl, rfl, rfl, rfl, rfl, rfl, rfl, trivial⟩ (tb_166_76 ok hX d hl23 hr23 x0 x1 x2 x3 x4 x5 x6 x1 s)
    · refine g_rb gs_166 6 (cd' := gb_166_40) rfl rfl ?_
      refine g_iload ok rfl ?_
      refine g_bipush ok (v := 8) rfl ?_
      refine g_ic_ge ok rfl (fun _ => ?_) (fun _ => ?_)
      · refine g_rb gs_166 7 (cd' := gb_166_47) rfl rfl ?_
        refine g_iload_n ok rfl ?_
        refine g_goto ok rfl ?_
        exact g_wk ok [(0, (28, 0, x0)), (1, (0, x1, 0)), (2, (0, x2, 0)), (3, (0, x3, 0)), (4, (0, x4, 0)), (5, (0, x5, 0)), (6, (0, x6, 0))] ⟨rfl, rfl, rfl, rfl, rfl, rfl, rfl, trivial⟩ (tb_166_76 ok hX d hl23 hr23 x0 x1 x2 x3 x4 x5 x6 x2 s)
      · refine g_rb gs_166 8 (cd' := gb_166_51) rfl rfl ?_
        refine g_iload ok rfl ?_
        refine g_bipush ok (v := 12) rfl ?_
        refine g_ic_ge ok rfl (fun _ => ?_) (fun _ => ?_)
        · refine g_rb gs_166 9 (cd' := gb_166_58) rfl rfl ?_
          refine g_iload_n ok rfl ?_
          refine g_goto ok rfl ?_
          exact g_wk ok [(0, (28, 0, x0)), (1, (0, x1, 0)), (2, (0, x2, 0)), (3, (0, x3, 0)), (4, (0, x4, 0)), (5, (0, x5, 0)), (6, (0, x6, 0))] ⟨rfl, rfl, rfl, rfl, rfl, rfl, rfl, trivial⟩ (tb_166_76 ok hX d hl23 hr23 x0 x1 x2 x3 x4 x5 x6 x3 s)
        · refine g_rb gs_166 10 (cd' := gb_166_62) rfl rfl ?_
          refine g_iload ok rfl ?_
          refine g_bipush ok (v := 16) rfl ?_
          refine g_ic_ge ok rfl (fun _ => ?_) (fun _ => ?_)
          · refine g_rb gs_166 11 (cd' := gb_166_69) rfl rfl ?_
            refine g_iload ok rfl ?_
            refine g_goto ok rfl ?_
            exact g_wk ok [(0, (28, 0, x0)), (1, (0, x1, 0)), (2, (0, x2, 0)), (3, (0, x3, 0)), (4, (0, x4, 0)), (5, (0, x5, 0)), (6, (0, x6, 0))] ⟨rfl, rfl, rfl, rfl, rfl, rfl, rfl, trivial⟩ (tb_166_76 ok hX d hl23 hr23 x0 x1 x2 x3 x4 x5 x6 x4 s)
          · refine g_rb gs_166 12 (cd' := gb_166_74) rfl rfl ?_
            refine g_iload ok rfl ?_
            exact g_wk ok [(0, (28, 0, x0)), (1, (0, x1, 0)), (2, (0, x2, 0)), (3, (0, x3, 0)), (4, (0, x4, 0)), (5, (0, x5, 0)), (6, (0, x6, 0))] ⟨rfl, rfl, rfl, rfl, rfl, rfl, rfl, trivial⟩ (tb_166_76 ok hX d hl23 hr23 x0 x1 x2 x3 x4 x5 x6 x5 s)
  · refine g_map hr23 ?_
    refine g_rb gs_166 14 (cd' := gb_166_120) rfl rfl ?_
    refine g_aload_n ok rfl rfl ?_
    refine g_geti ok rfl rfl ?_
    exact g_ireturn ok rfl rfl (rfl)
theorem tl_166_23 {X : gX} (ok : gOK X) (hX : gHX X) (d : Nat)  (y : (Nat × Int × Int × Int × Int × Int × Int × gS)) : Go X em_166 166 d 23 [] [(0, (28, 0, y.1)), (1, (0, y.2.1, 0)), (2, (0, y.2.2.1, 0)), (3, (0, y.2.2.2.1, 0)), (4, (0, y.2.2.2.2.1, 0)), (5, (0, y.2.2.2.2.2.1, 0)), (6, (0, y.2.2.2.2.2.2.1, 0))] [] y.2.2.2.2.2.2.2 0 0 (gloop (st_166_23) y) some :=
  g_loop (Lh := fun y => [(0, (28, 0, y.1)), (1, (0, y.2.1, 0)), (2, (0, y.2.2.1, 0)), (3, (0, y.2.2.2.1, 0)), (4, (0, y.2.2.2.2.1, 0)), (5, (0, y.2.2.2.2.2.1, 0)), (6, (0, y.2.2.2.2.2.2.1, 0))]) (sh := fun y => y.2.2.2.2.2.2.2) (fun k23 hl23 hr23 y => ts_166_23 ok hX d  hl23 hr23 y.1 y.2.1 y.2.2.1 y.2.2.2.1 y.2.2.2.2.1 y.2.2.2.2.2.1 y.2.2.2.2.2.2.1 y.2.2.2.2.2.2.2) y
theorem t_166 {X : gX} (ok : gOK X) (hX : gHX X) (d : Nat) (a0 : Nat) (a1 : Int) (a2 : Int) (a3 : Int) (a4 : Int) (a5 : Int) (s : gS) : Go X em_166 166 d 0 [] [(0, (28, 0, a0)), (1, (0, a1, 0)), (2, (0, a2, 0)), (3, (0, a3, 0)), (4, (0, a4, 0)), (5, (0, a5, 0))] [] s 0 0 (f_166 a0 a1 a2 a3 a4 a5 s) some := by
  delta f_166
  refine g_rb gs_166 0 (cd' := gb_166_0) rfl rfl ?_
  refine g_aload_n ok rfl rfl ?_
  refine g_iconst ok (v := 0) rfl ?_
  refine g_puti ok rfl rfl rfl ?_
  let s1 : gS := gw s a0 0 0
  refine g_aload_n ok rfl rfl ?_
  refine g_geti ok rfl rfl ?_
  refine g_bipush ok (v := 20) rfl ?_
  refine g_iadd ok ?_
  refine g_sipush ok (v := 400) rfl ?_
  refine g_ic_le ok rfl (fun _ => ?_) (fun _ => ?_)
  · refine g_rb gs_166 1 (cd' := gb_166_18) rfl rfl ?_
    refine g_iconst ok (v := (-1)) rfl ?_
    exact g_ireturn ok rfl rfl (rfl)
  · refine g_rb gs_166 2 (cd' := gb_166_20) rfl rfl ?_
    refine g_iconst ok (v := 0) rfl ?_
    refine g_istore ok rfl (L' := [(0, (28, 0, a0)), (1, (0, a1, 0)), (2, (0, a2, 0)), (3, (0, a3, 0)), (4, (0, a4, 0)), (5, (0, a5, 0)), (6, (0, 0, 0))]) rfl ?_
    exact g_wk ok [(0, (28, 0, a0)), (1, (0, a1, 0)), (2, (0, a2, 0)), (3, (0, a3, 0)), (4, (0, a4, 0)), (5, (0, a5, 0)), (6, (0, 0, 0))] ⟨rfl, rfl, rfl, rfl, rfl, rfl, rfl, trivial⟩ (tl_166_23 ok hX d  (a0, a1, a2, a3, a4, a5, 0, s1))
-- X12_end
theorem t_167 {X : gX} (ok : gOK X) (hX : gHX X) (d : Nat) (a0 : Nat) (a1 : Int) (s : gS) : Go X em_167 167 (d + 1) 0 [] [(0, (28, 0, a0)), (1, (0, a1, 0))] [] s 0 0 (f_167 a0 a1 s) some := by
  delta f_167
  refine g_rb gs_167 0 (cd' := gb_167_0) rfl rfl ?_
  refine g_aload_n ok rfl rfl ?_
  refine g_iconst ok (v := 0) rfl ?_
  refine g_puti ok rfl rfl rfl ?_
  let s1 : gS := gw s a0 0 0
  refine g_iload_n ok rfl ?_
  refine g_iconst ok (v := 0) rfl ?_
  refine g_aload_n ok rfl rfl ?_
  refine g_geti ok rfl rfl ?_
  refine g_csz ok (me_150 hX) rfl rfl rfl (t_150 ok hX _ a1 0 (gI s1 a0 8) s1) (fun v3 s2 hb4 => ?_)
  refine g_if_ne ok rfl (fun _ => ?_) (fun _ => ?_)
  · refine g_rb gs_167 1 (cd' := gb_167_17) rfl rfl ?_
    refine g_iconst ok (v := 0) rfl ?_
    exact g_zreturn ok rfl (Or.inl rfl) rfl (rfl)
  · refine g_rb gs_167 2 (cd' := gb_167_19) rfl rfl ?_
    refine g_aload_n ok rfl rfl ?_
    refine g_iload_n ok rfl ?_
    refine g_puti ok rfl rfl rfl ?_
    let s5 : gS := gw s2 a0 8 a1
    refine g_iconst ok (v := 1) rfl ?_
    exact g_zreturn ok rfl (Or.inr rfl) rfl (rfl)
-- X12_letter
theorem t_168 {X : gX} (ok : gOK X) (hX : gHX X) (d : Nat) (a0 : Nat) (a1 : Int) (s : gS) : Go X em_168 168 d 0 [] [(0, (28, 0, a0)), (1, (0, a1, 0))] [] s 0 0 (f_168 a0 a1 s) some := by
  delta f_168
  refine g_rb gs_168 0 (cd' := gb_168_0) rfl rfl ?_
  refine g_aload_n ok rfl rfl ?_
  refine g_geti ok rfl rfl ?_
  refine g_iconst ok (v := (-1)) rfl ?_
  refine g_ic_ne ok rfl (fun _ => ?_) (fun _ => ?_)
  · refine g_rb gs_168 1 (cd' := gb_168_8) rfl rfl ?_
    refine g_aload_n ok rfl rfl ?_
    refine g_getr ok 3316 rfl rfl rfl ?_
    refine g_iload_n ok rfl ?_
    refine g_iaload ok (n := 400) rfl rfl (fun _ _ => ?_)
    refine g_goto ok rfl ?_
    refine g_rb gs_168 3 (cd' := gb_168_28) rfl rfl ?_
    exact g_ireturn ok rfl rfl (rfl)
  · refine g_rb gs_168 2 (cd' := gb_168_17) rfl rfl ?_
    refine g_aload_n ok rfl rfl ?_
    refine g_getr ok 6036 rfl rfl rfl ?_
    refine g_aload_n ok rfl rfl ?_
    refine g_geti ok rfl rfl ?_
    refine g_iload_n ok rfl ?_
    refine g_iadd ok ?_
    refine g_iaload ok (n := 740) rfl rfl (fun _ _ => ?_)
    refine g_rb gs_168 3 (cd' := gb_168_28) rfl rfl ?_
    exact g_ireturn ok rfl rfl (rfl)
-- X12_skip
theorem ts_169_0 {X : gX} (ok : gOK X) (hX : gHX X) (d : Nat) {k0 : (Nat × gS) ⊕ gO → Option gO} (hl0 : ∀ y : (Nat × gS), Go X em_169 169 (d + 1) 0 [] [(0, (28, 0, y.1))] [] y.2 0 0 (some (Sum.inl y)) k0) (hr0 : ∀ q, k0 (Sum.inr q) = some q) (x0 : Nat) (s : gS) : Go X em_169 169 (d + 1) 0 [] [(0, (28, 0, x0))] [] s 0 0 (sb_169_0 x0 s) k0 := by
  delta sb_169_0
  refine g_rb gs_169 0 (cd' := gb_169_0) rfl rfl ?_
  refine g_aload_n ok rfl rfl ?_
  refine g_geti ok rfl rfl ?_
  refine g_aload_n ok rfl rfl ?_
  refine g_geti ok rfl rfl ?_
  refine g_ic_ge ok rfl (fun _ => ?_) (fun _ => ?_)
  · refine g_rb gs_169 1 (cd' := gb_169_11) rfl rfl ?_
    refine g_aload_n ok rfl rfl ?_
    refine g_aload_n ok rfl rfl ?_
    refine g_geti ok rfl rfl ?_
    refine g_cv1 ok (me_168 hX) rfl rfl rfl rfl (t_168 ok hX _ x0 (gI s x0 11) s) (fun v2 s1 => ?_)
    refine g_bipush ok (v := 32) rfl ?_
    refine g_ic_ne ok rfl (fun _ => ?_) (fun _ => ?_)
    · refine g_rb gs_169 2 (cd' := gb_169_24) rfl rfl ?_
      refine g_aload_n ok rfl rfl ?_
      refine g_dup ok rfl ?_
      refine g_geti ok rfl rfl ?_
      refine g_iconst ok (v := 1) rfl ?_
      refine g_iadd ok ?_
      refine g_puti ok rfl rfl rfl ?_
      let s3 : gS := gw s1 x0 11 (g32 ((gI s1 x0 11) + 1))
      refine g_goto ok rfl ?_
      exact g_wk ok [(0, (28, 0, x0))] ⟨rfl, trivial⟩ (hl0 (x0, s3))
    · refine g_map hr0 ?_
      refine g_rb gs_169 3 (cd' := gb_169_37) rfl rfl ?_
      exact g_return ok rfl rfl (rfl)
  · refine g_map hr0 ?_
    refine g_rb gs_169 3 (cd' := gb_169_37) rfl rfl ?_
    exact g_return ok rfl rfl (rfl)
theorem tl_169_0 {X : gX} (ok : gOK X) (hX : gHX X) (d : Nat)  (y : (Nat × gS)) : Go X em_169 169 (d + 1) 0 [] [(0, (28, 0, y.1))] [] y.2 0 0 (gloop (st_169_0) y) some :=
  g_loop (Lh := fun y => [(0, (28, 0, y.1))]) (sh := fun y => y.2) (fun k0 hl0 hr0 y => ts_169_0 ok hX d  hl0 hr0 y.1 y.2) y
theorem t_169 {X : gX} (ok : gOK X) (hX : gHX X) (d : Nat) (a0 : Nat) (s : gS) : Go X em_169 169 (d + 1) 0 [] [(0, (28, 0, a0))] [] s 0 0 (f_169 a0 s) some := by
  delta f_169
  exact g_wk ok [(0, (28, 0, a0))] ⟨rfl, trivial⟩ (tl_169_0 ok hX d  (a0, s))
-- X12_isSign
theorem tb_170_31 {X : gX} (ok : gOK X) (hX : gHX X) (d : Nat)   (s : gS) : Go X em_170 170 (d + 2) 31 [] [] [] s 0 0 (fb_170_31  s) some := by
  delta fb_170_31
  refine g_rb gs_170 3 (cd' := gb_170_31) rfl rfl ?_
  refine g_iconst ok (v := 0) rfl ?_
  refine g_rb gs_170 4 (cd' := gb_170_32) rfl rfl ?_
  exact g_zreturn ok rfl (Or.inl rfl) rfl (rfl)
theorem t_170 {X : gX} (ok : gOK X) (hX : gHX X) (d : Nat) (a0 : Nat) (a1 : Int) (s : gS) : Go X em_170 170 (d + 2) 0 [] [(0, (28, 0, a0)), (1, (0, a1, 0))] [] s 0 0 (f_170 a0 a1 s) some := by
  delta f_170
  refine g_rb gs_170 0 (cd' := gb_170_0) rfl rfl ?_
  refine g_aload_n ok rfl rfl ?_
  refine g_cv0 ok (me_169 hX) rfl rfl rfl (t_169 ok hX _ a0 s) (fun s1 => ?_)
  refine g_aload_n ok rfl rfl ?_
  refine g_geti ok rfl rfl ?_
  refine g_aload_n ok rfl rfl ?_
  refine g_geti ok rfl rfl ?_
  refine g_ic_ge ok rfl (fun _ => ?_) (fun _ => ?_)
  · refine g_rb gs_170 1 (cd' := gb_170_15) rfl rfl ?_
    refine g_aload_n ok rfl rfl ?_
    refine g_aload_n ok rfl rfl ?_
    refine g_geti ok rfl rfl ?_
    refine g_cv1 ok (me_168 hX) rfl rfl rfl rfl (t_168 ok hX _ a0 (gI s1 a0 11) s1) (fun v4 s3 => ?_)
    refine g_iload_n ok rfl ?_
    refine g_ic_ne ok rfl (fun _ => ?_) (fun _ => ?_)
    · refine g_rb gs_170 2 (cd' := gb_170_27) rfl rfl ?_
      refine g_iconst ok (v := 1) rfl ?_
      refine g_goto ok rfl ?_
      refine g_rb gs_170 4 (cd' := gb_170_32) rfl rfl ?_
      exact g_zreturn ok rfl (Or.inr rfl) rfl (rfl)
    · exact g_wk ok [] trivial (tb_170_31 ok hX d   s3)
  · exact g_wk ok [] trivial (tb_170_31 ok hX d   s1)
-- X12_has
theorem ts_171_55 {X : gX} (ok : gOK X) (hX : gHX X) (d : Nat) {k55 : (Nat × Nat × Int × Int × gS) ⊕ gO → Option gO} (hl55 : ∀ y : (Nat × Nat × Int × Int × gS), Go X em_171 171 (d + 4) 55 [] [(0, (28, 0, y.1)), (1, (8, 0, y.2.1)), (2, (0, y.2.2.1, 0)), (3, (0, y.2.2.2.1, 0))] [] y.2.2.2.2 0 0 (some (Sum.inl y)) k55) (hr55 : ∀ q, k55 (Sum.inr q) = some q) (x0 : Nat) (x1 : Nat) (x2 : Int) (x3 : Int) (s : gS) : Go X em_171 171 (d + 4) 55 [] [(0, (28, 0, x0)), (1, (8, 0, x1)), (2, (0, x2, 0)), (3, (0, x3, 0))] [] s 0 0 (sb_171_55 x0 x1 x2 x3 s) k55 := by
  delta sb_171_55
  refine g_rb gs_171 7 (cd' := gb_171_55) rfl rfl ?_
  refine g_iload_n ok rfl ?_
  refine g_aload_n ok rfl rfl ?_
  refine g_cq1 ok (me_266 hX) rfl rfl rfl (t_266 ok hX _ x1 s) (fun v11 s10 => ?_)
  refine g_ic_ge ok rfl (fun _ => ?_) (fun _ => ?_)
  · refine g_rb gs_171 8 (cd' := gb_171_63) rfl rfl ?_
    refine g_aload_n ok rfl rfl ?_
    refine g_aload_n ok rfl rfl ?_
    refine g_geti ok rfl rfl ?_
    refine g_iload_n ok rfl ?_
    refine g_iadd ok ?_
    refine g_cv1 ok (me_168 hX) rfl rfl rfl rfl (t_168 ok hX _ x0 (g32 ((gI s10 x0 11) + x3)) s10) (fun v13 s12 => ?_)
    refine g_aload_n ok rfl rfl ?_
    refine g_iload_n ok rfl ?_
    refine g_cq1 ok (me_267 hX) rfl rfl rfl (t_267 ok hX _ x1 x3 s12) (fun v15 s14 => ?_)
    refine g_ic_eq ok rfl (fun _ => ?_) (fun _ => ?_)
    · refine g_rb gs_171 10 (cd' := gb_171_83) rfl rfl ?_
      refine g_iinc ok rfl rfl (L' := [(0, (28, 0, x0)), (1, (8, 0, x1)), (2, (0, x2, 0)), (3, (0, (g32 (x3 + 1)), 0))]) rfl ?_
      refine g_goto ok rfl ?_
      exact g_wk ok [(0, (28, 0, x0)), (1, (8, 0, x1)), (2, (0, x2, 0)), (3, (0, (g32 (x3 + 1)), 0))] ⟨rfl, rfl, rfl, rfl, trivial⟩ (hl55 (x0, x1, x2, (g32 (x3 + 1)), s14))
    · refine g_map hr55 ?_
      refine g_rb gs_171 9 (cd' := gb_171_81) rfl rfl ?_
      refine g_iconst ok (v := 0) rfl ?_
      exact g_zreturn ok rfl (Or.inl rfl) rfl (rfl)
  · refine g_map hr55 ?_
    refine g_rb gs_171 11 (cd' := gb_171_89) rfl rfl ?_
    refine g_aload_n ok rfl rfl ?_
    refine g_iload_n ok rfl ?_
    refine g_puti ok rfl rfl rfl ?_
    let s16 : gS := gw s10 x0 11 x2
    refine g_iconst ok (v := 1) rfl ?_
    exact g_zreturn ok rfl (Or.inr rfl) rfl (rfl)
theorem tl_171_55 {X : gX} (ok : gOK X) (hX : gHX X) (d : Nat)  (y : (Nat × Nat × Int × Int × gS)) : Go X em_171 171 (d + 4) 55 [] [(0, (28, 0, y.1)), (1, (8, 0, y.2.1)), (2, (0, y.2.2.1, 0)), (3, (0, y.2.2.2.1, 0))] [] y.2.2.2.2 0 0 (gloop (st_171_55) y) some :=
  g_loop (Lh := fun y => [(0, (28, 0, y.1)), (1, (8, 0, y.2.1)), (2, (0, y.2.2.1, 0)), (3, (0, y.2.2.2.1, 0))]) (sh := fun y => y.2.2.2.2) (fun k55 hl55 hr55 y => ts_171_55 ok hX d  hl55 hr55 y.1 y.2.1 y.2.2.1 y.2.2.2.1 y.2.2.2.2) y
theorem tb_171_38 {X : gX} (ok : gOK X) (hX : gHX X) (d : Nat)  (x0 : Nat) (x1 : Nat) (x2 : Int) (s : gS) : Go X em_171 171 (d + 4) 38 [] [(0, (28, 0, x0)), (1, (8, 0, x1)), (2, (0, x2, 0))] [] s 0 0 (fb_171_38 x0 x1 x2 s) some := by
  delta fb_171_38
  refine g_rb gs_171 4 (cd' := gb_171_38) rfl rfl ?_
  refine g_iload_n ok rfl ?_
  refine g_aload_n ok rfl rfl ?_
  refine g_geti ok rfl rfl ?_
  refine g_isub ok ?_
  refine g_aload_n ok rfl rfl ?_
  refine g_cq1 ok (me_266 hX) rfl rfl rfl (t_266 ok hX _ x1 s) (fun v9 s8 => ?_)
  refine g_ic_eq ok rfl (fun _ => ?_) (fun _ => ?_)
  · refine g_rb gs_171 6 (cd' := gb_171_53) rfl rfl ?_
    refine g_iconst ok (v := 0) rfl ?_
    refine g_istore_n ok rfl (L' := [(0, (28, 0, x0)), (1, (8, 0, x1)), (2, (0, x2, 0)), (3, (0, 0, 0))]) rfl ?_
    exact g_wk ok [(0, (28, 0, x0)), (1, (8, 0, x1)), (2, (0, x2, 0)), (3, (0, 0, 0))] ⟨rfl, rfl, rfl, rfl, trivial⟩ (tl_171_55 ok hX d  (x0, x1, x2, 0, s8))
  · refine g_rb gs_171 5 (cd' := gb_171_51) rfl rfl ?_
    refine g_iconst ok (v := 0) rfl ?_
    exact g_zreturn ok rfl (Or.inl rfl) rfl (rfl)
theorem ts_171_9 {X : gX} (ok : gOK X) (hX : gHX X) (d : Nat) {k9 : (Nat × Nat × Int × gS) ⊕ gO → Option gO} (hl9 : ∀ y : (Nat × Nat × Int × gS), Go X em_171 171 (d + 4) 9 [] [(0, (28, 0, y.1)), (1, (8, 0, y.2.1)), (2, (0, y.2.2.1, 0))] [] y.2.2.2 0 0 (some (Sum.inl y)) k9) (hr9 : ∀ q, k9 (Sum.inr q) = some q) (x0 : Nat) (x1 : Nat) (x2 : Int) (s : gS) : Go X em_171 171 (d + 4) 9 [] [(0, (28, 0, x0)), (1, (8, 0, x1)), (2, (0, x2, 0))] [] s 0 0 (sb_171_9 x0 x1 x2 s) k9 := by
  delta sb_171_9
  refine g_rb gs_171 1 (cd' := gb_171_9) rfl rfl ?_
  refine g_iload_n ok rfl ?_
  refine g_aload_n ok rfl rfl ?_
  refine g_geti ok rfl rfl ?_
  refine g_ic_ge ok rfl (fun _ => ?_) (fun _ => ?_)
  · refine g_rb gs_171 2 (cd' := gb_171_17) rfl rfl ?_
    refine g_aload_n ok rfl rfl ?_
    refine g_iload_n ok rfl ?_
    refine g_cv1 ok (me_168 hX) rfl rfl rfl rfl (t_168 ok hX _ x0 x2 s) (fun v4 s3 => ?_)
    refine g_bipush ok (v := 97) rfl ?_
    refine g_bipush ok (v := 122) rfl ?_
    refine g_csz ok (me_150 hX) rfl rfl rfl (t_150 ok hX _ v4 97 122 s3) (fun v6 s5 hb7 => ?_)
    refine g_if_eq ok rfl (fun _ => ?_) (fun _ => ?_)
    · refine g_map hr9 ?_
      exact g_wk ok [(0, (28, 0, x0)), (1, (8, 0, x1)), (2, (0, x2, 0))] ⟨rfl, rfl, rfl, trivial⟩ (tb_171_38 ok hX d  x0 x1 x2 s5)
    · refine g_rb gs_171 3 (cd' := gb_171_32) rfl rfl ?_
      refine g_iinc ok rfl rfl (L' := [(0, (28, 0, x0)), (1, (8, 0, x1)), (2, (0, (g32 (x2 + 1)), 0))]) rfl ?_
      refine g_goto ok rfl ?_
      exact g_wk ok [(0, (28, 0, x0)), (1, (8, 0, x1)), (2, (0, (g32 (x2 + 1)), 0))] ⟨rfl, rfl, rfl, trivial⟩ (hl9 (x0, x1, (g32 (x2 + 1)), s5))
  · refine g_map hr9 ?_
    exact g_wk ok [(0, (28, 0, x0)), (1, (8, 0, x1)), (2, (0, x2, 0))] ⟨rfl, rfl, rfl, trivial⟩ (tb_171_38 ok hX d  x0 x1 x2 s)
theorem tl_171_9 {X : gX} (ok : gOK X) (hX : gHX X) (d : Nat)  (y : (Nat × Nat × Int × gS)) : Go X em_171 171 (d + 4) 9 [] [(0, (28, 0, y.1)), (1, (8, 0, y.2.1)), (2, (0, y.2.2.1, 0))] [] y.2.2.2 0 0 (gloop (st_171_9) y) some :=
  g_loop (Lh := fun y => [(0, (28, 0, y.1)), (1, (8, 0, y.2.1)), (2, (0, y.2.2.1, 0))]) (sh := fun y => y.2.2.2) (fun k9 hl9 hr9 y => ts_171_9 ok hX d  hl9 hr9 y.1 y.2.1 y.2.2.1 y.2.2.2) y
theorem t_171 {X : gX} (ok : gOK X) (hX : gHX X) (d : Nat) (a0 : Nat) (a1 : Nat) (s : gS) : Go X em_171 171 (d + 4) 0 [] [(0, (28, 0, a0)), (1, (8, 0, a1))] [] s 0 0 (f_171 a0 a1 s) some := by
  delta f_171
  refine g_rb gs_171 0 (cd' := gb_171_0) rfl rfl ?_
  refine g_aload_n ok rfl rfl ?_
  refine g_cv0 ok (me_169 hX) rfl rfl rfl (t_169 ok hX _ a0 s) (fun s1 => ?_)
  refine g_aload_n ok rfl rfl ?_
  refine g_geti ok rfl rfl ?_
  refine g_istore_n ok rfl (L' := [(0, (28, 0, a0)), (1, (8, 0, a1)), (2, (0, (gI s1 a0 11), 0))]) rfl ?_
  exact g_wk ok [(0, (28, 0, a0)), (1, (8, 0, a1)), (2, (0, (gI s1 a0 11), 0))] ⟨rfl, rfl, rfl, trivial⟩ (tl_171_9 ok hX d  (a0, a1, (gI s1 a0 11), s1))
-- X12_wrong
theorem t_172 {X : gX} (ok : gOK X) (hX : gHX X) (d : Nat) (a0 : Nat) (a1 : Int) (s : gS) : Go X em_172 172 d 0 [] [(0, (28, 0, a0)), (1, (0, a1, 0))] [] s 0 0 (f_172 a0 a1 s) some := by
  delta f_172
  refine g_rb gs_172 0 (cd' := gb_172_0) rfl rfl ?_
  refine g_aload_n ok rfl rfl ?_
  refine g_geti ok rfl rfl ?_
  refine g_iconst ok (v := (-1)) rfl ?_
  refine g_ic_ne ok rfl (fun _ => ?_) (fun _ => ?_)
  · refine g_rb gs_172 1 (cd' := gb_172_8) rfl rfl ?_
    refine g_aload_n ok rfl rfl ?_
    refine g_iload_n ok rfl ?_
    refine g_puti ok rfl rfl rfl ?_
    let s1 : gS := gw s a0 12 a1
    refine g_rb gs_172 2 (cd' := gb_172_13) rfl rfl ?_
    exact g_return ok rfl rfl (rfl)
  · refine g_rb gs_172 2 (cd' := gb_172_13) rfl rfl ?_
    exact g_return ok rfl rfl (rfl)
-- X12_place
theorem t_173 {X : gX} (ok : gOK X) (hX : gHX X) (d : Nat) (a0 : Nat) (s : gS) : Go X em_173 173 (d + 2) 0 [] [(0, (28, 0, a0))] [] s 0 0 (f_173 a0 s) some := by
  delta f_173
  refine g_rb gs_173 0 (cd' := gb_173_0) rfl rfl ?_
  refine g_aload_n ok rfl rfl ?_
  refine g_cv0 ok (me_169 hX) rfl rfl rfl (t_169 ok hX _ a0 s) (fun s1 => ?_)
  refine g_aload_n ok rfl rfl ?_
  refine g_geti ok rfl rfl ?_
  exact g_ireturn ok rfl rfl (rfl)
-- X12_figures
theorem tb_174_119 {X : gX} (ok : gOK X) (hX : gHX X) (d : Nat)  (x0 : Nat) (x3 : Int) (x4 : Int) (s : gS) : Go X em_174 174 (d + 3) 119 [] [(0, (28, 0, x0)), (3, (0, x3, 0)), (4, (0, x4, 0))] [] s 0 0 (fb_174_119 x0 x3 x4 s) some := by
  delta fb_174_119
  refine g_rb gs_174 11 (cd' := gb_174_119) rfl rfl ?_
  refine g_aload_n ok rfl rfl ?_
  refine g_iload_n ok rfl ?_
  refine g_cv0 ok (me_172 hX) rfl rfl rfl (t_172 ok hX _ x0 x3 s) (fun s8 => ?_)
  refine g_rb gs_174 12 (cd' := gb_174_124) rfl rfl ?_
  refine g_iload ok rfl ?_
  exact g_ireturn ok rfl rfl (rfl)
theorem tb_174_89 {X : gX} (ok : gOK X) (hX : gHX X) (d : Nat)  (x0 : Nat) (x1 : Int) (x2 : Int) (x3 : Int) (x4 : Int) (s : gS) : Go X em_174 174 (d + 3) 89 [] [(0, (28, 0, x0)), (1, (0, x1, 0)), (2, (0, x2, 0)), (3, (0, x3, 0)), (4, (0, x4, 0))] [] s 0 0 (fb_174_89 x0 x1 x2 x3 x4 s) some := by
  delta fb_174_89
  refine g_rb gs_174 7 (cd' := gb_174_89) rfl rfl ?_
  refine g_aload_n ok rfl rfl ?_
  refine g_geti ok rfl rfl ?_
  refine g_iload_n ok rfl ?_
  refine g_ic_eq ok rfl (fun _ => ?_) (fun _ => ?_)
  · exact g_wk ok [(0, (28, 0, x0)), (3, (0, x3, 0)), (4, (0, x4, 0))] ⟨rfl, rfl, rfl, trivial⟩ (tb_174_119 ok hX d  x0 x3 x4 s)
  · refine g_rb gs_174 8 (cd' := gb_174_97) rfl rfl ?_
    refine g_aload_n ok rfl rfl ?_
    refine g_geti ok rfl rfl ?_
    refine g_iload_n ok rfl ?_
    refine g_isub ok ?_
    refine g_iconst ok (v := 3) rfl ?_
    refine g_ic_gt ok rfl (fun _ => ?_) (fun _ => ?_)
    · exact g_wk ok [(0, (28, 0, x0)), (3, (0, x3, 0)), (4, (0, x4, 0))] ⟨rfl, rfl, rfl, trivial⟩ (tb_174_119 ok hX d  x0 x3 x4 s)
    · refine g_rb gs_174 9 (cd' := gb_174_107) rfl rfl ?_
      refine g_iload ok rfl ?_
      refine g_iload_n ok rfl ?_
      refine g_ic_lt ok rfl (fun _ => ?_) (fun _ => ?_)
      · exact g_wk ok [(0, (28, 0, x0)), (3, (0, x3, 0)), (4, (0, x4, 0))] ⟨rfl, rfl, rfl, trivial⟩ (tb_174_119 ok hX d  x0 x3 x4 s)
      · refine g_rb gs_174 10 (cd' := gb_174_113) rfl rfl ?_
        refine g_iload ok rfl ?_
        refine g_iload_n ok rfl ?_
        refine g_ic_le ok rfl (fun _ => ?_) (fun _ => ?_)
        · exact g_wk ok [(0, (28, 0, x0)), (3, (0, x3, 0)), (4, (0, x4, 0))] ⟨rfl, rfl, rfl, trivial⟩ (tb_174_119 ok hX d  x0 x3 x4 s)
        · refine g_rb gs_174 12 (cd' := gb_174_124) rfl rfl ?_
          refine g_iload ok rfl ?_
          exact g_ireturn ok rfl rfl (rfl)
theorem ts_174_18 {X : gX} (ok : gOK X) (hX : gHX X) (d : Nat) {k18 : (Nat × Int × Int × Int × Int × gS) ⊕ gO → Option gO} (hl18 : ∀ y : (Nat × Int × Int × Int × Int × gS), Go X em_174 174 (d + 3) 18 [] [(0, (28, 0, y.1)), (1, (0, y.2.1, 0)), (2, (0, y.2.2.1, 0)), (3, (0, y.2.2.2.1, 0)), (4, (0, y.2.2.2.2.1, 0))] [] y.2.2.2.2.2 0 0 (some (Sum.inl y)) k18) (hr18 : ∀ q, k18 (Sum.inr q) = some q) (x0 : Nat) (x1 : Int) (x2 : Int) (x3 : Int) (x4 : Int) (s : gS) : Go X em_174 174 (d + 3) 18 [] [(0, (28, 0, x0)), (1, (0, x1, 0)), (2, (0, x2, 0)), (3, (0, x3, 0)), (4, (0, x4, 0))] [] s 0 0 (sb_174_18 x0 x1 x2 x3 x4 s) k18 := by
  delta sb_174_18
  refine g_rb gs_174 3 (cd' := gb_174_18) rfl rfl ?_
  refine g_aload_n ok rfl rfl ?_
  refine g_geti ok rfl rfl ?_
  refine g_aload_n ok rfl rfl ?_
  refine g_geti ok rfl rfl ?_
  refine g_ic_ge ok rfl (fun _ => ?_) (fun _ => ?_)
  · refine g_rb gs_174 4 (cd' := gb_174_29) rfl rfl ?_
    refine g_aload_n ok rfl rfl ?_
    refine g_aload_n ok rfl rfl ?_
    refine g_geti ok rfl rfl ?_
    refine g_cv1 ok (me_168 hX) rfl rfl rfl rfl (t_168 ok hX _ x0 (gI s x0 11) s) (fun v4 s3 => ?_)
    refine g_bipush ok (v := 48) rfl ?_
    refine g_bipush ok (v := 57) rfl ?_
    refine g_csz ok (me_150 hX) rfl rfl rfl (t_150 ok hX _ v4 48 57 s3) (fun v6 s5 hb7 => ?_)
    refine g_if_eq ok rfl (fun _ => ?_) (fun _ => ?_)
    · refine g_map hr18 ?_
      exact g_wk ok [(0, (28, 0, x0)), (1, (0, x1, 0)), (2, (0, x2, 0)), (3, (0, x3, 0)), (4, (0, x4, 0))] ⟨rfl, rfl, rfl, rfl, rfl, trivial⟩ (tb_174_89 ok hX d  x0 x1 x2 x3 x4 s5)
    · refine g_rb gs_174 5 (cd' := gb_174_47) rfl rfl ?_
      refine g_aload_n ok rfl rfl ?_
      refine g_geti ok rfl rfl ?_
      refine g_iload_n ok rfl ?_
      refine g_isub ok ?_
      refine g_iconst ok (v := 3) rfl ?_
      refine g_ic_gt ok rfl (fun _ => ?_) (fun _ => ?_)
      · refine g_map hr18 ?_
        exact g_wk ok [(0, (28, 0, x0)), (1, (0, x1, 0)), (2, (0, x2, 0)), (3, (0, x3, 0)), (4, (0, x4, 0))] ⟨rfl, rfl, rfl, rfl, rfl, trivial⟩ (tb_174_89 ok hX d  x0 x1 x2 x3 x4 s5)
      · refine g_rb gs_174 6 (cd' := gb_174_57) rfl rfl ?_
        refine g_bipush ok (v := 10) rfl ?_
        refine g_iload ok rfl ?_
        refine g_imul ok ?_
        refine g_aload_n ok rfl rfl ?_
        refine g_aload_n ok rfl rfl ?_
        refine g_geti ok rfl rfl ?_
        refine g_cv1 ok (me_168 hX) rfl rfl rfl rfl (t_168 ok hX _ x0 (gI s5 x0 11) s5) (fun v11 s10 => ?_)
        refine g_iadd ok ?_
        refine g_bipush ok (v := 48) rfl ?_
        refine g_isub ok ?_
        let v12 : Int := (g32 ((g32 ((g32 (10 * x4)) + v11)) - 48))
        refine g_istore ok rfl (L' := [(0, (28, 0, x0)), (1, (0, x1, 0)), (2, (0, x2, 0)), (3, (0, x3, 0)), (4, (0, v12, 0))]) rfl ?_
        refine g_aload_n ok rfl rfl ?_
        refine g_dup ok rfl ?_
        refine g_geti ok rfl rfl ?_
        refine g_iconst ok (v := 1) rfl ?_
        refine g_iadd ok ?_
        refine g_puti ok rfl rfl rfl ?_
        let s13 : gS := gw s10 x0 11 (g32 ((gI s10 x0 11) + 1))
        refine g_goto ok rfl ?_
        exact g_wk ok [(0, (28, 0, x0)), (1, (0, x1, 0)), (2, (0, x2, 0)), (3, (0, x3, 0)), (4, (0, v12, 0))] ⟨rfl, rfl, rfl, rfl, rfl, trivial⟩ (hl18 (x0, x1, x2, x3, v12, s13))
  · refine g_map hr18 ?_
    exact g_wk ok [(0, (28, 0, x0)), (1, (0, x1, 0)), (2, (0, x2, 0)), (3, (0, x3, 0)), (4, (0, x4, 0))] ⟨rfl, rfl, rfl, rfl, rfl, trivial⟩ (tb_174_89 ok hX d  x0 x1 x2 x3 x4 s)
theorem tl_174_18 {X : gX} (ok : gOK X) (hX : gHX X) (d : Nat)  (y : (Nat × Int × Int × Int × Int × gS)) : Go X em_174 174 (d + 3) 18 [] [(0, (28, 0, y.1)), (1, (0, y.2.1, 0)), (2, (0, y.2.2.1, 0)), (3, (0, y.2.2.2.1, 0)), (4, (0, y.2.2.2.2.1, 0))] [] y.2.2.2.2.2 0 0 (gloop (st_174_18) y) some :=
  g_loop (Lh := fun y => [(0, (28, 0, y.1)), (1, (0, y.2.1, 0)), (2, (0, y.2.2.1, 0)), (3, (0, y.2.2.2.1, 0)), (4, (0, y.2.2.2.2.1, 0))]) (sh := fun y => y.2.2.2.2.2) (fun k18 hl18 hr18 y => ts_174_18 ok hX d  hl18 hr18 y.1 y.2.1 y.2.2.1 y.2.2.2.1 y.2.2.2.2.1 y.2.2.2.2.2) y
theorem t_174 {X : gX} (ok : gOK X) (hX : gHX X) (d : Nat) (a0 : Nat) (a1 : Int) (a2 : Int) (s : gS) : Go X em_174 174 (d + 3) 0 [] [(0, (28, 0, a0)), (1, (0, a1, 0)), (2, (0, a2, 0))] [] s 0 0 (f_174 a0 a1 a2 s) some := by
  delta f_174
  refine g_rb gs_174 0 (cd' := gb_174_0) rfl rfl ?_
  refine g_aload_n ok rfl rfl ?_
  refine g_geti ok rfl rfl ?_
  refine g_iconst ok (v := (-1)) rfl ?_
  refine g_ic_eq ok rfl (fun _ => ?_) (fun _ => ?_)
  · refine g_rb gs_174 2 (cd' := gb_174_10) rfl rfl ?_
    refine g_aload_n ok rfl rfl ?_
    refine g_cv1 ok (me_173 hX) rfl rfl rfl rfl (t_173 ok hX _ a0 s) (fun v2 s1 => ?_)
    refine g_istore_n ok rfl (L' := [(0, (28, 0, a0)), (1, (0, a1, 0)), (2, (0, a2, 0)), (3, (0, v2, 0))]) rfl ?_
    refine g_iconst ok (v := 0) rfl ?_
    refine g_istore ok rfl (L' := [(0, (28, 0, a0)), (1, (0, a1, 0)), (2, (0, a2, 0)), (3, (0, v2, 0)), (4, (0, 0, 0))]) rfl ?_
    exact g_wk ok [(0, (28, 0, a0)), (1, (0, a1, 0)), (2, (0, a2, 0)), (3, (0, v2, 0)), (4, (0, 0, 0))] ⟨rfl, rfl, rfl, rfl, rfl, trivial⟩ (tl_174_18 ok hX d  (a0, a1, a2, v2, 0, s1))
  · refine g_rb gs_174 1 (cd' := gb_174_8) rfl rfl ?_
    refine g_iconst ok (v := 0) rfl ?_
    exact g_ireturn ok rfl rfl (rfl)
-- X12_after
theorem tb_175_24 {X : gX} (ok : gOK X) (hX : gHX X) (d : Nat)  (x0 : Nat) (x2 : Int) (x3 : Int) (s : gS) : Go X em_175 175 (d + 5) 24 [] [(0, (28, 0, x0)), (2, (0, x2, 0)), (3, (0, x3, 0))] [] s 0 0 (fb_175_24 x0 x2 x3 s) some := by
  delta fb_175_24
  refine g_rb gs_175 3 (cd' := gb_175_24) rfl rfl ?_
  refine g_aload_n ok rfl rfl ?_
  refine g_iload_n ok rfl ?_
  refine g_iload_n ok rfl ?_
  refine g_cv1 ok (me_174 hX) rfl rfl rfl rfl (t_174 ok hX _ x0 x2 x3 s) (fun v7 s6 => ?_)
  exact g_ireturn ok rfl rfl (rfl)
theorem t_175 {X : gX} (ok : gOK X) (hX : gHX X) (d : Nat) (a0 : Nat) (a1 : Nat) (a2 : Int) (a3 : Int) (s : gS) : Go X em_175 175 (d + 5) 0 [] [(0, (28, 0, a0)), (1, (8, 0, a1)), (2, (0, a2, 0)), (3, (0, a3, 0))] [] s 0 0 (f_175 a0 a1 a2 a3 s) some := by
  delta f_175
  refine g_rb gs_175 0 (cd' := gb_175_0) rfl rfl ?_
  refine g_aload_n ok rfl rfl ?_
  refine g_geti ok rfl rfl ?_
  refine g_iconst ok (v := (-1)) rfl ?_
  refine g_ic_ne ok rfl (fun _ => ?_) (fun _ => ?_)
  · refine g_rb gs_175 1 (cd' := gb_175_8) rfl rfl ?_
    refine g_aload_n ok rfl rfl ?_
    refine g_aload_n ok rfl rfl ?_
    refine g_cvz ok (me_171 hX) rfl rfl rfl rfl (t_171 ok hX _ a0 a1 s) (fun v2 s1 hb3 => ?_)
    refine g_if_ne ok rfl (fun _ => ?_) (fun _ => ?_)
    · refine g_rb gs_175 2 (cd' := gb_175_16) rfl rfl ?_
      refine g_aload_n ok rfl rfl ?_
      refine g_aload_n ok rfl rfl ?_
      refine g_geti ok rfl rfl ?_
      refine g_cv0 ok (me_172 hX) rfl rfl rfl (t_172 ok hX _ a0 (gI s1 a0 11) s1) (fun s4 => ?_)
      exact g_wk ok [(0, (28, 0, a0)), (2, (0, a2, 0)), (3, (0, a3, 0))] ⟨rfl, rfl, rfl, trivial⟩ (tb_175_24 ok hX d  a0 a2 a3 s4)
    · exact g_wk ok [(0, (28, 0, a0)), (2, (0, a2, 0)), (3, (0, a3, 0))] ⟨rfl, rfl, rfl, trivial⟩ (tb_175_24 ok hX d  a0 a2 a3 s1)
  · exact g_wk ok [(0, (28, 0, a0)), (2, (0, a2, 0)), (3, (0, a3, 0))] ⟨rfl, rfl, rfl, trivial⟩ (tb_175_24 ok hX d  a0 a2 a3 s)
-- X12_lettersAfter
theorem tb_176_154 {X : gX} (ok : gOK X) (hX : gHX X) (d : Nat)  (x0 : Nat) (x2 : Int) (x3 : Int) (s : gS) : Go X em_176 176 (d + 5) 154 [] [(0, (28, 0, x0)), (2, (0, x2, 0)), (3, (0, x3, 0))] [] s 0 0 (fb_176_154 x0 x2 x3 s) some := by
  delta fb_176_154
  refine g_rb gs_176 19 (cd' := gb_176_154) rfl rfl ?_
  refine g_aload_n ok rfl rfl ?_
  refine g_iload_n ok rfl ?_
  refine g_cv0 ok (me_172 hX) rfl rfl rfl (t_172 ok hX _ x0 x2 s) (fun s13 => ?_)
  refine g_rb gs_176 20 (cd' := gb_176_159) rfl rfl ?_
  refine g_iload_n ok rfl ?_
  exact g_ireturn ok rfl rfl (rfl)
theorem tb_176_145 {X : gX} (ok : gOK X) (hX : gHX X) (d : Nat)  (x0 : Nat) (x2 : Int) (x3 : Int) (x4 : Int) (s : gS) : Go X em_176 176 (d + 5) 145 [] [(0, (28, 0, x0)), (2, (0, x2, 0)), (3, (0, x3, 0)), (4, (0, x4, 0))] [] s 0 0 (fb_176_145 x0 x2 x3 x4 s) some := by
  delta fb_176_145
  refine g_rb gs_176 17 (cd' := gb_176_145) rfl rfl ?_
  refine g_iload ok rfl ?_
  refine g_if_eq ok rfl (fun _ => ?_) (fun _ => ?_)
  · exact g_wk ok [(0, (28, 0, x0)), (2, (0, x2, 0)), (3, (0, x3, 0))] ⟨rfl, rfl, rfl, trivial⟩ (tb_176_154 ok hX d  x0 x2 x3 s)
  · refine g_rb gs_176 18 (cd' := gb_176_150) rfl rfl ?_
    refine g_iload_n ok rfl ?_
    refine g_if_ne ok rfl (fun _ => ?_) (fun _ => ?_)
    · exact g_wk ok [(0, (28, 0, x0)), (2, (0, x2, 0)), (3, (0, x3, 0))] ⟨rfl, rfl, rfl, trivial⟩ (tb_176_154 ok hX d  x0 x2 x3 s)
    · refine g_rb gs_176 20 (cd' := gb_176_159) rfl rfl ?_
      refine g_iload_n ok rfl ?_
      exact g_ireturn ok rfl rfl (rfl)
theorem tb_176_130 {X : gX} (ok : gOK X) (hX : gHX X) (d : Nat) {k44 : (Nat × Int × Int × Int × gS) ⊕ gO → Option gO} (hl44 : ∀ y : (Nat × Int × Int × Int × gS), Go X em_176 176 (d + 5) 44 [] [(0, (28, 0, y.1)), (2, (0, y.2.1, 0)), (3, (0, y.2.2.1, 0)), (4, (0, y.2.2.2.1, 0))] [] y.2.2.2.2 0 0 (some (Sum.inl y)) k44) (hr44 : ∀ q, k44 (Sum.inr q) = some q) (x0 : Nat) (x2 : Int) (x4 : Int) (w0 : Int) (w1 : Int) (s : gS) : Go X em_176 176 (d + 5) 130 [] [(0, (28, 0, x0)), (2, (0, x2, 0)), (4, (0, x4, 0))] [(0, w0, 0), (0, w1, 0)] s 0 0 (fb_176_130 x0 x2 x4 w0 w1 s) k44 := by
  delta fb_176_130
  refine g_rb gs_176 16 (cd' := gb_176_130) rfl rfl ?_
  refine g_ior ok ?_
  refine g_istore_n ok rfl (L' := [(0, (28, 0, x0)), (2, (0, x2, 0)), (4, (0, x4, 0)), (3, (0, (gor w1 w0), 0))]) rfl ?_
  refine g_aload_n ok rfl rfl ?_
  refine g_dup ok rfl ?_
  refine g_geti ok rfl rfl ?_
  refine g_iconst ok (v := 1) rfl ?_
  refine g_iadd ok ?_
  refine g_puti ok rfl rfl rfl ?_
  let s17 : gS := gw s x0 11 (g32 ((gI s x0 11) + 1))
  refine g_goto ok rfl ?_
  exact g_wk ok [(0, (28, 0, x0)), (2, (0, x2, 0)), (3, (0, (gor w1 w0), 0)), (4, (0, x4, 0))] ⟨rfl, rfl, rfl, rfl, trivial⟩ (hl44 (x0, x2, (gor w1 w0), x4, s17))
theorem tb_176_112 {X : gX} (ok : gOK X) (hX : gHX X) (d : Nat) {k44 : (Nat × Int × Int × Int × gS) ⊕ gO → Option gO} (hl44 : ∀ y : (Nat × Int × Int × Int × gS), Go X em_176 176 (d + 5) 44 [] [(0, (28, 0, y.1)), (2, (0, y.2.1, 0)), (3, (0, y.2.2.1, 0)), (4, (0, y.2.2.2.1, 0))] [] y.2.2.2.2 0 0 (some (Sum.inl y)) k44) (hr44 : ∀ q, k44 (Sum.inr q) = some q) (x0 : Nat) (x2 : Int) (x3 : Int) (x5 : Int) (w0 : Int) (s : gS) : Go X em_176 176 (d + 5) 112 [] [(0, (28, 0, x0)), (2, (0, x2, 0)), (3, (0, x3, 0)), (5, (0, x5, 0))] [(0, w0, 0)] s 0 0 (fb_176_112 x0 x2 x3 x5 w0 s) k44 := by
  delta fb_176_112
  refine g_rb gs_176 13 (cd' := gb_176_112) rfl rfl ?_
  refine g_istore ok rfl (L' := [(0, (28, 0, x0)), (2, (0, x2, 0)), (3, (0, x3, 0)), (5, (0, x5, 0)), (4, (0, w0, 0))]) rfl ?_
  refine g_iload_n ok rfl ?_
  refine g_iload ok rfl ?_
  refine g_bipush ok (v := 6) rfl ?_
  refine g_ic_ge ok rfl (fun _ => ?_) (fun _ => ?_)
  · refine g_rb gs_176 14 (cd' := gb_176_122) rfl rfl ?_
    refine g_iconst ok (v := 1) rfl ?_
    refine g_iload ok rfl ?_
    refine g_ishl ok ?_
    refine g_goto ok rfl ?_
    exact g_wk ok [(0, (28, 0, x0)), (2, (0, x2, 0)), (4, (0, w0, 0))] ⟨rfl, rfl, rfl, trivial⟩ (tb_176_130 ok hX d hl44 hr44 x0 x2 w0 (gshl 1 x5) x3 s)
  · refine g_rb gs_176 15 (cd' := gb_176_129) rfl rfl ?_
    refine g_iconst ok (v := 0) rfl ?_
    exact g_wk ok [(0, (28, 0, x0)), (2, (0, x2, 0)), (4, (0, w0, 0))] ⟨rfl, rfl, rfl, trivial⟩ (tb_176_130 ok hX d hl44 hr44 x0 x2 w0 0 x3 s)
theorem tb_176_111 {X : gX} (ok : gOK X) (hX : gHX X) (d : Nat) {k44 : (Nat × Int × Int × Int × gS) ⊕ gO → Option gO} (hl44 : ∀ y : (Nat × Int × Int × Int × gS), Go X em_176 176 (d + 5) 44 [] [(0, (28, 0, y.1)), (2, (0, y.2.1, 0)), (3, (0, y.2.2.1, 0)), (4, (0, y.2.2.2.1, 0))] [] y.2.2.2.2 0 0 (some (Sum.inl y)) k44) (hr44 : ∀ q, k44 (Sum.inr q) = some q) (x0 : Nat) (x2 : Int) (x3 : Int) (x5 : Int) (s : gS) : Go X em_176 176 (d + 5) 111 [] [(0, (28, 0, x0)), (2, (0, x2, 0)), (3, (0, x3, 0)), (5, (0, x5, 0))] [] s 0 0 (fb_176_111 x0 x2 x3 x5 s) k44 := by
  delta fb_176_111
  refine g_rb gs_176 12 (cd' := gb_176_111) rfl rfl ?_
  refine g_iconst ok (v := 0) rfl ?_
  exact g_wk ok [(0, (28, 0, x0)), (2, (0, x2, 0)), (3, (0, x3, 0)), (5, (0, x5, 0))] ⟨rfl, rfl, rfl, rfl, trivial⟩ (tb_176_112 ok hX d hl44 hr44 x0 x2 x3 x5 0 s)
theorem ts_176_44 {X : gX} (ok : gOK X) (hX : gHX X) (d : Nat) {k44 : (Nat × Int × Int × Int × gS) ⊕ gO → Option gO} (hl44 : ∀ y : (Nat × Int × Int × Int × gS), Go X em_176 176 (d + 5) 44 [] [(0, (28, 0, y.1)), (2, (0, y.2.1, 0)), (3, (0, y.2.2.1, 0)), (4, (0, y.2.2.2.1, 0))] [] y.2.2.2.2 0 0 (some (Sum.inl y)) k44) (hr44 : ∀ q, k44 (Sum.inr q) = some q) (x0 : Nat) (x2 : Int) (x3 : Int) (x4 : Int) (s : gS) : Go X em_176 176 (d + 5) 44 [] [(0, (28, 0, x0)), (2, (0, x2, 0)), (3, (0, x3, 0)), (4, (0, x4, 0))] [] s 0 0 (sb_176_44 x0 x2 x3 x4 s) k44 := by
  delta sb_176_44
  refine g_rb gs_176 6 (cd' := gb_176_44) rfl rfl ?_
  refine g_aload_n ok rfl rfl ?_
  refine g_geti ok rfl rfl ?_
  refine g_aload_n ok rfl rfl ?_
  refine g_geti ok rfl rfl ?_
  refine g_ic_ge ok rfl (fun _ => ?_) (fun _ => ?_)
  · refine g_rb gs_176 7 (cd' := gb_176_55) rfl rfl ?_
    refine g_aload_n ok rfl rfl ?_
    refine g_aload_n ok rfl rfl ?_
    refine g_geti ok rfl rfl ?_
    refine g_cv1 ok (me_168 hX) rfl rfl rfl rfl (t_168 ok hX _ x0 (gI s x0 11) s) (fun v9 s8 => ?_)
    refine g_bipush ok (v := 97) rfl ?_
    refine g_bipush ok (v := 122) rfl ?_
    refine g_csz ok (me_150 hX) rfl rfl rfl (t_150 ok hX _ v9 97 122 s8) (fun v11 s10 hb12 => ?_)
    refine g_if_eq ok rfl (fun _ => ?_) (fun _ => ?_)
    · refine g_map hr44 ?_
      exact g_wk ok [(0, (28, 0, x0)), (2, (0, x2, 0)), (3, (0, x3, 0)), (4, (0, x4, 0))] ⟨rfl, rfl, rfl, rfl, trivial⟩ (tb_176_145 ok hX d  x0 x2 x3 x4 s10)
    · refine g_rb gs_176 8 (cd' := gb_176_73) rfl rfl ?_
      refine g_aload_n ok rfl rfl ?_
      refine g_aload_n ok rfl rfl ?_
      refine g_geti ok rfl rfl ?_
      refine g_cv1 ok (me_168 hX) rfl rfl rfl rfl (t_168 ok hX _ x0 (gI s10 x0 11) s10) (fun v16 s15 => ?_)
      refine g_bipush ok (v := 97) rfl ?_
      refine g_isub ok ?_
      refine g_istore ok rfl (L' := [(0, (28, 0, x0)), (2, (0, x2, 0)), (3, (0, x3, 0)), (4, (0, x4, 0)), (5, (0, (g32 (v16 - 97)), 0))]) rfl ?_
      refine g_iload ok rfl ?_
      refine g_if_eq ok rfl (fun _ => ?_) (fun _ => ?_)
      · exact g_wk ok [(0, (28, 0, x0)), (2, (0, x2, 0)), (3, (0, x3, 0)), (5, (0, (g32 (v16 - 97)), 0))] ⟨rfl, rfl, rfl, rfl, trivial⟩ (tb_176_111 ok hX d hl44 hr44 x0 x2 x3 (g32 (v16 - 97)) s15)
      · refine g_rb gs_176 9 (cd' := gb_176_91) rfl rfl ?_
        refine g_iload ok rfl ?_
        refine g_bipush ok (v := 6) rfl ?_
        refine g_ic_ge ok rfl (fun _ => ?_) (fun _ => ?_)
        · refine g_rb gs_176 10 (cd' := gb_176_98) rfl rfl ?_
          refine g_iload_n ok rfl ?_
          refine g_iload ok rfl ?_
          refine g_csz ok (me_153 hX) rfl rfl rfl (t_153 ok hX _ x3 (g32 (v16 - 97)) s15) (fun v19 s18 hb20 => ?_)
          refine g_if_ne ok rfl (fun _ => ?_) (fun _ => ?_)
          · refine g_rb gs_176 11 (cd' := gb_176_107) rfl rfl ?_
            refine g_iconst ok (v := 1) rfl ?_
            refine g_goto ok rfl ?_
            exact g_wk ok [(0, (28, 0, x0)), (2, (0, x2, 0)), (3, (0, x3, 0)), (5, (0, (g32 (v16 - 97)), 0))] ⟨rfl, rfl, rfl, rfl, trivial⟩ (tb_176_112 ok hX d hl44 hr44 x0 x2 x3 (g32 (v16 - 97)) 1 s18)
          · exact g_wk ok [(0, (28, 0, x0)), (2, (0, x2, 0)), (3, (0, x3, 0)), (5, (0, (g32 (v16 - 97)), 0))] ⟨rfl, rfl, rfl, rfl, trivial⟩ (tb_176_111 ok hX d hl44 hr44 x0 x2 x3 (g32 (v16 - 97)) s18)
        · exact g_wk ok [(0, (28, 0, x0)), (2, (0, x2, 0)), (3, (0, x3, 0)), (5, (0, (g32 (v16 - 97)), 0))] ⟨rfl, rfl, rfl, rfl, trivial⟩ (tb_176_111 ok hX d hl44 hr44 x0 x2 x3 (g32 (v16 - 97)) s15)
  · refine g_map hr44 ?_
    exact g_wk ok [(0, (28, 0, x0)), (2, (0, x2, 0)), (3, (0, x3, 0)), (4, (0, x4, 0))] ⟨rfl, rfl, rfl, rfl, trivial⟩ (tb_176_145 ok hX d  x0 x2 x3 x4 s)
theorem tl_176_44 {X : gX} (ok : gOK X) (hX : gHX X) (d : Nat)  (y : (Nat × Int × Int × Int × gS)) : Go X em_176 176 (d + 5) 44 [] [(0, (28, 0, y.1)), (2, (0, y.2.1, 0)), (3, (0, y.2.2.1, 0)), (4, (0, y.2.2.2.1, 0))] [] y.2.2.2.2 0 0 (gloop (st_176_44) y) some :=
  g_loop (Lh := fun y => [(0, (28, 0, y.1)), (2, (0, y.2.1, 0)), (3, (0, y.2.2.1, 0)), (4, (0, y.2.2.2.1, 0))]) (sh := fun y => y.2.2.2.2) (fun k44 hl44 hr44 y => ts_176_44 ok hX d  hl44 hr44 y.1 y.2.1 y.2.2.1 y.2.2.2.1 y.2.2.2.2) y
theorem tb_176_24 {X : gX} (ok : gOK X) (hX : gHX X) (d : Nat)  (x0 : Nat) (s : gS) : Go X em_176 176 (d + 5) 24 [] [(0, (28, 0, x0))] [] s 0 0 (fb_176_24 x0 s) some := by
  delta fb_176_24
  refine g_rb gs_176 3 (cd' := gb_176_24) rfl rfl ?_
  refine g_aload_n ok rfl rfl ?_
  refine g_geti ok rfl rfl ?_
  refine g_iconst ok (v := (-1)) rfl ?_
  refine g_ic_eq ok rfl (fun _ => ?_) (fun _ => ?_)
  · refine g_rb gs_176 5 (cd' := gb_176_34) rfl rfl ?_
    refine g_aload_n ok rfl rfl ?_
    refine g_cv1 ok (me_173 hX) rfl rfl rfl rfl (t_173 ok hX _ x0 s) (fun v7 s6 => ?_)
    refine g_istore_n ok rfl (L' := [(0, (28, 0, x0)), (2, (0, v7, 0))]) rfl ?_
    refine g_iconst ok (v := 0) rfl ?_
    refine g_istore_n ok rfl (L' := [(0, (28, 0, x0)), (2, (0, v7, 0)), (3, (0, 0, 0))]) rfl ?_
    refine g_iconst ok (v := 1) rfl ?_
    refine g_istore ok rfl (L' := [(0, (28, 0, x0)), (2, (0, v7, 0)), (3, (0, 0, 0)), (4, (0, 1, 0))]) rfl ?_
    exact g_wk ok [(0, (28, 0, x0)), (2, (0, v7, 0)), (3, (0, 0, 0)), (4, (0, 1, 0))] ⟨rfl, rfl, rfl, rfl, trivial⟩ (tl_176_44 ok hX d  (x0, v7, 0, 1, s6))
  · refine g_rb gs_176 4 (cd' := gb_176_32) rfl rfl ?_
    refine g_iconst ok (v := 0) rfl ?_
    exact g_ireturn ok rfl rfl (rfl)
theorem t_176 {X : gX} (ok : gOK X) (hX : gHX X) (d : Nat) (a0 : Nat) (a1 : Nat) (s : gS) : Go X em_176 176 (d + 5) 0 [] [(0, (28, 0, a0)), (1, (8, 0, a1))] [] s 0 0 (f_176 a0 a1 s) some := by
  delta f_176
  refine g_rb gs_176 0 (cd' := gb_176_0) rfl rfl ?_
  refine g_aload_n ok rfl rfl ?_
  refine g_geti ok rfl rfl ?_
  refine g_iconst ok (v := (-1)) rfl ?_
  refine g_ic_ne ok rfl (fun _ => ?_) (fun _ => ?_)
  · refine g_rb gs_176 1 (cd' := gb_176_8) rfl rfl ?_
    refine g_aload_n ok rfl rfl ?_
    refine g_aload_n ok rfl rfl ?_
    refine g_cvz ok (me_171 hX) rfl rfl rfl rfl (t_171 ok hX _ a0 a1 s) (fun v2 s1 hb3 => ?_)
    refine g_if_ne ok rfl (fun _ => ?_) (fun _ => ?_)
    · refine g_rb gs_176 2 (cd' := gb_176_16) rfl rfl ?_
      refine g_aload_n ok rfl rfl ?_
      refine g_aload_n ok rfl rfl ?_
      refine g_geti ok rfl rfl ?_
      refine g_cv0 ok (me_172 hX) rfl rfl rfl (t_172 ok hX _ a0 (gI s1 a0 11) s1) (fun s4 => ?_)
      exact g_wk ok [(0, (28, 0, a0))] ⟨rfl, trivial⟩ (tb_176_24 ok hX d  a0 s4)
    · exact g_wk ok [(0, (28, 0, a0))] ⟨rfl, trivial⟩ (tb_176_24 ok hX d  a0 s1)
  · exact g_wk ok [(0, (28, 0, a0))] ⟨rfl, trivial⟩ (tb_176_24 ok hX d  a0 s)
-- X12_stepLine
theorem tb_177_16 {X : gX} (ok : gOK X) (hX : gHX X) (d : Nat)  (x0 : Nat) (s : gS) : Go X em_177 177 (d + 6) 16 [] [(0, (28, 0, x0))] [] s 0 0 (fb_177_16 x0 s) some := by
  delta fb_177_16
  refine g_rb gs_177 2 (cd' := gb_177_16) rfl rfl ?_
  refine g_aload_n ok rfl rfl ?_
  refine g_ldcs ok rfl ?_
  refine g_iconst ok (v := 1) rfl ?_
  refine g_bipush ok (v := 30) rfl ?_
  refine g_cv1 ok (me_175 hX) rfl rfl rfl rfl (t_175 ok hX _ x0 43 1 30 s) (fun v4 s3 => ?_)
  refine g_istore_n ok rfl (L' := [(0, (28, 0, x0)), (2, (0, v4, 0))]) rfl ?_
  refine g_aload_n ok rfl rfl ?_
  refine g_ldcs ok rfl ?_
  refine g_iconst ok (v := 0) rfl ?_
  refine g_bipush ok (v := 99) rfl ?_
  refine g_cv1 ok (me_175 hX) rfl rfl rfl rfl (t_175 ok hX _ x0 44 0 99 s3) (fun v6 s5 => ?_)
  refine g_istore_n ok rfl (L' := [(0, (28, 0, x0)), (2, (0, v4, 0)), (3, (0, v6, 0))]) rfl ?_
  refine g_aload_n ok rfl rfl ?_
  refine g_ldcs ok rfl ?_
  refine g_iconst ok (v := 0) rfl ?_
  refine g_bipush ok (v := 50) rfl ?_
  refine g_cv1 ok (me_175 hX) rfl rfl rfl rfl (t_175 ok hX _ x0 45 0 50 s5) (fun v8 s7 => ?_)
  refine g_istore ok rfl (L' := [(0, (28, 0, x0)), (2, (0, v4, 0)), (3, (0, v6, 0)), (4, (0, v8, 0))]) rfl ?_
  refine g_aload_n ok rfl rfl ?_
  refine g_geti ok rfl rfl ?_
  refine g_iconst ok (v := (-1)) rfl ?_
  refine g_ic_eq ok rfl (fun _ => ?_) (fun _ => ?_)
  · refine g_rb gs_177 4 (cd' := gb_177_56) rfl rfl ?_
    refine g_bipush ok (v := 16) rfl ?_
    refine g_iconst ok (v := 3) rfl ?_
    refine g_aload_n ok rfl rfl ?_
    refine g_getr ok 6036 rfl rfl rfl ?_
    refine g_iconst ok (v := 3) rfl ?_
    refine g_ialoadc ok (n := 740) 3 rfl rfl rfl ?_
    refine g_imul ok ?_
    refine g_iadd ok ?_
    let v9 : Int := (g32 (16 + (g32 (3 * (gI s7 (gR s7 x0 1) 3)))))
    refine g_istore ok rfl (L' := [(0, (28, 0, x0)), (2, (0, v4, 0)), (3, (0, v6, 0)), (4, (0, v8, 0)), (5, (0, v9, 0))]) rfl ?_
    refine g_aload_n ok rfl rfl ?_
    refine g_getr ok 6036 rfl rfl rfl ?_
    refine g_iload ok rfl ?_
    refine g_iconst ok (v := 0) rfl ?_
    refine g_iadd ok ?_
    refine g_iload_n ok rfl ?_
    refine g_iastore ok (n := 740) rfl rfl (fun _ _ => ?_)
    let s10 : gS := gw s7 (gR s7 x0 1) ((g32 (v9 + 0)) : Int).toNat v4
    refine g_aload_n ok rfl rfl ?_
    refine g_getr ok 6036 rfl rfl rfl ?_
    refine g_iload ok rfl ?_
    refine g_iconst ok (v := 1) rfl ?_
    refine g_iadd ok ?_
    refine g_iload_n ok rfl ?_
    refine g_iastore ok (n := 740) rfl rfl (fun _ _ => ?_)
    let s11 : gS := gw s10 (gR s10 x0 1) ((g32 (v9 + 1)) : Int).toNat v6
    refine g_aload_n ok rfl rfl ?_
    refine g_getr ok 6036 rfl rfl rfl ?_
    refine g_iload ok rfl ?_
    refine g_iconst ok (v := 2) rfl ?_
    refine g_iadd ok ?_
    refine g_iload ok rfl ?_
    refine g_iastore ok (n := 740) rfl rfl (fun _ _ => ?_)
    let s12 : gS := gw s11 (gR s11 x0 1) ((g32 (v9 + 2)) : Int).toNat v8
    refine g_aload_n ok rfl rfl ?_
    refine g_getr ok 6036 rfl rfl rfl ?_
    refine g_iconst ok (v := 3) rfl ?_
    refine g_dup2 ok rfl rfl ?_
    refine g_ialoadc ok (n := 740) 3 rfl rfl rfl ?_
    refine g_iconst ok (v := 1) rfl ?_
    refine g_iadd ok ?_
    refine g_iastorec ok (n := 740) 3 rfl rfl rfl ?_
    let s13 : gS := gw s12 (gR s12 x0 1) 3 (g32 ((gI s12 (gR s12 x0 1) 3) + 1))
    exact g_return ok rfl rfl (rfl)
  · refine g_rb gs_177 3 (cd' := gb_177_55) rfl rfl ?_
    exact g_return ok rfl rfl (rfl)
theorem t_177 {X : gX} (ok : gOK X) (hX : gHX X) (d : Nat) (a0 : Nat) (a1 : Int) (s : gS) : Go X em_177 177 (d + 6) 0 [] [(0, (28, 0, a0)), (1, (0, a1, 0))] [] s 0 0 (f_177 a0 a1 s) some := by
  delta f_177
  refine g_rb gs_177 0 (cd' := gb_177_0) rfl rfl ?_
  refine g_aload_n ok rfl rfl ?_
  refine g_getr ok 6036 rfl rfl rfl ?_
  refine g_iconst ok (v := 3) rfl ?_
  refine g_ialoadc ok (n := 740) 3 rfl rfl rfl ?_
  refine g_bipush ok (v := 8) rfl ?_
  refine g_ic_ne ok rfl (fun _ => ?_) (fun _ => ?_)
  · refine g_rb gs_177 1 (cd' := gb_177_11) rfl rfl ?_
    refine g_aload_n ok rfl rfl ?_
    refine g_iload_n ok rfl ?_
    refine g_cv0 ok (me_172 hX) rfl rfl rfl (t_172 ok hX _ a0 a1 s) (fun s1 => ?_)
    exact g_wk ok [(0, (28, 0, a0))] ⟨rfl, trivial⟩ (tb_177_16 ok hX d  a0 s1)
  · exact g_wk ok [(0, (28, 0, a0))] ⟨rfl, trivial⟩ (tb_177_16 ok hX d  a0 s)
-- X12_manLine
theorem tb_178_16 {X : gX} (ok : gOK X) (hX : gHX X) (d : Nat)  (x0 : Nat) (s : gS) : Go X em_178 178 (d + 6) 16 [] [(0, (28, 0, x0))] [] s 0 0 (fb_178_16 x0 s) some := by
  delta fb_178_16
  refine g_rb gs_178 2 (cd' := gb_178_16) rfl rfl ?_
  refine g_aload_n ok rfl rfl ?_
  refine g_ldcs ok rfl ?_
  refine g_iconst ok (v := 0) rfl ?_
  refine g_bipush ok (v := 99) rfl ?_
  refine g_cv1 ok (me_175 hX) rfl rfl rfl rfl (t_175 ok hX _ x0 46 0 99 s) (fun v4 s3 => ?_)
  refine g_istore_n ok rfl (L' := [(0, (28, 0, x0)), (2, (0, v4, 0))]) rfl ?_
  refine g_aload_n ok rfl rfl ?_
  refine g_ldcs ok rfl ?_
  refine g_iconst ok (v := 0) rfl ?_
  refine g_bipush ok (v := 9) rfl ?_
  refine g_cv1 ok (me_175 hX) rfl rfl rfl rfl (t_175 ok hX _ x0 47 0 9 s3) (fun v6 s5 => ?_)
  refine g_istore_n ok rfl (L' := [(0, (28, 0, x0)), (2, (0, v4, 0)), (3, (0, v6, 0))]) rfl ?_
  refine g_aload_n ok rfl rfl ?_
  refine g_ldcs ok rfl ?_
  refine g_cv1 ok (me_176 hX) rfl rfl rfl rfl (t_176 ok hX _ x0 48 s5) (fun v8 s7 => ?_)
  refine g_istore ok rfl (L' := [(0, (28, 0, x0)), (2, (0, v4, 0)), (3, (0, v6, 0)), (4, (0, v8, 0))]) rfl ?_
  refine g_aload_n ok rfl rfl ?_
  refine g_geti ok rfl rfl ?_
  refine g_iconst ok (v := (-1)) rfl ?_
  refine g_ic_eq ok rfl (fun _ => ?_) (fun _ => ?_)
  · refine g_rb gs_178 4 (cd' := gb_178_53) rfl rfl ?_
    refine g_aload_n ok rfl rfl ?_
    refine g_getr ok 6036 rfl rfl rfl ?_
    refine g_iconst ok (v := 4) rfl ?_
    refine g_ialoadc ok (n := 740) 4 rfl rfl rfl ?_
    let v9 : Int := (gI s7 (gR s7 x0 1) 4)
    refine g_istore ok rfl (L' := [(0, (28, 0, x0)), (2, (0, v4, 0)), (3, (0, v6, 0)), (4, (0, v8, 0)), (5, (0, v9, 0))]) rfl ?_
    refine g_aload_n ok rfl rfl ?_
    refine g_iload ok rfl ?_
    refine g_iconst ok (v := 0) rfl ?_
    refine g_iload_n ok rfl ?_
    refine g_cv0 ok (me_157 hX) rfl rfl rfl (t_157 ok hX _ x0 v9 0 v4 s7) (fun s10 => ?_)
    refine g_aload_n ok rfl rfl ?_
    refine g_iload ok rfl ?_
    refine g_iconst ok (v := 1) rfl ?_
    refine g_iload_n ok rfl ?_
    refine g_cv0 ok (me_157 hX) rfl rfl rfl (t_157 ok hX _ x0 v9 1 v6 s10) (fun s12 => ?_)
    refine g_aload_n ok rfl rfl ?_
    refine g_iload ok rfl ?_
    refine g_iconst ok (v := 2) rfl ?_
    refine g_iload ok rfl ?_
    refine g_cv0 ok (me_157 hX) rfl rfl rfl (t_157 ok hX _ x0 v9 2 v8 s12) (fun s14 => ?_)
    refine g_aload_n ok rfl rfl ?_
    refine g_iload ok rfl ?_
    refine g_iconst ok (v := 3) rfl ?_
    refine g_iconst ok (v := 0) rfl ?_
    refine g_cv0 ok (me_157 hX) rfl rfl rfl (t_157 ok hX _ x0 v9 3 0 s14) (fun s16 => ?_)
    refine g_aload_n ok rfl rfl ?_
    refine g_iload ok rfl ?_
    refine g_iconst ok (v := 4) rfl ?_
    refine g_iconst ok (v := 0) rfl ?_
    refine g_cv0 ok (me_157 hX) rfl rfl rfl (t_157 ok hX _ x0 v9 4 0 s16) (fun s18 => ?_)
    refine g_aload_n ok rfl rfl ?_
    refine g_iload ok rfl ?_
    refine g_iconst ok (v := 5) rfl ?_
    refine g_iconst ok (v := 0) rfl ?_
    refine g_cv0 ok (me_157 hX) rfl rfl rfl (t_157 ok hX _ x0 v9 5 0 s18) (fun s20 => ?_)
    refine g_aload_n ok rfl rfl ?_
    refine g_getr ok 6036 rfl rfl rfl ?_
    refine g_iconst ok (v := 4) rfl ?_
    refine g_dup2 ok rfl rfl ?_
    refine g_ialoadc ok (n := 740) 4 rfl rfl rfl ?_
    refine g_iconst ok (v := 1) rfl ?_
    refine g_iadd ok ?_
    refine g_iastorec ok (n := 740) 4 rfl rfl rfl ?_
    let s22 : gS := gw s20 (gR s20 x0 1) 4 (g32 ((gI s20 (gR s20 x0 1) 4) + 1))
    exact g_return ok rfl rfl (rfl)
  · refine g_rb gs_178 3 (cd' := gb_178_52) rfl rfl ?_
    exact g_return ok rfl rfl (rfl)
theorem t_178 {X : gX} (ok : gOK X) (hX : gHX X) (d : Nat) (a0 : Nat) (a1 : Int) (s : gS) : Go X em_178 178 (d + 6) 0 [] [(0, (28, 0, a0)), (1, (0, a1, 0))] [] s 0 0 (f_178 a0 a1 s) some := by
  delta f_178
  refine g_rb gs_178 0 (cd' := gb_178_0) rfl rfl ?_
  refine g_aload_n ok rfl rfl ?_
  refine g_getr ok 6036 rfl rfl rfl ?_
  refine g_iconst ok (v := 4) rfl ?_
  refine g_ialoadc ok (n := 740) 4 rfl rfl rfl ?_
  refine g_bipush ok (v := 6) rfl ?_
  refine g_ic_ne ok rfl (fun _ => ?_) (fun _ => ?_)
  · refine g_rb gs_178 1 (cd' := gb_178_11) rfl rfl ?_
    refine g_aload_n ok rfl rfl ?_
    refine g_iload_n ok rfl ?_
    refine g_cv0 ok (me_172 hX) rfl rfl rfl (t_172 ok hX _ a0 a1 s) (fun s1 => ?_)
    exact g_wk ok [(0, (28, 0, a0))] ⟨rfl, trivial⟩ (tb_178_16 ok hX d  a0 s1)
  · exact g_wk ok [(0, (28, 0, a0))] ⟨rfl, trivial⟩ (tb_178_16 ok hX d  a0 s)
-- X12_testLine
theorem tb_179_16 {X : gX} (ok : gOK X) (hX : gHX X) (d : Nat)  (x0 : Nat) (s : gS) : Go X em_179 179 (d + 6) 16 [] [(0, (28, 0, x0))] [] s 0 0 (fb_179_16 x0 s) some := by
  delta fb_179_16
  refine g_rb gs_179 2 (cd' := gb_179_16) rfl rfl ?_
  refine g_aload_n ok rfl rfl ?_
  refine g_ldcs ok rfl ?_
  refine g_iconst ok (v := 0) rfl ?_
  refine g_bipush ok (v := 99) rfl ?_
  refine g_cv1 ok (me_175 hX) rfl rfl rfl rfl (t_175 ok hX _ x0 44 0 99 s) (fun v4 s3 => ?_)
  refine g_istore_n ok rfl (L' := [(0, (28, 0, x0)), (2, (0, v4, 0))]) rfl ?_
  refine g_aload_n ok rfl rfl ?_
  refine g_ldcs ok rfl ?_
  refine g_cv1 ok (me_176 hX) rfl rfl rfl rfl (t_176 ok hX _ x0 49 s3) (fun v6 s5 => ?_)
  refine g_istore_n ok rfl (L' := [(0, (28, 0, x0)), (2, (0, v4, 0)), (3, (0, v6, 0))]) rfl ?_
  refine g_aload_n ok rfl rfl ?_
  refine g_geti ok rfl rfl ?_
  refine g_iconst ok (v := (-1)) rfl ?_
  refine g_ic_eq ok rfl (fun _ => ?_) (fun _ => ?_)
  · refine g_rb gs_179 4 (cd' := gb_179_42) rfl rfl ?_
    refine g_aload_n ok rfl rfl ?_
    refine g_getr ok 6036 rfl rfl rfl ?_
    refine g_bipush ok (v := 76) rfl ?_
    refine g_iconst ok (v := 2) rfl ?_
    refine g_aload_n ok rfl rfl ?_
    refine g_getr ok 6036 rfl rfl rfl ?_
    refine g_iconst ok (v := 5) rfl ?_
    refine g_ialoadc ok (n := 740) 5 rfl rfl rfl ?_
    refine g_imul ok ?_
    refine g_iadd ok ?_
    refine g_iload_n ok rfl ?_
    refine g_iastore ok (n := 740) rfl rfl (fun _ _ => ?_)
    let s7 : gS := gw s5 (gR s5 x0 1) ((g32 (76 + (g32 (2 * (gI s5 (gR s5 x0 1) 5))))) : Int).toNat v4
    refine g_aload_n ok rfl rfl ?_
    refine g_getr ok 6036 rfl rfl rfl ?_
    refine g_bipush ok (v := 76) rfl ?_
    refine g_iconst ok (v := 2) rfl ?_
    refine g_aload_n ok rfl rfl ?_
    refine g_getr ok 6036 rfl rfl rfl ?_
    refine g_iconst ok (v := 5) rfl ?_
    refine g_ialoadc ok (n := 740) 5 rfl rfl rfl ?_
    refine g_imul ok ?_
    refine g_iadd ok ?_
    refine g_iconst ok (v := 1) rfl ?_
    refine g_iadd ok ?_
    refine g_iload_n ok rfl ?_
    refine g_iastore ok (n := 740) rfl rfl (fun _ _ => ?_)
    let s8 : gS := gw s7 (gR s7 x0 1) ((g32 ((g32 (76 + (g32 (2 * (gI s7 (gR s7 x0 1) 5))))) + 1)) : Int).toNat v6
    refine g_aload_n ok rfl rfl ?_
    refine g_getr ok 6036 rfl rfl rfl ?_
    refine g_iconst ok (v := 5) rfl ?_
    refine g_dup2 ok rfl rfl ?_
    refine g_ialoadc ok (n := 740) 5 rfl rfl rfl ?_
    refine g_iconst ok (v := 1) rfl ?_
    refine g_iadd ok ?_
    refine g_iastorec ok (n := 740) 5 rfl rfl rfl ?_
    let s9 : gS := gw s8 (gR s8 x0 1) 5 (g32 ((gI s8 (gR s8 x0 1) 5) + 1))
    exact g_return ok rfl rfl (rfl)
  · refine g_rb gs_179 3 (cd' := gb_179_41) rfl rfl ?_
    exact g_return ok rfl rfl (rfl)
theorem t_179 {X : gX} (ok : gOK X) (hX : gHX X) (d : Nat) (a0 : Nat) (a1 : Int) (s : gS) : Go X em_179 179 (d + 6) 0 [] [(0, (28, 0, a0)), (1, (0, a1, 0))] [] s 0 0 (f_179 a0 a1 s) some := by
  delta f_179
  refine g_rb gs_179 0 (cd' := gb_179_0) rfl rfl ?_
  refine g_aload_n ok rfl rfl ?_
  refine g_getr ok 6036 rfl rfl rfl ?_
  refine g_iconst ok (v := 5) rfl ?_
  refine g_ialoadc ok (n := 740) 5 rfl rfl rfl ?_
  refine g_bipush ok (v := 6) rfl ?_
  refine g_ic_ne ok rfl (fun _ => ?_) (fun _ => ?_)
  · refine g_rb gs_179 1 (cd' := gb_179_11) rfl rfl ?_
    refine g_aload_n ok rfl rfl ?_
    refine g_iload_n ok rfl ?_
    refine g_cv0 ok (me_172 hX) rfl rfl rfl (t_172 ok hX _ a0 a1 s) (fun s1 => ?_)
    exact g_wk ok [(0, (28, 0, a0))] ⟨rfl, trivial⟩ (tb_179_16 ok hX d  a0 s1)
  · exact g_wk ok [(0, (28, 0, a0))] ⟨rfl, trivial⟩ (tb_179_16 ok hX d  a0 s)
-- X12_rivalLine
theorem tb_180_17 {X : gX} (ok : gOK X) (hX : gHX X) (d : Nat)  (x0 : Nat) (s : gS) : Go X em_180 180 (d + 4) 17 [] [(0, (28, 0, x0))] [] s 0 0 (fb_180_17 x0 s) some := by
  delta fb_180_17
  refine g_rb gs_180 2 (cd' := gb_180_17) rfl rfl ?_
  refine g_aload_n ok rfl rfl ?_
  refine g_iconst ok (v := 0) rfl ?_
  refine g_sipush ok (v := 999) rfl ?_
  refine g_cv1 ok (me_174 hX) rfl rfl rfl rfl (t_174 ok hX _ x0 0 999 s) (fun v4 s3 => ?_)
  refine g_istore_n ok rfl (L' := [(0, (28, 0, x0)), (2, (0, v4, 0))]) rfl ?_
  refine g_aload_n ok rfl rfl ?_
  refine g_geti ok rfl rfl ?_
  refine g_iconst ok (v := (-1)) rfl ?_
  refine g_ic_eq ok rfl (fun _ => ?_) (fun _ => ?_)
  · refine g_rb gs_180 4 (cd' := gb_180_35) rfl rfl ?_
    refine g_aload_n ok rfl rfl ?_
    refine g_getr ok 6036 rfl rfl rfl ?_
    refine g_bipush ok (v := 88) rfl ?_
    refine g_iconst ok (v := 2) rfl ?_
    refine g_aload_n ok rfl rfl ?_
    refine g_getr ok 6036 rfl rfl rfl ?_
    refine g_bipush ok (v := 6) rfl ?_
    refine g_ialoadc ok (n := 740) 6 rfl rfl rfl ?_
    refine g_imul ok ?_
    refine g_iadd ok ?_
    refine g_iconst ok (v := 0) rfl ?_
    refine g_iadd ok ?_
    refine g_iload_n ok rfl ?_
    refine g_iastore ok (n := 740) rfl rfl (fun _ _ => ?_)
    let s5 : gS := gw s3 (gR s3 x0 1) ((g32 ((g32 (88 + (g32 (2 * (gI s3 (gR s3 x0 1) 6))))) + 0)) : Int).toNat v4
    refine g_aload_n ok rfl rfl ?_
    refine g_getr ok 6036 rfl rfl rfl ?_
    refine g_bipush ok (v := 88) rfl ?_
    refine g_iconst ok (v := 2) rfl ?_
    refine g_aload_n ok rfl rfl ?_
    refine g_getr ok 6036 rfl rfl rfl ?_
    refine g_bipush ok (v := 6) rfl ?_
    refine g_ialoadc ok (n := 740) 6 rfl rfl rfl ?_
    refine g_imul ok ?_
    refine g_iadd ok ?_
    refine g_iconst ok (v := 1) rfl ?_
    refine g_iadd ok ?_
    refine g_iconst ok (v := 0) rfl ?_
    refine g_iastore ok (n := 740) rfl rfl (fun _ _ => ?_)
    let s6 : gS := gw s5 (gR s5 x0 1) ((g32 ((g32 (88 + (g32 (2 * (gI s5 (gR s5 x0 1) 6))))) + 1)) : Int).toNat 0
    refine g_aload_n ok rfl rfl ?_
    refine g_getr ok 6036 rfl rfl rfl ?_
    refine g_bipush ok (v := 6) rfl ?_
    refine g_dup2 ok rfl rfl ?_
    refine g_ialoadc ok (n := 740) 6 rfl rfl rfl ?_
    refine g_iconst ok (v := 1) rfl ?_
    refine g_iadd ok ?_
    refine g_iastorec ok (n := 740) 6 rfl rfl rfl ?_
    let s7 : gS := gw s6 (gR s6 x0 1) 6 (g32 ((gI s6 (gR s6 x0 1) 6) + 1))
    exact g_return ok rfl rfl (rfl)
  · refine g_rb gs_180 3 (cd' := gb_180_34) rfl rfl ?_
    exact g_return ok rfl rfl (rfl)
theorem t_180 {X : gX} (ok : gOK X) (hX : gHX X) (d : Nat) (a0 : Nat) (a1 : Int) (s : gS) : Go X em_180 180 (d + 4) 0 [] [(0, (28, 0, a0)), (1, (0, a1, 0))] [] s 0 0 (f_180 a0 a1 s) some := by
  delta f_180
  refine g_rb gs_180 0 (cd' := gb_180_0) rfl rfl ?_
  refine g_aload_n ok rfl rfl ?_
  refine g_getr ok 6036 rfl rfl rfl ?_
  refine g_bipush ok (v := 6) rfl ?_
  refine g_ialoadc ok (n := 740) 6 rfl rfl rfl ?_
  refine g_bipush ok (v := 6) rfl ?_
  refine g_ic_ne ok rfl (fun _ => ?_) (fun _ => ?_)
  · refine g_rb gs_180 1 (cd' := gb_180_12) rfl rfl ?_
    refine g_aload_n ok rfl rfl ?_
    refine g_iload_n ok rfl ?_
    refine g_cv0 ok (me_172 hX) rfl rfl rfl (t_172 ok hX _ a0 a1 s) (fun s1 => ?_)
    exact g_wk ok [(0, (28, 0, a0))] ⟨rfl, trivial⟩ (tb_180_17 ok hX d  a0 s1)
  · exact g_wk ok [(0, (28, 0, a0))] ⟨rfl, trivial⟩ (tb_180_17 ok hX d  a0 s)
-- X12_tells
theorem t_181 {X : gX} (ok : gOK X) (hX : gHX X) (d : Nat) (a0 : Nat) (a1 : Int) (a2 : Int) (s : gS) : Go X em_181 181 (d + 4) 0 [] [(0, (28, 0, a0)), (1, (0, a1, 0)), (2, (0, a2, 0))] [] s 0 0 (f_181 a0 a1 a2 s) some := by
  delta f_181
  refine g_rb gs_181 0 (cd' := gb_181_0) rfl rfl ?_
  refine g_aload_n ok rfl rfl ?_
  refine g_iconst ok (v := 0) rfl ?_
  refine g_iload_n ok rfl ?_
  refine g_cv1 ok (me_174 hX) rfl rfl rfl rfl (t_174 ok hX _ a0 0 a2 s) (fun v2 s1 => ?_)
  refine g_istore_n ok rfl (L' := [(0, (28, 0, a0)), (1, (0, a1, 0)), (2, (0, a2, 0)), (3, (0, v2, 0))]) rfl ?_
  refine g_aload_n ok rfl rfl ?_
  refine g_geti ok rfl rfl ?_
  refine g_iconst ok (v := (-1)) rfl ?_
  refine g_ic_ne ok rfl (fun _ => ?_) (fun _ => ?_)
  · refine g_rb gs_181 1 (cd' := gb_181_15) rfl rfl ?_
    refine g_aload_n ok rfl rfl ?_
    refine g_getr ok 6036 rfl rfl rfl ?_
    refine g_iload_n ok rfl ?_
    refine g_iload_n ok rfl ?_
    refine g_iastore ok (n := 740) rfl rfl (fun _ _ => ?_)
    let s3 : gS := gw s1 (gR s1 a0 1) (a1 : Int).toNat v2
    refine g_rb gs_181 2 (cd' := gb_181_22) rfl rfl ?_
    exact g_return ok rfl rfl (rfl)
  · refine g_rb gs_181 2 (cd' := gb_181_22) rfl rfl ?_
    exact g_return ok rfl rfl (rfl)
-- X12_bookLine
theorem t_182 {X : gX} (ok : gOK X) (hX : gHX X) (d : Nat) (a0 : Nat) (s : gS) : Go X em_182 182 (d + 7) 0 [] [(0, (28, 0, a0))] [] s 0 0 (f_182 a0 s) some := by
  delta f_182
  refine g_rb gs_182 0 (cd' := gb_182_0) rfl rfl ?_
  refine g_aload_n ok rfl rfl ?_
  refine g_cv1 ok (me_173 hX) rfl rfl rfl rfl (t_173 ok hX _ a0 s) (fun v2 s1 => ?_)
  refine g_istore_n ok rfl (L' := [(0, (28, 0, a0)), (1, (0, v2, 0))]) rfl ?_
  refine g_aload_n ok rfl rfl ?_
  refine g_ldcs ok rfl ?_
  refine g_cvz ok (me_171 hX) rfl rfl rfl rfl (t_171 ok hX _ a0 50 s1) (fun v4 s3 hb5 => ?_)
  refine g_if_eq ok rfl (fun _ => ?_) (fun _ => ?_)
  · refine g_rb gs_182 2 (cd' := gb_182_22) rfl rfl ?_
    refine g_aload_n ok rfl rfl ?_
    refine g_ldcs ok rfl ?_
    refine g_cvz ok (me_171 hX) rfl rfl rfl rfl (t_171 ok hX _ a0 51 s3) (fun v7 s6 hb8 => ?_)
    refine g_if_eq ok rfl (fun _ => ?_) (fun _ => ?_)
    · refine g_rb gs_182 4 (cd' := gb_182_39) rfl rfl ?_
      refine g_aload_n ok rfl rfl ?_
      refine g_ldcs ok rfl ?_
      refine g_cvz ok (me_171 hX) rfl rfl rfl rfl (t_171 ok hX _ a0 52 s6) (fun v10 s9 hb11 => ?_)
      refine g_if_eq ok rfl (fun _ => ?_) (fun _ => ?_)
      · refine g_rb gs_182 6 (cd' := gb_182_56) rfl rfl ?_
        refine g_aload_n ok rfl rfl ?_
        refine g_ldcs ok rfl ?_
        refine g_cvz ok (me_171 hX) rfl rfl rfl rfl (t_171 ok hX _ a0 53 s9) (fun v13 s12 hb14 => ?_)
        refine g_if_eq ok rfl (fun _ => ?_) (fun _ => ?_)
        · refine g_rb gs_182 8 (cd' := gb_182_73) rfl rfl ?_
          refine g_aload_n ok rfl rfl ?_
          refine g_ldcs ok rfl ?_
          refine g_cvz ok (me_171 hX) rfl rfl rfl rfl (t_171 ok hX _ a0 54 s12) (fun v16 s15 hb17 => ?_)
          refine g_if_eq ok rfl (fun _ => ?_) (fun _ => ?_)
          · refine g_rb gs_182 10 (cd' := gb_182_94) rfl rfl ?_
            refine g_aload_n ok rfl rfl ?_
            refine g_ldcs ok rfl ?_
            refine g_cvz ok (me_171 hX) rfl rfl rfl rfl (t_171 ok hX _ a0 55 s15) (fun v19 s18 hb20 => ?_)
            refine g_if_eq ok rfl (fun _ => ?_) (fun _ => ?_)
            · refine g_rb gs_182 12 (cd' := gb_182_114) rfl rfl ?_
              refine g_aload_n ok rfl rfl ?_
              refine g_ldcs ok rfl ?_
              refine g_cvz ok (me_171 hX) rfl rfl rfl rfl (t_171 ok hX _ a0 56 s18) (fun v22 s21 hb23 => ?_)
              refine g_if_eq ok rfl (fun _ => ?_) (fun _ => ?_)
              · refine g_rb gs_182 14 (cd' := gb_182_134) rfl rfl ?_
                refine g_aload_n ok rfl rfl ?_
                refine g_ldcs ok rfl ?_
                refine g_cvz ok (me_171 hX) rfl rfl rfl rfl (t_171 ok hX _ a0 57 s21) (fun v25 s24 hb26 => ?_)
                refine g_if_eq ok rfl (fun _ => ?_) (fun _ => ?_)
                · refine g_rb gs_182 16 (cd' := gb_182_154) rfl rfl ?_
                  refine g_aload_n ok rfl rfl ?_
                  refine g_aload_n ok rfl rfl ?_
                  refine g_geti ok rfl rfl ?_
                  refine g_cv0 ok (me_172 hX) rfl rfl rfl (t_172 ok hX _ a0 (gI s24 a0 11) s24) (fun s27 => ?_)
                  refine g_rb gs_182 17 (cd' := gb_182_162) rfl rfl ?_
                  exact g_return ok rfl rfl (rfl)
                · refine g_rb gs_182 15 (cd' := gb_182_143) rfl rfl ?_
                  refine g_aload_n ok rfl rfl ?_
                  refine g_bipush ok (v := 12) rfl ?_
                  refine g_bipush ok (v := 50) rfl ?_
                  refine g_cv0 ok (me_181 hX) rfl rfl rfl (t_181 ok hX _ a0 12 50 s24) (fun s29 => ?_)
                  refine g_goto ok rfl ?_
                  refine g_rb gs_182 17 (cd' := gb_182_162) rfl rfl ?_
                  exact g_return ok rfl rfl (rfl)
              · refine g_rb gs_182 13 (cd' := gb_182_123) rfl rfl ?_
                refine g_aload_n ok rfl rfl ?_
                refine g_bipush ok (v := 11) rfl ?_
                refine g_bipush ok (v := 100) rfl ?_
                refine g_cv0 ok (me_181 hX) rfl rfl rfl (t_181 ok hX _ a0 11 100 s21) (fun s31 => ?_)
                refine g_goto ok rfl ?_
                refine g_rb gs_182 17 (cd' := gb_182_162) rfl rfl ?_
                exact g_return ok rfl rfl (rfl)
            · refine g_rb gs_182 11 (cd' := gb_182_103) rfl rfl ?_
              refine g_aload_n ok rfl rfl ?_
              refine g_bipush ok (v := 10) rfl ?_
              refine g_bipush ok (v := 99) rfl ?_
              refine g_cv0 ok (me_181 hX) rfl rfl rfl (t_181 ok hX _ a0 10 99 s18) (fun s33 => ?_)
              refine g_goto ok rfl ?_
              refine g_rb gs_182 17 (cd' := gb_182_162) rfl rfl ?_
              exact g_return ok rfl rfl (rfl)
          · refine g_rb gs_182 9 (cd' := gb_182_82) rfl rfl ?_
            refine g_aload_n ok rfl rfl ?_
            refine g_bipush ok (v := 8) rfl ?_
            refine g_sipush ok (v := 999) rfl ?_
            refine g_cv0 ok (me_181 hX) rfl rfl rfl (t_181 ok hX _ a0 8 999 s15) (fun s35 => ?_)
            refine g_goto ok rfl ?_
            refine g_rb gs_182 17 (cd' := gb_182_162) rfl rfl ?_
            exact g_return ok rfl rfl (rfl)
        · refine g_rb gs_182 7 (cd' := gb_182_65) rfl rfl ?_
          refine g_aload_n ok rfl rfl ?_
          refine g_iload_n ok rfl ?_
          refine g_cv0 ok (me_180 hX) rfl rfl rfl (t_180 ok hX _ a0 v2 s12) (fun s37 => ?_)
          refine g_goto ok rfl ?_
          refine g_rb gs_182 17 (cd' := gb_182_162) rfl rfl ?_
          exact g_return ok rfl rfl (rfl)
      · refine g_rb gs_182 5 (cd' := gb_182_48) rfl rfl ?_
        refine g_aload_n ok rfl rfl ?_
        refine g_iload_n ok rfl ?_
        refine g_cv0 ok (me_179 hX) rfl rfl rfl (t_179 ok hX _ a0 v2 s9) (fun s39 => ?_)
        refine g_goto ok rfl ?_
        refine g_rb gs_182 17 (cd' := gb_182_162) rfl rfl ?_
        exact g_return ok rfl rfl (rfl)
    · refine g_rb gs_182 3 (cd' := gb_182_31) rfl rfl ?_
      refine g_aload_n ok rfl rfl ?_
      refine g_iload_n ok rfl ?_
      refine g_cv0 ok (me_178 hX) rfl rfl rfl (t_178 ok hX _ a0 v2 s6) (fun s41 => ?_)
      refine g_goto ok rfl ?_
      refine g_rb gs_182 17 (cd' := gb_182_162) rfl rfl ?_
      exact g_return ok rfl rfl (rfl)
  · refine g_rb gs_182 1 (cd' := gb_182_14) rfl rfl ?_
    refine g_aload_n ok rfl rfl ?_
    refine g_iload_n ok rfl ?_
    refine g_cv0 ok (me_177 hX) rfl rfl rfl (t_177 ok hX _ a0 v2 s3) (fun s43 => ?_)
    refine g_goto ok rfl ?_
    refine g_rb gs_182 17 (cd' := gb_182_162) rfl rfl ?_
    exact g_return ok rfl rfl (rfl)
-- X12_begins
theorem t_183 {X : gX} (ok : gOK X) (hX : gHX X) (d : Nat) (a0 : Nat) (s : gS) : Go X em_183 183 d 0 [] [(0, (28, 0, a0))] [] s 0 0 (f_183 a0 s) some := by
  delta f_183
  refine g_rb gs_183 0 (cd' := gb_183_0) rfl rfl ?_
  refine g_aload_n ok rfl rfl ?_
  refine g_iconst ok (v := (-1)) rfl ?_
  refine g_puti ok rfl rfl rfl ?_
  let s1 : gS := gw s a0 12 (-1)
  refine g_aload_n ok rfl rfl ?_
  refine g_iconst ok (v := (-1)) rfl ?_
  refine g_puti ok rfl rfl rfl ?_
  let s2 : gS := gw s1 a0 9 (-1)
  refine g_aload_n ok rfl rfl ?_
  refine g_aload_n ok rfl rfl ?_
  refine g_geti ok rfl rfl ?_
  refine g_puti ok rfl rfl rfl ?_
  let s3 : gS := gw s2 a0 10 (gI s2 a0 8)
  refine g_aload_n ok rfl rfl ?_
  refine g_iconst ok (v := 0) rfl ?_
  refine g_puti ok rfl rfl rfl ?_
  let s4 : gS := gw s3 a0 8 0
  refine g_aload_n ok rfl rfl ?_
  refine g_iconst ok (v := 0) rfl ?_
  refine g_puti ok rfl rfl rfl ?_
  let s5 : gS := gw s4 a0 11 0
  refine g_aload_n ok rfl rfl ?_
  refine g_iconst ok (v := 0) rfl ?_
  refine g_puti ok rfl rfl rfl ?_
  let s6 : gS := gw s5 a0 13 0
  exact g_return ok rfl rfl (rfl)
-- X12_part
theorem tb_188_145 {X : gX} (ok : gOK X) (hX : gHX X) (d : Nat)  (x0 : Nat) (w0 : Int) (s : gS) : Go X em_188 188 (d + 5) 145 [] [(0, (28, 0, x0))] [(0, w0, 0)] s 0 0 (fb_188_145 x0 w0 s) some := by
  delta fb_188_145
  refine g_rb gs_188 20 (cd' := gb_188_145) rfl rfl ?_
  refine g_istore_n ok rfl (L' := [(0, (28, 0, x0)), (1, (0, w0, 0))]) rfl ?_
  refine g_iload_n ok rfl ?_
  refine g_iconst ok (v := (-1)) rfl ?_
  refine g_ic_ne ok rfl (fun _ => ?_) (fun _ => ?_)
  · refine g_rb gs_188 21 (cd' := gb_188_151) rfl rfl ?_
    refine g_aload_n ok rfl rfl ?_
    refine g_aload_n ok rfl rfl ?_
    refine g_geti ok rfl rfl ?_
    refine g_cv0 ok (me_172 hX) rfl rfl rfl (t_172 ok hX _ x0 (gI s x0 11) s) (fun s29 => ?_)
    refine g_iconst ok (v := 0) rfl ?_
    exact g_ireturn ok rfl rfl (rfl)
  · refine g_rb gs_188 22 (cd' := gb_188_161) rfl rfl ?_
    refine g_aload_n ok rfl rfl ?_
    refine g_getr ok 172 rfl rfl rfl ?_
    refine g_iload_n ok rfl ?_
    refine g_iaload ok (n := 7) rfl rfl (fun _ _ => ?_)
    exact g_ireturn ok rfl rfl (rfl)
theorem tb_188_52 {X : gX} (ok : gOK X) (hX : gHX X) (d : Nat)  (x0 : Nat) (s : gS) : Go X em_188 188 (d + 5) 52 [] [(0, (28, 0, x0))] [] s 0 0 (fb_188_52 x0 s) some := by
  delta fb_188_52
  refine g_rb gs_188 5 (cd' := gb_188_52) rfl rfl ?_
  refine g_aload_n ok rfl rfl ?_
  refine g_ldcs ok rfl ?_
  refine g_cvz ok (me_171 hX) rfl rfl rfl rfl (t_171 ok hX _ x0 51 s) (fun v9 s8 hb10 => ?_)
  refine g_if_eq ok rfl (fun _ => ?_) (fun _ => ?_)
  · refine g_rb gs_188 7 (cd' := gb_188_65) rfl rfl ?_
    refine g_aload_n ok rfl rfl ?_
    refine g_ldcs ok rfl ?_
    refine g_cvz ok (me_171 hX) rfl rfl rfl rfl (t_171 ok hX _ x0 46 s8) (fun v12 s11 hb13 => ?_)
    refine g_if_eq ok rfl (fun _ => ?_) (fun _ => ?_)
    · refine g_rb gs_188 9 (cd' := gb_188_78) rfl rfl ?_
      refine g_aload_n ok rfl rfl ?_
      refine g_ldcs ok rfl ?_
      refine g_cvz ok (me_171 hX) rfl rfl rfl rfl (t_171 ok hX _ x0 47 s11) (fun v15 s14 hb16 => ?_)
      refine g_if_eq ok rfl (fun _ => ?_) (fun _ => ?_)
      · refine g_rb gs_188 11 (cd' := gb_188_91) rfl rfl ?_
        refine g_aload_n ok rfl rfl ?_
        refine g_ldcs ok rfl ?_
        refine g_cvz ok (me_171 hX) rfl rfl rfl rfl (t_171 ok hX _ x0 58 s14) (fun v18 s17 hb19 => ?_)
        refine g_if_eq ok rfl (fun _ => ?_) (fun _ => ?_)
        · refine g_rb gs_188 13 (cd' := gb_188_104) rfl rfl ?_
          refine g_aload_n ok rfl rfl ?_
          refine g_ldcs ok rfl ?_
          refine g_cvz ok (me_171 hX) rfl rfl rfl rfl (t_171 ok hX _ x0 59 s17) (fun v21 s20 hb22 => ?_)
          refine g_if_eq ok rfl (fun _ => ?_) (fun _ => ?_)
          · refine g_rb gs_188 15 (cd' := gb_188_117) rfl rfl ?_
            refine g_aload_n ok rfl rfl ?_
            refine g_ldcs ok rfl ?_
            refine g_cvz ok (me_171 hX) rfl rfl rfl rfl (t_171 ok hX _ x0 60 s20) (fun v24 s23 hb25 => ?_)
            refine g_if_eq ok rfl (fun _ => ?_) (fun _ => ?_)
            · refine g_rb gs_188 17 (cd' := gb_188_130) rfl rfl ?_
              refine g_aload_n ok rfl rfl ?_
              refine g_ldcs ok rfl ?_
              refine g_cvz ok (me_171 hX) rfl rfl rfl rfl (t_171 ok hX _ x0 61 s23) (fun v27 s26 hb28 => ?_)
              refine g_if_eq ok rfl (fun _ => ?_) (fun _ => ?_)
              · refine g_rb gs_188 19 (cd' := gb_188_144) rfl rfl ?_
                refine g_iconst ok (v := (-1)) rfl ?_
                exact g_wk ok [(0, (28, 0, x0))] ⟨rfl, trivial⟩ (tb_188_145 ok hX d  x0 (-1) s26)
              · refine g_rb gs_188 18 (cd' := gb_188_139) rfl rfl ?_
                refine g_bipush ok (v := 6) rfl ?_
                refine g_goto ok rfl ?_
                exact g_wk ok [(0, (28, 0, x0))] ⟨rfl, trivial⟩ (tb_188_145 ok hX d  x0 6 s26)
            · refine g_rb gs_188 16 (cd' := gb_188_126) rfl rfl ?_
              refine g_iconst ok (v := 5) rfl ?_
              refine g_goto ok rfl ?_
              exact g_wk ok [(0, (28, 0, x0))] ⟨rfl, trivial⟩ (tb_188_145 ok hX d  x0 5 s23)
          · refine g_rb gs_188 14 (cd' := gb_188_113) rfl rfl ?_
            refine g_iconst ok (v := 4) rfl ?_
            refine g_goto ok rfl ?_
            exact g_wk ok [(0, (28, 0, x0))] ⟨rfl, trivial⟩ (tb_188_145 ok hX d  x0 4 s20)
        · refine g_rb gs_188 12 (cd' := gb_188_100) rfl rfl ?_
          refine g_iconst ok (v := 3) rfl ?_
          refine g_goto ok rfl ?_
          exact g_wk ok [(0, (28, 0, x0))] ⟨rfl, trivial⟩ (tb_188_145 ok hX d  x0 3 s17)
      · refine g_rb gs_188 10 (cd' := gb_188_87) rfl rfl ?_
        refine g_iconst ok (v := 2) rfl ?_
        refine g_goto ok rfl ?_
        exact g_wk ok [(0, (28, 0, x0))] ⟨rfl, trivial⟩ (tb_188_145 ok hX d  x0 2 s14)
    · refine g_rb gs_188 8 (cd' := gb_188_74) rfl rfl ?_
      refine g_iconst ok (v := 1) rfl ?_
      refine g_goto ok rfl ?_
      exact g_wk ok [(0, (28, 0, x0))] ⟨rfl, trivial⟩ (tb_188_145 ok hX d  x0 1 s11)
  · refine g_rb gs_188 6 (cd' := gb_188_61) rfl rfl ?_
    refine g_iconst ok (v := 0) rfl ?_
    refine g_goto ok rfl ?_
    exact g_wk ok [(0, (28, 0, x0))] ⟨rfl, trivial⟩ (tb_188_145 ok hX d  x0 0 s8)
theorem t_188 {X : gX} (ok : gOK X) (hX : gHX X) (d : Nat) (a0 : Nat) (s : gS) : Go X em_188 188 (d + 5) 0 [] [(0, (28, 0, a0))] [] s 0 0 (f_188 a0 s) some := by
  delta f_188
  refine g_rb gs_188 0 (cd' := gb_188_0) rfl rfl ?_
  refine g_aload_n ok rfl rfl ?_
  refine g_geti ok rfl rfl ?_
  refine g_iconst ok (v := (-1)) rfl ?_
  refine g_ic_eq ok rfl (fun _ => ?_) (fun _ => ?_)
  · refine g_rb gs_188 2 (cd' := gb_188_10) rfl rfl ?_
    refine g_aload_n ok rfl rfl ?_
    refine g_cv0 ok (me_169 hX) rfl rfl rfl (t_169 ok hX _ a0 s) (fun s1 => ?_)
    refine g_aload_n ok rfl rfl ?_
    refine g_geti ok rfl rfl ?_
    refine g_aload_n ok rfl rfl ?_
    refine g_geti ok rfl rfl ?_
    refine g_ic_ge ok rfl (fun _ => ?_) (fun _ => ?_)
    · refine g_rb gs_188 3 (cd' := gb_188_25) rfl rfl ?_
      refine g_aload_n ok rfl rfl ?_
      refine g_aload_n ok rfl rfl ?_
      refine g_geti ok rfl rfl ?_
      refine g_cv1 ok (me_168 hX) rfl rfl rfl rfl (t_168 ok hX _ a0 (gI s1 a0 11) s1) (fun v4 s3 => ?_)
      refine g_bipush ok (v := 48) rfl ?_
      refine g_bipush ok (v := 57) rfl ?_
      refine g_csz ok (me_150 hX) rfl rfl rfl (t_150 ok hX _ v4 48 57 s3) (fun v6 s5 hb7 => ?_)
      refine g_if_eq ok rfl (fun _ => ?_) (fun _ => ?_)
      · exact g_wk ok [(0, (28, 0, a0))] ⟨rfl, trivial⟩ (tb_188_52 ok hX d  a0 s5)
      · refine g_rb gs_188 4 (cd' := gb_188_43) rfl rfl ?_
        refine g_aload_n ok rfl rfl ?_
        refine g_iconst ok (v := 0) rfl ?_
        refine g_sipush ok (v := 999) rfl ?_
        refine g_cv1 ok (me_174 hX) rfl rfl rfl rfl (t_174 ok hX _ a0 0 999 s5) (fun v32 s31 => ?_)
        exact g_ireturn ok rfl rfl (rfl)
    · exact g_wk ok [(0, (28, 0, a0))] ⟨rfl, trivial⟩ (tb_188_52 ok hX d  a0 s1)
  · refine g_rb gs_188 1 (cd' := gb_188_8) rfl rfl ?_
    refine g_iconst ok (v := 0) rfl ?_
    exact g_ireturn ok rfl rfl (rfl)
-- X12_sum
theorem ts_189_5 {X : gX} (ok : gOK X) (hX : gHX X) (d : Nat) {k5 : (Nat × Int × gS) ⊕ gO → Option gO} (hl5 : ∀ y : (Nat × Int × gS), Go X em_189 189 (d + 6) 5 [] [(0, (28, 0, y.1)), (1, (0, y.2.1, 0))] [] y.2.2 0 0 (some (Sum.inl y)) k5) (hr5 : ∀ q, k5 (Sum.inr q) = some q) (x0 : Nat) (x1 : Int) (s : gS) : Go X em_189 189 (d + 6) 5 [] [(0, (28, 0, x0)), (1, (0, x1, 0))] [] s 0 0 (sb_189_5 x0 x1 s) k5 := by
  delta sb_189_5
  refine g_rb gs_189 1 (cd' := gb_189_5) rfl rfl ?_
  refine g_aload_n ok rfl rfl ?_
  refine g_geti ok rfl rfl ?_
  refine g_iconst ok (v := (-1)) rfl ?_
  refine g_ic_ne ok rfl (fun _ => ?_) (fun _ => ?_)
  · refine g_rb gs_189 2 (cd' := gb_189_13) rfl rfl ?_
    refine g_aload_n ok rfl rfl ?_
    refine g_bipush ok (v := 43) rfl ?_
    refine g_cvz ok (me_170 hX) rfl rfl rfl rfl (t_170 ok hX _ x0 43 s) (fun v4 s3 hb5 => ?_)
    refine g_if_eq ok rfl (fun _ => ?_) (fun _ => ?_)
    · refine g_map hr5 ?_
      refine g_rb gs_189 4 (cd' := gb_189_42) rfl rfl ?_
      refine g_iload_n ok rfl ?_
      exact g_ireturn ok rfl rfl (rfl)
    · refine g_rb gs_189 3 (cd' := gb_189_22) rfl rfl ?_
      refine g_aload_n ok rfl rfl ?_
      refine g_dup ok rfl ?_
      refine g_geti ok rfl rfl ?_
      refine g_iconst ok (v := 1) rfl ?_
      refine g_iadd ok ?_
      refine g_puti ok rfl rfl rfl ?_
      let s6 : gS := gw s3 x0 11 (g32 ((gI s3 x0 11) + 1))
      refine g_iload_n ok rfl ?_
      refine g_aload_n ok rfl rfl ?_
      refine g_cv1 ok (me_188 hX) rfl rfl rfl rfl (t_188 ok hX _ x0 s6) (fun v8 s7 => ?_)
      refine g_iadd ok ?_
      refine g_istore_n ok rfl (L' := [(0, (28, 0, x0)), (1, (0, (g32 (x1 + v8)), 0))]) rfl ?_
      refine g_goto ok rfl ?_
      exact g_wk ok [(0, (28, 0, x0)), (1, (0, (g32 (x1 + v8)), 0))] ⟨rfl, rfl, trivial⟩ (hl5 (x0, (g32 (x1 + v8)), s7))
  · refine g_map hr5 ?_
    refine g_rb gs_189 4 (cd' := gb_189_42) rfl rfl ?_
    refine g_iload_n ok rfl ?_
    exact g_ireturn ok rfl rfl (rfl)
theorem tl_189_5 {X : gX} (ok : gOK X) (hX : gHX X) (d : Nat)  (y : (Nat × Int × gS)) : Go X em_189 189 (d + 6) 5 [] [(0, (28, 0, y.1)), (1, (0, y.2.1, 0))] [] y.2.2 0 0 (gloop (st_189_5) y) some :=
  g_loop (Lh := fun y => [(0, (28, 0, y.1)), (1, (0, y.2.1, 0))]) (sh := fun y => y.2.2) (fun k5 hl5 hr5 y => ts_189_5 ok hX d  hl5 hr5 y.1 y.2.1 y.2.2) y
theorem t_189 {X : gX} (ok : gOK X) (hX : gHX X) (d : Nat) (a0 : Nat) (s : gS) : Go X em_189 189 (d + 6) 0 [] [(0, (28, 0, a0))] [] s 0 0 (f_189 a0 s) some := by
  delta f_189
  refine g_rb gs_189 0 (cd' := gb_189_0) rfl rfl ?_
  refine g_aload_n ok rfl rfl ?_
  refine g_cv1 ok (me_188 hX) rfl rfl rfl rfl (t_188 ok hX _ a0 s) (fun v2 s1 => ?_)
  refine g_istore_n ok rfl (L' := [(0, (28, 0, a0)), (1, (0, v2, 0))]) rfl ?_
  exact g_wk ok [(0, (28, 0, a0)), (1, (0, v2, 0))] ⟨rfl, rfl, trivial⟩ (tl_189_5 ok hX d  (a0, v2, s1))
