-- X8_most
theorem t_65 {X : gX} (ok : gOK X) (hX : gHX X) (d : Nat) (a0 : Nat) (s : gS) : Go X em_65 65 d 0 [] [(0, (24, 0, a0))] [] s 0 0 (f_65 a0 s) some := by
  delta f_65
  refine g_rb gs_65 0 (cd' := gb_65_0) rfl rfl ?_
  refine g_aload_n ok rfl rfl ?_
  refine g_getr ok 3700 rfl rfl rfl ?_
  refine g_iconst ok (v := 0) rfl ?_
  refine g_ialoadc ok (n := 448) 0 rfl rfl rfl ?_
  exact g_ireturn ok rfl rfl (rfl)
-- X8_gets
theorem tb_66_57 {X : gX} (ok : gOK X) (hX : gHX X) (d : Nat) {k7 : (Nat × Int × Int × Int × Int × gS) ⊕ gO → Option gO} (hl7 : ∀ y : (Nat × Int × Int × Int × Int × gS), Go X em_66 66 (d + 1) 7 [] [(0, (24, 0, y.1)), (1, (0, y.2.1, 0)), (2, (0, y.2.2.1, 0)), (3, (0, y.2.2.2.1, 0)), (4, (0, y.2.2.2.2.1, 0))] [] y.2.2.2.2.2 0 0 (some (Sum.inl y)) k7) (hr7 : ∀ q, k7 (Sum.inr q) = some q) (x0 : Nat) (x1 : Int) (x2 : Int) (x3 : Int) (x4 : Int) (s : gS) : Go X em_66 66 (d + 1) 57 [] [(0, (24, 0, x0)), (1, (0, x1, 0)), (2, (0, x2, 0)), (3, (0, x3, 0)), (4, (0, x4, 0))] [] s 0 0 (fb_66_57 x0 x1 x2 x3 x4 s) k7 := by
  delta fb_66_57
  refine g_rb gs_66 6 (cd' := gb_66_57) rfl rfl ?_
  refine g_iload_n ok rfl ?_
  refine g_iconst ok (v := (-1)) rfl ?_
  refine g_ic_eq ok rfl (fun _ => ?_) (fun _ => ?_)
  · refine g_rb gs_66 8 (cd' := gb_66_68) rfl rfl ?_
    refine g_iinc ok rfl rfl (L' := [(0, (24, 0, x0)), (1, (0, x1, 0)), (2, (0, x2, 0)), (3, (0, x3, 0)), (4, (0, (g32 (x4 + 1)), 0))]) rfl ?_
    refine g_goto ok rfl ?_
    exact g_wk ok [(0, (24, 0, x0)), (1, (0, x1, 0)), (2, (0, x2, 0)), (3, (0, x3, 0)), (4, (0, (g32 (x4 + 1)), 0))] ⟨rfl, rfl, rfl, rfl, rfl, trivial⟩ (hl7 (x0, x1, x2, x3, (g32 (x4 + 1)), s))
  · refine g_rb gs_66 7 (cd' := gb_66_62) rfl rfl ?_
    refine g_iload_n ok rfl ?_
    refine g_iconst ok (v := 1) rfl ?_
    refine g_iload_n ok rfl ?_
    refine g_ishl ok ?_
    refine g_ior ok ?_
    let v3 : Int := (gor x2 (gshl 1 x3))
    refine g_istore_n ok rfl (L' := [(0, (24, 0, x0)), (1, (0, x1, 0)), (2, (0, v3, 0)), (3, (0, x3, 0)), (4, (0, x4, 0))]) rfl ?_
    refine g_rb gs_66 8 (cd' := gb_66_68) rfl rfl ?_
    refine g_iinc ok rfl rfl (L' := [(0, (24, 0, x0)), (1, (0, x1, 0)), (2, (0, v3, 0)), (3, (0, x3, 0)), (4, (0, (g32 (x4 + 1)), 0))]) rfl ?_
    refine g_goto ok rfl ?_
    exact g_wk ok [(0, (24, 0, x0)), (1, (0, x1, 0)), (2, (0, v3, 0)), (3, (0, x3, 0)), (4, (0, (g32 (x4 + 1)), 0))] ⟨rfl, rfl, rfl, rfl, rfl, trivial⟩ (hl7 (x0, x1, v3, x3, (g32 (x4 + 1)), s))
theorem ts_66_15 {X : gX} (ok : gOK X) (hX : gHX X) (d : Nat) {k7 : (Nat × Int × Int × Int × Int × gS) ⊕ gO → Option gO} (hl7 : ∀ y : (Nat × Int × Int × Int × Int × gS), Go X em_66 66 (d + 1) 7 [] [(0, (24, 0, y.1)), (1, (0, y.2.1, 0)), (2, (0, y.2.2.1, 0)), (3, (0, y.2.2.2.1, 0)), (4, (0, y.2.2.2.2.1, 0))] [] y.2.2.2.2.2 0 0 (some (Sum.inl y)) k7) (hr7 : ∀ q, k7 (Sum.inr q) = some q) {k15 : (Nat × Int × Int × Int × Int × gS) ⊕ ((Nat × Int × Int × Int × Int × gS) ⊕ gO) → Option gO} (hl15 : ∀ y : (Nat × Int × Int × Int × Int × gS), Go X em_66 66 (d + 1) 15 [] [(0, (24, 0, y.1)), (1, (0, y.2.1, 0)), (2, (0, y.2.2.1, 0)), (3, (0, y.2.2.2.1, 0)), (4, (0, y.2.2.2.2.1, 0))] [] y.2.2.2.2.2 0 0 (some (Sum.inl y)) k15) (hr15 : ∀ q, k15 (Sum.inr q) = k7 q) (x0 : Nat) (x1 : Int) (x2 : Int) (x3 : Int) (x4 : Int) (s : gS) : Go X em_66 66 (d + 1) 15 [] [(0, (24, 0, x0)), (1, (0, x1, 0)), (2, (0, x2, 0)), (3, (0, x3, 0)), (4, (0, x4, 0))] [] s 0 0 (sb_66_15 x0 x1 x2 x3 x4 s) k15 := by
  delta sb_66_15
  refine g_rb gs_66 3 (cd' := gb_66_15) rfl rfl ?_
  refine g_iload_n ok rfl ?_
  refine g_aload_n ok rfl rfl ?_
  refine g_getr ok 18 rfl rfl rfl ?_
  refine g_geti ok rfl rfl ?_
  refine g_iconst ok (v := 1) rfl ?_
  refine g_isub ok ?_
  refine g_ic_ge ok rfl (fun _ => ?_) (fun _ => ?_)
  · refine g_rb gs_66 4 (cd' := gb_66_28) rfl rfl ?_
    refine g_aload_n ok rfl rfl ?_
    refine g_iload ok rfl ?_
    refine g_iload_n ok rfl ?_
    refine g_iload_n ok rfl ?_
    refine g_cv1 ok (me_64 hX) rfl rfl rfl rfl (t_64 ok hX _ x0 x4 x2 x3 s) (fun v2 s1 => ?_)
    refine g_aload_n ok rfl rfl ?_
    refine g_getr ok 3700 rfl rfl rfl ?_
    refine g_iload ok rfl ?_
    refine g_bipush ok (v := 64) rfl ?_
    refine g_imul ok ?_
    refine g_iload_n ok rfl ?_
    refine g_iadd ok ?_
    refine g_iaload ok (n := 448) rfl rfl (fun _ _ => ?_)
    refine g_ic_ge ok rfl (fun _ => ?_) (fun _ => ?_)
    · refine g_rb gs_66 5 (cd' := gb_66_51) rfl rfl ?_
      refine g_iinc ok rfl rfl (L' := [(0, (24, 0, x0)), (1, (0, x1, 0)), (2, (0, x2, 0)), (3, (0, (g32 (x3 + 1)), 0)), (4, (0, x4, 0))]) rfl ?_
      refine g_goto ok rfl ?_
      exact g_wk ok [(0, (24, 0, x0)), (1, (0, x1, 0)), (2, (0, x2, 0)), (3, (0, (g32 (x3 + 1)), 0)), (4, (0, x4, 0))] ⟨rfl, rfl, rfl, rfl, rfl, trivial⟩ (hl15 (x0, x1, x2, (g32 (x3 + 1)), x4, s1))
    · refine g_map hr15 ?_
      exact g_wk ok [(0, (24, 0, x0)), (1, (0, x1, 0)), (2, (0, x2, 0)), (3, (0, x3, 0)), (4, (0, x4, 0))] ⟨rfl, rfl, rfl, rfl, rfl, trivial⟩ (tb_66_57 ok hX d hl7 hr7 x0 x1 x2 x3 x4 s1)
  · refine g_map hr15 ?_
    exact g_wk ok [(0, (24, 0, x0)), (1, (0, x1, 0)), (2, (0, x2, 0)), (3, (0, x3, 0)), (4, (0, x4, 0))] ⟨rfl, rfl, rfl, rfl, rfl, trivial⟩ (tb_66_57 ok hX d hl7 hr7 x0 x1 x2 x3 x4 s)
theorem tl_66_15 {X : gX} (ok : gOK X) (hX : gHX X) (d : Nat) {k7 : (Nat × Int × Int × Int × Int × gS) ⊕ gO → Option gO} (hl7 : ∀ y : (Nat × Int × Int × Int × Int × gS), Go X em_66 66 (d + 1) 7 [] [(0, (24, 0, y.1)), (1, (0, y.2.1, 0)), (2, (0, y.2.2.1, 0)), (3, (0, y.2.2.2.1, 0)), (4, (0, y.2.2.2.2.1, 0))] [] y.2.2.2.2.2 0 0 (some (Sum.inl y)) k7) (hr7 : ∀ q, k7 (Sum.inr q) = some q) (y : (Nat × Int × Int × Int × Int × gS)) : Go X em_66 66 (d + 1) 15 [] [(0, (24, 0, y.1)), (1, (0, y.2.1, 0)), (2, (0, y.2.2.1, 0)), (3, (0, y.2.2.2.1, 0)), (4, (0, y.2.2.2.2.1, 0))] [] y.2.2.2.2.2 0 0 (gloop (st_66_15) y) k7 :=
  g_loop (Lh := fun y => [(0, (24, 0, y.1)), (1, (0, y.2.1, 0)), (2, (0, y.2.2.1, 0)), (3, (0, y.2.2.2.1, 0)), (4, (0, y.2.2.2.2.1, 0))]) (sh := fun y => y.2.2.2.2.2) (fun k15 hl15 hr15 y => ts_66_15 ok hX d hl7 hr7 hl15 hr15 y.1 y.2.1 y.2.2.1 y.2.2.2.1 y.2.2.2.2.1 y.2.2.2.2.2) y
theorem ts_66_7 {X : gX} (ok : gOK X) (hX : gHX X) (d : Nat) {k7 : (Nat × Int × Int × Int × Int × gS) ⊕ gO → Option gO} (hl7 : ∀ y : (Nat × Int × Int × Int × Int × gS), Go X em_66 66 (d + 1) 7 [] [(0, (24, 0, y.1)), (1, (0, y.2.1, 0)), (2, (0, y.2.2.1, 0)), (3, (0, y.2.2.2.1, 0)), (4, (0, y.2.2.2.2.1, 0))] [] y.2.2.2.2.2 0 0 (some (Sum.inl y)) k7) (hr7 : ∀ q, k7 (Sum.inr q) = some q) (x0 : Nat) (x1 : Int) (x2 : Int) (x3 : Int) (x4 : Int) (s : gS) : Go X em_66 66 (d + 1) 7 [] [(0, (24, 0, x0)), (1, (0, x1, 0)), (2, (0, x2, 0)), (3, (0, x3, 0)), (4, (0, x4, 0))] [] s 0 0 (sb_66_7 x0 x1 x2 x3 x4 s) k7 := by
  delta sb_66_7
  refine g_rb gs_66 1 (cd' := gb_66_7) rfl rfl ?_
  refine g_iload ok rfl ?_
  refine g_iload_n ok rfl ?_
  refine g_ic_gt ok rfl (fun _ => ?_) (fun _ => ?_)
  · refine g_map hr7 ?_
    refine g_rb gs_66 9 (cd' := gb_66_74) rfl rfl ?_
    refine g_iload_n ok rfl ?_
    exact g_ireturn ok rfl rfl (rfl)
  · refine g_rb gs_66 2 (cd' := gb_66_13) rfl rfl ?_
    refine g_iconst ok (v := (-1)) rfl ?_
    refine g_istore_n ok rfl (L' := [(0, (24, 0, x0)), (1, (0, x1, 0)), (2, (0, x2, 0)), (3, (0, (-1), 0)), (4, (0, x4, 0))]) rfl ?_
    exact g_wk ok [(0, (24, 0, x0)), (1, (0, x1, 0)), (2, (0, x2, 0)), (3, (0, (-1), 0)), (4, (0, x4, 0))] ⟨rfl, rfl, rfl, rfl, rfl, trivial⟩ (tl_66_15 ok hX d hl7 hr7 (x0, x1, x2, (-1), x4, s))
theorem tl_66_7 {X : gX} (ok : gOK X) (hX : gHX X) (d : Nat)  (y : (Nat × Int × Int × Int × Int × gS)) : Go X em_66 66 (d + 1) 7 [] [(0, (24, 0, y.1)), (1, (0, y.2.1, 0)), (2, (0, y.2.2.1, 0)), (3, (0, y.2.2.2.1, 0)), (4, (0, y.2.2.2.2.1, 0))] [] y.2.2.2.2.2 0 0 (gloop (st_66_7) y) some :=
  g_loop (Lh := fun y => [(0, (24, 0, y.1)), (1, (0, y.2.1, 0)), (2, (0, y.2.2.1, 0)), (3, (0, y.2.2.2.1, 0)), (4, (0, y.2.2.2.2.1, 0))]) (sh := fun y => y.2.2.2.2.2) (fun k7 hl7 hr7 y => ts_66_7 ok hX d  hl7 hr7 y.1 y.2.1 y.2.2.1 y.2.2.2.1 y.2.2.2.2.1 y.2.2.2.2.2) y
theorem t_66 {X : gX} (ok : gOK X) (hX : gHX X) (d : Nat) (a0 : Nat) (a1 : Int) (s : gS) : Go X em_66 66 (d + 1) 0 [] [(0, (24, 0, a0)), (1, (0, a1, 0))] [] s 0 0 (f_66 a0 a1 s) some := by
  delta f_66
  refine g_rb gs_66 0 (cd' := gb_66_0) rfl rfl ?_
  refine g_iconst ok (v := 0) rfl ?_
  refine g_istore_n ok rfl (L' := [(0, (24, 0, a0)), (1, (0, a1, 0)), (2, (0, 0, 0))]) rfl ?_
  refine g_iconst ok (v := (-1)) rfl ?_
  refine g_istore_n ok rfl (L' := [(0, (24, 0, a0)), (1, (0, a1, 0)), (2, (0, 0, 0)), (3, (0, (-1), 0))]) rfl ?_
  refine g_iconst ok (v := 0) rfl ?_
  refine g_istore ok rfl (L' := [(0, (24, 0, a0)), (1, (0, a1, 0)), (2, (0, 0, 0)), (3, (0, (-1), 0)), (4, (0, 0, 0))]) rfl ?_
  exact g_wk ok [(0, (24, 0, a0)), (1, (0, a1, 0)), (2, (0, 0, 0)), (3, (0, (-1), 0)), (4, (0, 0, 0))] ⟨rfl, rfl, rfl, rfl, rfl, trivial⟩ (tl_66_7 ok hX d  (a0, a1, 0, (-1), 0, s))
-- J7_fill_d0a16
theorem ts_272_6 {X : gX} (ok : gOK X) (hX : gHX X) (d : Nat) {k6 : (Nat × Int × Int × Int × gS) ⊕ gO → Option gO} (hl6 : ∀ y : (Nat × Int × Int × Int × gS), Go X em_272 272 d 6 [] [(0, (24117, 0, y.1)), (1, (2, y.2.1, 0)), (3, (0, y.2.2.1, 0)), (4, (0, y.2.2.2.1, 0))] [] y.2.2.2.2 0 0 (some (Sum.inl y)) k6) (hr6 : ∀ q, k6 (Sum.inr q) = some q) (x0 : Nat) (x1 : Int) (x3 : Int) (x4 : Int) (s : gS) : Go X em_272 272 d 6 [] [(0, (24117, 0, x0)), (1, (2, x1, 0)), (3, (0, x3, 0)), (4, (0, x4, 0))] [] s 0 0 (sb_272_6 x0 x1 x3 x4 s) k6 := by
  delta sb_272_6
  refine g_rb gs_272 1 (cd' := gb_272_6) rfl rfl ?_
  refine g_iload_n ok rfl ?_
  refine g_iload ok rfl ?_
  refine g_ic_ge ok rfl (fun _ => ?_) (fun _ => ?_)
  · refine g_rb gs_272 2 (cd' := gb_272_12) rfl rfl ?_
    refine g_aload_n ok rfl rfl ?_
    refine g_iload_n ok rfl ?_
    refine g_lload_n ok rfl ?_
    refine g_lastore ok (n := 3000) rfl rfl (fun _ _ => ?_)
    let s1 : gS := gw s x0 (x3 : Int).toNat x1
    refine g_iinc ok rfl rfl (L' := [(0, (24117, 0, x0)), (1, (2, x1, 0)), (3, (0, (g32 (x3 + 1)), 0)), (4, (0, x4, 0))]) rfl ?_
    refine g_goto ok rfl ?_
    exact g_wk ok [(0, (24117, 0, x0)), (1, (2, x1, 0)), (3, (0, (g32 (x3 + 1)), 0)), (4, (0, x4, 0))] ⟨rfl, rfl, rfl, rfl, trivial⟩ (hl6 (x0, x1, (g32 (x3 + 1)), x4, s1))
  · refine g_map hr6 ?_
    refine g_rb gs_272 3 (cd' := gb_272_22) rfl rfl ?_
    exact g_return ok rfl rfl (rfl)
theorem tl_272_6 {X : gX} (ok : gOK X) (hX : gHX X) (d : Nat)  (y : (Nat × Int × Int × Int × gS)) : Go X em_272 272 d 6 [] [(0, (24117, 0, y.1)), (1, (2, y.2.1, 0)), (3, (0, y.2.2.1, 0)), (4, (0, y.2.2.2.1, 0))] [] y.2.2.2.2 0 0 (gloop (st_272_6) y) some :=
  g_loop (Lh := fun y => [(0, (24117, 0, y.1)), (1, (2, y.2.1, 0)), (3, (0, y.2.2.1, 0)), (4, (0, y.2.2.2.1, 0))]) (sh := fun y => y.2.2.2.2) (fun k6 hl6 hr6 y => ts_272_6 ok hX d  hl6 hr6 y.1 y.2.1 y.2.2.1 y.2.2.2.1 y.2.2.2.2) y
theorem t_272 {X : gX} (ok : gOK X) (hX : gHX X) (d : Nat) (a0 : Nat) (a1 : Int) (s : gS) : Go X em_272 272 d 0 [] [(0, (24117, 0, a0)), (1, (2, a1, 0))] [] s 0 0 (f_272 a0 a1 s) some := by
  delta f_272
  refine g_rb gs_272 0 (cd' := gb_272_0) rfl rfl ?_
  refine g_iconst ok (v := 0) rfl ?_
  refine g_istore_n ok rfl (L' := [(0, (24117, 0, a0)), (1, (2, a1, 0)), (3, (0, 0, 0))]) rfl ?_
  refine g_aload_n ok rfl rfl ?_
  refine g_alen ok (n := 3000) (t := 1) (by decide) rfl (N := 3000) rfl ?_
  refine g_istore ok rfl (L' := [(0, (24117, 0, a0)), (1, (2, a1, 0)), (3, (0, 0, 0)), (4, (0, 3000, 0))]) rfl ?_
  exact g_wk ok [(0, (24117, 0, a0)), (1, (2, a1, 0)), (3, (0, 0, 0)), (4, (0, 3000, 0))] ⟨rfl, rfl, rfl, rfl, trivial⟩ (tl_272_6 ok hX d  (a0, a1, 0, 3000, s))
-- X9_lookAt
theorem ts_68_47 {X : gX} (ok : gOK X) (hX : gHX X) (d : Nat) {k47 : (Nat × Nat × Int × gS) ⊕ gO → Option gO} (hl47 : ∀ y : (Nat × Nat × Int × gS), Go X em_68 68 (d + 6) 47 [] [(0, (25, 0, y.1)), (2, (18, 0, y.2.1)), (4, (0, y.2.2.1, 0))] [] y.2.2.2 0 0 (some (Sum.inl y)) k47) (hr47 : ∀ q, k47 (Sum.inr q) = some q) (x0 : Nat) (x2 : Nat) (x4 : Int) (s : gS) : Go X em_68 68 (d + 6) 47 [] [(0, (25, 0, x0)), (2, (18, 0, x2)), (4, (0, x4, 0))] [] s 0 0 (sb_68_47 x0 x2 x4 s) k47 := by
  delta sb_68_47
  refine g_rb gs_68 1 (cd' := gb_68_47) rfl rfl ?_
  refine g_iload ok rfl ?_
  refine g_aload_n ok rfl rfl ?_
  refine g_geti ok rfl rfl ?_
  refine g_ic_ge ok rfl (fun _ => ?_) (fun _ => ?_)
  · refine g_rb gs_68 2 (cd' := gb_68_56) rfl rfl ?_
    refine g_aload_n ok rfl rfl ?_
    refine g_getr ok 356 rfl rfl rfl ?_
    refine g_iload ok rfl ?_
    refine g_aload_n ok rfl rfl ?_
    refine g_geti ok rfl rfl ?_
    refine g_iastore ok (n := 30) rfl rfl (fun _ _ => ?_)
    let s8 : gS := gw s (gR s x0 3) (x4 : Int).toNat (gI s x2 7)
    refine g_aload_n ok rfl rfl ?_
    refine g_aload_n ok rfl rfl ?_
    refine g_getr ok 16 rfl rfl rfl ?_
    refine g_aload_n ok rfl rfl ?_
    refine g_getr ok 19 rfl rfl rfl ?_
    refine g_iconst ok (v := 0) rfl ?_
    refine g_cv1 ok (me_27 hX) rfl rfl rfl rfl (t_27 ok hX _ x2 (gR s8 x0 1) (gR s8 x0 0) 0 s8) (fun v10 s9 => ?_)
    refine g_pop ok rfl ?_
    refine g_aload_n ok rfl rfl ?_
    refine g_getr ok 356 rfl rfl rfl ?_
    refine g_iload ok rfl ?_
    refine g_aload_n ok rfl rfl ?_
    refine g_getr ok 23 rfl rfl rfl ?_
    refine g_aload_n ok rfl rfl ?_
    refine g_getr ok 16 rfl rfl rfl ?_
    refine g_cv1 ok (me_61 hX) rfl rfl rfl rfl (t_61 ok hX _ (gR s9 x0 2) (gR s9 x0 1) s9) (fun v12 s11 => ?_)
    refine g_iastore ok (n := 30) rfl rfl (fun _ _ => ?_)
    let s13 : gS := gw s11 (gR s9 x0 6) (x4 : Int).toNat v12
    refine g_aload_n ok rfl rfl ?_
    refine g_getr ok 356 rfl rfl rfl ?_
    refine g_iload ok rfl ?_
    refine g_aload_n ok rfl rfl ?_
    refine g_getr ok 23 rfl rfl rfl ?_
    refine g_geti ok rfl rfl ?_
    refine g_iastore ok (n := 30) rfl rfl (fun _ _ => ?_)
    let s14 : gS := gw s13 (gR s13 x0 4) (x4 : Int).toNat (gI s13 (gR s13 x0 2) 3)
    refine g_aload_n ok rfl rfl ?_
    refine g_getr ok 356 rfl rfl rfl ?_
    refine g_iload ok rfl ?_
    refine g_aload_n ok rfl rfl ?_
    refine g_getr ok 23 rfl rfl rfl ?_
    refine g_geti ok rfl rfl ?_
    refine g_iastore ok (n := 30) rfl rfl (fun _ _ => ?_)
    let s15 : gS := gw s14 (gR s14 x0 5) (x4 : Int).toNat (gI s14 (gR s14 x0 2) 4)
    refine g_iinc ok rfl rfl (L' := [(0, (25, 0, x0)), (2, (18, 0, x2)), (4, (0, (g32 (x4 + 1)), 0))]) rfl ?_
    refine g_goto ok rfl ?_
    exact g_wk ok [(0, (25, 0, x0)), (2, (18, 0, x2)), (4, (0, (g32 (x4 + 1)), 0))] ⟨rfl, rfl, rfl, trivial⟩ (hl47 (x0, x2, (g32 (x4 + 1)), s15))
  · refine g_map hr47 ?_
    refine g_rb gs_68 3 (cd' := gb_68_133) rfl rfl ?_
    exact g_return ok rfl rfl (rfl)
theorem tl_68_47 {X : gX} (ok : gOK X) (hX : gHX X) (d : Nat)  (y : (Nat × Nat × Int × gS)) : Go X em_68 68 (d + 6) 47 [] [(0, (25, 0, y.1)), (2, (18, 0, y.2.1)), (4, (0, y.2.2.1, 0))] [] y.2.2.2 0 0 (gloop (st_68_47) y) some :=
  g_loop (Lh := fun y => [(0, (25, 0, y.1)), (2, (18, 0, y.2.1)), (4, (0, y.2.2.1, 0))]) (sh := fun y => y.2.2.2) (fun k47 hl47 hr47 y => ts_68_47 ok hX d  hl47 hr47 y.1 y.2.1 y.2.2.1 y.2.2.2) y
theorem t_68 {X : gX} (ok : gOK X) (hX : gHX X) (d : Nat) (a0 : Nat) (a1 : Int) (a2 : Nat) (a3 : Int) (s : gS) : Go X em_68 68 (d + 6) 0 [] [(0, (25, 0, a0)), (1, (0, a1, 0)), (2, (18, 0, a2)), (3, (0, a3, 0))] [] s 0 0 (f_68 a0 a1 a2 a3 s) some := by
  delta f_68
  refine g_rb gs_68 0 (cd' := gb_68_0) rfl rfl ?_
  refine g_aload_n ok rfl rfl ?_
  refine g_iload_n ok rfl ?_
  refine g_puti ok rfl rfl rfl ?_
  let s1 : gS := gw s a0 9 a1
  refine g_aload_n ok rfl rfl ?_
  refine g_bipush ok (v := 30) rfl ?_
  refine g_iload_n ok rfl ?_
  refine g_min ok rfl ?_
  refine g_puti ok rfl rfl rfl ?_
  let s2 : gS := gw s1 a0 8 (min 30 a3)
  refine g_aload_n ok rfl rfl ?_
  refine g_aload_n ok rfl rfl ?_
  refine g_geti ok rfl rfl ?_
  refine g_puti ok rfl rfl rfl ?_
  let s3 : gS := gw s2 a0 10 (gI s2 a2 8)
  refine g_aload_n ok rfl rfl ?_
  refine g_getr ok 24117 rfl rfl rfl ?_
  refine g_lconst ok (v := 0) rfl ?_
  refine g_cs0 ok (me_272 hX) rfl rfl (t_272 ok hX _ (gR s3 a0 7) 0 s3) (fun s4 => ?_)
  refine g_aload_n ok rfl rfl ?_
  refine g_getr ok 23 rfl rfl rfl ?_
  refine g_aload_n ok rfl rfl ?_
  refine g_getr ok 168 rfl rfl rfl ?_
  refine g_iload_n ok rfl ?_
  refine g_aaload4 ok (n := 6) rfl rfl (fun _ _ => ?_)
  refine g_cv0 ok (me_59 hX) rfl rfl rfl (t_59 ok hX _ (gR s4 a0 2) (gR s4 (gR s4 a2 0) (a1 : Int).toNat) s4) (fun s6 => ?_)
  refine g_iconst ok (v := 0) rfl ?_
  refine g_istore ok rfl (L' := [(0, (25, 0, a0)), (1, (0, a1, 0)), (2, (18, 0, a2)), (3, (0, a3, 0)), (4, (0, 0, 0))]) rfl ?_
  exact g_wk ok [(0, (25, 0, a0)), (2, (18, 0, a2)), (4, (0, 0, 0))] ⟨rfl, rfl, rfl, trivial⟩ (tl_68_47 ok hX d  (a0, a2, 0, s6))
-- X9_trustBehind
theorem t_73 {X : gX} (ok : gOK X) (hX : gHX X) (d : Nat) (a0 : Nat) (a1 : Int) (a2 : Int) (a3 : Int) (s : gS) : Go X em_73 73 (d + 3) 0 [] [(0, (25, 0, a0)), (1, (0, a1, 0)), (2, (0, a2, 0)), (3, (0, a3, 0))] [] s 0 0 (f_73 a0 a1 a2 a3 s) some := by
  delta f_73
  refine g_rb gs_73 0 (cd' := gb_73_0) rfl rfl ?_
  refine g_aload_n ok rfl rfl ?_
  refine g_getr ok 23 rfl rfl rfl ?_
  refine g_iload_n ok rfl ?_
  refine g_puti ok rfl rfl rfl ?_
  let s1 : gS := gw s (gR s a0 2) 0 a3
  refine g_aload_n ok rfl rfl ?_
  refine g_getr ok 23 rfl rfl rfl ?_
  refine g_iload_n ok rfl ?_
  refine g_puti ok rfl rfl rfl ?_
  let s2 : gS := gw s1 (gR s1 a0 2) 1 a2
  refine g_aload_n ok rfl rfl ?_
  refine g_getr ok 23 rfl rfl rfl ?_
  refine g_aload_n ok rfl rfl ?_
  refine g_getr ok 356 rfl rfl rfl ?_
  refine g_iload_n ok rfl ?_
  refine g_iaload ok (n := 30) rfl rfl (fun _ _ => ?_)
  refine g_puti ok rfl rfl rfl ?_
  let s3 : gS := gw s2 (gR s2 a0 2) 3 (gI s2 (gR s2 a0 4) (a1 : Int).toNat)
  refine g_aload_n ok rfl rfl ?_
  refine g_getr ok 23 rfl rfl rfl ?_
  refine g_aload_n ok rfl rfl ?_
  refine g_getr ok 356 rfl rfl rfl ?_
  refine g_iload_n ok rfl ?_
  refine g_iaload ok (n := 30) rfl rfl (fun _ _ => ?_)
  refine g_puti ok rfl rfl rfl ?_
  let s4 : gS := gw s3 (gR s3 a0 2) 4 (gI s3 (gR s3 a0 5) (a1 : Int).toNat)
  refine g_aload_n ok rfl rfl ?_
  refine g_getr ok 23 rfl rfl rfl ?_
  refine g_aload_n ok rfl rfl ?_
  refine g_getr ok 356 rfl rfl rfl ?_
  refine g_iload_n ok rfl ?_
  refine g_iaload ok (n := 30) rfl rfl (fun _ _ => ?_)
  refine g_cv0 ok (me_60 hX) rfl rfl rfl (t_60 ok hX _ (gR s4 a0 2) (gI s4 (gR s4 a0 6) (a1 : Int).toNat) s4) (fun s5 => ?_)
  refine g_aload_n ok rfl rfl ?_
  refine g_getr ok 19 rfl rfl rfl ?_
  refine g_aload_n ok rfl rfl ?_
  refine g_geti ok rfl rfl ?_
  refine g_aload_n ok rfl rfl ?_
  refine g_getr ok 23 rfl rfl rfl ?_
  refine g_aload_n ok rfl rfl ?_
  refine g_getr ok 16 rfl rfl rfl ?_
  refine g_geti ok rfl rfl ?_
  refine g_cv0 ok (me_35 hX) rfl rfl rfl (t_35 ok hX _ (gR s5 a0 0) (gI s5 a0 9) (gR s5 a0 2) (gI s5 (gR s5 a0 1) 5) s5) (fun s7 => ?_)
  refine g_aload_n ok rfl rfl ?_
  refine g_getr ok 19 rfl rfl rfl ?_
  refine g_aload_n ok rfl rfl ?_
  refine g_getr ok 356 rfl rfl rfl ?_
  refine g_iload_n ok rfl ?_
  refine g_iaload ok (n := 30) rfl rfl (fun _ _ => ?_)
  refine g_sipush ok (v := 9999) rfl ?_
  refine g_aload_n ok rfl rfl ?_
  refine g_geti ok rfl rfl ?_
  refine g_iload_n ok rfl ?_
  refine g_iadd ok ?_
  refine g_min ok rfl ?_
  refine g_cv0 ok (me_36 hX) rfl rfl rfl (t_36 ok hX _ (gR s7 a0 0) (gI s7 (gR s7 a0 3) (a1 : Int).toNat) (min 9999 (g32 ((gI s7 a0 10) + a1))) s7) (fun s9 => ?_)
  refine g_aload_n ok rfl rfl ?_
  refine g_getr ok 23 rfl rfl rfl ?_
  refine g_aload_n ok rfl rfl ?_
  refine g_getr ok 19 rfl rfl rfl ?_
  refine g_aload_n ok rfl rfl ?_
  refine g_getr ok 16 rfl rfl rfl ?_
  refine g_getr ok 11 rfl rfl rfl ?_
  refine g_cv1 ok (me_37 hX) rfl rfl rfl rfl (t_37 ok hX _ (gR s9 a0 0) (gR s9 (gR s9 a0 1) 11) s9) (fun v12 s11 => ?_)
  refine g_cv0 ok (me_60 hX) rfl rfl rfl (t_60 ok hX _ (gR s9 a0 2) v12 s11) (fun s13 => ?_)
  refine g_aload_n ok rfl rfl ?_
  refine g_getr ok 23 rfl rfl rfl ?_
  refine g_geti ok rfl rfl ?_
  exact g_ireturn ok rfl rfl (rfl)
-- X9_proven
theorem t_72 {X : gX} (ok : gOK X) (hX : gHX X) (d : Nat) (a0 : Nat) (a1 : Int) (s : gS) : Go X em_72 72 d 0 [] [(0, (25, 0, a0)), (1, (0, a1, 0))] [] s 0 0 (f_72 a0 a1 s) some := by
  delta f_72
  refine g_rb gs_72 0 (cd' := gb_72_0) rfl rfl ?_
  refine g_bipush ok (v := 99) rfl ?_
  refine g_iload_n ok rfl ?_
  refine g_aload_n ok rfl rfl ?_
  refine g_getr ok 16 rfl rfl rfl ?_
  refine g_geti ok rfl rfl ?_
  refine g_iadd ok ?_
  refine g_min ok rfl ?_
  exact g_ireturn ok rfl rfl (rfl)
-- X9_keptFrom+X9_keptIfPassed
theorem tb_70_117 {X : gX} (ok : gOK X) (hX : gHX X) (d : Nat) {r_70 : Nat → Int → Int → Int → gS → Option gO} (hrc_70 : ∀ (a0 : Nat) (a1 : Int) (a2 : Int) (a3 : Int) (s : gS), Go X em_70 70 (d + 3) 0 [] [(0, (25, 0, a0)), (1, (0, a1, 0)), (2, (0, a2, 0)), (3, (0, a3, 0))] [] s 0 0 (r_70 a0 a1 a2 a3 s) some) {r_71 : Nat → Int → Int → Int → gS → Option gO} (hrc_71 : ∀ (a0 : Nat) (a1 : Int) (a2 : Int) (a3 : Int) (s : gS), Go X em_71 71 (d + 3) 0 [] [(0, (25, 0, a0)), (1, (0, a1, 0)), (2, (0, a2, 0)), (3, (0, a3, 0))] [] s 0 0 (r_71 a0 a1 a2 a3 s) some)  (x0 : Nat) (x4 : Int) (x5 : Int) (x7 : Int) (s : gS) : Go X em_70 70 (d + 4) 117 [] [(0, (25, 0, x0)), (4, (0, x4, 0)), (5, (0, x5, 0)), (7, (0, x7, 0))] [] s 0 0 (fb_70_117 r_70 r_71 x0 x4 x5 x7 s) some := by
  delta fb_70_117
  refine g_rb gs_70 9 (cd' := gb_70_117) rfl rfl ?_
  refine g_aload_n ok rfl rfl ?_
  refine g_getr ok 24117 rfl rfl rfl ?_
  refine g_iload ok rfl ?_
  refine g_dup2 ok rfl rfl ?_
  refine g_laload ok (n := 3000) rfl rfl (fun _ _ => ?_)
  refine g_iload ok rfl ?_
  refine g_iconst ok (v := 1) rfl ?_
  refine g_iadd ok ?_
  refine g_i2l ok ?_
  refine g_iload ok rfl ?_
  refine g_lshl ok ?_
  refine g_lor ok ?_
  refine g_lastore ok (n := 3000) rfl rfl (fun _ _ => ?_)
  let s10 : gS := gw s (gR s x0 7) (x4 : Int).toNat (glor (gI s (gR s x0 7) (x4 : Int).toNat) (glshl (g32 (x7 + 1)) x5))
  refine g_iload ok rfl ?_
  exact g_ireturn ok rfl rfl (rfl)
theorem to_70 {X : gX} (ok : gOK X) (hX : gHX X) (d : Nat) {r_70 : Nat → Int → Int → Int → gS → Option gO} (hrc_70 : ∀ (a0 : Nat) (a1 : Int) (a2 : Int) (a3 : Int) (s : gS), Go X em_70 70 (d + 3) 0 [] [(0, (25, 0, a0)), (1, (0, a1, 0)), (2, (0, a2, 0)), (3, (0, a3, 0))] [] s 0 0 (r_70 a0 a1 a2 a3 s) some) {r_71 : Nat → Int → Int → Int → gS → Option gO} (hrc_71 : ∀ (a0 : Nat) (a1 : Int) (a2 : Int) (a3 : Int) (s : gS), Go X em_71 71 (d + 3) 0 [] [(0, (25, 0, a0)), (1, (0, a1, 0)), (2, (0, a2, 0)), (3, (0, a3, 0))] [] s 0 0 (r_71 a0 a1 a2 a3 s) some) (a0 : Nat) (a1 : Int) (a2 : Int) (a3 : Int) (s : gS) : Go X em_70 70 (d + 4) 0 [] [(0, (25, 0, a0)), (1, (0, a1, 0)), (2, (0, a2, 0)), (3, (0, a3, 0))] [] s 0 0 (fo_70 r_70 r_71 a0 a1 a2 a3 s) some := by
  delta fo_70
  refine g_rb gs_70 0 (cd' := gb_70_0) rfl rfl ?_
  refine g_iload_n ok rfl ?_
  refine g_aload_n ok rfl rfl ?_
  refine g_geti ok rfl rfl ?_
  refine g_ic_ge ok rfl (fun _ => ?_) (fun _ => ?_)
  · refine g_rb gs_70 1 (cd' := gb_70_8) rfl rfl ?_
    refine g_iload_n ok rfl ?_
    refine g_bipush ok (v := 10) rfl ?_
    refine g_ic_ge ok rfl (fun _ => ?_) (fun _ => ?_)
    · refine g_rb gs_70 2 (cd' := gb_70_14) rfl rfl ?_
      refine g_iload_n ok rfl ?_
      refine g_bipush ok (v := 100) rfl ?_
      refine g_ic_lt ok rfl (fun _ => ?_) (fun _ => ?_)
      · refine g_rb gs_70 4 (cd' := gb_70_22) rfl rfl ?_
        refine g_iload_n ok rfl ?_
        refine g_bipush ok (v := 12) rfl ?_
        refine g_idiv ok (by decide) ?_
        refine g_bipush ok (v := 10) rfl ?_
        refine g_imul ok ?_
        refine g_iload_n ok rfl ?_
        refine g_iadd ok ?_
        refine g_bipush ok (v := 100) rfl ?_
        refine g_imul ok ?_
        refine g_iload_n ok rfl ?_
        refine g_iadd ok ?_
        let v1 : Int := (g32 ((g32 ((g32 ((g32 ((gdiv a1 12) * 10)) + a2)) * 100)) + a3))
        refine g_istore ok rfl (L' := [(0, (25, 0, a0)), (1, (0, a1, 0)), (2, (0, a2, 0)), (3, (0, a3, 0)), (4, (0, v1, 0))]) rfl ?_
        refine g_iload_n ok rfl ?_
        refine g_bipush ok (v := 12) rfl ?_
        refine g_irem ok (by decide) ?_
        refine g_iconst ok (v := 5) rfl ?_
        refine g_imul ok ?_
        let v2 : Int := (g32 ((grem a1 12) * 5))
        refine g_istore ok rfl (L' := [(0, (25, 0, a0)), (1, (0, a1, 0)), (2, (0, a2, 0)), (3, (0, a3, 0)), (4, (0, v1, 0)), (5, (0, v2, 0))]) rfl ?_
        refine g_aload_n ok rfl rfl ?_
        refine g_getr ok 24117 rfl rfl rfl ?_
        refine g_iload ok rfl ?_
        refine g_laload ok (n := 3000) rfl rfl (fun _ _ => ?_)
        refine g_iload ok rfl ?_
        refine g_lshr ok ?_
        refine g_ldc2 ok (v := 31) (by decide) ?_ (by decide) (by decide)
        refine g_land ok ?_
        refine g_l2i ok ?_
        let v3 : Int := (g32 (gland (glshr (gI s (gR s a0 7) (v1 : Int).toNat) v2) 31))
        refine g_istore ok rfl (L' := [(0, (25, 0, a0)), (1, (0, a1, 0)), (2, (0, a2, 0)), (3, (0, a3, 0)), (4, (0, v1, 0)), (5, (0, v2, 0)), (6, (0, v3, 0))]) rfl ?_
        refine g_iload ok rfl ?_
        refine g_if_le ok rfl (fun _ => ?_) (fun _ => ?_)
        · refine g_rb gs_70 5 (cd' := gb_70_68) rfl rfl ?_
          refine g_iload ok rfl ?_
          refine g_iconst ok (v := 1) rfl ?_
          refine g_isub ok ?_
          exact g_ireturn ok rfl rfl (rfl)
        · refine g_rb gs_70 6 (cd' := gb_70_73) rfl rfl ?_
          refine g_aload_n ok rfl rfl ?_
          refine g_iload_n ok rfl ?_
          refine g_iload_n ok rfl ?_
          refine g_iload_n ok rfl ?_
          refine g_cv1 ok (me_71 hX) rfl rfl rfl rfl (hrc_71 a0 a1 a2 a3 s) (fun v5 s4 => ?_)
          refine g_istore ok rfl (L' := [(0, (25, 0, a0)), (1, (0, a1, 0)), (2, (0, a2, 0)), (3, (0, a3, 0)), (4, (0, v1, 0)), (5, (0, v2, 0)), (6, (0, v3, 0)), (7, (0, v5, 0))]) rfl ?_
          refine g_iload_n ok rfl ?_
          refine g_if_le ok rfl (fun _ => ?_) (fun _ => ?_)
          · refine g_rb gs_70 7 (cd' := gb_70_86) rfl rfl ?_
            refine g_iload ok rfl ?_
            refine g_aload_n ok rfl rfl ?_
            refine g_geti ok rfl rfl ?_
            refine g_iload_n ok rfl ?_
            refine g_isub ok ?_
            refine g_ic_ge ok rfl (fun _ => ?_) (fun _ => ?_)
            · refine g_rb gs_70 8 (cd' := gb_70_97) rfl rfl ?_
              refine g_iload ok rfl ?_
              refine g_aload_n ok rfl rfl ?_
              refine g_iload_n ok rfl ?_
              refine g_iload_n ok rfl ?_
              refine g_iconst ok (v := 1) rfl ?_
              refine g_isub ok ?_
              refine g_aload_n ok rfl rfl ?_
              refine g_iload_n ok rfl ?_
              refine g_cv1 ok (me_72 hX) rfl rfl rfl rfl (t_72 ok hX _ a0 a3 s4) (fun v7 s6 => ?_)
              refine g_cv1 ok (me_70 hX) rfl rfl rfl rfl (hrc_70 a0 a1 (g32 (a2 - 1)) v7 s6) (fun v9 s8 => ?_)
              refine g_max ok rfl ?_
              refine g_istore ok rfl (L' := [(0, (25, 0, a0)), (1, (0, a1, 0)), (2, (0, a2, 0)), (3, (0, a3, 0)), (4, (0, v1, 0)), (5, (0, v2, 0)), (6, (0, v3, 0)), (7, (0, (max v5 v9), 0))]) rfl ?_
              exact g_wk ok [(0, (25, 0, a0)), (4, (0, v1, 0)), (5, (0, v2, 0)), (7, (0, (max v5 v9), 0))] ⟨rfl, rfl, rfl, rfl, trivial⟩ (tb_70_117 ok hX d hrc_70 hrc_71  a0 v1 v2 (max v5 v9) s8)
            · exact g_wk ok [(0, (25, 0, a0)), (4, (0, v1, 0)), (5, (0, v2, 0)), (7, (0, v5, 0))] ⟨rfl, rfl, rfl, rfl, trivial⟩ (tb_70_117 ok hX d hrc_70 hrc_71  a0 v1 v2 v5 s4)
          · exact g_wk ok [(0, (25, 0, a0)), (4, (0, v1, 0)), (5, (0, v2, 0)), (7, (0, v5, 0))] ⟨rfl, rfl, rfl, rfl, trivial⟩ (tb_70_117 ok hX d hrc_70 hrc_71  a0 v1 v2 v5 s4)
      · refine g_rb gs_70 3 (cd' := gb_70_20) rfl rfl ?_
        refine g_iconst ok (v := 0) rfl ?_
        exact g_ireturn ok rfl rfl (rfl)
    · refine g_rb gs_70 3 (cd' := gb_70_20) rfl rfl ?_
      refine g_iconst ok (v := 0) rfl ?_
      exact g_ireturn ok rfl rfl (rfl)
  · refine g_rb gs_70 3 (cd' := gb_70_20) rfl rfl ?_
    refine g_iconst ok (v := 0) rfl ?_
    exact g_ireturn ok rfl rfl (rfl)
theorem to_71 {X : gX} (ok : gOK X) (hX : gHX X) (d : Nat) {r_70 : Nat → Int → Int → Int → gS → Option gO} (hrc_70 : ∀ (a0 : Nat) (a1 : Int) (a2 : Int) (a3 : Int) (s : gS), Go X em_70 70 (d + 3) 0 [] [(0, (25, 0, a0)), (1, (0, a1, 0)), (2, (0, a2, 0)), (3, (0, a3, 0))] [] s 0 0 (r_70 a0 a1 a2 a3 s) some) (a0 : Nat) (a1 : Int) (a2 : Int) (a3 : Int) (s : gS) : Go X em_71 71 (d + 4) 0 [] [(0, (25, 0, a0)), (1, (0, a1, 0)), (2, (0, a2, 0)), (3, (0, a3, 0))] [] s 0 0 (fo_71 r_70 a0 a1 a2 a3 s) some := by
  delta fo_71
  refine g_rb gs_71 0 (cd' := gb_71_0) rfl rfl ?_
  refine g_aload_n ok rfl rfl ?_
  refine g_iload_n ok rfl ?_
  refine g_iload_n ok rfl ?_
  refine g_iload_n ok rfl ?_
  refine g_cv1 ok (me_73 hX) rfl rfl rfl rfl (t_73 ok hX _ a0 a1 a2 a3 s) (fun v2 s1 => ?_)
  refine g_istore ok rfl (L' := [(0, (25, 0, a0)), (1, (0, a1, 0)), (2, (0, a2, 0)), (3, (0, a3, 0)), (4, (0, v2, 0))]) rfl ?_
  refine g_iload ok rfl ?_
  refine g_aload_n ok rfl rfl ?_
  refine g_getr ok 16 rfl rfl rfl ?_
  refine g_geti ok rfl rfl ?_
  refine g_ic_ge ok rfl (fun _ => ?_) (fun _ => ?_)
  · refine g_rb gs_71 1 (cd' := gb_71_21) rfl rfl ?_
    refine g_iconst ok (v := 0) rfl ?_
    refine g_goto ok rfl ?_
    refine g_rb gs_71 3 (cd' := gb_71_37) rfl rfl ?_
    exact g_ireturn ok rfl rfl (rfl)
  · refine g_rb gs_71 2 (cd' := gb_71_25) rfl rfl ?_
    refine g_iconst ok (v := 1) rfl ?_
    refine g_aload_n ok rfl rfl ?_
    refine g_iload_n ok rfl ?_
    refine g_iconst ok (v := 1) rfl ?_
    refine g_iadd ok ?_
    refine g_iload_n ok rfl ?_
    refine g_iload ok rfl ?_
    refine g_cv1 ok (me_70 hX) rfl rfl rfl rfl (hrc_70 a0 (g32 (a1 + 1)) a2 v2 s1) (fun v4 s3 => ?_)
    refine g_iadd ok ?_
    refine g_rb gs_71 3 (cd' := gb_71_37) rfl rfl ?_
    exact g_ireturn ok rfl rfl (rfl)
theorem tr_70 {X : gX} (ok : gOK X) (hX : gHX X) (d : Nat) : ∀ n : Nat, (∀ (a0 : Nat) (a1 : Int) (a2 : Int) (a3 : Int) (s : gS), Go X em_70 70 (d + 4 + n) 0 [] [(0, (25, 0, a0)), (1, (0, a1, 0)), (2, (0, a2, 0)), (3, (0, a3, 0))] [] s 0 0 (fn_70 n a0 a1 a2 a3 s) some) ∧ (∀ (a0 : Nat) (a1 : Int) (a2 : Int) (a3 : Int) (s : gS), Go X em_71 71 (d + 4 + n) 0 [] [(0, (25, 0, a0)), (1, (0, a1, 0)), (2, (0, a2, 0)), (3, (0, a3, 0))] [] s 0 0 (fn_71 n a0 a1 a2 a3 s) some)
  | 0 => ⟨fun _ _ _ _ _ => g_none, fun _ _ _ _ _ => g_none⟩
  | n + 1 => by
    obtain ⟨h70, h71⟩ := tr_70 ok hX d n
    have e1 : d + 4 + (n + 1) = d + n + 1 + 4 := by omega
    have e2 : d + 4 + n = d + n + 1 + 3 := by omega
    rw [e2] at h70 h71
    rw [e1]
    exact ⟨fun b0 b1 b2 b3 b4 => to_70 ok hX (d + n + 1) h70 h71 b0 b1 b2 b3 b4, fun b0 b1 b2 b3 b4 => to_71 ok hX (d + n + 1) h70 b0 b1 b2 b3 b4⟩
theorem t_70 {X : gX} (ok : gOK X) (hX : gHX X) (d : Nat) : ∀ (a0 : Nat) (a1 : Int) (a2 : Int) (a3 : Int) (s : gS), Go X em_70 70 (d + 84) 0 [] [(0, (25, 0, a0)), (1, (0, a1, 0)), (2, (0, a2, 0)), (3, (0, a3, 0))] [] s 0 0 (f_70 a0 a1 a2 a3 s) some := (tr_70 ok hX d 80).1
theorem t_71 {X : gX} (ok : gOK X) (hX : gHX X) (d : Nat) : ∀ (a0 : Nat) (a1 : Int) (a2 : Int) (a3 : Int) (s : gS), Go X em_71 71 (d + 84) 0 [] [(0, (25, 0, a0)), (1, (0, a1, 0)), (2, (0, a2, 0)), (3, (0, a3, 0))] [] s 0 0 (f_71 a0 a1 a2 a3 s) some := (tr_70 ok hX d 80).2
-- X9_mostKept
theorem t_69 {X : gX} (ok : gOK X) (hX : gHX X) (d : Nat) (a0 : Nat) (a1 : Int) (a2 : Int) (s : gS) : Go X em_69 69 (d + 85) 0 [] [(0, (25, 0, a0)), (1, (0, a1, 0)), (2, (0, a2, 0))] [] s 0 0 (f_69 a0 a1 a2 s) some := by
  delta f_69
  refine g_rb gs_69 0 (cd' := gb_69_0) rfl rfl ?_
  refine g_aload_n ok rfl rfl ?_
  refine g_iconst ok (v := 0) rfl ?_
  refine g_iload_n ok rfl ?_
  refine g_iload_n ok rfl ?_
  refine g_cv1 ok (me_70 hX) rfl rfl rfl rfl (t_70 ok hX _ a0 0 a1 a2 s) (fun v2 s1 => ?_)
  exact g_ireturn ok rfl rfl (rfl)
-- X9_usedAheadOf
theorem tb_74_63 {X : gX} (ok : gOK X) (hX : gHX X) (d : Nat) {k9 : (Nat × Int × Int × Int × Int × gS) ⊕ gO → Option gO} (hl9 : ∀ y : (Nat × Int × Int × Int × Int × gS), Go X em_74 74 (d + 85) 9 [] [(0, (25, 0, y.1)), (1, (0, y.2.1, 0)), (4, (0, y.2.2.1, 0)), (5, (0, y.2.2.2.1, 0)), (6, (0, y.2.2.2.2.1, 0))] [] y.2.2.2.2.2 0 0 (some (Sum.inl y)) k9) (hr9 : ∀ q, k9 (Sum.inr q) = some q) (x0 : Nat) (x1 : Int) (x4 : Int) (x5 : Int) (x6 : Int) (x7 : Int) (s : gS) : Go X em_74 74 (d + 85) 63 [] [(0, (25, 0, x0)), (1, (0, x1, 0)), (4, (0, x4, 0)), (5, (0, x5, 0)), (6, (0, x6, 0)), (7, (0, x7, 0))] [] s 0 0 (fb_74_63 x0 x1 x4 x5 x6 x7 s) k9 := by
  delta fb_74_63
  refine g_rb gs_74 6 (cd' := gb_74_63) rfl rfl ?_
  refine g_iload ok rfl ?_
  refine g_iload_n ok rfl ?_
  refine g_ic_ne ok rfl (fun _ => ?_) (fun _ => ?_)
  · refine g_map hr9 ?_
    refine g_rb gs_74 7 (cd' := gb_74_69) rfl rfl ?_
    refine g_iload ok rfl ?_
    exact g_ireturn ok rfl rfl (rfl)
  · refine g_rb gs_74 8 (cd' := gb_74_72) rfl rfl ?_
    refine g_aload_n ok rfl rfl ?_
    refine g_iload ok rfl ?_
    refine g_iload ok rfl ?_
    refine g_iload ok rfl ?_
    refine g_cv1 ok (me_73 hX) rfl rfl rfl rfl (t_73 ok hX _ x0 x6 x4 x5 s) (fun v8 s7 => ?_)
    refine g_istore ok rfl (L' := [(0, (25, 0, x0)), (1, (0, x1, 0)), (4, (0, x4, 0)), (5, (0, v8, 0)), (6, (0, x6, 0)), (7, (0, x7, 0))]) rfl ?_
    refine g_iload ok rfl ?_
    refine g_aload_n ok rfl rfl ?_
    refine g_getr ok 16 rfl rfl rfl ?_
    refine g_geti ok rfl rfl ?_
    refine g_ic_ge ok rfl (fun _ => ?_) (fun _ => ?_)
    · refine g_map hr9 ?_
      refine g_rb gs_74 9 (cd' := gb_74_96) rfl rfl ?_
      refine g_iconst ok (v := 0) rfl ?_
      exact g_ireturn ok rfl rfl (rfl)
    · refine g_rb gs_74 10 (cd' := gb_74_98) rfl rfl ?_
      refine g_iinc ok rfl rfl (L' := [(0, (25, 0, x0)), (1, (0, x1, 0)), (4, (0, x4, 0)), (5, (0, v8, 0)), (6, (0, (g32 (x6 + 1)), 0)), (7, (0, x7, 0))]) rfl ?_
      refine g_goto ok rfl ?_
      exact g_wk ok [(0, (25, 0, x0)), (1, (0, x1, 0)), (4, (0, x4, 0)), (5, (0, v8, 0)), (6, (0, (g32 (x6 + 1)), 0))] ⟨rfl, rfl, rfl, rfl, rfl, trivial⟩ (hl9 (x0, x1, x4, v8, (g32 (x6 + 1)), s7))
theorem ts_74_18 {X : gX} (ok : gOK X) (hX : gHX X) (d : Nat) {k9 : (Nat × Int × Int × Int × Int × gS) ⊕ gO → Option gO} (hl9 : ∀ y : (Nat × Int × Int × Int × Int × gS), Go X em_74 74 (d + 85) 9 [] [(0, (25, 0, y.1)), (1, (0, y.2.1, 0)), (4, (0, y.2.2.1, 0)), (5, (0, y.2.2.2.1, 0)), (6, (0, y.2.2.2.2.1, 0))] [] y.2.2.2.2.2 0 0 (some (Sum.inl y)) k9) (hr9 : ∀ q, k9 (Sum.inr q) = some q) {k18 : (Nat × Int × Int × Int × Int × Int × gS) ⊕ ((Nat × Int × Int × Int × Int × gS) ⊕ gO) → Option gO} (hl18 : ∀ y : (Nat × Int × Int × Int × Int × Int × gS), Go X em_74 74 (d + 85) 18 [] [(0, (25, 0, y.1)), (1, (0, y.2.1, 0)), (4, (0, y.2.2.1, 0)), (5, (0, y.2.2.2.1, 0)), (6, (0, y.2.2.2.2.1, 0)), (7, (0, y.2.2.2.2.2.1, 0))] [] y.2.2.2.2.2.2 0 0 (some (Sum.inl y)) k18) (hr18 : ∀ q, k18 (Sum.inr q) = k9 q) (x0 : Nat) (x1 : Int) (x4 : Int) (x5 : Int) (x6 : Int) (x7 : Int) (s : gS) : Go X em_74 74 (d + 85) 18 [] [(0, (25, 0, x0)), (1, (0, x1, 0)), (4, (0, x4, 0)), (5, (0, x5, 0)), (6, (0, x6, 0)), (7, (0, x7, 0))] [] s 0 0 (sb_74_18 x0 x1 x4 x5 x6 x7 s) k18 := by
  delta sb_74_18
  refine g_rb gs_74 3 (cd' := gb_74_18) rfl rfl ?_
  refine g_iload ok rfl ?_
  refine g_if_le ok rfl (fun _ => ?_) (fun _ => ?_)
  · refine g_rb gs_74 4 (cd' := gb_74_23) rfl rfl ?_
    refine g_aload_n ok rfl rfl ?_
    refine g_iload ok rfl ?_
    refine g_iload ok rfl ?_
    refine g_iload ok rfl ?_
    refine g_cv1 ok (me_71 hX) rfl rfl rfl rfl (t_71 ok hX _ x0 x6 x4 x5 s) (fun v2 s1 => ?_)
    refine g_aload_n ok rfl rfl ?_
    refine g_iload ok rfl ?_
    refine g_iload ok rfl ?_
    refine g_iload ok rfl ?_
    refine g_cv1 ok (me_70 hX) rfl rfl rfl rfl (t_70 ok hX _ x0 x6 x4 x5 s1) (fun v4 s3 => ?_)
    refine g_ic_ge ok rfl (fun _ => ?_) (fun _ => ?_)
    · refine g_rb gs_74 5 (cd' := gb_74_46) rfl rfl ?_
      refine g_iinc ok rfl rfl (L' := [(0, (25, 0, x0)), (1, (0, x1, 0)), (4, (0, (g32 (x4 + (-1))), 0)), (5, (0, x5, 0)), (6, (0, x6, 0)), (7, (0, x7, 0))]) rfl ?_
      refine g_iinc ok rfl rfl (L' := [(0, (25, 0, x0)), (1, (0, x1, 0)), (4, (0, (g32 (x4 + (-1))), 0)), (5, (0, x5, 0)), (6, (0, x6, 0)), (7, (0, (g32 (x7 + 1)), 0))]) rfl ?_
      refine g_aload_n ok rfl rfl ?_
      refine g_iload ok rfl ?_
      refine g_cv1 ok (me_72 hX) rfl rfl rfl rfl (t_72 ok hX _ x0 x5 s3) (fun v6 s5 => ?_)
      refine g_istore ok rfl (L' := [(0, (25, 0, x0)), (1, (0, x1, 0)), (4, (0, (g32 (x4 + (-1))), 0)), (5, (0, v6, 0)), (6, (0, x6, 0)), (7, (0, (g32 (x7 + 1)), 0))]) rfl ?_
      refine g_goto ok rfl ?_
      exact g_wk ok [(0, (25, 0, x0)), (1, (0, x1, 0)), (4, (0, (g32 (x4 + (-1))), 0)), (5, (0, v6, 0)), (6, (0, x6, 0)), (7, (0, (g32 (x7 + 1)), 0))] ⟨rfl, rfl, rfl, rfl, rfl, rfl, trivial⟩ (hl18 (x0, x1, (g32 (x4 + (-1))), v6, x6, (g32 (x7 + 1)), s5))
    · refine g_map hr18 ?_
      exact g_wk ok [(0, (25, 0, x0)), (1, (0, x1, 0)), (4, (0, x4, 0)), (5, (0, x5, 0)), (6, (0, x6, 0)), (7, (0, x7, 0))] ⟨rfl, rfl, rfl, rfl, rfl, rfl, trivial⟩ (tb_74_63 ok hX d hl9 hr9 x0 x1 x4 x5 x6 x7 s3)
  · refine g_map hr18 ?_
    exact g_wk ok [(0, (25, 0, x0)), (1, (0, x1, 0)), (4, (0, x4, 0)), (5, (0, x5, 0)), (6, (0, x6, 0)), (7, (0, x7, 0))] ⟨rfl, rfl, rfl, rfl, rfl, rfl, trivial⟩ (tb_74_63 ok hX d hl9 hr9 x0 x1 x4 x5 x6 x7 s)
theorem tl_74_18 {X : gX} (ok : gOK X) (hX : gHX X) (d : Nat) {k9 : (Nat × Int × Int × Int × Int × gS) ⊕ gO → Option gO} (hl9 : ∀ y : (Nat × Int × Int × Int × Int × gS), Go X em_74 74 (d + 85) 9 [] [(0, (25, 0, y.1)), (1, (0, y.2.1, 0)), (4, (0, y.2.2.1, 0)), (5, (0, y.2.2.2.1, 0)), (6, (0, y.2.2.2.2.1, 0))] [] y.2.2.2.2.2 0 0 (some (Sum.inl y)) k9) (hr9 : ∀ q, k9 (Sum.inr q) = some q) (y : (Nat × Int × Int × Int × Int × Int × gS)) : Go X em_74 74 (d + 85) 18 [] [(0, (25, 0, y.1)), (1, (0, y.2.1, 0)), (4, (0, y.2.2.1, 0)), (5, (0, y.2.2.2.1, 0)), (6, (0, y.2.2.2.2.1, 0)), (7, (0, y.2.2.2.2.2.1, 0))] [] y.2.2.2.2.2.2 0 0 (gloop (st_74_18) y) k9 :=
  g_loop (Lh := fun y => [(0, (25, 0, y.1)), (1, (0, y.2.1, 0)), (4, (0, y.2.2.1, 0)), (5, (0, y.2.2.2.1, 0)), (6, (0, y.2.2.2.2.1, 0)), (7, (0, y.2.2.2.2.2.1, 0))]) (sh := fun y => y.2.2.2.2.2.2) (fun k18 hl18 hr18 y => ts_74_18 ok hX d hl9 hr9 hl18 hr18 y.1 y.2.1 y.2.2.1 y.2.2.2.1 y.2.2.2.2.1 y.2.2.2.2.2.1 y.2.2.2.2.2.2) y
theorem ts_74_9 {X : gX} (ok : gOK X) (hX : gHX X) (d : Nat) {k9 : (Nat × Int × Int × Int × Int × gS) ⊕ gO → Option gO} (hl9 : ∀ y : (Nat × Int × Int × Int × Int × gS), Go X em_74 74 (d + 85) 9 [] [(0, (25, 0, y.1)), (1, (0, y.2.1, 0)), (4, (0, y.2.2.1, 0)), (5, (0, y.2.2.2.1, 0)), (6, (0, y.2.2.2.2.1, 0))] [] y.2.2.2.2.2 0 0 (some (Sum.inl y)) k9) (hr9 : ∀ q, k9 (Sum.inr q) = some q) (x0 : Nat) (x1 : Int) (x4 : Int) (x5 : Int) (x6 : Int) (s : gS) : Go X em_74 74 (d + 85) 9 [] [(0, (25, 0, x0)), (1, (0, x1, 0)), (4, (0, x4, 0)), (5, (0, x5, 0)), (6, (0, x6, 0))] [] s 0 0 (sb_74_9 x0 x1 x4 x5 x6 s) k9 := by
  delta sb_74_9
  refine g_rb gs_74 1 (cd' := gb_74_9) rfl rfl ?_
  refine g_iload ok rfl ?_
  refine g_iload_n ok rfl ?_
  refine g_ic_gt ok rfl (fun _ => ?_) (fun _ => ?_)
  · refine g_map hr9 ?_
    refine g_rb gs_74 11 (cd' := gb_74_104) rfl rfl ?_
    refine g_iconst ok (v := 0) rfl ?_
    exact g_ireturn ok rfl rfl (rfl)
  · refine g_rb gs_74 2 (cd' := gb_74_15) rfl rfl ?_
    refine g_iconst ok (v := 0) rfl ?_
    refine g_istore ok rfl (L' := [(0, (25, 0, x0)), (1, (0, x1, 0)), (4, (0, x4, 0)), (5, (0, x5, 0)), (6, (0, x6, 0)), (7, (0, 0, 0))]) rfl ?_
    exact g_wk ok [(0, (25, 0, x0)), (1, (0, x1, 0)), (4, (0, x4, 0)), (5, (0, x5, 0)), (6, (0, x6, 0)), (7, (0, 0, 0))] ⟨rfl, rfl, rfl, rfl, rfl, rfl, trivial⟩ (tl_74_18 ok hX d hl9 hr9 (x0, x1, x4, x5, x6, 0, s))
theorem tl_74_9 {X : gX} (ok : gOK X) (hX : gHX X) (d : Nat)  (y : (Nat × Int × Int × Int × Int × gS)) : Go X em_74 74 (d + 85) 9 [] [(0, (25, 0, y.1)), (1, (0, y.2.1, 0)), (4, (0, y.2.2.1, 0)), (5, (0, y.2.2.2.1, 0)), (6, (0, y.2.2.2.2.1, 0))] [] y.2.2.2.2.2 0 0 (gloop (st_74_9) y) some :=
  g_loop (Lh := fun y => [(0, (25, 0, y.1)), (1, (0, y.2.1, 0)), (4, (0, y.2.2.1, 0)), (5, (0, y.2.2.2.1, 0)), (6, (0, y.2.2.2.2.1, 0))]) (sh := fun y => y.2.2.2.2.2) (fun k9 hl9 hr9 y => ts_74_9 ok hX d  hl9 hr9 y.1 y.2.1 y.2.2.1 y.2.2.2.1 y.2.2.2.2.1 y.2.2.2.2.2) y
theorem t_74 {X : gX} (ok : gOK X) (hX : gHX X) (d : Nat) (a0 : Nat) (a1 : Int) (a2 : Int) (a3 : Int) (s : gS) : Go X em_74 74 (d + 85) 0 [] [(0, (25, 0, a0)), (1, (0, a1, 0)), (2, (0, a2, 0)), (3, (0, a3, 0))] [] s 0 0 (f_74 a0 a1 a2 a3 s) some := by
  delta f_74
  refine g_rb gs_74 0 (cd' := gb_74_0) rfl rfl ?_
  refine g_iload_n ok rfl ?_
  refine g_istore ok rfl (L' := [(0, (25, 0, a0)), (1, (0, a1, 0)), (2, (0, a2, 0)), (3, (0, a3, 0)), (4, (0, a2, 0))]) rfl ?_
  refine g_iload_n ok rfl ?_
  refine g_istore ok rfl (L' := [(0, (25, 0, a0)), (1, (0, a1, 0)), (2, (0, a2, 0)), (3, (0, a3, 0)), (4, (0, a2, 0)), (5, (0, a3, 0))]) rfl ?_
  refine g_iconst ok (v := 0) rfl ?_
  refine g_istore ok rfl (L' := [(0, (25, 0, a0)), (1, (0, a1, 0)), (2, (0, a2, 0)), (3, (0, a3, 0)), (4, (0, a2, 0)), (5, (0, a3, 0)), (6, (0, 0, 0))]) rfl ?_
  exact g_wk ok [(0, (25, 0, a0)), (1, (0, a1, 0)), (4, (0, a2, 0)), (5, (0, a3, 0)), (6, (0, 0, 0))] ⟨rfl, rfl, rfl, rfl, rfl, trivial⟩ (tl_74_9 ok hX d  (a0, a1, a2, a3, 0, s))
-- X10_put
theorem ts_76_3 {X : gX} (ok : gOK X) (hX : gHX X) (d : Nat) {k3 : (Nat × Int × Int × gS) ⊕ gO → Option gO} (hl3 : ∀ y : (Nat × Int × Int × gS), Go X em_76 76 d 3 [] [(0, (26, 0, y.1)), (1, (0, y.2.1, 0)), (2, (0, y.2.2.1, 0))] [] y.2.2.2 0 0 (some (Sum.inl y)) k3) (hr3 : ∀ q, k3 (Sum.inr q) = some q) (x0 : Nat) (x1 : Int) (x2 : Int) (s : gS) : Go X em_76 76 d 3 [] [(0, (26, 0, x0)), (1, (0, x1, 0)), (2, (0, x2, 0))] [] s 0 0 (sb_76_3 x0 x1 x2 s) k3 := by
  delta sb_76_3
  refine g_rb gs_76 1 (cd' := gb_76_3) rfl rfl ?_
  refine g_iload_n ok rfl ?_
  refine g_if_lt ok rfl (fun _ => ?_) (fun _ => ?_)
  · refine g_map hr3 ?_
    refine g_rb gs_76 4 (cd' := gb_76_49) rfl rfl ?_
    exact g_return ok rfl rfl (rfl)
  · refine g_rb gs_76 2 (cd' := gb_76_7) rfl rfl ?_
    refine g_aload_n ok rfl rfl ?_
    refine g_geti ok rfl rfl ?_
    refine g_sipush ok (v := 400) rfl ?_
    refine g_ic_ge ok rfl (fun _ => ?_) (fun _ => ?_)
    · refine g_rb gs_76 3 (cd' := gb_76_17) rfl rfl ?_
      refine g_aload_n ok rfl rfl ?_
      refine g_getr ok 3316 rfl rfl rfl ?_
      refine g_aload_n ok rfl rfl ?_
      refine g_geti ok rfl rfl ?_
      refine g_iload_n ok rfl ?_
      refine g_iload_n ok rfl ?_
      refine g_ishr ok ?_
      refine g_sipush ok (v := 255) rfl ?_
      refine g_iand ok ?_
      refine g_iastore ok (n := 400) rfl rfl (fun _ _ => ?_)
      let s1 : gS := gw s (gR s x0 0) ((gI s x0 1) : Int).toNat (gand (gshr x1 x2) 255)
      refine g_aload_n ok rfl rfl ?_
      refine g_dup ok rfl ?_
      refine g_geti ok rfl rfl ?_
      refine g_iconst ok (v := 1) rfl ?_
      refine g_iadd ok ?_
      refine g_puti ok rfl rfl rfl ?_
      let s2 : gS := gw s1 x0 1 (g32 ((gI s1 x0 1) + 1))
      refine g_iinc ok rfl rfl (L' := [(0, (26, 0, x0)), (1, (0, x1, 0)), (2, (0, (g32 (x2 + (-8))), 0))]) rfl ?_
      refine g_goto ok rfl ?_
      exact g_wk ok [(0, (26, 0, x0)), (1, (0, x1, 0)), (2, (0, (g32 (x2 + (-8))), 0))] ⟨rfl, rfl, rfl, trivial⟩ (hl3 (x0, x1, (g32 (x2 + (-8))), s2))
    · refine g_map hr3 ?_
      refine g_rb gs_76 4 (cd' := gb_76_49) rfl rfl ?_
      exact g_return ok rfl rfl (rfl)
theorem tl_76_3 {X : gX} (ok : gOK X) (hX : gHX X) (d : Nat)  (y : (Nat × Int × Int × gS)) : Go X em_76 76 d 3 [] [(0, (26, 0, y.1)), (1, (0, y.2.1, 0)), (2, (0, y.2.2.1, 0))] [] y.2.2.2 0 0 (gloop (st_76_3) y) some :=
  g_loop (Lh := fun y => [(0, (26, 0, y.1)), (1, (0, y.2.1, 0)), (2, (0, y.2.2.1, 0))]) (sh := fun y => y.2.2.2) (fun k3 hl3 hr3 y => ts_76_3 ok hX d  hl3 hr3 y.1 y.2.1 y.2.2.1 y.2.2.2) y
theorem t_76 {X : gX} (ok : gOK X) (hX : gHX X) (d : Nat) (a0 : Nat) (a1 : Int) (s : gS) : Go X em_76 76 d 0 [] [(0, (26, 0, a0)), (1, (0, a1, 0))] [] s 0 0 (f_76 a0 a1 s) some := by
  delta f_76
  refine g_rb gs_76 0 (cd' := gb_76_0) rfl rfl ?_
  refine g_bipush ok (v := 24) rfl ?_
  refine g_istore_n ok rfl (L' := [(0, (26, 0, a0)), (1, (0, a1, 0)), (2, (0, 24, 0))]) rfl ?_
  exact g_wk ok [(0, (26, 0, a0)), (1, (0, a1, 0)), (2, (0, 24, 0))] ⟨rfl, rfl, rfl, trivial⟩ (tl_76_3 ok hX d  (a0, a1, 24, s))
-- X11_feed
theorem t_87 {X : gX} (ok : gOK X) (hX : gHX X) (d : Nat) (a0 : Nat) (a1 : Int) (a2 : Int) (a3 : Int) (a4 : Int) (a5 : Int) (s : gS) : Go X em_87 87 (d + 1) 0 [] [(0, (27, 0, a0)), (1, (0, a1, 0)), (2, (0, a2, 0)), (3, (0, a3, 0)), (4, (0, a4, 0)), (5, (0, a5, 0))] [] s 0 0 (f_87 a0 a1 a2 a3 a4 a5 s) some := by
  delta f_87
  refine g_rb gs_87 0 (cd' := gb_87_0) rfl rfl ?_
  refine g_aload_n ok rfl rfl ?_
  refine g_getr ok 26 rfl rfl rfl ?_
  refine g_geti ok rfl rfl ?_
  refine g_bipush ok (v := 20) rfl ?_
  refine g_iadd ok ?_
  refine g_sipush ok (v := 400) rfl ?_
  refine g_ic_le ok rfl (fun _ => ?_) (fun _ => ?_)
  · refine g_rb gs_87 1 (cd' := gb_87_16) rfl rfl ?_
    refine g_iconst ok (v := (-1)) rfl ?_
    exact g_ireturn ok rfl rfl (rfl)
  · refine g_rb gs_87 2 (cd' := gb_87_18) rfl rfl ?_
    refine g_aload_n ok rfl rfl ?_
    refine g_getr ok 26 rfl rfl rfl ?_
    refine g_iload_n ok rfl ?_
    refine g_cv0 ok (me_76 hX) rfl rfl rfl (t_76 ok hX _ (gR s a0 0) a1 s) (fun s1 => ?_)
    refine g_aload_n ok rfl rfl ?_
    refine g_getr ok 26 rfl rfl rfl ?_
    refine g_iload_n ok rfl ?_
    refine g_cv0 ok (me_76 hX) rfl rfl rfl (t_76 ok hX _ (gR s1 a0 0) a2 s1) (fun s3 => ?_)
    refine g_aload_n ok rfl rfl ?_
    refine g_getr ok 26 rfl rfl rfl ?_
    refine g_iload_n ok rfl ?_
    refine g_cv0 ok (me_76 hX) rfl rfl rfl (t_76 ok hX _ (gR s3 a0 0) a3 s3) (fun s5 => ?_)
    refine g_aload_n ok rfl rfl ?_
    refine g_getr ok 26 rfl rfl rfl ?_
    refine g_iload ok rfl ?_
    refine g_cv0 ok (me_76 hX) rfl rfl rfl (t_76 ok hX _ (gR s5 a0 0) a4 s5) (fun s7 => ?_)
    refine g_aload_n ok rfl rfl ?_
    refine g_getr ok 26 rfl rfl rfl ?_
    refine g_iload ok rfl ?_
    refine g_cv0 ok (me_76 hX) rfl rfl rfl (t_76 ok hX _ (gR s7 a0 0) a5 s7) (fun s9 => ?_)
    refine g_aload_n ok rfl rfl ?_
    refine g_getr ok 26 rfl rfl rfl ?_
    refine g_geti ok rfl rfl ?_
    exact g_ireturn ok rfl rfl (rfl)
-- X11_end
theorem t_88 {X : gX} (ok : gOK X) (hX : gHX X) (d : Nat) (a0 : Nat) (a1 : Int) (s : gS) : Go X em_88 88 d 0 [] [(0, (27, 0, a0)), (1, (0, a1, 0))] [] s 0 0 (f_88 a0 a1 s) some := by
  delta f_88
  refine g_rb gs_88 0 (cd' := gb_88_0) rfl rfl ?_
  refine g_iload_n ok rfl ?_
  refine g_if_lt ok rfl (fun _ => ?_) (fun _ => ?_)
  · refine g_rb gs_88 2 (cd' := gb_88_15) rfl rfl ?_
    refine g_iconst ok (v := 0) rfl ?_
    exact g_zreturn ok rfl (Or.inl rfl) rfl (rfl)
  · refine g_rb gs_88 1 (cd' := gb_88_4) rfl rfl ?_
    refine g_iload_n ok rfl ?_
    refine g_aload_n ok rfl rfl ?_
    refine g_getr ok 26 rfl rfl rfl ?_
    refine g_geti ok rfl rfl ?_
    refine g_ic_le ok rfl (fun _ => ?_) (fun _ => ?_)
    · refine g_rb gs_88 2 (cd' := gb_88_15) rfl rfl ?_
      refine g_iconst ok (v := 0) rfl ?_
      exact g_zreturn ok rfl (Or.inl rfl) rfl (rfl)
    · refine g_rb gs_88 3 (cd' := gb_88_17) rfl rfl ?_
      refine g_aload_n ok rfl rfl ?_
      refine g_getr ok 26 rfl rfl rfl ?_
      refine g_iload_n ok rfl ?_
      refine g_puti ok rfl rfl rfl ?_
      let s1 : gS := gw s (gR s a0 0) 1 a1
      refine g_iconst ok (v := 1) rfl ?_
      exact g_zreturn ok rfl (Or.inr rfl) rfl (rfl)
-- X11_book
theorem tb_89_54 {X : gX} (ok : gOK X) (hX : gHX X) (d : Nat)  (x0 : Nat) (x1 : Int) (w0 : Int) (w1 : Nat) (s : gS) : Go X em_89 89 (d + 10) 54 [] [(0, (27, 0, x0)), (1, (0, x1, 0))] [(0, w0, 0), (27, 0, w1)] s 0 0 (fb_89_54 x0 x1 w0 w1 s) some := by
  delta fb_89_54
  refine g_rb gs_89 3 (cd' := gb_89_54) rfl rfl ?_
  refine g_puti ok rfl rfl rfl ?_
  let s8 : gS := gw s w1 16 w0
  refine g_aload_n ok rfl rfl ?_
  refine g_getr ok 26 rfl rfl rfl ?_
  refine g_iconst ok (v := 0) rfl ?_
  refine g_puti ok rfl rfl rfl ?_
  let s9 : gS := gw s8 (gR s8 x0 0) 1 0
  refine g_iload_n ok rfl ?_
  refine g_if_ne ok rfl (fun _ => ?_) (fun _ => ?_)
  · refine g_rb gs_89 4 (cd' := gb_89_69) rfl rfl ?_
    exact g_throw ok rfl rfl (rfl)
  · refine g_rb gs_89 5 (cd' := gb_89_79) rfl rfl ?_
    refine g_aload_n ok rfl rfl ?_
    refine g_getr ok 16 rfl rfl rfl ?_
    refine g_geti ok rfl rfl ?_
    refine g_bipush ok (v := 12) rfl ?_
    refine g_ic_lt ok rfl (fun _ => ?_) (fun _ => ?_)
    · refine g_rb gs_89 7 (cd' := gb_89_101) rfl rfl ?_
      refine g_aload_n ok rfl rfl ?_
      refine g_getr ok 16 rfl rfl rfl ?_
      refine g_aload_n ok rfl rfl ?_
      refine g_getr ok 16 rfl rfl rfl ?_
      refine g_cv0 ok (me_1 hX) rfl rfl rfl (t_1 ok hX _ (gR s9 x0 4) (gR s9 x0 8) s9) (fun s10 => ?_)
      refine g_aload_n ok rfl rfl ?_
      refine g_getr ok 16 rfl rfl rfl ?_
      refine g_dup ok rfl ?_
      refine g_geti ok rfl rfl ?_
      refine g_iconst ok (v := 1) rfl ?_
      refine g_iadd ok ?_
      refine g_puti ok rfl rfl rfl ?_
      let s12 : gS := gw s10 (gR s10 x0 4) 10 (g32 ((gI s10 (gR s10 x0 4) 10) + 1))
      refine g_aload_n ok rfl rfl ?_
      refine g_getr ok 18 rfl rfl rfl ?_
      refine g_aload_n ok rfl rfl ?_
      refine g_getr ok 18 rfl rfl rfl ?_
      refine g_cv0 ok (me_23 hX) rfl rfl rfl (t_23 ok hX _ (gR s12 x0 5) (gR s12 x0 9) s12) (fun s13 => ?_)
      refine g_aload_n ok rfl rfl ?_
      refine g_iconst ok (v := 0) rfl ?_
      refine g_puti ok rfl rfl rfl ?_
      let s15 : gS := gw s13 x0 14 0
      refine g_aload_n ok rfl rfl ?_
      refine g_getr ok 16 rfl rfl rfl ?_
      refine g_geti ok rfl rfl ?_
      exact g_ireturn ok rfl rfl (rfl)
    · refine g_rb gs_89 6 (cd' := gb_89_91) rfl rfl ?_
      exact g_throw ok rfl rfl (rfl)
theorem t_89 {X : gX} (ok : gOK X) (hX : gHX X) (d : Nat) (a0 : Nat) (s : gS) : Go X em_89 89 (d + 10) 0 [] [(0, (27, 0, a0))] [] s 0 0 (f_89 a0 s) some := by
  delta f_89
  refine g_rb gs_89 0 (cd' := gb_89_0) rfl rfl ?_
  refine g_aload_n ok rfl rfl ?_
  refine g_getr ok 16 rfl rfl rfl ?_
  refine g_aload_n ok rfl rfl ?_
  refine g_getr ok 16 rfl rfl rfl ?_
  refine g_cv0 ok (me_1 hX) rfl rfl rfl (t_1 ok hX _ (gR s a0 8) (gR s a0 4) s) (fun s1 => ?_)
  refine g_aload_n ok rfl rfl ?_
  refine g_getr ok 18 rfl rfl rfl ?_
  refine g_aload_n ok rfl rfl ?_
  refine g_getr ok 18 rfl rfl rfl ?_
  refine g_cv0 ok (me_23 hX) rfl rfl rfl (t_23 ok hX _ (gR s1 a0 9) (gR s1 a0 5) s1) (fun s3 => ?_)
  refine g_aload_n ok rfl rfl ?_
  refine g_getr ok 17 rfl rfl rfl ?_
  refine g_aload_n ok rfl rfl ?_
  refine g_getr ok 16 rfl rfl rfl ?_
  refine g_aload_n ok rfl rfl ?_
  refine g_getr ok 18 rfl rfl rfl ?_
  refine g_cvz ok (me_11 hX) rfl rfl rfl rfl (t_11 ok hX _ (gR s3 a0 2) (gR s3 a0 8) (gR s3 a0 9) s3) (fun v6 s5 hb7 => ?_)
  refine g_istore_n ok rfl (L' := [(0, (27, 0, a0)), (1, (0, v6, 0))]) rfl ?_
  refine g_aload_n ok rfl rfl ?_
  refine g_iload_n ok rfl ?_
  refine g_if_eq ok rfl (fun _ => ?_) (fun _ => ?_)
  · refine g_rb gs_89 2 (cd' := gb_89_47) rfl rfl ?_
    refine g_aload_n ok rfl rfl ?_
    refine g_getr ok 26 rfl rfl rfl ?_
    refine g_geti ok rfl rfl ?_
    exact g_wk ok [(0, (27, 0, a0)), (1, (0, v6, 0))] ⟨rfl, rfl, trivial⟩ (tb_89_54 ok hX d  a0 v6 (gI s5 (gR s5 a0 0) 3) a0 s5)
  · refine g_rb gs_89 1 (cd' := gb_89_43) rfl rfl ?_
    refine g_iconst ok (v := (-1)) rfl ?_
    refine g_goto ok rfl ?_
    exact g_wk ok [(0, (27, 0, a0)), (1, (0, v6, 0))] ⟨rfl, rfl, trivial⟩ (tb_89_54 ok hX d  a0 v6 (-1) a0 s5)
-- X11_law
theorem tb_90_24 {X : gX} (ok : gOK X) (hX : gHX X) (d : Nat)  (x0 : Nat) (x1 : Nat) (w0 : Int) (w1 : Nat) (s : gS) : Go X em_90 90 (d + 35) 24 [] [(0, (27, 0, x0)), (1, (11, 0, x1))] [(0, w0, 0), (27, 0, w1)] s 2 402 (fb_90_24 x0 x1 w0 w1 s) some := by
  delta fb_90_24
  refine g_rb gs_90 3 (cd' := gb_90_24) rfl rfl ?_
  refine g_puti ok rfl rfl rfl ?_
  let s3 : gS := gw s w1 16 w0
  refine g_aload_n ok rfl rfl ?_
  refine g_getr ok 26 rfl rfl rfl ?_
  refine g_iconst ok (v := 0) rfl ?_
  refine g_puti ok rfl rfl rfl ?_
  let s4 : gS := gw s3 (gR s3 x0 0) 1 0
  refine g_aload_n ok rfl rfl ?_
  refine g_ifnonnull ok (Or.inl rfl) rfl (fun _ => ?_) (fun _ => ?_)
  · refine g_rb gs_90 4 (cd' := gb_90_39) rfl rfl ?_
    exact g_throw ok rfl rfl (rfl)
  · refine g_rb gs_90 5 (cd' := gb_90_49) rfl rfl ?_
    refine g_aload_n ok rfl rfl ?_
    refine g_getr ok 16 rfl rfl rfl ?_
    refine g_aload_n ok rfl rfl ?_
    refine g_putr ok (r := x1) (tg := 10) rfl rfl (gtr_ok rfl) rfl (fun h => h) ?_
    let s5 : gS := gwr s4 (gR s4 x0 4) 11 x1
    refine g_aload_n ok rfl rfl ?_
    refine g_iconst ok (v := 0) rfl ?_
    refine g_puti ok rfl rfl rfl ?_
    let s6 : gS := gw s5 x0 14 0
    refine g_aload_n ok rfl rfl ?_
    refine g_ite (fun _ => g_none) (fun hz => g_getl ok hz rfl (w := (0, (gI s6 x1 0), 0)) rfl ?_)
    exact g_ireturn ok rfl rfl (rfl)
theorem t_90 {X : gX} (ok : gOK X) (hX : gHX X) (d : Nat) (a0 : Nat) (s : gS) : Go X em_90 90 (d + 35) 0 [] [(0, (27, 0, a0))] [] s 0 0 (f_90 a0 s) some := by
  delta f_90
  refine g_rb gs_90 0 (cd' := gb_90_0) rfl rfl ?_
  refine g_aload_n ok rfl rfl ?_
  refine g_getr ok 21 rfl rfl rfl ?_
  refine g_cvr ok (me_44 hX) rfl rfl rfl (tg := 11) rfl (Or.inl rfl) (t_44 ok hX _ (gR s a0 3) s) (fun v2 s1 => ?_)
  refine g_astore_n ok rfl rfl (L' := [(0, (27, 0, a0)), (1, (11, 0, v2))]) rfl ?_
  refine g_aload_n ok rfl rfl ?_
  refine g_aload_n ok rfl rfl ?_
  refine g_ifnull ok (Or.inl rfl) rfl (fun _ => ?_) (fun _ => ?_)
  · refine g_rb gs_90 2 (cd' := gb_90_17) rfl rfl ?_
    refine g_aload_n ok rfl rfl ?_
    refine g_getr ok 26 rfl rfl rfl ?_
    refine g_geti ok rfl rfl ?_
    exact g_wk ok [(0, (27, 0, a0)), (1, (11, 0, v2))] ⟨rfl, rfl, trivial⟩ (tb_90_24 ok hX d  a0 v2 (gI s1 (gR s1 a0 0) 3) a0 s1)
  · refine g_rb gs_90 1 (cd' := gb_90_13) rfl rfl ?_
    refine g_iconst ok (v := (-1)) rfl ?_
    refine g_goto ok rfl ?_
    exact g_wk ok [(0, (27, 0, a0)), (1, (11, 0, v2))] ⟨rfl, rfl, trivial⟩ (tb_90_24 ok hX d  a0 v2 (-1) a0 s1)
-- X11_fault
theorem t_91 {X : gX} (ok : gOK X) (hX : gHX X) (d : Nat) (a0 : Nat) (s : gS) : Go X em_91 91 d 0 [] [(0, (27, 0, a0))] [] s 0 0 (f_91 a0 s) some := by
  delta f_91
  refine g_rb gs_91 0 (cd' := gb_91_0) rfl rfl ?_
  refine g_aload_n ok rfl rfl ?_
  refine g_geti ok rfl rfl ?_
  exact g_ireturn ok rfl rfl (rfl)
-- X11_needStep
theorem tb_134_15 {X : gX} (ok : gOK X) (hX : gHX X) (d : Nat)   (s : gS) : Go X em_134 134 d 15 [] [] [] s 0 0 (fb_134_15  s) some := by
  delta fb_134_15
  refine g_rb gs_134 2 (cd' := gb_134_15) rfl rfl ?_
  exact g_throw ok rfl rfl (rfl)
theorem t_134 {X : gX} (ok : gOK X) (hX : gHX X) (d : Nat) (a0 : Nat) (a1 : Int) (s : gS) : Go X em_134 134 d 0 [] [(0, (27, 0, a0)), (1, (0, a1, 0))] [] s 0 0 (f_134 a0 a1 s) some := by
  delta f_134
  refine g_rb gs_134 0 (cd' := gb_134_0) rfl rfl ?_
  refine g_iload_n ok rfl ?_
  refine g_if_lt ok rfl (fun _ => ?_) (fun _ => ?_)
  · exact g_wk ok [] trivial (tb_134_15 ok hX d   s)
  · refine g_rb gs_134 1 (cd' := gb_134_4) rfl rfl ?_
    refine g_iload_n ok rfl ?_
    refine g_aload_n ok rfl rfl ?_
    refine g_getr ok 16 rfl rfl rfl ?_
    refine g_geti ok rfl rfl ?_
    refine g_ic_lt ok rfl (fun _ => ?_) (fun _ => ?_)
    · refine g_rb gs_134 3 (cd' := gb_134_26) rfl rfl ?_
      exact g_return ok rfl rfl (rfl)
    · exact g_wk ok [] trivial (tb_134_15 ok hX d   s)
-- X11_step
theorem t_92 {X : gX} (ok : gOK X) (hX : gHX X) (d : Nat) (a0 : Nat) (a1 : Int) (a2 : Int) (s : gS) : Go X em_92 92 (d + 1) 0 [] [(0, (27, 0, a0)), (1, (0, a1, 0)), (2, (0, a2, 0))] [] s 0 0 (f_92 a0 a1 a2 s) some := by
  delta f_92
  refine g_rb gs_92 0 (cd' := gb_92_0) rfl rfl ?_
  refine g_aload_n ok rfl rfl ?_
  refine g_iload_n ok rfl ?_
  refine g_cvt0 ok (me_134 hX) rfl rfl rfl rfl rfl (fun _ => rfl) (t_134 ok hX _ a0 a1 s) (fun s1 => ?_)
  refine g_iload_n ok rfl ?_
  refine g_ite (fun hq => g_tswo ok (Or.inl hq) rfl ?_) (fun hq0 => ?_)
  · refine g_rb gs_92 5 (cd' := gb_92_75) rfl rfl ?_
    exact g_throw ok rfl rfl (rfl)
  refine g_ite (fun hq => g_tsw ok (c := 0) (by omega) rfl rfl ?_) (fun hq1 => ?_)
  · refine g_rb gs_92 1 (cd' := gb_92_36) rfl rfl ?_
    refine g_aload_n ok rfl rfl ?_
    refine g_getr ok 16 rfl rfl rfl ?_
    refine g_getr ok 180 rfl rfl rfl ?_
    refine g_iload_n ok rfl ?_
    refine g_iaload ok (n := 8) rfl rfl (fun _ _ => ?_)
    exact g_ireturn ok rfl rfl (rfl)
  refine g_ite (fun hq => g_tsw ok (c := 1) (by omega) rfl rfl ?_) (fun hq2 => ?_)
  · refine g_rb gs_92 2 (cd' := gb_92_46) rfl rfl ?_
    refine g_aload_n ok rfl rfl ?_
    refine g_getr ok 16 rfl rfl rfl ?_
    refine g_getr ok 180 rfl rfl rfl ?_
    refine g_iload_n ok rfl ?_
    refine g_iaload ok (n := 8) rfl rfl (fun _ _ => ?_)
    exact g_ireturn ok rfl rfl (rfl)
  refine g_ite (fun hq => g_tsw ok (c := 2) (by omega) rfl rfl ?_) (fun hq3 => ?_)
  · refine g_rb gs_92 3 (cd' := gb_92_56) rfl rfl ?_
    refine g_aload_n ok rfl rfl ?_
    refine g_getr ok 16 rfl rfl rfl ?_
    refine g_getr ok 180 rfl rfl rfl ?_
    refine g_iload_n ok rfl ?_
    refine g_iaload ok (n := 8) rfl rfl (fun _ _ => ?_)
    exact g_ireturn ok rfl rfl (rfl)
  refine g_ite (fun hq => g_tsw ok (c := 3) (by omega) rfl rfl ?_) (fun hq4 => ?_)
  · refine g_rb gs_92 4 (cd' := gb_92_66) rfl rfl ?_
    refine g_aload_n ok rfl rfl ?_
    refine g_getr ok 18 rfl rfl rfl ?_
    refine g_iload_n ok rfl ?_
    refine g_cv1 ok (me_31 hX) rfl rfl rfl rfl (t_31 ok hX _ (gR s1 a0 5) a1 s1) (fun v4 s3 => ?_)
    exact g_ireturn ok rfl rfl (rfl)
  refine g_tswo ok (Or.inr (by omega)) rfl ?_
  refine g_rb gs_92 5 (cd' := gb_92_75) rfl rfl ?_
  exact g_throw ok rfl rfl (rfl)
-- X11_needMan
theorem tb_135_15 {X : gX} (ok : gOK X) (hX : gHX X) (d : Nat)   (s : gS) : Go X em_135 135 d 15 [] [] [] s 0 0 (fb_135_15  s) some := by
  delta fb_135_15
  refine g_rb gs_135 2 (cd' := gb_135_15) rfl rfl ?_
  exact g_throw ok rfl rfl (rfl)
theorem t_135 {X : gX} (ok : gOK X) (hX : gHX X) (d : Nat) (a0 : Nat) (a1 : Int) (s : gS) : Go X em_135 135 d 0 [] [(0, (27, 0, a0)), (1, (0, a1, 0))] [] s 0 0 (f_135 a0 a1 s) some := by
  delta f_135
  refine g_rb gs_135 0 (cd' := gb_135_0) rfl rfl ?_
  refine g_iload_n ok rfl ?_
  refine g_if_lt ok rfl (fun _ => ?_) (fun _ => ?_)
  · exact g_wk ok [] trivial (tb_135_15 ok hX d   s)
  · refine g_rb gs_135 1 (cd' := gb_135_4) rfl rfl ?_
    refine g_iload_n ok rfl ?_
    refine g_aload_n ok rfl rfl ?_
    refine g_getr ok 18 rfl rfl rfl ?_
    refine g_geti ok rfl rfl ?_
    refine g_ic_lt ok rfl (fun _ => ?_) (fun _ => ?_)
    · refine g_rb gs_135 3 (cd' := gb_135_26) rfl rfl ?_
      exact g_return ok rfl rfl (rfl)
    · exact g_wk ok [] trivial (tb_135_15 ok hX d   s)
-- X11_man
theorem t_93 {X : gX} (ok : gOK X) (hX : gHX X) (d : Nat) (a0 : Nat) (a1 : Int) (a2 : Int) (s : gS) : Go X em_93 93 (d + 4) 0 [] [(0, (27, 0, a0)), (1, (0, a1, 0)), (2, (0, a2, 0))] [] s 0 0 (f_93 a0 a1 a2 s) some := by
  delta f_93
  refine g_rb gs_93 0 (cd' := gb_93_0) rfl rfl ?_
  refine g_aload_n ok rfl rfl ?_
  refine g_iload_n ok rfl ?_
  refine g_cvt0 ok (me_135 hX) rfl rfl rfl rfl rfl (fun _ => rfl) (t_135 ok hX _ a0 a1 s) (fun s1 => ?_)
  refine g_aload_n ok rfl rfl ?_
  refine g_getr ok 18 rfl rfl rfl ?_
  refine g_getr ok 168 rfl rfl rfl ?_
  refine g_iload_n ok rfl ?_
  refine g_aaload4 ok (n := 6) rfl rfl (fun _ _ => ?_)
  let v3 : Nat := (gR s1 (gR s1 (gR s1 a0 5) 0) (a1 : Int).toNat)
  refine g_astore_n ok rfl rfl (L' := [(0, (27, 0, a0)), (1, (0, a1, 0)), (2, (0, a2, 0)), (3, (23, 0, v3))]) rfl ?_
  refine g_iload_n ok rfl ?_
  refine g_ite (fun hq => g_tswo ok (Or.inl hq) rfl ?_) (fun hq0 => ?_)
  · refine g_rb gs_93 11 (cd' := gb_93_155) rfl rfl ?_
    exact g_throw ok rfl rfl (rfl)
  refine g_ite (fun hq => g_tsw ok (c := 0) (by omega) rfl rfl ?_) (fun hq1 => ?_)
  · refine g_rb gs_93 1 (cd' := gb_93_72) rfl rfl ?_
    refine g_aload_n ok rfl rfl ?_
    refine g_geti ok rfl rfl ?_
    exact g_ireturn ok rfl rfl (rfl)
  refine g_ite (fun hq => g_tsw ok (c := 1) (by omega) rfl rfl ?_) (fun hq2 => ?_)
  · refine g_rb gs_93 2 (cd' := gb_93_77) rfl rfl ?_
    refine g_aload_n ok rfl rfl ?_
    refine g_geti ok rfl rfl ?_
    exact g_ireturn ok rfl rfl (rfl)
  refine g_ite (fun hq => g_tsw ok (c := 2) (by omega) rfl rfl ?_) (fun hq3 => ?_)
  · refine g_rb gs_93 3 (cd' := gb_93_82) rfl rfl ?_
    refine g_aload_n ok rfl rfl ?_
    refine g_geti ok rfl rfl ?_
    exact g_ireturn ok rfl rfl (rfl)
  refine g_ite (fun hq => g_tsw ok (c := 3) (by omega) rfl rfl ?_) (fun hq4 => ?_)
  · refine g_rb gs_93 4 (cd' := gb_93_87) rfl rfl ?_
    refine g_aload_n ok rfl rfl ?_
    refine g_geti ok rfl rfl ?_
    exact g_ireturn ok rfl rfl (rfl)
  refine g_ite (fun hq => g_tsw ok (c := 4) (by omega) rfl rfl ?_) (fun hq5 => ?_)
  · refine g_rb gs_93 5 (cd' := gb_93_92) rfl rfl ?_
    refine g_aload_n ok rfl rfl ?_
    refine g_geti ok rfl rfl ?_
    exact g_ireturn ok rfl rfl (rfl)
  refine g_ite (fun hq => g_tsw ok (c := 5) (by omega) rfl rfl ?_) (fun hq6 => ?_)
  · refine g_rb gs_93 6 (cd' := gb_93_97) rfl rfl ?_
    refine g_aload_n ok rfl rfl ?_
    refine g_geti ok rfl rfl ?_
    exact g_ireturn ok rfl rfl (rfl)
  refine g_ite (fun hq => g_tsw ok (c := 6) (by omega) rfl rfl ?_) (fun hq7 => ?_)
  · refine g_rb gs_93 7 (cd' := gb_93_102) rfl rfl ?_
    refine g_aload_n ok rfl rfl ?_
    refine g_getr ok 19 rfl rfl rfl ?_
    refine g_iload_n ok rfl ?_
    refine g_aload_n ok rfl rfl ?_
    refine g_getr ok 16 rfl rfl rfl ?_
    refine g_aload_n ok rfl rfl ?_
    refine g_getr ok 18 rfl rfl rfl ?_
    refine g_cv1 ok (me_34 hX) rfl rfl rfl rfl (t_34 ok hX _ (gR s1 a0 1) a1 (gR s1 a0 4) (gR s1 a0 5) s1) (fun v5 s4 => ?_)
    exact g_ireturn ok rfl rfl (rfl)
  refine g_ite (fun hq => g_tsw ok (c := 7) (by omega) rfl rfl ?_) (fun hq8 => ?_)
  · refine g_rb gs_93 8 (cd' := gb_93_119) rfl rfl ?_
    refine g_aload_n ok rfl rfl ?_
    refine g_getr ok 16 rfl rfl rfl ?_
    refine g_aload_n ok rfl rfl ?_
    refine g_cv1 ok (me_7 hX) rfl rfl rfl rfl (t_7 ok hX _ (gR s1 a0 4) v3 s1) (fun v7 s6 => ?_)
    exact g_ireturn ok rfl rfl (rfl)
  refine g_ite (fun hq => g_tsw ok (c := 8) (by omega) rfl rfl ?_) (fun hq9 => ?_)
  · refine g_rb gs_93 9 (cd' := gb_93_128) rfl rfl ?_
    refine g_aload_n ok rfl rfl ?_
    refine g_getr ok 16 rfl rfl rfl ?_
    refine g_aload_n ok rfl rfl ?_
    refine g_cv1 ok (me_8 hX) rfl rfl rfl rfl (t_8 ok hX _ (gR s1 a0 4) v3 s1) (fun v9 s8 => ?_)
    exact g_ireturn ok rfl rfl (rfl)
  refine g_ite (fun hq => g_tsw ok (c := 9) (by omega) rfl rfl ?_) (fun hq10 => ?_)
  · refine g_rb gs_93 10 (cd' := gb_93_137) rfl rfl ?_
    refine g_aload_n ok rfl rfl ?_
    refine g_getr ok 16 rfl rfl rfl ?_
    refine g_aload_n ok rfl rfl ?_
    refine g_cv1 ok (me_9 hX) rfl rfl rfl rfl (t_9 ok hX _ (gR s1 a0 4) v3 s1) (fun v11 s10 => ?_)
    refine g_aload_n ok rfl rfl ?_
    refine g_getr ok 16 rfl rfl rfl ?_
    refine g_aload_n ok rfl rfl ?_
    refine g_cv1 ok (me_7 hX) rfl rfl rfl rfl (t_7 ok hX _ (gR s10 a0 4) v3 s10) (fun v13 s12 => ?_)
    refine g_isub ok ?_
    exact g_ireturn ok rfl rfl (rfl)
  refine g_tswo ok (Or.inr (by omega)) rfl ?_
  refine g_rb gs_93 11 (cd' := gb_93_155) rfl rfl ?_
  exact g_throw ok rfl rfl (rfl)
-- X11_needTest
theorem tb_136_15 {X : gX} (ok : gOK X) (hX : gHX X) (d : Nat)   (s : gS) : Go X em_136 136 d 15 [] [] [] s 0 0 (fb_136_15  s) some := by
  delta fb_136_15
  refine g_rb gs_136 2 (cd' := gb_136_15) rfl rfl ?_
  exact g_throw ok rfl rfl (rfl)
theorem t_136 {X : gX} (ok : gOK X) (hX : gHX X) (d : Nat) (a0 : Nat) (a1 : Int) (s : gS) : Go X em_136 136 d 0 [] [(0, (27, 0, a0)), (1, (0, a1, 0))] [] s 0 0 (f_136 a0 a1 s) some := by
  delta f_136
  refine g_rb gs_136 0 (cd' := gb_136_0) rfl rfl ?_
  refine g_iload_n ok rfl ?_
  refine g_if_lt ok rfl (fun _ => ?_) (fun _ => ?_)
  · exact g_wk ok [] trivial (tb_136_15 ok hX d   s)
  · refine g_rb gs_136 1 (cd' := gb_136_4) rfl rfl ?_
    refine g_iload_n ok rfl ?_
    refine g_aload_n ok rfl rfl ?_
    refine g_getr ok 16 rfl rfl rfl ?_
    refine g_geti ok rfl rfl ?_
    refine g_ic_lt ok rfl (fun _ => ?_) (fun _ => ?_)
    · refine g_rb gs_136 3 (cd' := gb_136_26) rfl rfl ?_
      exact g_return ok rfl rfl (rfl)
    · exact g_wk ok [] trivial (tb_136_15 ok hX d   s)
-- X11_test
theorem t_94 {X : gX} (ok : gOK X) (hX : gHX X) (d : Nat) (a0 : Nat) (a1 : Int) (a2 : Int) (s : gS) : Go X em_94 94 (d + 1) 0 [] [(0, (27, 0, a0)), (1, (0, a1, 0)), (2, (0, a2, 0))] [] s 0 0 (f_94 a0 a1 a2 s) some := by
  delta f_94
  refine g_rb gs_94 0 (cd' := gb_94_0) rfl rfl ?_
  refine g_aload_n ok rfl rfl ?_
  refine g_iload_n ok rfl ?_
  refine g_cvt0 ok (me_136 hX) rfl rfl rfl rfl rfl (fun _ => rfl) (t_136 ok hX _ a0 a1 s) (fun s1 => ?_)
  refine g_iload_n ok rfl ?_
  refine g_if_eq ok rfl (fun _ => ?_) (fun _ => ?_)
  · refine g_rb gs_94 2 (cd' := gb_94_21) rfl rfl ?_
    refine g_aload_n ok rfl rfl ?_
    refine g_getr ok 16 rfl rfl rfl ?_
    refine g_getr ok 164 rfl rfl rfl ?_
    refine g_iload_n ok rfl ?_
    refine g_iaload ok (n := 6) rfl rfl (fun _ _ => ?_)
    refine g_rb gs_94 3 (cd' := gb_94_30) rfl rfl ?_
    exact g_ireturn ok rfl rfl (rfl)
  · refine g_rb gs_94 1 (cd' := gb_94_9) rfl rfl ?_
    refine g_aload_n ok rfl rfl ?_
    refine g_getr ok 16 rfl rfl rfl ?_
    refine g_getr ok 164 rfl rfl rfl ?_
    refine g_iload_n ok rfl ?_
    refine g_iaload ok (n := 6) rfl rfl (fun _ _ => ?_)
    refine g_goto ok rfl ?_
    refine g_rb gs_94 3 (cd' := gb_94_30) rfl rfl ?_
    exact g_ireturn ok rfl rfl (rfl)
-- X11_needRival
theorem tb_137_15 {X : gX} (ok : gOK X) (hX : gHX X) (d : Nat)   (s : gS) : Go X em_137 137 d 15 [] [] [] s 0 0 (fb_137_15  s) some := by
  delta fb_137_15
  refine g_rb gs_137 2 (cd' := gb_137_15) rfl rfl ?_
  exact g_throw ok rfl rfl (rfl)
theorem t_137 {X : gX} (ok : gOK X) (hX : gHX X) (d : Nat) (a0 : Nat) (a1 : Int) (s : gS) : Go X em_137 137 d 0 [] [(0, (27, 0, a0)), (1, (0, a1, 0))] [] s 0 0 (f_137 a0 a1 s) some := by
  delta f_137
  refine g_rb gs_137 0 (cd' := gb_137_0) rfl rfl ?_
  refine g_iload_n ok rfl ?_
  refine g_if_lt ok rfl (fun _ => ?_) (fun _ => ?_)
  · exact g_wk ok [] trivial (tb_137_15 ok hX d   s)
  · refine g_rb gs_137 1 (cd' := gb_137_4) rfl rfl ?_
    refine g_iload_n ok rfl ?_
    refine g_aload_n ok rfl rfl ?_
    refine g_getr ok 18 rfl rfl rfl ?_
    refine g_geti ok rfl rfl ?_
    refine g_ic_lt ok rfl (fun _ => ?_) (fun _ => ?_)
    · refine g_rb gs_137 3 (cd' := gb_137_26) rfl rfl ?_
      exact g_return ok rfl rfl (rfl)
    · exact g_wk ok [] trivial (tb_137_15 ok hX d   s)
-- X11_rival
theorem t_95 {X : gX} (ok : gOK X) (hX : gHX X) (d : Nat) (a0 : Nat) (a1 : Int) (a2 : Int) (s : gS) : Go X em_95 95 (d + 1) 0 [] [(0, (27, 0, a0)), (1, (0, a1, 0)), (2, (0, a2, 0))] [] s 0 0 (f_95 a0 a1 a2 s) some := by
  delta f_95
  refine g_rb gs_95 0 (cd' := gb_95_0) rfl rfl ?_
  refine g_aload_n ok rfl rfl ?_
  refine g_iload_n ok rfl ?_
  refine g_cvt0 ok (me_137 hX) rfl rfl rfl rfl rfl (fun _ => rfl) (t_137 ok hX _ a0 a1 s) (fun s1 => ?_)
  refine g_iload_n ok rfl ?_
  refine g_if_eq ok rfl (fun _ => ?_) (fun _ => ?_)
  · refine g_rb gs_95 2 (cd' := gb_95_21) rfl rfl ?_
    refine g_aload_n ok rfl rfl ?_
    refine g_getr ok 18 rfl rfl rfl ?_
    refine g_getr ok 164 rfl rfl rfl ?_
    refine g_iload_n ok rfl ?_
    refine g_iaload ok (n := 6) rfl rfl (fun _ _ => ?_)
    refine g_rb gs_95 3 (cd' := gb_95_30) rfl rfl ?_
    exact g_ireturn ok rfl rfl (rfl)
  · refine g_rb gs_95 1 (cd' := gb_95_9) rfl rfl ?_
    refine g_aload_n ok rfl rfl ?_
    refine g_getr ok 18 rfl rfl rfl ?_
    refine g_getr ok 164 rfl rfl rfl ?_
    refine g_iload_n ok rfl ?_
    refine g_iaload ok (n := 6) rfl rfl (fun _ _ => ?_)
    refine g_goto ok rfl ?_
    refine g_rb gs_95 3 (cd' := gb_95_30) rfl rfl ?_
    exact g_ireturn ok rfl rfl (rfl)
-- X11_needKept
theorem t_139 {X : gX} (ok : gOK X) (hX : gHX X) (d : Nat) (a0 : Nat) (a1 : Int) (s : gS) : Go X em_139 139 d 0 [] [(0, (27, 0, a0)), (1, (0, a1, 0))] [] s 0 0 (f_139 a0 a1 s) some := by
  delta f_139
  refine g_rb gs_139 0 (cd' := gb_139_0) rfl rfl ?_
  refine g_aload_n ok rfl rfl ?_
  refine g_getr ok 18 rfl rfl rfl ?_
  refine g_getr ok 168 rfl rfl rfl ?_
  refine g_iload_n ok rfl ?_
  refine g_aaload4 ok (n := 6) rfl rfl (fun _ _ => ?_)
  refine g_geti ok rfl rfl ?_
  refine g_if_eq ok rfl (fun _ => ?_) (fun _ => ?_)
  · refine g_rb gs_139 2 (cd' := gb_139_26) rfl rfl ?_
    exact g_return ok rfl rfl (rfl)
  · refine g_rb gs_139 1 (cd' := gb_139_15) rfl rfl ?_
    exact g_throw ok rfl rfl (rfl)
-- X11_remember
theorem t_140 {X : gX} (ok : gOK X) (hX : gHX X) (d : Nat) (a0 : Nat) (s : gS) : Go X em_140 140 (d + 3) 0 [] [(0, (27, 0, a0))] [] s 0 0 (f_140 a0 s) some := by
  delta f_140
  refine g_rb gs_140 0 (cd' := gb_140_0) rfl rfl ?_
  refine g_aload_n ok rfl rfl ?_
  refine g_aload_n ok rfl rfl ?_
  refine g_geti ok rfl rfl ?_
  refine g_iconst ok (v := 1) rfl ?_
  refine g_iadd ok ?_
  refine g_bipush ok (v := 12) rfl ?_
  refine g_irem ok (by decide) ?_
  refine g_puti ok rfl rfl rfl ?_
  let s1 : gS := gw s a0 13 (grem (g32 ((gI s a0 13) + 1)) 12)
  refine g_aload_n ok rfl rfl ?_
  refine g_getr ok 215 rfl rfl rfl ?_
  refine g_aload_n ok rfl rfl ?_
  refine g_geti ok rfl rfl ?_
  refine g_aaload3 ok (n := 12) rfl rfl (fun _ _ => ?_)
  refine g_aload_n ok rfl rfl ?_
  refine g_getr ok 18 rfl rfl rfl ?_
  refine g_cv0 ok (me_22 hX) rfl rfl rfl (t_22 ok hX _ (gR s1 (gR s1 a0 12) ((gI s1 a0 13) : Int).toNat) (gR s1 a0 5) s1) (fun s2 => ?_)
  refine g_aload_n ok rfl rfl ?_
  refine g_bipush ok (v := 12) rfl ?_
  refine g_aload_n ok rfl rfl ?_
  refine g_geti ok rfl rfl ?_
  refine g_iconst ok (v := 1) rfl ?_
  refine g_iadd ok ?_
  refine g_min ok rfl ?_
  refine g_puti ok rfl rfl rfl ?_
  let s4 : gS := gw s2 a0 14 (min 12 (g32 ((gI s2 a0 14) + 1)))
  exact g_return ok rfl rfl (rfl)
-- X11_proof
theorem t_96 {X : gX} (ok : gOK X) (hX : gHX X) (d : Nat) (a0 : Nat) (a1 : Int) (s : gS) : Go X em_96 96 (d + 4) 0 [] [(0, (27, 0, a0)), (1, (0, a1, 0))] [] s 0 0 (f_96 a0 a1 s) some := by
  delta f_96
  refine g_rb gs_96 0 (cd' := gb_96_0) rfl rfl ?_
  refine g_aload_n ok rfl rfl ?_
  refine g_iload_n ok rfl ?_
  refine g_cvt0 ok (me_135 hX) rfl rfl rfl rfl rfl (fun _ => rfl) (t_135 ok hX _ a0 a1 s) (fun s1 => ?_)
  refine g_aload_n ok rfl rfl ?_
  refine g_iload_n ok rfl ?_
  refine g_cvt0 ok (me_139 hX) rfl rfl rfl rfl rfl (fun _ => rfl) (t_139 ok hX _ a0 a1 s1) (fun s3 => ?_)
  refine g_aload_n ok rfl rfl ?_
  refine g_getr ok 18 rfl rfl rfl ?_
  refine g_getr ok 168 rfl rfl rfl ?_
  refine g_iload_n ok rfl ?_
  refine g_aaload4 ok (n := 6) rfl rfl (fun _ _ => ?_)
  let v5 : Nat := (gR s3 (gR s3 (gR s3 a0 5) 0) (a1 : Int).toNat)
  refine g_astore_n ok rfl rfl (L' := [(0, (27, 0, a0)), (1, (0, a1, 0)), (2, (23, 0, v5))]) rfl ?_
  refine g_aload_n ok rfl rfl ?_
  refine g_geti ok rfl rfl ?_
  refine g_iconst ok (v := 1) rfl ?_
  refine g_ic_ge ok rfl (fun _ => ?_) (fun _ => ?_)
  · refine g_rb gs_96 1 (cd' := gb_96_28) rfl rfl ?_
    exact g_throw ok rfl rfl (rfl)
  · refine g_rb gs_96 2 (cd' := gb_96_38) rfl rfl ?_
    refine g_aload_n ok rfl rfl ?_
    refine g_cv0 ok (me_140 hX) rfl rfl rfl (t_140 ok hX _ a0 s3) (fun s6 => ?_)
    refine g_aload_n ok rfl rfl ?_
    refine g_dup ok rfl ?_
    refine g_geti ok rfl rfl ?_
    refine g_iconst ok (v := 1) rfl ?_
    refine g_isub ok ?_
    refine g_puti ok rfl rfl rfl ?_
    let s8 : gS := gw s6 v5 1 (g32 ((gI s6 v5 1) - 1))
    refine g_aload_n ok rfl rfl ?_
    refine g_aload_n ok rfl rfl ?_
    refine g_getr ok 16 rfl rfl rfl ?_
    refine g_geti ok rfl rfl ?_
    refine g_cv0 ok (me_60 hX) rfl rfl rfl (t_60 ok hX _ v5 (gI s8 (gR s8 a0 4) 9) s8) (fun s9 => ?_)
    refine g_aload_n ok rfl rfl ?_
    refine g_getr ok 18 rfl rfl rfl ?_
    refine g_getr ok 22 rfl rfl rfl ?_
    refine g_aload_n ok rfl rfl ?_
    refine g_getr ok 18 rfl rfl rfl ?_
    refine g_geti ok rfl rfl ?_
    refine g_iload_n ok rfl ?_
    refine g_iconst ok (v := 0) rfl ?_
    refine g_aload_n ok rfl rfl ?_
    refine g_geti ok rfl rfl ?_
    refine g_cv0 ok (me_55 hX) rfl rfl rfl (t_55 ok hX _ (gR s9 (gR s9 a0 5) 3) (gI s9 (gR s9 a0 5) 8) a1 0 (gI s9 v5 0) s9) (fun s11 => ?_)
    refine g_aload_n ok rfl rfl ?_
    refine g_geti ok rfl rfl ?_
    exact g_ireturn ok rfl rfl (rfl)
-- X11_tried
theorem tb_97_126 {X : gX} (ok : gOK X) (hX : gHX X) (d : Nat)  (x3 : Nat) (x4 : Int) (w0 : Int) (w1 : Int) (w2 : Int) (w3 : Nat) (s : gS) : Go X em_97 97 (d + 4) 126 [] [(3, (23, 0, x3)), (4, (0, x4, 0))] [(0, w0, 0), (0, w1, 0), (0, w2, 0), (22, 0, w3)] s 3 18 (fb_97_126 x3 x4 w0 w1 w2 w3 s) some := by
  delta fb_97_126
  refine g_rb gs_97 8 (cd' := gb_97_126) rfl rfl ?_
  refine g_aload_n ok rfl rfl ?_
  refine g_geti ok rfl rfl ?_
  refine g_cv0 ok (me_55 hX) rfl rfl rfl (t_55 ok hX _ w3 w2 w1 w0 (gI s x3 0) s) (fun s18 => ?_)
  refine g_iload ok rfl ?_
  exact g_zreturnb ok rfl rfl (rfl)
theorem tb_97_101 {X : gX} (ok : gOK X) (hX : gHX X) (d : Nat)  (x0 : Nat) (x1 : Int) (x3 : Nat) (x4 : Int) (s : gS) : Go X em_97 97 (d + 4) 101 [] [(0, (27, 0, x0)), (1, (0, x1, 0)), (3, (23, 0, x3)), (4, (0, x4, 0))] [] s 3 18 (fb_97_101 x0 x1 x3 x4 s) some := by
  delta fb_97_101
  refine g_rb gs_97 5 (cd' := gb_97_101) rfl rfl ?_
  refine g_aload_n ok rfl rfl ?_
  refine g_getr ok 18 rfl rfl rfl ?_
  refine g_getr ok 22 rfl rfl rfl ?_
  refine g_aload_n ok rfl rfl ?_
  refine g_getr ok 18 rfl rfl rfl ?_
  refine g_geti ok rfl rfl ?_
  refine g_iload_n ok rfl ?_
  refine g_iload ok rfl ?_
  refine g_if_eq ok rfl (fun _ => ?_) (fun _ => ?_)
  · refine g_rb gs_97 7 (cd' := gb_97_125) rfl rfl ?_
    refine g_iconst ok (v := 1) rfl ?_
    exact g_wk ok [(3, (23, 0, x3)), (4, (0, x4, 0))] ⟨rfl, rfl, trivial⟩ (tb_97_126 ok hX d  x3 x4 1 x1 (gI s (gR s x0 5) 8) (gR s (gR s x0 5) 3) s)
  · refine g_rb gs_97 6 (cd' := gb_97_121) rfl rfl ?_
    refine g_iconst ok (v := 2) rfl ?_
    refine g_goto ok rfl ?_
    exact g_wk ok [(3, (23, 0, x3)), (4, (0, x4, 0))] ⟨rfl, rfl, trivial⟩ (tb_97_126 ok hX d  x3 x4 2 x1 (gI s (gR s x0 5) 8) (gR s (gR s x0 5) 3) s)
theorem tb_97_82 {X : gX} (ok : gOK X) (hX : gHX X) (d : Nat)  (x0 : Nat) (x1 : Int) (x3 : Nat) (x4 : Int) (s : gS) : Go X em_97 97 (d + 4) 82 [] [(0, (27, 0, x0)), (1, (0, x1, 0)), (3, (23, 0, x3)), (4, (0, x4, 0))] [] s 3 18 (fb_97_82 x0 x1 x3 x4 s) some := by
  delta fb_97_82
  refine g_rb gs_97 3 (cd' := gb_97_82) rfl rfl ?_
  refine g_aload_n ok rfl rfl ?_
  refine g_geti ok rfl rfl ?_
  refine g_aload_n ok rfl rfl ?_
  refine g_getr ok 16 rfl rfl rfl ?_
  refine g_geti ok rfl rfl ?_
  refine g_ic_ge ok rfl (fun _ => ?_) (fun _ => ?_)
  · refine g_rb gs_97 4 (cd' := gb_97_96) rfl rfl ?_
    refine g_aload_n ok rfl rfl ?_
    refine g_iconst ok (v := 1) rfl ?_
    refine g_puti ok rfl rfl rfl ?_
    let s17 : gS := gw s x3 5 1
    exact g_wk ok [(0, (27, 0, x0)), (1, (0, x1, 0)), (3, (23, 0, x3)), (4, (0, x4, 0))] ⟨rfl, rfl, rfl, rfl, trivial⟩ (tb_97_101 ok hX d  x0 x1 x3 x4 s17)
  · exact g_wk ok [(0, (27, 0, x0)), (1, (0, x1, 0)), (3, (23, 0, x3)), (4, (0, x4, 0))] ⟨rfl, rfl, rfl, rfl, trivial⟩ (tb_97_101 ok hX d  x0 x1 x3 x4 s)
theorem t_97 {X : gX} (ok : gOK X) (hX : gHX X) (d : Nat) (a0 : Nat) (a1 : Int) (a2 : Int) (s : gS) : Go X em_97 97 (d + 4) 0 [] [(0, (27, 0, a0)), (1, (0, a1, 0)), (2, (0, a2, 0))] [] s 0 0 (f_97 a0 a1 a2 s) some := by
  delta f_97
  refine g_rb gs_97 0 (cd' := gb_97_0) rfl rfl ?_
  refine g_aload_n ok rfl rfl ?_
  refine g_iload_n ok rfl ?_
  refine g_cvt0 ok (me_135 hX) rfl rfl rfl rfl rfl (fun _ => rfl) (t_135 ok hX _ a0 a1 s) (fun s1 => ?_)
  refine g_aload_n ok rfl rfl ?_
  refine g_iload_n ok rfl ?_
  refine g_cvt0 ok (me_136 hX) rfl rfl rfl rfl rfl (fun _ => rfl) (t_136 ok hX _ a0 a2 s1) (fun s3 => ?_)
  refine g_aload_n ok rfl rfl ?_
  refine g_iload_n ok rfl ?_
  refine g_cvt0 ok (me_139 hX) rfl rfl rfl rfl rfl (fun _ => rfl) (t_139 ok hX _ a0 a1 s3) (fun s5 => ?_)
  refine g_aload_n ok rfl rfl ?_
  refine g_cv0 ok (me_140 hX) rfl rfl rfl (t_140 ok hX _ a0 s5) (fun s7 => ?_)
  refine g_aload_n ok rfl rfl ?_
  refine g_getr ok 18 rfl rfl rfl ?_
  refine g_aload_n ok rfl rfl ?_
  refine g_getr ok 16 rfl rfl rfl ?_
  refine g_getr ok 164 rfl rfl rfl ?_
  refine g_iload_n ok rfl ?_
  refine g_iaload ok (n := 6) rfl rfl (fun _ _ => ?_)
  refine g_cv0 ok (me_26 hX) rfl rfl rfl (t_26 ok hX _ (gR s7 a0 5) (gI s7 (gR s7 (gR s7 a0 4) 3) (a2 : Int).toNat) s7) (fun s9 => ?_)
  refine g_aload_n ok rfl rfl ?_
  refine g_getr ok 18 rfl rfl rfl ?_
  refine g_getr ok 168 rfl rfl rfl ?_
  refine g_iload_n ok rfl ?_
  refine g_aaload4 ok (n := 6) rfl rfl (fun _ _ => ?_)
  let v11 : Nat := (gR s9 (gR s9 (gR s9 a0 5) 0) (a1 : Int).toNat)
  refine g_astore_n ok rfl rfl (L' := [(0, (27, 0, a0)), (1, (0, a1, 0)), (2, (0, a2, 0)), (3, (23, 0, v11))]) rfl ?_
  refine g_aload_n ok rfl rfl ?_
  refine g_getr ok 16 rfl rfl rfl ?_
  refine g_iload_n ok rfl ?_
  refine g_aload_n ok rfl rfl ?_
  refine g_geti ok rfl rfl ?_
  refine g_cvz ok (me_4 hX) rfl rfl rfl rfl (t_4 ok hX _ (gR s9 a0 4) a2 (gI s9 v11 2) s9) (fun v13 s12 hb14 => ?_)
  refine g_istore ok rfl (L' := [(0, (27, 0, a0)), (1, (0, a1, 0)), (2, (0, a2, 0)), (3, (23, 0, v11)), (4, (0, v13, 0))]) rfl ?_
  refine g_iload ok rfl ?_
  refine g_if_eq ok rfl (fun _ => ?_) (fun _ => ?_)
  · refine g_rb gs_97 2 (cd' := gb_97_77) rfl rfl ?_
    refine g_aload_n ok rfl rfl ?_
    refine g_iconst ok (v := 5) rfl ?_
    refine g_cv0 ok (me_60 hX) rfl rfl rfl (t_60 ok hX _ v11 5 s12) (fun s15 => ?_)
    exact g_wk ok [(0, (27, 0, a0)), (1, (0, a1, 0)), (3, (23, 0, v11)), (4, (0, v13, 0))] ⟨rfl, rfl, rfl, rfl, trivial⟩ (tb_97_82 ok hX d  a0 a1 v11 v13 s15)
  · refine g_rb gs_97 1 (cd' := gb_97_64) rfl rfl ?_
    refine g_aload_n ok rfl rfl ?_
    refine g_aload_n ok rfl rfl ?_
    refine g_geti ok rfl rfl ?_
    refine g_iconst ok (v := 2) rfl ?_
    refine g_idiv ok (by decide) ?_
    refine g_puti ok rfl rfl rfl ?_
    let s20 : gS := gw s12 v11 0 (gdiv (gI s12 v11 0) 2)
    refine g_goto ok rfl ?_
    exact g_wk ok [(0, (27, 0, a0)), (1, (0, a1, 0)), (3, (23, 0, v11)), (4, (0, v13, 0))] ⟨rfl, rfl, rfl, rfl, trivial⟩ (tb_97_82 ok hX d  a0 a1 v11 v13 s20)
-- X11_flee
theorem t_98 {X : gX} (ok : gOK X) (hX : gHX X) (d : Nat) (a0 : Nat) (a1 : Int) (s : gS) : Go X em_98 98 (d + 4) 0 [] [(0, (27, 0, a0)), (1, (0, a1, 0))] [] s 0 0 (f_98 a0 a1 s) some := by
  delta f_98
  refine g_rb gs_98 0 (cd' := gb_98_0) rfl rfl ?_
  refine g_aload_n ok rfl rfl ?_
  refine g_iload_n ok rfl ?_
  refine g_cvt0 ok (me_135 hX) rfl rfl rfl rfl rfl (fun _ => rfl) (t_135 ok hX _ a0 a1 s) (fun s1 => ?_)
  refine g_aload_n ok rfl rfl ?_
  refine g_iload_n ok rfl ?_
  refine g_cvt0 ok (me_139 hX) rfl rfl rfl rfl rfl (fun _ => rfl) (t_139 ok hX _ a0 a1 s1) (fun s3 => ?_)
  refine g_aload_n ok rfl rfl ?_
  refine g_getr ok 18 rfl rfl rfl ?_
  refine g_getr ok 168 rfl rfl rfl ?_
  refine g_iload_n ok rfl ?_
  refine g_aaload4 ok (n := 6) rfl rfl (fun _ _ => ?_)
  let v5 : Nat := (gR s3 (gR s3 (gR s3 a0 5) 0) (a1 : Int).toNat)
  refine g_astore_n ok rfl rfl (L' := [(0, (27, 0, a0)), (1, (0, a1, 0)), (2, (23, 0, v5))]) rfl ?_
  refine g_aload_n ok rfl rfl ?_
  refine g_geti ok rfl rfl ?_
  refine g_if_le ok rfl (fun _ => ?_) (fun _ => ?_)
  · refine g_rb gs_98 1 (cd' := gb_98_27) rfl rfl ?_
    exact g_throw ok rfl rfl (rfl)
  · refine g_rb gs_98 2 (cd' := gb_98_38) rfl rfl ?_
    refine g_aload_n ok rfl rfl ?_
    refine g_cv0 ok (me_140 hX) rfl rfl rfl (t_140 ok hX _ a0 s3) (fun s6 => ?_)
    refine g_aload_n ok rfl rfl ?_
    refine g_iconst ok (v := 2) rfl ?_
    refine g_puti ok rfl rfl rfl ?_
    let s8 : gS := gw s6 v5 5 2
    refine g_aload_n ok rfl rfl ?_
    refine g_geti ok rfl rfl ?_
    exact g_ireturn ok rfl rfl (rfl)
-- X11_needWithin
theorem tb_138_10 {X : gX} (ok : gOK X) (hX : gHX X) (d : Nat)   (s : gS) : Go X em_138 138 d 10 [] [] [] s 0 0 (fb_138_10  s) some := by
  delta fb_138_10
  refine g_rb gs_138 2 (cd' := gb_138_10) rfl rfl ?_
  exact g_throw ok rfl rfl (rfl)
theorem t_138 {X : gX} (ok : gOK X) (hX : gHX X) (d : Nat) (a0 : Nat) (a1 : Int) (a2 : Int) (a3 : Int) (s : gS) : Go X em_138 138 d 0 [] [(0, (27, 0, a0)), (1, (0, a1, 0)), (2, (0, a2, 0)), (3, (0, a3, 0))] [] s 0 0 (f_138 a0 a1 a2 a3 s) some := by
  delta f_138
  refine g_rb gs_138 0 (cd' := gb_138_0) rfl rfl ?_
  refine g_iload_n ok rfl ?_
  refine g_iload_n ok rfl ?_
  refine g_ic_lt ok rfl (fun _ => ?_) (fun _ => ?_)
  · exact g_wk ok [] trivial (tb_138_10 ok hX d   s)
  · refine g_rb gs_138 1 (cd' := gb_138_5) rfl rfl ?_
    refine g_iload_n ok rfl ?_
    refine g_iload_n ok rfl ?_
    refine g_ic_le ok rfl (fun _ => ?_) (fun _ => ?_)
    · exact g_wk ok [] trivial (tb_138_10 ok hX d   s)
    · refine g_rb gs_138 3 (cd' := gb_138_21) rfl rfl ?_
      exact g_return ok rfl rfl (rfl)
-- X11_sell
theorem t_99 {X : gX} (ok : gOK X) (hX : gHX X) (d : Nat) (a0 : Nat) (a1 : Int) (a2 : Int) (a3 : Int) (s : gS) : Go X em_99 99 (d + 4) 0 [] [(0, (27, 0, a0)), (1, (0, a1, 0)), (2, (0, a2, 0)), (3, (0, a3, 0))] [] s 0 0 (f_99 a0 a1 a2 a3 s) some := by
  delta f_99
  refine g_rb gs_99 0 (cd' := gb_99_0) rfl rfl ?_
  refine g_aload_n ok rfl rfl ?_
  refine g_iload_n ok rfl ?_
  refine g_cvt0 ok (me_135 hX) rfl rfl rfl rfl rfl (fun _ => rfl) (t_135 ok hX _ a0 a1 s) (fun s1 => ?_)
  refine g_aload_n ok rfl rfl ?_
  refine g_iload_n ok rfl ?_
  refine g_cvt0 ok (me_137 hX) rfl rfl rfl rfl rfl (fun _ => rfl) (t_137 ok hX _ a0 a2 s1) (fun s3 => ?_)
  refine g_aload_n ok rfl rfl ?_
  refine g_iload_n ok rfl ?_
  refine g_iconst ok (v := 0) rfl ?_
  refine g_aload_n ok rfl rfl ?_
  refine g_getr ok 18 rfl rfl rfl ?_
  refine g_getr ok 164 rfl rfl rfl ?_
  refine g_iload_n ok rfl ?_
  refine g_iaload ok (n := 6) rfl rfl (fun _ _ => ?_)
  refine g_cvt0 ok (me_138 hX) rfl rfl rfl rfl rfl (fun _ => rfl) (t_138 ok hX _ a0 a3 0 (gI s3 (gR s3 (gR s3 a0 5) 1) (a2 : Int).toNat) s3) (fun s5 => ?_)
  refine g_aload_n ok rfl rfl ?_
  refine g_iload_n ok rfl ?_
  refine g_cvt0 ok (me_139 hX) rfl rfl rfl rfl rfl (fun _ => rfl) (t_139 ok hX _ a0 a1 s5) (fun s7 => ?_)
  refine g_aload_n ok rfl rfl ?_
  refine g_cv0 ok (me_140 hX) rfl rfl rfl (t_140 ok hX _ a0 s7) (fun s9 => ?_)
  refine g_aload_n ok rfl rfl ?_
  refine g_getr ok 18 rfl rfl rfl ?_
  refine g_getr ok 168 rfl rfl rfl ?_
  refine g_iload_n ok rfl ?_
  refine g_aaload4 ok (n := 6) rfl rfl (fun _ _ => ?_)
  let v11 : Nat := (gR s9 (gR s9 (gR s9 a0 5) 0) (a1 : Int).toNat)
  refine g_astore ok rfl rfl (L' := [(0, (27, 0, a0)), (1, (0, a1, 0)), (2, (0, a2, 0)), (3, (0, a3, 0)), (4, (23, 0, v11))]) rfl ?_
  refine g_aload_n ok rfl rfl ?_
  refine g_getr ok 18 rfl rfl rfl ?_
  refine g_getr ok 164 rfl rfl rfl ?_
  refine g_iload_n ok rfl ?_
  refine g_dup2 ok rfl rfl ?_
  refine g_iaload ok (n := 6) rfl rfl (fun _ _ => ?_)
  refine g_iload_n ok rfl ?_
  refine g_isub ok ?_
  refine g_iastore ok (n := 6) rfl rfl (fun _ _ => ?_)
  let s12 : gS := gw s9 (gR s9 (gR s9 a0 5) 1) (a2 : Int).toNat (g32 ((gI s9 (gR s9 (gR s9 a0 5) 1) (a2 : Int).toNat) - a3))
  refine g_aload_n ok rfl rfl ?_
  refine g_getr ok 18 rfl rfl rfl ?_
  refine g_sipush ok (v := 9999) rfl ?_
  refine g_aload_n ok rfl rfl ?_
  refine g_getr ok 18 rfl rfl rfl ?_
  refine g_geti ok rfl rfl ?_
  refine g_iload_n ok rfl ?_
  refine g_iadd ok ?_
  refine g_min ok rfl ?_
  refine g_puti ok rfl rfl rfl ?_
  let s13 : gS := gw s12 (gR s12 a0 5) 6 (min 9999 (g32 ((gI s12 (gR s12 a0 5) 6) + a3)))
  refine g_aload_n ok rfl rfl ?_
  refine g_getr ok 18 rfl rfl rfl ?_
  refine g_getr ok 164 rfl rfl rfl ?_
  refine g_iload_n ok rfl ?_
  refine g_dup2 ok rfl rfl ?_
  refine g_iaload ok (n := 6) rfl rfl (fun _ _ => ?_)
  refine g_iconst ok (v := 1) rfl ?_
  refine g_aload ok rfl rfl ?_
  refine g_geti ok rfl rfl ?_
  refine g_ishl ok ?_
  refine g_iconst ok (v := 1) rfl ?_
  refine g_isub ok ?_
  refine g_ior ok ?_
  refine g_iastore ok (n := 6) rfl rfl (fun _ _ => ?_)
  let s14 : gS := gw s13 (gR s13 (gR s13 a0 5) 2) (a2 : Int).toNat (gor (gI s13 (gR s13 (gR s13 a0 5) 2) (a2 : Int).toNat) (g32 ((gshl 1 (gI s13 v11 3)) - 1)))
  refine g_aload ok rfl rfl ?_
  refine g_iconst ok (v := 3) rfl ?_
  refine g_puti ok rfl rfl rfl ?_
  let s15 : gS := gw s14 v11 5 3
  refine g_aload_n ok rfl rfl ?_
  refine g_getr ok 18 rfl rfl rfl ?_
  refine g_geti ok rfl rfl ?_
  exact g_ireturn ok rfl rfl (rfl)
-- X11_part
theorem tb_100_40 {X : gX} (ok : gOK X) (hX : gHX X) (d : Nat)   (s : gS) : Go X em_100 100 (d + 4) 40 [] [] [] s 2 12 (fb_100_40  s) some := by
  delta fb_100_40
  refine g_rb gs_100 2 (cd' := gb_100_40) rfl rfl ?_
  exact g_throw ok rfl rfl (rfl)
theorem t_100 {X : gX} (ok : gOK X) (hX : gHX X) (d : Nat) (a0 : Nat) (a1 : Int) (a2 : Int) (s : gS) : Go X em_100 100 (d + 4) 0 [] [(0, (27, 0, a0)), (1, (0, a1, 0)), (2, (0, a2, 0))] [] s 0 0 (f_100 a0 a1 a2 s) some := by
  delta f_100
  refine g_rb gs_100 0 (cd' := gb_100_0) rfl rfl ?_
  refine g_aload_n ok rfl rfl ?_
  refine g_iload_n ok rfl ?_
  refine g_cvt0 ok (me_134 hX) rfl rfl rfl rfl rfl (fun _ => rfl) (t_134 ok hX _ a0 a1 s) (fun s1 => ?_)
  refine g_aload_n ok rfl rfl ?_
  refine g_iload_n ok rfl ?_
  refine g_cvt0 ok (me_137 hX) rfl rfl rfl rfl rfl (fun _ => rfl) (t_137 ok hX _ a0 a2 s1) (fun s3 => ?_)
  refine g_aload_n ok rfl rfl ?_
  refine g_getr ok 18 rfl rfl rfl ?_
  refine g_getr ok 164 rfl rfl rfl ?_
  refine g_iload_n ok rfl ?_
  refine g_iaload ok (n := 6) rfl rfl (fun _ _ => ?_)
  refine g_iload_n ok rfl ?_
  refine g_ishr ok ?_
  refine g_iconst ok (v := 1) rfl ?_
  refine g_iand ok ?_
  refine g_if_ne ok rfl (fun _ => ?_) (fun _ => ?_)
  · refine g_rb gs_100 1 (cd' := gb_100_26) rfl rfl ?_
    refine g_aload_n ok rfl rfl ?_
    refine g_getr ok 18 rfl rfl rfl ?_
    refine g_getr ok 164 rfl rfl rfl ?_
    refine g_iload_n ok rfl ?_
    refine g_iaload ok (n := 6) rfl rfl (fun _ _ => ?_)
    refine g_bipush ok (v := 20) rfl ?_
    refine g_ic_ge ok rfl (fun _ => ?_) (fun _ => ?_)
    · exact g_wk ok [] trivial (tb_100_40 ok hX d   s3)
    · refine g_rb gs_100 3 (cd' := gb_100_51) rfl rfl ?_
      refine g_aload_n ok rfl rfl ?_
      refine g_cv0 ok (me_140 hX) rfl rfl rfl (t_140 ok hX _ a0 s3) (fun s5 => ?_)
      refine g_aload_n ok rfl rfl ?_
      refine g_getr ok 18 rfl rfl rfl ?_
      refine g_getr ok 164 rfl rfl rfl ?_
      refine g_iload_n ok rfl ?_
      refine g_dup2 ok rfl rfl ?_
      refine g_iaload ok (n := 6) rfl rfl (fun _ _ => ?_)
      refine g_bipush ok (v := 20) rfl ?_
      refine g_isub ok ?_
      refine g_iastore ok (n := 6) rfl rfl (fun _ _ => ?_)
      let s7 : gS := gw s5 (gR s5 (gR s5 a0 5) 1) (a2 : Int).toNat (g32 ((gI s5 (gR s5 (gR s5 a0 5) 1) (a2 : Int).toNat) - 20))
      refine g_aload_n ok rfl rfl ?_
      refine g_getr ok 18 rfl rfl rfl ?_
      refine g_getr ok 164 rfl rfl rfl ?_
      refine g_iload_n ok rfl ?_
      refine g_dup2 ok rfl rfl ?_
      refine g_iaload ok (n := 6) rfl rfl (fun _ _ => ?_)
      refine g_iconst ok (v := 1) rfl ?_
      refine g_iload_n ok rfl ?_
      refine g_ishl ok ?_
      refine g_ior ok ?_
      refine g_iastore ok (n := 6) rfl rfl (fun _ _ => ?_)
      let s8 : gS := gw s7 (gR s7 (gR s7 a0 5) 2) (a2 : Int).toNat (gor (gI s7 (gR s7 (gR s7 a0 5) 2) (a2 : Int).toNat) (gshl 1 a1))
      refine g_aload_n ok rfl rfl ?_
      refine g_getr ok 18 rfl rfl rfl ?_
      refine g_getr ok 164 rfl rfl rfl ?_
      refine g_iload_n ok rfl ?_
      refine g_iaload ok (n := 6) rfl rfl (fun _ _ => ?_)
      exact g_ireturn ok rfl rfl (rfl)
  · exact g_wk ok [] trivial (tb_100_40 ok hX d   s3)
-- X11_pay
theorem t_101 {X : gX} (ok : gOK X) (hX : gHX X) (d : Nat) (a0 : Nat) (a1 : Int) (s : gS) : Go X em_101 101 (d + 4) 0 [] [(0, (27, 0, a0)), (1, (0, a1, 0))] [] s 0 0 (f_101 a0 a1 s) some := by
  delta f_101
  refine g_rb gs_101 0 (cd' := gb_101_0) rfl rfl ?_
  refine g_aload_n ok rfl rfl ?_
  refine g_iload_n ok rfl ?_
  refine g_iconst ok (v := 1) rfl ?_
  refine g_aload_n ok rfl rfl ?_
  refine g_getr ok 18 rfl rfl rfl ?_
  refine g_geti ok rfl rfl ?_
  refine g_aload_n ok rfl rfl ?_
  refine g_getr ok 18 rfl rfl rfl ?_
  refine g_geti ok rfl rfl ?_
  refine g_min ok rfl ?_
  refine g_cvt0 ok (me_138 hX) rfl rfl rfl rfl rfl (fun _ => rfl) (t_138 ok hX _ a0 a1 1 (min (gI s (gR s a0 5) 7) (gI s (gR s a0 5) 6)) s) (fun s1 => ?_)
  refine g_aload_n ok rfl rfl ?_
  refine g_cv0 ok (me_140 hX) rfl rfl rfl (t_140 ok hX _ a0 s1) (fun s3 => ?_)
  refine g_aload_n ok rfl rfl ?_
  refine g_getr ok 18 rfl rfl rfl ?_
  refine g_dup ok rfl ?_
  refine g_geti ok rfl rfl ?_
  refine g_iload_n ok rfl ?_
  refine g_isub ok ?_
  refine g_puti ok rfl rfl rfl ?_
  let s5 : gS := gw s3 (gR s3 a0 5) 7 (g32 ((gI s3 (gR s3 a0 5) 7) - a1))
  refine g_aload_n ok rfl rfl ?_
  refine g_getr ok 18 rfl rfl rfl ?_
  refine g_dup ok rfl ?_
  refine g_geti ok rfl rfl ?_
  refine g_iload_n ok rfl ?_
  refine g_isub ok ?_
  refine g_puti ok rfl rfl rfl ?_
  let s6 : gS := gw s5 (gR s5 a0 5) 6 (g32 ((gI s5 (gR s5 a0 5) 6) - a1))
  refine g_aload_n ok rfl rfl ?_
  refine g_getr ok 18 rfl rfl rfl ?_
  refine g_geti ok rfl rfl ?_
  exact g_ireturn ok rfl rfl (rfl)
-- X11_days
theorem ts_102_17 {X : gX} (ok : gOK X) (hX : gHX X) (d : Nat) {k17 : (Nat × Int × Int × Int × gS) ⊕ gO → Option gO} (hl17 : ∀ y : (Nat × Int × Int × Int × gS), Go X em_102 102 (d + 6) 17 [] [(0, (27, 0, y.1)), (1, (0, y.2.1, 0)), (2, (0, y.2.2.1, 0)), (3, (0, y.2.2.2.1, 0))] [] y.2.2.2.2 1 6 (some (Sum.inl y)) k17) (hr17 : ∀ q, k17 (Sum.inr q) = some q) (x0 : Nat) (x1 : Int) (x2 : Int) (x3 : Int) (s : gS) : Go X em_102 102 (d + 6) 17 [] [(0, (27, 0, x0)), (1, (0, x1, 0)), (2, (0, x2, 0)), (3, (0, x3, 0))] [] s 1 6 (sb_102_17 x0 x1 x2 x3 s) k17 := by
  delta sb_102_17
  refine g_rb gs_102 1 (cd' := gb_102_17) rfl rfl ?_
  refine g_iload_n ok rfl ?_
  refine g_iload_n ok rfl ?_
  refine g_ic_ge ok rfl (fun _ => ?_) (fun _ => ?_)
  · refine g_rb gs_102 2 (cd' := gb_102_22) rfl rfl ?_
    refine g_iload_n ok rfl ?_
    refine g_aload_n ok rfl rfl ?_
    refine g_getr ok 18 rfl rfl rfl ?_
    refine g_aload_n ok rfl rfl ?_
    refine g_getr ok 16 rfl rfl rfl ?_
    refine g_aload_n ok rfl rfl ?_
    refine g_getr ok 19 rfl rfl rfl ?_
    refine g_aload_n ok rfl rfl ?_
    refine g_getr ok 16 rfl rfl rfl ?_
    refine g_geti ok rfl rfl ?_
    refine g_cv1 ok (me_27 hX) rfl rfl rfl rfl (t_27 ok hX _ (gR s x0 5) (gR s x0 4) (gR s x0 1) (gI s (gR s x0 4) 8) s) (fun v6 s5 => ?_)
    refine g_iadd ok ?_
    refine g_istore_n ok rfl (L' := [(0, (27, 0, x0)), (1, (0, x1, 0)), (2, (0, (g32 (x2 + v6)), 0)), (3, (0, x3, 0))]) rfl ?_
    refine g_iinc ok rfl rfl (L' := [(0, (27, 0, x0)), (1, (0, x1, 0)), (2, (0, (g32 (x2 + v6)), 0)), (3, (0, (g32 (x3 + 1)), 0))]) rfl ?_
    refine g_goto ok rfl ?_
    exact g_wk ok [(0, (27, 0, x0)), (1, (0, x1, 0)), (2, (0, (g32 (x2 + v6)), 0)), (3, (0, (g32 (x3 + 1)), 0))] ⟨rfl, rfl, rfl, rfl, trivial⟩ (hl17 (x0, x1, (g32 (x2 + v6)), (g32 (x3 + 1)), s5))
  · refine g_map hr17 ?_
    refine g_rb gs_102 3 (cd' := gb_102_53) rfl rfl ?_
    refine g_iload_n ok rfl ?_
    exact g_ireturn ok rfl rfl (rfl)
theorem tl_102_17 {X : gX} (ok : gOK X) (hX : gHX X) (d : Nat)  (y : (Nat × Int × Int × Int × gS)) : Go X em_102 102 (d + 6) 17 [] [(0, (27, 0, y.1)), (1, (0, y.2.1, 0)), (2, (0, y.2.2.1, 0)), (3, (0, y.2.2.2.1, 0))] [] y.2.2.2.2 1 6 (gloop (st_102_17) y) some :=
  g_loop (Lh := fun y => [(0, (27, 0, y.1)), (1, (0, y.2.1, 0)), (2, (0, y.2.2.1, 0)), (3, (0, y.2.2.2.1, 0))]) (sh := fun y => y.2.2.2.2) (fun k17 hl17 hr17 y => ts_102_17 ok hX d  hl17 hr17 y.1 y.2.1 y.2.2.1 y.2.2.2.1 y.2.2.2.2) y
theorem t_102 {X : gX} (ok : gOK X) (hX : gHX X) (d : Nat) (a0 : Nat) (a1 : Int) (s : gS) : Go X em_102 102 (d + 6) 0 [] [(0, (27, 0, a0)), (1, (0, a1, 0))] [] s 0 0 (f_102 a0 a1 s) some := by
  delta f_102
  refine g_rb gs_102 0 (cd' := gb_102_0) rfl rfl ?_
  refine g_aload_n ok rfl rfl ?_
  refine g_iload_n ok rfl ?_
  refine g_iconst ok (v := 1) rfl ?_
  refine g_sipush ok (v := 200) rfl ?_
  refine g_cvt0 ok (me_138 hX) rfl rfl rfl rfl rfl (fun _ => rfl) (t_138 ok hX _ a0 a1 1 200 s) (fun s1 => ?_)
  refine g_aload_n ok rfl rfl ?_
  refine g_cv0 ok (me_140 hX) rfl rfl rfl (t_140 ok hX _ a0 s1) (fun s3 => ?_)
  refine g_iconst ok (v := 0) rfl ?_
  refine g_istore_n ok rfl (L' := [(0, (27, 0, a0)), (1, (0, a1, 0)), (2, (0, 0, 0))]) rfl ?_
  refine g_iconst ok (v := 0) rfl ?_
  refine g_istore_n ok rfl (L' := [(0, (27, 0, a0)), (1, (0, a1, 0)), (2, (0, 0, 0)), (3, (0, 0, 0))]) rfl ?_
  exact g_wk ok [(0, (27, 0, a0)), (1, (0, a1, 0)), (2, (0, 0, 0)), (3, (0, 0, 0))] ⟨rfl, rfl, rfl, rfl, trivial⟩ (tl_102_17 ok hX d  (a0, a1, 0, 0, s3))
-- X11_draftDays
theorem ts_141_22 {X : gX} (ok : gOK X) (hX : gHX X) (d : Nat) {k22 : (Nat × Int × Int × Int × gS) ⊕ gO → Option gO} (hl22 : ∀ y : (Nat × Int × Int × Int × gS), Go X em_141 141 (d + 6) 22 [] [(0, (27, 0, y.1)), (1, (0, y.2.1, 0)), (2, (0, y.2.2.1, 0)), (4, (0, y.2.2.2.1, 0))] [] y.2.2.2.2 0 0 (some (Sum.inl y)) k22) (hr22 : ∀ q, k22 (Sum.inr q) = some q) (x0 : Nat) (x1 : Int) (x2 : Int) (x4 : Int) (s : gS) : Go X em_141 141 (d + 6) 22 [] [(0, (27, 0, x0)), (1, (0, x1, 0)), (2, (0, x2, 0)), (4, (0, x4, 0))] [] s 0 0 (sb_141_22 x0 x1 x2 x4 s) k22 := by
  delta sb_141_22
  refine g_rb gs_141 1 (cd' := gb_141_22) rfl rfl ?_
  refine g_iload ok rfl ?_
  refine g_iload_n ok rfl ?_
  refine g_ic_ge ok rfl (fun _ => ?_) (fun _ => ?_)
  · refine g_rb gs_141 2 (cd' := gb_141_28) rfl rfl ?_
    refine g_aload_n ok rfl rfl ?_
    refine g_getr ok 18 rfl rfl rfl ?_
    refine g_aload_n ok rfl rfl ?_
    refine g_getr ok 16 rfl rfl rfl ?_
    refine g_aload_n ok rfl rfl ?_
    refine g_getr ok 19 rfl rfl rfl ?_
    refine g_iload_n ok rfl ?_
    refine g_cv1 ok (me_27 hX) rfl rfl rfl rfl (t_27 ok hX _ (gR s x0 9) (gR s x0 4) (gR s x0 1) x2 s) (fun v5 s4 => ?_)
    refine g_pop ok rfl ?_
    refine g_iinc ok rfl rfl (L' := [(0, (27, 0, x0)), (1, (0, x1, 0)), (2, (0, x2, 0)), (4, (0, (g32 (x4 + 1)), 0))]) rfl ?_
    refine g_goto ok rfl ?_
    exact g_wk ok [(0, (27, 0, x0)), (1, (0, x1, 0)), (2, (0, x2, 0)), (4, (0, (g32 (x4 + 1)), 0))] ⟨rfl, rfl, rfl, rfl, trivial⟩ (hl22 (x0, x1, x2, (g32 (x4 + 1)), s4))
  · refine g_map hr22 ?_
    refine g_rb gs_141 3 (cd' := gb_141_51) rfl rfl ?_
    exact g_return ok rfl rfl (rfl)
theorem tl_141_22 {X : gX} (ok : gOK X) (hX : gHX X) (d : Nat)  (y : (Nat × Int × Int × Int × gS)) : Go X em_141 141 (d + 6) 22 [] [(0, (27, 0, y.1)), (1, (0, y.2.1, 0)), (2, (0, y.2.2.1, 0)), (4, (0, y.2.2.2.1, 0))] [] y.2.2.2.2 0 0 (gloop (st_141_22) y) some :=
  g_loop (Lh := fun y => [(0, (27, 0, y.1)), (1, (0, y.2.1, 0)), (2, (0, y.2.2.1, 0)), (4, (0, y.2.2.2.1, 0))]) (sh := fun y => y.2.2.2.2) (fun k22 hl22 hr22 y => ts_141_22 ok hX d  hl22 hr22 y.1 y.2.1 y.2.2.1 y.2.2.2.1 y.2.2.2.2) y
theorem t_141 {X : gX} (ok : gOK X) (hX : gHX X) (d : Nat) (a0 : Nat) (a1 : Int) (a2 : Int) (a3 : Int) (s : gS) : Go X em_141 141 (d + 6) 0 [] [(0, (27, 0, a0)), (1, (0, a1, 0)), (2, (0, a2, 0)), (3, (0, a3, 0))] [] s 0 0 (f_141 a0 a1 a2 a3 s) some := by
  delta f_141
  refine g_rb gs_141 0 (cd' := gb_141_0) rfl rfl ?_
  refine g_aload_n ok rfl rfl ?_
  refine g_getr ok 18 rfl rfl rfl ?_
  refine g_aload_n ok rfl rfl ?_
  refine g_getr ok 18 rfl rfl rfl ?_
  refine g_cv0 ok (me_23 hX) rfl rfl rfl (t_23 ok hX _ (gR s a0 9) (gR s a0 5) s) (fun s1 => ?_)
  refine g_aload_n ok rfl rfl ?_
  refine g_getr ok 18 rfl rfl rfl ?_
  refine g_iload_n ok rfl ?_
  refine g_puti ok rfl rfl rfl ?_
  let s3 : gS := gw s1 (gR s1 a0 9) 9 a3
  refine g_iconst ok (v := 0) rfl ?_
  refine g_istore ok rfl (L' := [(0, (27, 0, a0)), (1, (0, a1, 0)), (2, (0, a2, 0)), (3, (0, a3, 0)), (4, (0, 0, 0))]) rfl ?_
  exact g_wk ok [(0, (27, 0, a0)), (1, (0, a1, 0)), (2, (0, a2, 0)), (4, (0, 0, 0))] ⟨rfl, rfl, rfl, rfl, trivial⟩ (tl_141_22 ok hX d  (a0, a1, a2, 0, s3))
-- X11_ahead
theorem tb_103_23 {X : gX} (ok : gOK X) (hX : gHX X) (d : Nat)   (s : gS) : Go X em_103 103 (d + 7) 23 [] [] [] s 2 12 (fb_103_23  s) some := by
  delta fb_103_23
  refine g_rb gs_103 2 (cd' := gb_103_23) rfl rfl ?_
  exact g_throw ok rfl rfl (rfl)
theorem t_103 {X : gX} (ok : gOK X) (hX : gHX X) (d : Nat) (a0 : Nat) (a1 : Int) (a2 : Int) (a3 : Int) (s : gS) : Go X em_103 103 (d + 7) 0 [] [(0, (27, 0, a0)), (1, (0, a1, 0)), (2, (0, a2, 0)), (3, (0, a3, 0))] [] s 0 0 (f_103 a0 a1 a2 a3 s) some := by
  delta f_103
  refine g_rb gs_103 0 (cd' := gb_103_0) rfl rfl ?_
  refine g_aload_n ok rfl rfl ?_
  refine g_iload_n ok rfl ?_
  refine g_cvt0 ok (me_135 hX) rfl rfl rfl rfl rfl (fun _ => rfl) (t_135 ok hX _ a0 a1 s) (fun s1 => ?_)
  refine g_aload_n ok rfl rfl ?_
  refine g_iload_n ok rfl ?_
  refine g_iconst ok (v := 0) rfl ?_
  refine g_sipush ok (v := 200) rfl ?_
  refine g_cvt0 ok (me_138 hX) rfl rfl rfl rfl rfl (fun _ => rfl) (t_138 ok hX _ a0 a2 0 200 s1) (fun s3 => ?_)
  refine g_iload_n ok rfl ?_
  refine g_if_lt ok rfl (fun _ => ?_) (fun _ => ?_)
  · exact g_wk ok [] trivial (tb_103_23 ok hX d   s3)
  · refine g_rb gs_103 1 (cd' := gb_103_18) rfl rfl ?_
    refine g_iload_n ok rfl ?_
    refine g_iconst ok (v := 3) rfl ?_
    refine g_ic_le ok rfl (fun _ => ?_) (fun _ => ?_)
    · exact g_wk ok [] trivial (tb_103_23 ok hX d   s3)
    · refine g_rb gs_103 3 (cd' := gb_103_33) rfl rfl ?_
      refine g_aload_n ok rfl rfl ?_
      refine g_iload_n ok rfl ?_
      refine g_iconst ok (v := 0) rfl ?_
      refine g_aload_n ok rfl rfl ?_
      refine g_getr ok 18 rfl rfl rfl ?_
      refine g_geti ok rfl rfl ?_
      refine g_cv0 ok (me_141 hX) rfl rfl rfl (t_141 ok hX _ a0 a2 0 (gI s3 (gR s3 a0 5) 9) s3) (fun s5 => ?_)
      refine g_aload_n ok rfl rfl ?_
      refine g_getr ok 18 rfl rfl rfl ?_
      refine g_getr ok 168 rfl rfl rfl ?_
      refine g_iload_n ok rfl ?_
      refine g_aaload4 ok (n := 6) rfl rfl (fun _ _ => ?_)
      let v7 : Nat := (gR s5 (gR s5 (gR s5 a0 9) 0) (a1 : Int).toNat)
      refine g_astore ok rfl rfl (L' := [(0, (27, 0, a0)), (1, (0, a1, 0)), (2, (0, a2, 0)), (3, (0, a3, 0)), (4, (23, 0, v7))]) rfl ?_
      refine g_iload_n ok rfl ?_
      refine g_ite (fun hq => g_tswo ok (Or.inl hq) rfl ?_) (fun hq0 => ?_)
      · refine g_rb gs_103 7 (cd' := gb_103_102) rfl rfl ?_
        refine g_aload ok rfl rfl ?_
        refine g_geti ok rfl rfl ?_
        exact g_ireturn ok rfl rfl (rfl)
      refine g_ite (fun hq => g_tsw ok (c := 0) (by omega) rfl rfl ?_) (fun hq1 => ?_)
      · refine g_rb gs_103 4 (cd' := gb_103_84) rfl rfl ?_
        refine g_aload ok rfl rfl ?_
        refine g_geti ok rfl rfl ?_
        exact g_ireturn ok rfl rfl (rfl)
      refine g_ite (fun hq => g_tsw ok (c := 1) (by omega) rfl rfl ?_) (fun hq2 => ?_)
      · refine g_rb gs_103 5 (cd' := gb_103_90) rfl rfl ?_
        refine g_aload ok rfl rfl ?_
        refine g_geti ok rfl rfl ?_
        exact g_ireturn ok rfl rfl (rfl)
      refine g_ite (fun hq => g_tsw ok (c := 2) (by omega) rfl rfl ?_) (fun hq3 => ?_)
      · refine g_rb gs_103 6 (cd' := gb_103_96) rfl rfl ?_
        refine g_aload ok rfl rfl ?_
        refine g_geti ok rfl rfl ?_
        exact g_ireturn ok rfl rfl (rfl)
      refine g_tswo ok (Or.inr (by omega)) rfl ?_
      refine g_rb gs_103 7 (cd' := gb_103_102) rfl rfl ?_
      refine g_aload ok rfl rfl ?_
      refine g_geti ok rfl rfl ?_
      exact g_ireturn ok rfl rfl (rfl)
-- X11_owes
theorem t_104 {X : gX} (ok : gOK X) (hX : gHX X) (d : Nat) (a0 : Nat) (a1 : Int) (s : gS) : Go X em_104 104 (d + 7) 0 [] [(0, (27, 0, a0)), (1, (0, a1, 0))] [] s 0 0 (f_104 a0 a1 s) some := by
  delta f_104
  refine g_rb gs_104 0 (cd' := gb_104_0) rfl rfl ?_
  refine g_aload_n ok rfl rfl ?_
  refine g_iload_n ok rfl ?_
  refine g_iconst ok (v := 0) rfl ?_
  refine g_sipush ok (v := 200) rfl ?_
  refine g_cvt0 ok (me_138 hX) rfl rfl rfl rfl rfl (fun _ => rfl) (t_138 ok hX _ a0 a1 0 200 s) (fun s1 => ?_)
  refine g_aload_n ok rfl rfl ?_
  refine g_iload_n ok rfl ?_
  refine g_iconst ok (v := 0) rfl ?_
  refine g_aload_n ok rfl rfl ?_
  refine g_getr ok 18 rfl rfl rfl ?_
  refine g_geti ok rfl rfl ?_
  refine g_cv0 ok (me_141 hX) rfl rfl rfl (t_141 ok hX _ a0 a1 0 (gI s1 (gR s1 a0 5) 9) s1) (fun s3 => ?_)
  refine g_aload_n ok rfl rfl ?_
  refine g_getr ok 18 rfl rfl rfl ?_
  refine g_geti ok rfl rfl ?_
  exact g_ireturn ok rfl rfl (rfl)
-- X11_chest
theorem t_105 {X : gX} (ok : gOK X) (hX : gHX X) (d : Nat) (a0 : Nat) (a1 : Int) (s : gS) : Go X em_105 105 (d + 7) 0 [] [(0, (27, 0, a0)), (1, (0, a1, 0))] [] s 0 0 (f_105 a0 a1 s) some := by
  delta f_105
  refine g_rb gs_105 0 (cd' := gb_105_0) rfl rfl ?_
  refine g_aload_n ok rfl rfl ?_
  refine g_iload_n ok rfl ?_
  refine g_iconst ok (v := 0) rfl ?_
  refine g_sipush ok (v := 200) rfl ?_
  refine g_cvt0 ok (me_138 hX) rfl rfl rfl rfl rfl (fun _ => rfl) (t_138 ok hX _ a0 a1 0 200 s) (fun s1 => ?_)
  refine g_aload_n ok rfl rfl ?_
  refine g_iload_n ok rfl ?_
  refine g_iconst ok (v := 0) rfl ?_
  refine g_aload_n ok rfl rfl ?_
  refine g_getr ok 18 rfl rfl rfl ?_
  refine g_geti ok rfl rfl ?_
  refine g_cv0 ok (me_141 hX) rfl rfl rfl (t_141 ok hX _ a0 a1 0 (gI s1 (gR s1 a0 5) 9) s1) (fun s3 => ?_)
  refine g_aload_n ok rfl rfl ?_
  refine g_getr ok 18 rfl rfl rfl ?_
  refine g_geti ok rfl rfl ?_
  exact g_ireturn ok rfl rfl (rfl)
-- X11_lives
theorem ts_106_28 {X : gX} (ok : gOK X) (hX : gHX X) (d : Nat) {k28 : (Nat × Nat × Int × gS) ⊕ gO → Option gO} (hl28 : ∀ y : (Nat × Nat × Int × gS), Go X em_106 106 (d + 6) 28 [] [(0, (27, 0, y.1)), (2, (23, 0, y.2.1)), (3, (0, y.2.2.1, 0))] [] y.2.2.2 1 6 (some (Sum.inl y)) k28) (hr28 : ∀ q, k28 (Sum.inr q) = some q) (x0 : Nat) (x2 : Nat) (x3 : Int) (s : gS) : Go X em_106 106 (d + 6) 28 [] [(0, (27, 0, x0)), (2, (23, 0, x2)), (3, (0, x3, 0))] [] s 1 6 (sb_106_28 x0 x2 x3 s) k28 := by
  delta sb_106_28
  refine g_rb gs_106 1 (cd' := gb_106_28) rfl rfl ?_
  refine g_iload_n ok rfl ?_
  refine g_sipush ok (v := 200) rfl ?_
  refine g_ic_gt ok rfl (fun _ => ?_) (fun _ => ?_)
  · refine g_map hr28 ?_
    refine g_rb gs_106 6 (cd' := gb_106_75) rfl rfl ?_
    refine g_iconst ok (v := (-1)) rfl ?_
    exact g_ireturn ok rfl rfl (rfl)
  · refine g_rb gs_106 2 (cd' := gb_106_35) rfl rfl ?_
    refine g_aload_n ok rfl rfl ?_
    refine g_geti ok rfl rfl ?_
    refine g_if_ne ok rfl (fun _ => ?_) (fun _ => ?_)
    · refine g_rb gs_106 3 (cd' := gb_106_42) rfl rfl ?_
      refine g_aload_n ok rfl rfl ?_
      refine g_getr ok 18 rfl rfl rfl ?_
      refine g_aload_n ok rfl rfl ?_
      refine g_getr ok 16 rfl rfl rfl ?_
      refine g_aload_n ok rfl rfl ?_
      refine g_getr ok 19 rfl rfl rfl ?_
      refine g_iconst ok (v := 0) rfl ?_
      refine g_cv1 ok (me_27 hX) rfl rfl rfl rfl (t_27 ok hX _ (gR s x0 9) (gR s x0 4) (gR s x0 1) 0 s) (fun v7 s6 => ?_)
      refine g_pop ok rfl ?_
      refine g_aload_n ok rfl rfl ?_
      refine g_geti ok rfl rfl ?_
      refine g_iconst ok (v := 1) rfl ?_
      refine g_ic_ne ok rfl (fun _ => ?_) (fun _ => ?_)
      · refine g_map hr28 ?_
        refine g_rb gs_106 4 (cd' := gb_106_67) rfl rfl ?_
        refine g_iload_n ok rfl ?_
        exact g_ireturn ok rfl rfl (rfl)
      · refine g_rb gs_106 5 (cd' := gb_106_69) rfl rfl ?_
        refine g_iinc ok rfl rfl (L' := [(0, (27, 0, x0)), (2, (23, 0, x2)), (3, (0, (g32 (x3 + 1)), 0))]) rfl ?_
        refine g_goto ok rfl ?_
        exact g_wk ok [(0, (27, 0, x0)), (2, (23, 0, x2)), (3, (0, (g32 (x3 + 1)), 0))] ⟨rfl, rfl, rfl, trivial⟩ (hl28 (x0, x2, (g32 (x3 + 1)), s6))
    · refine g_map hr28 ?_
      refine g_rb gs_106 6 (cd' := gb_106_75) rfl rfl ?_
      refine g_iconst ok (v := (-1)) rfl ?_
      exact g_ireturn ok rfl rfl (rfl)
theorem tl_106_28 {X : gX} (ok : gOK X) (hX : gHX X) (d : Nat)  (y : (Nat × Nat × Int × gS)) : Go X em_106 106 (d + 6) 28 [] [(0, (27, 0, y.1)), (2, (23, 0, y.2.1)), (3, (0, y.2.2.1, 0))] [] y.2.2.2 1 6 (gloop (st_106_28) y) some :=
  g_loop (Lh := fun y => [(0, (27, 0, y.1)), (2, (23, 0, y.2.1)), (3, (0, y.2.2.1, 0))]) (sh := fun y => y.2.2.2) (fun k28 hl28 hr28 y => ts_106_28 ok hX d  hl28 hr28 y.1 y.2.1 y.2.2.1 y.2.2.2) y
theorem t_106 {X : gX} (ok : gOK X) (hX : gHX X) (d : Nat) (a0 : Nat) (a1 : Int) (s : gS) : Go X em_106 106 (d + 6) 0 [] [(0, (27, 0, a0)), (1, (0, a1, 0))] [] s 0 0 (f_106 a0 a1 s) some := by
  delta f_106
  refine g_rb gs_106 0 (cd' := gb_106_0) rfl rfl ?_
  refine g_aload_n ok rfl rfl ?_
  refine g_iload_n ok rfl ?_
  refine g_cvt0 ok (me_135 hX) rfl rfl rfl rfl rfl (fun _ => rfl) (t_135 ok hX _ a0 a1 s) (fun s1 => ?_)
  refine g_aload_n ok rfl rfl ?_
  refine g_getr ok 18 rfl rfl rfl ?_
  refine g_aload_n ok rfl rfl ?_
  refine g_getr ok 18 rfl rfl rfl ?_
  refine g_cv0 ok (me_23 hX) rfl rfl rfl (t_23 ok hX _ (gR s1 a0 9) (gR s1 a0 5) s1) (fun s3 => ?_)
  refine g_aload_n ok rfl rfl ?_
  refine g_getr ok 18 rfl rfl rfl ?_
  refine g_getr ok 168 rfl rfl rfl ?_
  refine g_iload_n ok rfl ?_
  refine g_aaload4 ok (n := 6) rfl rfl (fun _ _ => ?_)
  let v5 : Nat := (gR s3 (gR s3 (gR s3 a0 9) 0) (a1 : Int).toNat)
  refine g_astore_n ok rfl rfl (L' := [(0, (27, 0, a0)), (1, (0, a1, 0)), (2, (23, 0, v5))]) rfl ?_
  refine g_iconst ok (v := 1) rfl ?_
  refine g_istore_n ok rfl (L' := [(0, (27, 0, a0)), (1, (0, a1, 0)), (2, (23, 0, v5)), (3, (0, 1, 0))]) rfl ?_
  exact g_wk ok [(0, (27, 0, a0)), (2, (23, 0, v5)), (3, (0, 1, 0))] ⟨rfl, rfl, rfl, trivial⟩ (tl_106_28 ok hX d  (a0, v5, 1, s3))
-- X11_done
theorem ts_107_28 {X : gX} (ok : gOK X) (hX : gHX X) (d : Nat) {k28 : (Nat × Nat × Int × gS) ⊕ gO → Option gO} (hl28 : ∀ y : (Nat × Nat × Int × gS), Go X em_107 107 (d + 6) 28 [] [(0, (27, 0, y.1)), (2, (23, 0, y.2.1)), (3, (0, y.2.2.1, 0))] [] y.2.2.2 1 6 (some (Sum.inl y)) k28) (hr28 : ∀ q, k28 (Sum.inr q) = some q) (x0 : Nat) (x2 : Nat) (x3 : Int) (s : gS) : Go X em_107 107 (d + 6) 28 [] [(0, (27, 0, x0)), (2, (23, 0, x2)), (3, (0, x3, 0))] [] s 1 6 (sb_107_28 x0 x2 x3 s) k28 := by
  delta sb_107_28
  refine g_rb gs_107 1 (cd' := gb_107_28) rfl rfl ?_
  refine g_iload_n ok rfl ?_
  refine g_sipush ok (v := 200) rfl ?_
  refine g_ic_gt ok rfl (fun _ => ?_) (fun _ => ?_)
  · refine g_map hr28 ?_
    refine g_rb gs_107 6 (cd' := gb_107_81) rfl rfl ?_
    refine g_iconst ok (v := (-1)) rfl ?_
    exact g_ireturn ok rfl rfl (rfl)
  · refine g_rb gs_107 2 (cd' := gb_107_35) rfl rfl ?_
    refine g_aload_n ok rfl rfl ?_
    refine g_geti ok rfl rfl ?_
    refine g_if_ne ok rfl (fun _ => ?_) (fun _ => ?_)
    · refine g_rb gs_107 3 (cd' := gb_107_42) rfl rfl ?_
      refine g_aload_n ok rfl rfl ?_
      refine g_geti ok rfl rfl ?_
      refine g_aload_n ok rfl rfl ?_
      refine g_getr ok 16 rfl rfl rfl ?_
      refine g_geti ok rfl rfl ?_
      refine g_ic_lt ok rfl (fun _ => ?_) (fun _ => ?_)
      · refine g_rb gs_107 5 (cd' := gb_107_58) rfl rfl ?_
        refine g_aload_n ok rfl rfl ?_
        refine g_getr ok 18 rfl rfl rfl ?_
        refine g_aload_n ok rfl rfl ?_
        refine g_getr ok 16 rfl rfl rfl ?_
        refine g_aload_n ok rfl rfl ?_
        refine g_getr ok 19 rfl rfl rfl ?_
        refine g_iconst ok (v := 0) rfl ?_
        refine g_cv1 ok (me_27 hX) rfl rfl rfl rfl (t_27 ok hX _ (gR s x0 9) (gR s x0 4) (gR s x0 1) 0 s) (fun v7 s6 => ?_)
        refine g_pop ok rfl ?_
        refine g_iinc ok rfl rfl (L' := [(0, (27, 0, x0)), (2, (23, 0, x2)), (3, (0, (g32 (x3 + 1)), 0))]) rfl ?_
        refine g_goto ok rfl ?_
        exact g_wk ok [(0, (27, 0, x0)), (2, (23, 0, x2)), (3, (0, (g32 (x3 + 1)), 0))] ⟨rfl, rfl, rfl, trivial⟩ (hl28 (x0, x2, (g32 (x3 + 1)), s6))
      · refine g_map hr28 ?_
        refine g_rb gs_107 4 (cd' := gb_107_56) rfl rfl ?_
        refine g_iload_n ok rfl ?_
        exact g_ireturn ok rfl rfl (rfl)
    · refine g_map hr28 ?_
      refine g_rb gs_107 6 (cd' := gb_107_81) rfl rfl ?_
      refine g_iconst ok (v := (-1)) rfl ?_
      exact g_ireturn ok rfl rfl (rfl)
theorem tl_107_28 {X : gX} (ok : gOK X) (hX : gHX X) (d : Nat)  (y : (Nat × Nat × Int × gS)) : Go X em_107 107 (d + 6) 28 [] [(0, (27, 0, y.1)), (2, (23, 0, y.2.1)), (3, (0, y.2.2.1, 0))] [] y.2.2.2 1 6 (gloop (st_107_28) y) some :=
  g_loop (Lh := fun y => [(0, (27, 0, y.1)), (2, (23, 0, y.2.1)), (3, (0, y.2.2.1, 0))]) (sh := fun y => y.2.2.2) (fun k28 hl28 hr28 y => ts_107_28 ok hX d  hl28 hr28 y.1 y.2.1 y.2.2.1 y.2.2.2) y
theorem t_107 {X : gX} (ok : gOK X) (hX : gHX X) (d : Nat) (a0 : Nat) (a1 : Int) (s : gS) : Go X em_107 107 (d + 6) 0 [] [(0, (27, 0, a0)), (1, (0, a1, 0))] [] s 0 0 (f_107 a0 a1 s) some := by
  delta f_107
  refine g_rb gs_107 0 (cd' := gb_107_0) rfl rfl ?_
  refine g_aload_n ok rfl rfl ?_
  refine g_iload_n ok rfl ?_
  refine g_cvt0 ok (me_135 hX) rfl rfl rfl rfl rfl (fun _ => rfl) (t_135 ok hX _ a0 a1 s) (fun s1 => ?_)
  refine g_aload_n ok rfl rfl ?_
  refine g_getr ok 18 rfl rfl rfl ?_
  refine g_aload_n ok rfl rfl ?_
  refine g_getr ok 18 rfl rfl rfl ?_
  refine g_cv0 ok (me_23 hX) rfl rfl rfl (t_23 ok hX _ (gR s1 a0 9) (gR s1 a0 5) s1) (fun s3 => ?_)
  refine g_aload_n ok rfl rfl ?_
  refine g_getr ok 18 rfl rfl rfl ?_
  refine g_getr ok 168 rfl rfl rfl ?_
  refine g_iload_n ok rfl ?_
  refine g_aaload4 ok (n := 6) rfl rfl (fun _ _ => ?_)
  let v5 : Nat := (gR s3 (gR s3 (gR s3 a0 9) 0) (a1 : Int).toNat)
  refine g_astore_n ok rfl rfl (L' := [(0, (27, 0, a0)), (1, (0, a1, 0)), (2, (23, 0, v5))]) rfl ?_
  refine g_iconst ok (v := 0) rfl ?_
  refine g_istore_n ok rfl (L' := [(0, (27, 0, a0)), (1, (0, a1, 0)), (2, (23, 0, v5)), (3, (0, 0, 0))]) rfl ?_
  exact g_wk ok [(0, (27, 0, a0)), (2, (23, 0, v5)), (3, (0, 0, 0))] ⟨rfl, rfl, rfl, trivial⟩ (tl_107_28 ok hX d  (a0, v5, 0, s3))
-- X11_longest
theorem t_108 {X : gX} (ok : gOK X) (hX : gHX X) (d : Nat) (a0 : Nat) (a1 : Int) (a2 : Int) (s : gS) : Go X em_108 108 (d + 86) 0 [] [(0, (27, 0, a0)), (1, (0, a1, 0)), (2, (0, a2, 0))] [] s 0 0 (f_108 a0 a1 a2 s) some := by
  delta f_108
  refine g_rb gs_108 0 (cd' := gb_108_0) rfl rfl ?_
  refine g_aload_n ok rfl rfl ?_
  refine g_iload_n ok rfl ?_
  refine g_cvt0 ok (me_135 hX) rfl rfl rfl rfl rfl (fun _ => rfl) (t_135 ok hX _ a0 a1 s) (fun s1 => ?_)
  refine g_aload_n ok rfl rfl ?_
  refine g_iload_n ok rfl ?_
  refine g_iconst ok (v := (-1)) rfl ?_
  refine g_bipush ok (v := 29) rfl ?_
  refine g_cvt0 ok (me_138 hX) rfl rfl rfl rfl rfl (fun _ => rfl) (t_138 ok hX _ a0 a2 (-1) 29 s1) (fun s3 => ?_)
  refine g_aload_n ok rfl rfl ?_
  refine g_getr ok 18 rfl rfl rfl ?_
  refine g_getr ok 168 rfl rfl rfl ?_
  refine g_iload_n ok rfl ?_
  refine g_aaload4 ok (n := 6) rfl rfl (fun _ _ => ?_)
  let v5 : Nat := (gR s3 (gR s3 (gR s3 a0 5) 0) (a1 : Int).toNat)
  refine g_astore_n ok rfl rfl (L' := [(0, (27, 0, a0)), (1, (0, a1, 0)), (2, (0, a2, 0)), (3, (23, 0, v5))]) rfl ?_
  refine g_aload_n ok rfl rfl ?_
  refine g_geti ok rfl rfl ?_
  refine g_if_eq ok rfl (fun _ => ?_) (fun _ => ?_)
  · refine g_rb gs_108 2 (cd' := gb_108_32) rfl rfl ?_
    refine g_aload_n ok rfl rfl ?_
    refine g_getr ok 18 rfl rfl rfl ?_
    refine g_aload_n ok rfl rfl ?_
    refine g_getr ok 18 rfl rfl rfl ?_
    refine g_cv0 ok (me_23 hX) rfl rfl rfl (t_23 ok hX _ (gR s3 a0 9) (gR s3 a0 5) s3) (fun s6 => ?_)
    refine g_aload_n ok rfl rfl ?_
    refine g_getr ok 25 rfl rfl rfl ?_
    refine g_iload_n ok rfl ?_
    refine g_aload_n ok rfl rfl ?_
    refine g_getr ok 18 rfl rfl rfl ?_
    refine g_bipush ok (v := 30) rfl ?_
    refine g_cv0 ok (me_68 hX) rfl rfl rfl (t_68 ok hX _ (gR s6 a0 6) a1 (gR s6 a0 9) 30 s6) (fun s8 => ?_)
    refine g_iload_n ok rfl ?_
    refine g_iconst ok (v := (-1)) rfl ?_
    refine g_ic_ne ok rfl (fun _ => ?_) (fun _ => ?_)
    · refine g_rb gs_108 3 (cd' := gb_108_62) rfl rfl ?_
      refine g_aload_n ok rfl rfl ?_
      refine g_getr ok 25 rfl rfl rfl ?_
      refine g_aload_n ok rfl rfl ?_
      refine g_geti ok rfl rfl ?_
      refine g_aload_n ok rfl rfl ?_
      refine g_geti ok rfl rfl ?_
      refine g_cv1 ok (me_69 hX) rfl rfl rfl rfl (t_69 ok hX _ (gR s8 a0 6) (gI s8 v5 1) (gI s8 v5 0) s8) (fun v11 s10 => ?_)
      refine g_goto ok rfl ?_
      refine g_rb gs_108 5 (cd' := gb_108_96) rfl rfl ?_
      exact g_ireturn ok rfl rfl (rfl)
    · refine g_rb gs_108 4 (cd' := gb_108_80) rfl rfl ?_
      refine g_aload_n ok rfl rfl ?_
      refine g_getr ok 25 rfl rfl rfl ?_
      refine g_iload_n ok rfl ?_
      refine g_aload_n ok rfl rfl ?_
      refine g_geti ok rfl rfl ?_
      refine g_aload_n ok rfl rfl ?_
      refine g_geti ok rfl rfl ?_
      refine g_cv1 ok (me_74 hX) rfl rfl rfl rfl (t_74 ok hX _ (gR s8 a0 6) a2 (gI s8 v5 1) (gI s8 v5 0) s8) (fun v13 s12 => ?_)
      refine g_rb gs_108 5 (cd' := gb_108_96) rfl rfl ?_
      exact g_ireturn ok rfl rfl (rfl)
  · refine g_rb gs_108 1 (cd' := gb_108_30) rfl rfl ?_
    refine g_iconst ok (v := (-1)) rfl ?_
    exact g_ireturn ok rfl rfl (rfl)
