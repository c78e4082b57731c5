-- X11_needs
theorem ts_109_35 {X : gX} (ok : gOK X) (hX : gHX X) (d : Nat) {k35 : (Nat × Int × Int × Nat × Int × gS) ⊕ gO → Option gO} (hl35 : ∀ y : (Nat × Int × Int × Nat × Int × gS), Go X em_109 109 (d + 86) 35 [] [(0, (27, 0, y.1)), (1, (0, y.2.1, 0)), (2, (0, y.2.2.1, 0)), (3, (23, 0, y.2.2.2.1)), (4, (0, y.2.2.2.2.1, 0))] [] y.2.2.2.2.2 2 12 (some (Sum.inl y)) k35) (hr35 : ∀ q, k35 (Sum.inr q) = some q) (x0 : Nat) (x1 : Int) (x2 : Int) (x3 : Nat) (x4 : Int) (s : gS) : Go X em_109 109 (d + 86) 35 [] [(0, (27, 0, x0)), (1, (0, x1, 0)), (2, (0, x2, 0)), (3, (23, 0, x3)), (4, (0, x4, 0))] [] s 2 12 (sb_109_35 x0 x1 x2 x3 x4 s) k35 := by
  delta sb_109_35
  refine g_rb gs_109 3 (cd' := gb_109_35) rfl rfl ?_
  refine g_iload ok rfl ?_
  refine g_bipush ok (v := 10) rfl ?_
  refine g_ic_ge ok rfl (fun _ => ?_) (fun _ => ?_)
  · refine g_rb gs_109 4 (cd' := gb_109_42) rfl rfl ?_
    refine g_aload_n ok rfl rfl ?_
    refine g_getr ok 18 rfl rfl rfl ?_
    refine g_aload_n ok rfl rfl ?_
    refine g_getr ok 18 rfl rfl rfl ?_
    refine g_cv0 ok (me_23 hX) rfl rfl rfl (t_23 ok hX _ (gR s x0 9) (gR s x0 5) s) (fun s6 => ?_)
    refine g_aload_n ok rfl rfl ?_
    refine g_getr ok 18 rfl rfl rfl ?_
    refine g_getr ok 168 rfl rfl rfl ?_
    refine g_iload_n ok rfl ?_
    refine g_aaload4 ok (n := 6) rfl rfl (fun _ _ => ?_)
    refine g_iload ok rfl ?_
    refine g_puti ok rfl rfl rfl ?_
    let s8 : gS := gw s6 (gR s6 (gR s6 (gR s6 x0 9) 0) (x1 : Int).toNat) 1 x4
    refine g_aload_n ok rfl rfl ?_
    refine g_getr ok 25 rfl rfl rfl ?_
    refine g_iload_n ok rfl ?_
    refine g_aload_n ok rfl rfl ?_
    refine g_getr ok 18 rfl rfl rfl ?_
    refine g_iload_n ok rfl ?_
    refine g_cv0 ok (me_68 hX) rfl rfl rfl (t_68 ok hX _ (gR s8 x0 6) x1 (gR s8 x0 9) x2 s8) (fun s9 => ?_)
    refine g_aload_n ok rfl rfl ?_
    refine g_getr ok 25 rfl rfl rfl ?_
    refine g_iload ok rfl ?_
    refine g_aload_n ok rfl rfl ?_
    refine g_geti ok rfl rfl ?_
    refine g_cv1 ok (me_69 hX) rfl rfl rfl rfl (t_69 ok hX _ (gR s9 x0 6) x4 (gI s9 x3 0) s9) (fun v12 s11 => ?_)
    refine g_iload_n ok rfl ?_
    refine g_ic_lt ok rfl (fun _ => ?_) (fun _ => ?_)
    · refine g_rb gs_109 6 (cd' := gb_109_100) rfl rfl ?_
      refine g_iinc ok rfl rfl (L' := [(0, (27, 0, x0)), (1, (0, x1, 0)), (2, (0, x2, 0)), (3, (23, 0, x3)), (4, (0, (g32 (x4 + 1)), 0))]) rfl ?_
      refine g_goto ok rfl ?_
      exact g_wk ok [(0, (27, 0, x0)), (1, (0, x1, 0)), (2, (0, x2, 0)), (3, (23, 0, x3)), (4, (0, (g32 (x4 + 1)), 0))] ⟨rfl, rfl, rfl, rfl, rfl, trivial⟩ (hl35 (x0, x1, x2, x3, (g32 (x4 + 1)), s11))
    · refine g_map hr35 ?_
      refine g_rb gs_109 5 (cd' := gb_109_97) rfl rfl ?_
      refine g_iload ok rfl ?_
      exact g_ireturn ok rfl rfl (rfl)
  · refine g_map hr35 ?_
    refine g_rb gs_109 7 (cd' := gb_109_106) rfl rfl ?_
    refine g_iconst ok (v := (-1)) rfl ?_
    exact g_ireturn ok rfl rfl (rfl)
theorem tl_109_35 {X : gX} (ok : gOK X) (hX : gHX X) (d : Nat)  (y : (Nat × Int × Int × Nat × Int × gS)) : Go X em_109 109 (d + 86) 35 [] [(0, (27, 0, y.1)), (1, (0, y.2.1, 0)), (2, (0, y.2.2.1, 0)), (3, (23, 0, y.2.2.2.1)), (4, (0, y.2.2.2.2.1, 0))] [] y.2.2.2.2.2 2 12 (gloop (st_109_35) y) some :=
  g_loop (Lh := fun y => [(0, (27, 0, y.1)), (1, (0, y.2.1, 0)), (2, (0, y.2.2.1, 0)), (3, (23, 0, y.2.2.2.1)), (4, (0, y.2.2.2.2.1, 0))]) (sh := fun y => y.2.2.2.2.2) (fun k35 hl35 hr35 y => ts_109_35 ok hX d  hl35 hr35 y.1 y.2.1 y.2.2.1 y.2.2.2.1 y.2.2.2.2.1 y.2.2.2.2.2) y
theorem t_109 {X : gX} (ok : gOK X) (hX : gHX X) (d : Nat) (a0 : Nat) (a1 : Int) (a2 : Int) (s : gS) : Go X em_109 109 (d + 86) 0 [] [(0, (27, 0, a0)), (1, (0, a1, 0)), (2, (0, a2, 0))] [] s 0 0 (f_109 a0 a1 a2 s) some := by
  delta f_109
  refine g_rb gs_109 0 (cd' := gb_109_0) rfl rfl ?_
  refine g_aload_n ok rfl rfl ?_
  refine g_iload_n ok rfl ?_
  refine g_cvt0 ok (me_135 hX) rfl rfl rfl rfl rfl (fun _ => rfl) (t_135 ok hX _ a0 a1 s) (fun s1 => ?_)
  refine g_aload_n ok rfl rfl ?_
  refine g_iload_n ok rfl ?_
  refine g_iconst ok (v := 1) rfl ?_
  refine g_bipush ok (v := 30) rfl ?_
  refine g_cvt0 ok (me_138 hX) rfl rfl rfl rfl rfl (fun _ => rfl) (t_138 ok hX _ a0 a2 1 30 s1) (fun s3 => ?_)
  refine g_aload_n ok rfl rfl ?_
  refine g_getr ok 18 rfl rfl rfl ?_
  refine g_getr ok 168 rfl rfl rfl ?_
  refine g_iload_n ok rfl ?_
  refine g_aaload4 ok (n := 6) rfl rfl (fun _ _ => ?_)
  let v5 : Nat := (gR s3 (gR s3 (gR s3 a0 5) 0) (a1 : Int).toNat)
  refine g_astore_n ok rfl rfl (L' := [(0, (27, 0, a0)), (1, (0, a1, 0)), (2, (0, a2, 0)), (3, (23, 0, v5))]) rfl ?_
  refine g_aload_n ok rfl rfl ?_
  refine g_geti ok rfl rfl ?_
  refine g_if_eq ok rfl (fun _ => ?_) (fun _ => ?_)
  · refine g_rb gs_109 2 (cd' := gb_109_32) rfl rfl ?_
    refine g_iconst ok (v := 0) rfl ?_
    refine g_istore ok rfl (L' := [(0, (27, 0, a0)), (1, (0, a1, 0)), (2, (0, a2, 0)), (3, (23, 0, v5)), (4, (0, 0, 0))]) rfl ?_
    exact g_wk ok [(0, (27, 0, a0)), (1, (0, a1, 0)), (2, (0, a2, 0)), (3, (23, 0, v5)), (4, (0, 0, 0))] ⟨rfl, rfl, rfl, rfl, rfl, trivial⟩ (tl_109_35 ok hX d  (a0, a1, a2, v5, 0, s3))
  · refine g_rb gs_109 1 (cd' := gb_109_30) rfl rfl ?_
    refine g_iconst ok (v := (-1)) rfl ?_
    exact g_ireturn ok rfl rfl (rfl)
-- X11_stopped
theorem t_110 {X : gX} (ok : gOK X) (hX : gHX X) (d : Nat) (a0 : Nat) (a1 : Int) (a2 : Int) (s : gS) : Go X em_110 110 (d + 1) 0 [] [(0, (27, 0, a0)), (1, (0, a1, 0)), (2, (0, a2, 0))] [] s 0 0 (f_110 a0 a1 a2 s) some := by
  delta f_110
  refine g_rb gs_110 0 (cd' := gb_110_0) rfl rfl ?_
  refine g_aload_n ok rfl rfl ?_
  refine g_iload_n ok rfl ?_
  refine g_cvt0 ok (me_135 hX) rfl rfl rfl rfl rfl (fun _ => rfl) (t_135 ok hX _ a0 a1 s) (fun s1 => ?_)
  refine g_aload_n ok rfl rfl ?_
  refine g_getr ok 16 rfl rfl rfl ?_
  refine g_iload_n ok rfl ?_
  refine g_aload_n ok rfl rfl ?_
  refine g_getr ok 18 rfl rfl rfl ?_
  refine g_getr ok 168 rfl rfl rfl ?_
  refine g_iload_n ok rfl ?_
  refine g_aaload4 ok (n := 6) rfl rfl (fun _ _ => ?_)
  refine g_geti ok rfl rfl ?_
  refine g_cvz ok (me_5 hX) rfl rfl rfl rfl (t_5 ok hX _ (gR s1 a0 4) a2 (gI s1 (gR s1 (gR s1 (gR s1 a0 5) 0) (a1 : Int).toNat) 2) s1) (fun v4 s3 hb5 => ?_)
  exact g_zreturn ok rfl hb5 rfl (rfl)
-- J6_bitCount_0f7a4
theorem t_264 {X : gX} (ok : gOK X) (hX : gHX X) (d : Nat) (a0 : Int) (s : gS) : Go X em_264 264 d 0 [] [(0, (0, a0, 0))] [] s 0 0 (f_264 a0 s) some := by
  delta f_264
  refine g_rb gs_264 0 (cd' := gb_264_0) rfl rfl ?_
  refine g_iload_n ok rfl ?_
  refine g_iload_n ok rfl ?_
  refine g_iconst ok (v := 1) rfl ?_
  refine g_iushr ok ?_
  refine g_ldcw ok (v := 1431655765) rfl ?_ (by decide) (by decide)
  refine g_iand ok ?_
  refine g_isub ok ?_
  let v1 : Int := (g32 (a0 - (gand (gushr a0 1) 1431655765)))
  refine g_istore_n ok rfl (L' := [(0, (0, v1, 0))]) rfl ?_
  refine g_iload_n ok rfl ?_
  refine g_ldcw ok (v := 858993459) rfl ?_ (by decide) (by decide)
  refine g_iand ok ?_
  refine g_iload_n ok rfl ?_
  refine g_iconst ok (v := 2) rfl ?_
  refine g_iushr ok ?_
  refine g_ldcw ok (v := 858993459) rfl ?_ (by decide) (by decide)
  refine g_iand ok ?_
  refine g_iadd ok ?_
  let v2 : Int := (g32 ((gand v1 858993459) + (gand (gushr v1 2) 858993459)))
  refine g_istore_n ok rfl (L' := [(0, (0, v2, 0))]) rfl ?_
  refine g_iload_n ok rfl ?_
  refine g_iload_n ok rfl ?_
  refine g_iconst ok (v := 4) rfl ?_
  refine g_iushr ok ?_
  refine g_iadd ok ?_
  refine g_ldcw ok (v := 252645135) rfl ?_ (by decide) (by decide)
  refine g_iand ok ?_
  let v3 : Int := (gand (g32 (v2 + (gushr v2 4))) 252645135)
  refine g_istore_n ok rfl (L' := [(0, (0, v3, 0))]) rfl ?_
  refine g_iload_n ok rfl ?_
  refine g_iload_n ok rfl ?_
  refine g_bipush ok (v := 8) rfl ?_
  refine g_iushr ok ?_
  refine g_iadd ok ?_
  let v4 : Int := (g32 (v3 + (gushr v3 8)))
  refine g_istore_n ok rfl (L' := [(0, (0, v4, 0))]) rfl ?_
  refine g_iload_n ok rfl ?_
  refine g_iload_n ok rfl ?_
  refine g_bipush ok (v := 16) rfl ?_
  refine g_iushr ok ?_
  refine g_iadd ok ?_
  let v5 : Int := (g32 (v4 + (gushr v4 16)))
  refine g_istore_n ok rfl (L' := [(0, (0, v5, 0))]) rfl ?_
  refine g_iload_n ok rfl ?_
  refine g_bipush ok (v := 63) rfl ?_
  refine g_iand ok ?_
  exact g_ireturn ok rfl rfl (rfl)
-- X11_fewest
theorem tb_111_61 {X : gX} (ok : gOK X) (hX : gHX X) (d : Nat) {k9 : (Nat × Int × Int × Int × gS) ⊕ gO → Option gO} (hl9 : ∀ y : (Nat × Int × Int × Int × gS), Go X em_111 111 (d + 1) 9 [] [(0, (27, 0, y.1)), (1, (0, y.2.1, 0)), (2, (0, y.2.2.1, 0)), (3, (0, y.2.2.2.1, 0))] [] y.2.2.2.2 1 6 (some (Sum.inl y)) k9) (hr9 : ∀ q, k9 (Sum.inr q) = some q) (x0 : Nat) (x1 : Int) (x3 : Int) (s : gS) : Go X em_111 111 (d + 1) 61 [] [(0, (27, 0, x0)), (1, (0, x1, 0)), (3, (0, x3, 0))] [] s 1 6 (fb_111_61 x0 x1 x3 s) k9 := by
  delta fb_111_61
  refine g_rb gs_111 5 (cd' := gb_111_61) rfl rfl ?_
  refine g_iload_n ok rfl ?_
  refine g_istore_n ok rfl (L' := [(0, (27, 0, x0)), (1, (0, x1, 0)), (3, (0, x3, 0)), (2, (0, x3, 0))]) rfl ?_
  refine g_rb gs_111 6 (cd' := gb_111_63) rfl rfl ?_
  refine g_iinc ok rfl rfl (L' := [(0, (27, 0, x0)), (1, (0, x1, 0)), (3, (0, (g32 (x3 + 1)), 0)), (2, (0, x3, 0))]) rfl ?_
  refine g_goto ok rfl ?_
  exact g_wk ok [(0, (27, 0, x0)), (1, (0, x1, 0)), (2, (0, x3, 0)), (3, (0, (g32 (x3 + 1)), 0))] ⟨rfl, rfl, rfl, rfl, trivial⟩ (hl9 (x0, x1, x3, (g32 (x3 + 1)), s))
theorem ts_111_9 {X : gX} (ok : gOK X) (hX : gHX X) (d : Nat) {k9 : (Nat × Int × Int × Int × gS) ⊕ gO → Option gO} (hl9 : ∀ y : (Nat × Int × Int × Int × gS), Go X em_111 111 (d + 1) 9 [] [(0, (27, 0, y.1)), (1, (0, y.2.1, 0)), (2, (0, y.2.2.1, 0)), (3, (0, y.2.2.2.1, 0))] [] y.2.2.2.2 1 6 (some (Sum.inl y)) k9) (hr9 : ∀ q, k9 (Sum.inr q) = some q) (x0 : Nat) (x1 : Int) (x2 : Int) (x3 : Int) (s : gS) : Go X em_111 111 (d + 1) 9 [] [(0, (27, 0, x0)), (1, (0, x1, 0)), (2, (0, x2, 0)), (3, (0, x3, 0))] [] s 1 6 (sb_111_9 x0 x1 x2 x3 s) k9 := by
  delta sb_111_9
  refine g_rb gs_111 1 (cd' := gb_111_9) rfl rfl ?_
  refine g_iload_n ok rfl ?_
  refine g_iconst ok (v := 1) rfl ?_
  refine g_aload_n ok rfl rfl ?_
  refine g_getr ok 16 rfl rfl rfl ?_
  refine g_geti ok rfl rfl ?_
  refine g_ishl ok ?_
  refine g_ic_ge ok rfl (fun _ => ?_) (fun _ => ?_)
  · refine g_rb gs_111 2 (cd' := gb_111_22) rfl rfl ?_
    refine g_aload_n ok rfl rfl ?_
    refine g_getr ok 16 rfl rfl rfl ?_
    refine g_iload_n ok rfl ?_
    refine g_aload_n ok rfl rfl ?_
    refine g_getr ok 18 rfl rfl rfl ?_
    refine g_getr ok 168 rfl rfl rfl ?_
    refine g_iload_n ok rfl ?_
    refine g_aaload4 ok (n := 6) rfl rfl (fun _ _ => ?_)
    refine g_geti ok rfl rfl ?_
    refine g_cvz ok (me_5 hX) rfl rfl rfl rfl (t_5 ok hX _ (gR s x0 4) x3 (gI s (gR s (gR s (gR s x0 5) 0) (x1 : Int).toNat) 2) s) (fun v4 s3 hb5 => ?_)
    refine g_if_eq ok rfl (fun _ => ?_) (fun _ => ?_)
    · refine g_rb gs_111 6 (cd' := gb_111_63) rfl rfl ?_
      refine g_iinc ok rfl rfl (L' := [(0, (27, 0, x0)), (1, (0, x1, 0)), (2, (0, x2, 0)), (3, (0, (g32 (x3 + 1)), 0))]) rfl ?_
      refine g_goto ok rfl ?_
      exact g_wk ok [(0, (27, 0, x0)), (1, (0, x1, 0)), (2, (0, x2, 0)), (3, (0, (g32 (x3 + 1)), 0))] ⟨rfl, rfl, rfl, rfl, trivial⟩ (hl9 (x0, x1, x2, (g32 (x3 + 1)), s3))
    · refine g_rb gs_111 3 (cd' := gb_111_45) rfl rfl ?_
      refine g_iload_n ok rfl ?_
      refine g_iconst ok (v := (-1)) rfl ?_
      refine g_ic_eq ok rfl (fun _ => ?_) (fun _ => ?_)
      · exact g_wk ok [(0, (27, 0, x0)), (1, (0, x1, 0)), (3, (0, x3, 0))] ⟨rfl, rfl, rfl, trivial⟩ (tb_111_61 ok hX d hl9 hr9 x0 x1 x3 s3)
      · refine g_rb gs_111 4 (cd' := gb_111_50) rfl rfl ?_
        refine g_iload_n ok rfl ?_
        refine g_cs1 ok (me_264 hX) rfl rfl rfl (t_264 ok hX _ x3 s3) (fun v7 s6 => ?_)
        refine g_iload_n ok rfl ?_
        refine g_cs1 ok (me_264 hX) rfl rfl rfl (t_264 ok hX _ x2 s6) (fun v9 s8 => ?_)
        refine g_ic_ge ok rfl (fun _ => ?_) (fun _ => ?_)
        · exact g_wk ok [(0, (27, 0, x0)), (1, (0, x1, 0)), (3, (0, x3, 0))] ⟨rfl, rfl, rfl, trivial⟩ (tb_111_61 ok hX d hl9 hr9 x0 x1 x3 s8)
        · refine g_rb gs_111 6 (cd' := gb_111_63) rfl rfl ?_
          refine g_iinc ok rfl rfl (L' := [(0, (27, 0, x0)), (1, (0, x1, 0)), (2, (0, x2, 0)), (3, (0, (g32 (x3 + 1)), 0))]) rfl ?_
          refine g_goto ok rfl ?_
          exact g_wk ok [(0, (27, 0, x0)), (1, (0, x1, 0)), (2, (0, x2, 0)), (3, (0, (g32 (x3 + 1)), 0))] ⟨rfl, rfl, rfl, rfl, trivial⟩ (hl9 (x0, x1, x2, (g32 (x3 + 1)), s8))
  · refine g_map hr9 ?_
    refine g_rb gs_111 7 (cd' := gb_111_69) rfl rfl ?_
    refine g_iload_n ok rfl ?_
    exact g_ireturn ok rfl rfl (rfl)
theorem tl_111_9 {X : gX} (ok : gOK X) (hX : gHX X) (d : Nat)  (y : (Nat × Int × Int × Int × gS)) : Go X em_111 111 (d + 1) 9 [] [(0, (27, 0, y.1)), (1, (0, y.2.1, 0)), (2, (0, y.2.2.1, 0)), (3, (0, y.2.2.2.1, 0))] [] y.2.2.2.2 1 6 (gloop (st_111_9) y) some :=
  g_loop (Lh := fun y => [(0, (27, 0, y.1)), (1, (0, y.2.1, 0)), (2, (0, y.2.2.1, 0)), (3, (0, y.2.2.2.1, 0))]) (sh := fun y => y.2.2.2.2) (fun k9 hl9 hr9 y => ts_111_9 ok hX d  hl9 hr9 y.1 y.2.1 y.2.2.1 y.2.2.2.1 y.2.2.2.2) y
theorem t_111 {X : gX} (ok : gOK X) (hX : gHX X) (d : Nat) (a0 : Nat) (a1 : Int) (s : gS) : Go X em_111 111 (d + 1) 0 [] [(0, (27, 0, a0)), (1, (0, a1, 0))] [] s 0 0 (f_111 a0 a1 s) some := by
  delta f_111
  refine g_rb gs_111 0 (cd' := gb_111_0) rfl rfl ?_
  refine g_aload_n ok rfl rfl ?_
  refine g_iload_n ok rfl ?_
  refine g_cvt0 ok (me_135 hX) rfl rfl rfl rfl rfl (fun _ => rfl) (t_135 ok hX _ a0 a1 s) (fun s1 => ?_)
  refine g_iconst ok (v := (-1)) rfl ?_
  refine g_istore_n ok rfl (L' := [(0, (27, 0, a0)), (1, (0, a1, 0)), (2, (0, (-1), 0))]) rfl ?_
  refine g_iconst ok (v := 0) rfl ?_
  refine g_istore_n ok rfl (L' := [(0, (27, 0, a0)), (1, (0, a1, 0)), (2, (0, (-1), 0)), (3, (0, 0, 0))]) rfl ?_
  exact g_wk ok [(0, (27, 0, a0)), (1, (0, a1, 0)), (2, (0, (-1), 0)), (3, (0, 0, 0))] ⟨rfl, rfl, rfl, rfl, trivial⟩ (tl_111_9 ok hX d  (a0, a1, (-1), 0, s1))
-- X11_cheapest
theorem tb_112_74 {X : gX} (ok : gOK X) (hX : gHX X) (d : Nat) {k13 : (Nat × Int × Int × Int × Int × Int × gS) ⊕ gO → Option gO} (hl13 : ∀ y : (Nat × Int × Int × Int × Int × Int × gS), Go X em_112 112 (d + 1) 13 [] [(0, (27, 0, y.1)), (1, (0, y.2.1, 0)), (2, (0, y.2.2.1, 0)), (3, (0, y.2.2.2.1, 0)), (4, (0, y.2.2.2.2.1, 0)), (5, (0, y.2.2.2.2.2.1, 0))] [] y.2.2.2.2.2.2 1 6 (some (Sum.inl y)) k13) (hr13 : ∀ q, k13 (Sum.inr q) = some q) (x0 : Nat) (x1 : Int) (x2 : Int) (x5 : Int) (x6 : Int) (s : gS) : Go X em_112 112 (d + 1) 74 [] [(0, (27, 0, x0)), (1, (0, x1, 0)), (2, (0, x2, 0)), (5, (0, x5, 0)), (6, (0, x6, 0))] [] s 1 6 (fb_112_74 x0 x1 x2 x5 x6 s) k13 := by
  delta fb_112_74
  refine g_rb gs_112 5 (cd' := gb_112_74) rfl rfl ?_
  refine g_iload ok rfl ?_
  refine g_istore_n ok rfl (L' := [(0, (27, 0, x0)), (1, (0, x1, 0)), (2, (0, x2, 0)), (5, (0, x5, 0)), (6, (0, x6, 0)), (3, (0, x5, 0))]) rfl ?_
  refine g_iload ok rfl ?_
  refine g_istore ok rfl (L' := [(0, (27, 0, x0)), (1, (0, x1, 0)), (2, (0, x2, 0)), (5, (0, x5, 0)), (6, (0, x6, 0)), (3, (0, x5, 0)), (4, (0, x6, 0))]) rfl ?_
  refine g_rb gs_112 6 (cd' := gb_112_81) rfl rfl ?_
  refine g_iinc ok rfl rfl (L' := [(0, (27, 0, x0)), (1, (0, x1, 0)), (2, (0, x2, 0)), (5, (0, (g32 (x5 + 1)), 0)), (6, (0, x6, 0)), (3, (0, x5, 0)), (4, (0, x6, 0))]) rfl ?_
  refine g_goto ok rfl ?_
  exact g_wk ok [(0, (27, 0, x0)), (1, (0, x1, 0)), (2, (0, x2, 0)), (3, (0, x5, 0)), (4, (0, x6, 0)), (5, (0, (g32 (x5 + 1)), 0))] ⟨rfl, rfl, rfl, rfl, rfl, rfl, trivial⟩ (hl13 (x0, x1, x2, x5, x6, (g32 (x5 + 1)), s))
theorem ts_112_13 {X : gX} (ok : gOK X) (hX : gHX X) (d : Nat) {k13 : (Nat × Int × Int × Int × Int × Int × gS) ⊕ gO → Option gO} (hl13 : ∀ y : (Nat × Int × Int × Int × Int × Int × gS), Go X em_112 112 (d + 1) 13 [] [(0, (27, 0, y.1)), (1, (0, y.2.1, 0)), (2, (0, y.2.2.1, 0)), (3, (0, y.2.2.2.1, 0)), (4, (0, y.2.2.2.2.1, 0)), (5, (0, y.2.2.2.2.2.1, 0))] [] y.2.2.2.2.2.2 1 6 (some (Sum.inl y)) k13) (hr13 : ∀ q, k13 (Sum.inr q) = some q) (x0 : Nat) (x1 : Int) (x2 : Int) (x3 : Int) (x4 : Int) (x5 : Int) (s : gS) : Go X em_112 112 (d + 1) 13 [] [(0, (27, 0, x0)), (1, (0, x1, 0)), (2, (0, x2, 0)), (3, (0, x3, 0)), (4, (0, x4, 0)), (5, (0, x5, 0))] [] s 1 6 (sb_112_13 x0 x1 x2 x3 x4 x5 s) k13 := by
  delta sb_112_13
  refine g_rb gs_112 1 (cd' := gb_112_13) rfl rfl ?_
  refine g_iload ok rfl ?_
  refine g_iconst ok (v := 1) rfl ?_
  refine g_aload_n ok rfl rfl ?_
  refine g_getr ok 16 rfl rfl rfl ?_
  refine g_geti ok rfl rfl ?_
  refine g_ishl ok ?_
  refine g_ic_ge ok rfl (fun _ => ?_) (fun _ => ?_)
  · refine g_rb gs_112 2 (cd' := gb_112_27) rfl rfl ?_
    refine g_aload_n ok rfl rfl ?_
    refine g_getr ok 16 rfl rfl rfl ?_
    refine g_iload ok rfl ?_
    refine g_aload_n ok rfl rfl ?_
    refine g_getr ok 18 rfl rfl rfl ?_
    refine g_getr ok 168 rfl rfl rfl ?_
    refine g_iload_n ok rfl ?_
    refine g_aaload4 ok (n := 6) rfl rfl (fun _ _ => ?_)
    refine g_geti ok rfl rfl ?_
    refine g_cvz ok (me_5 hX) rfl rfl rfl rfl (t_5 ok hX _ (gR s x0 4) x5 (gI s (gR s (gR s (gR s x0 5) 0) (x1 : Int).toNat) 2) s) (fun v4 s3 hb5 => ?_)
    refine g_if_eq ok rfl (fun _ => ?_) (fun _ => ?_)
    · refine g_rb gs_112 6 (cd' := gb_112_81) rfl rfl ?_
      refine g_iinc ok rfl rfl (L' := [(0, (27, 0, x0)), (1, (0, x1, 0)), (2, (0, x2, 0)), (3, (0, x3, 0)), (4, (0, x4, 0)), (5, (0, (g32 (x5 + 1)), 0))]) rfl ?_
      refine g_goto ok rfl ?_
      exact g_wk ok [(0, (27, 0, x0)), (1, (0, x1, 0)), (2, (0, x2, 0)), (3, (0, x3, 0)), (4, (0, x4, 0)), (5, (0, (g32 (x5 + 1)), 0))] ⟨rfl, rfl, rfl, rfl, rfl, rfl, trivial⟩ (hl13 (x0, x1, x2, x3, x4, (g32 (x5 + 1)), s3))
    · refine g_rb gs_112 3 (cd' := gb_112_51) rfl rfl ?_
      refine g_aload_n ok rfl rfl ?_
      refine g_getr ok 16 rfl rfl rfl ?_
      refine g_iload ok rfl ?_
      refine g_cv1 ok (me_6 hX) rfl rfl rfl rfl (t_6 ok hX _ (gR s3 x0 4) x5 s3) (fun v7 s6 => ?_)
      refine g_istore ok rfl (L' := [(0, (27, 0, x0)), (1, (0, x1, 0)), (2, (0, x2, 0)), (3, (0, x3, 0)), (4, (0, x4, 0)), (5, (0, x5, 0)), (6, (0, v7, 0))]) rfl ?_
      refine g_iload_n ok rfl ?_
      refine g_iconst ok (v := (-1)) rfl ?_
      refine g_ic_eq ok rfl (fun _ => ?_) (fun _ => ?_)
      · exact g_wk ok [(0, (27, 0, x0)), (1, (0, x1, 0)), (2, (0, x2, 0)), (5, (0, x5, 0)), (6, (0, v7, 0))] ⟨rfl, rfl, rfl, rfl, rfl, trivial⟩ (tb_112_74 ok hX d hl13 hr13 x0 x1 x2 x5 v7 s6)
      · refine g_rb gs_112 4 (cd' := gb_112_67) rfl rfl ?_
        refine g_iload ok rfl ?_
        refine g_iload ok rfl ?_
        refine g_ic_ge ok rfl (fun _ => ?_) (fun _ => ?_)
        · exact g_wk ok [(0, (27, 0, x0)), (1, (0, x1, 0)), (2, (0, x2, 0)), (5, (0, x5, 0)), (6, (0, v7, 0))] ⟨rfl, rfl, rfl, rfl, rfl, trivial⟩ (tb_112_74 ok hX d hl13 hr13 x0 x1 x2 x5 v7 s6)
        · refine g_rb gs_112 6 (cd' := gb_112_81) rfl rfl ?_
          refine g_iinc ok rfl rfl (L' := [(0, (27, 0, x0)), (1, (0, x1, 0)), (2, (0, x2, 0)), (3, (0, x3, 0)), (4, (0, x4, 0)), (5, (0, (g32 (x5 + 1)), 0)), (6, (0, v7, 0))]) rfl ?_
          refine g_goto ok rfl ?_
          exact g_wk ok [(0, (27, 0, x0)), (1, (0, x1, 0)), (2, (0, x2, 0)), (3, (0, x3, 0)), (4, (0, x4, 0)), (5, (0, (g32 (x5 + 1)), 0))] ⟨rfl, rfl, rfl, rfl, rfl, rfl, trivial⟩ (hl13 (x0, x1, x2, x3, x4, (g32 (x5 + 1)), s6))
  · refine g_map hr13 ?_
    refine g_rb gs_112 7 (cd' := gb_112_87) rfl rfl ?_
    refine g_iload_n ok rfl ?_
    refine g_if_eq ok rfl (fun _ => ?_) (fun _ => ?_)
    · refine g_rb gs_112 9 (cd' := gb_112_96) rfl rfl ?_
      refine g_iload_n ok rfl ?_
      refine g_rb gs_112 10 (cd' := gb_112_97) rfl rfl ?_
      exact g_ireturn ok rfl rfl (rfl)
    · refine g_rb gs_112 8 (cd' := gb_112_91) rfl rfl ?_
      refine g_iload ok rfl ?_
      refine g_goto ok rfl ?_
      refine g_rb gs_112 10 (cd' := gb_112_97) rfl rfl ?_
      exact g_ireturn ok rfl rfl (rfl)
theorem tl_112_13 {X : gX} (ok : gOK X) (hX : gHX X) (d : Nat)  (y : (Nat × Int × Int × Int × Int × Int × gS)) : Go X em_112 112 (d + 1) 13 [] [(0, (27, 0, y.1)), (1, (0, y.2.1, 0)), (2, (0, y.2.2.1, 0)), (3, (0, y.2.2.2.1, 0)), (4, (0, y.2.2.2.2.1, 0)), (5, (0, y.2.2.2.2.2.1, 0))] [] y.2.2.2.2.2.2 1 6 (gloop (st_112_13) y) some :=
  g_loop (Lh := fun y => [(0, (27, 0, y.1)), (1, (0, y.2.1, 0)), (2, (0, y.2.2.1, 0)), (3, (0, y.2.2.2.1, 0)), (4, (0, y.2.2.2.2.1, 0)), (5, (0, y.2.2.2.2.2.1, 0))]) (sh := fun y => y.2.2.2.2.2.2) (fun k13 hl13 hr13 y => ts_112_13 ok hX d  hl13 hr13 y.1 y.2.1 y.2.2.1 y.2.2.2.1 y.2.2.2.2.1 y.2.2.2.2.2.1 y.2.2.2.2.2.2) y
theorem t_112 {X : gX} (ok : gOK X) (hX : gHX X) (d : Nat) (a0 : Nat) (a1 : Int) (a2 : Int) (s : gS) : Go X em_112 112 (d + 1) 0 [] [(0, (27, 0, a0)), (1, (0, a1, 0)), (2, (0, a2, 0))] [] s 0 0 (f_112 a0 a1 a2 s) some := by
  delta f_112
  refine g_rb gs_112 0 (cd' := gb_112_0) rfl rfl ?_
  refine g_aload_n ok rfl rfl ?_
  refine g_iload_n ok rfl ?_
  refine g_cvt0 ok (me_135 hX) rfl rfl rfl rfl rfl (fun _ => rfl) (t_135 ok hX _ a0 a1 s) (fun s1 => ?_)
  refine g_iconst ok (v := (-1)) rfl ?_
  refine g_istore_n ok rfl (L' := [(0, (27, 0, a0)), (1, (0, a1, 0)), (2, (0, a2, 0)), (3, (0, (-1), 0))]) rfl ?_
  refine g_iconst ok (v := (-1)) rfl ?_
  refine g_istore ok rfl (L' := [(0, (27, 0, a0)), (1, (0, a1, 0)), (2, (0, a2, 0)), (3, (0, (-1), 0)), (4, (0, (-1), 0))]) rfl ?_
  refine g_iconst ok (v := 0) rfl ?_
  refine g_istore ok rfl (L' := [(0, (27, 0, a0)), (1, (0, a1, 0)), (2, (0, a2, 0)), (3, (0, (-1), 0)), (4, (0, (-1), 0)), (5, (0, 0, 0))]) rfl ?_
  exact g_wk ok [(0, (27, 0, a0)), (1, (0, a1, 0)), (2, (0, a2, 0)), (3, (0, (-1), 0)), (4, (0, (-1), 0)), (5, (0, 0, 0))] ⟨rfl, rfl, rfl, rfl, rfl, rfl, trivial⟩ (tl_112_13 ok hX d  (a0, a1, a2, (-1), (-1), 0, s1))
-- X11_slips
theorem ts_113_9 {X : gX} (ok : gOK X) (hX : gHX X) (d : Nat) {k9 : (Nat × Int × Int × Int × gS) ⊕ gO → Option gO} (hl9 : ∀ y : (Nat × Int × Int × Int × gS), Go X em_113 113 (d + 1) 9 [] [(0, (27, 0, y.1)), (1, (0, y.2.1, 0)), (2, (0, y.2.2.1, 0)), (3, (0, y.2.2.2.1, 0))] [] y.2.2.2.2 1 6 (some (Sum.inl y)) k9) (hr9 : ∀ q, k9 (Sum.inr q) = some q) (x0 : Nat) (x1 : Int) (x2 : Int) (x3 : Int) (s : gS) : Go X em_113 113 (d + 1) 9 [] [(0, (27, 0, x0)), (1, (0, x1, 0)), (2, (0, x2, 0)), (3, (0, x3, 0))] [] s 1 6 (sb_113_9 x0 x1 x2 x3 s) k9 := by
  delta sb_113_9
  refine g_rb gs_113 1 (cd' := gb_113_9) rfl rfl ?_
  refine g_iload_n ok rfl ?_
  refine g_aload_n ok rfl rfl ?_
  refine g_getr ok 16 rfl rfl rfl ?_
  refine g_geti ok rfl rfl ?_
  refine g_ic_ge ok rfl (fun _ => ?_) (fun _ => ?_)
  · refine g_rb gs_113 2 (cd' := gb_113_20) rfl rfl ?_
    refine g_aload_n ok rfl rfl ?_
    refine g_getr ok 16 rfl rfl rfl ?_
    refine g_iload_n ok rfl ?_
    refine g_aload_n ok rfl rfl ?_
    refine g_getr ok 18 rfl rfl rfl ?_
    refine g_getr ok 168 rfl rfl rfl ?_
    refine g_iload_n ok rfl ?_
    refine g_aaload4 ok (n := 6) rfl rfl (fun _ _ => ?_)
    refine g_geti ok rfl rfl ?_
    refine g_cvz ok (me_4 hX) rfl rfl rfl rfl (t_4 ok hX _ (gR s x0 4) x3 (gI s (gR s (gR s (gR s x0 5) 0) (x1 : Int).toNat) 2) s) (fun v4 s3 hb5 => ?_)
    refine g_if_ne ok rfl (fun _ => ?_) (fun _ => ?_)
    · refine g_rb gs_113 3 (cd' := gb_113_43) rfl rfl ?_
      refine g_iload_n ok rfl ?_
      refine g_iconst ok (v := 1) rfl ?_
      refine g_iload_n ok rfl ?_
      refine g_ishl ok ?_
      refine g_ior ok ?_
      let v6 : Int := (gor x2 (gshl 1 x3))
      refine g_istore_n ok rfl (L' := [(0, (27, 0, x0)), (1, (0, x1, 0)), (2, (0, v6, 0)), (3, (0, x3, 0))]) rfl ?_
      refine g_rb gs_113 4 (cd' := gb_113_49) rfl rfl ?_
      refine g_iinc ok rfl rfl (L' := [(0, (27, 0, x0)), (1, (0, x1, 0)), (2, (0, v6, 0)), (3, (0, (g32 (x3 + 1)), 0))]) rfl ?_
      refine g_goto ok rfl ?_
      exact g_wk ok [(0, (27, 0, x0)), (1, (0, x1, 0)), (2, (0, v6, 0)), (3, (0, (g32 (x3 + 1)), 0))] ⟨rfl, rfl, rfl, rfl, trivial⟩ (hl9 (x0, x1, v6, (g32 (x3 + 1)), s3))
    · refine g_rb gs_113 4 (cd' := gb_113_49) rfl rfl ?_
      refine g_iinc ok rfl rfl (L' := [(0, (27, 0, x0)), (1, (0, x1, 0)), (2, (0, x2, 0)), (3, (0, (g32 (x3 + 1)), 0))]) rfl ?_
      refine g_goto ok rfl ?_
      exact g_wk ok [(0, (27, 0, x0)), (1, (0, x1, 0)), (2, (0, x2, 0)), (3, (0, (g32 (x3 + 1)), 0))] ⟨rfl, rfl, rfl, rfl, trivial⟩ (hl9 (x0, x1, x2, (g32 (x3 + 1)), s3))
  · refine g_map hr9 ?_
    refine g_rb gs_113 5 (cd' := gb_113_55) rfl rfl ?_
    refine g_iload_n ok rfl ?_
    exact g_ireturn ok rfl rfl (rfl)
theorem tl_113_9 {X : gX} (ok : gOK X) (hX : gHX X) (d : Nat)  (y : (Nat × Int × Int × Int × gS)) : Go X em_113 113 (d + 1) 9 [] [(0, (27, 0, y.1)), (1, (0, y.2.1, 0)), (2, (0, y.2.2.1, 0)), (3, (0, y.2.2.2.1, 0))] [] y.2.2.2.2 1 6 (gloop (st_113_9) y) some :=
  g_loop (Lh := fun y => [(0, (27, 0, y.1)), (1, (0, y.2.1, 0)), (2, (0, y.2.2.1, 0)), (3, (0, y.2.2.2.1, 0))]) (sh := fun y => y.2.2.2.2) (fun k9 hl9 hr9 y => ts_113_9 ok hX d  hl9 hr9 y.1 y.2.1 y.2.2.1 y.2.2.2.1 y.2.2.2.2) y
theorem t_113 {X : gX} (ok : gOK X) (hX : gHX X) (d : Nat) (a0 : Nat) (a1 : Int) (s : gS) : Go X em_113 113 (d + 1) 0 [] [(0, (27, 0, a0)), (1, (0, a1, 0))] [] s 0 0 (f_113 a0 a1 s) some := by
  delta f_113
  refine g_rb gs_113 0 (cd' := gb_113_0) rfl rfl ?_
  refine g_aload_n ok rfl rfl ?_
  refine g_iload_n ok rfl ?_
  refine g_cvt0 ok (me_135 hX) rfl rfl rfl rfl rfl (fun _ => rfl) (t_135 ok hX _ a0 a1 s) (fun s1 => ?_)
  refine g_iconst ok (v := 0) rfl ?_
  refine g_istore_n ok rfl (L' := [(0, (27, 0, a0)), (1, (0, a1, 0)), (2, (0, 0, 0))]) rfl ?_
  refine g_iconst ok (v := 0) rfl ?_
  refine g_istore_n ok rfl (L' := [(0, (27, 0, a0)), (1, (0, a1, 0)), (2, (0, 0, 0)), (3, (0, 0, 0))]) rfl ?_
  exact g_wk ok [(0, (27, 0, a0)), (1, (0, a1, 0)), (2, (0, 0, 0)), (3, (0, 0, 0))] ⟨rfl, rfl, rfl, rfl, trivial⟩ (tl_113_9 ok hX d  (a0, a1, 0, 0, s1))
-- X11_isTale
theorem ts_143_16 {X : gX} (ok : gOK X) (hX : gHX X) (d : Nat) {k16 : (Nat × Int × Int × gS) ⊕ gO → Option gO} (hl16 : ∀ y : (Nat × Int × Int × gS), Go X em_143 143 d 16 [] [(0, (27, 0, y.1)), (1, (0, y.2.1, 0)), (2, (0, y.2.2.1, 0))] [] y.2.2.2 0 0 (some (Sum.inl y)) k16) (hr16 : ∀ q, k16 (Sum.inr q) = some q) (x0 : Nat) (x1 : Int) (x2 : Int) (s : gS) : Go X em_143 143 d 16 [] [(0, (27, 0, x0)), (1, (0, x1, 0)), (2, (0, x2, 0))] [] s 0 0 (sb_143_16 x0 x1 x2 s) k16 := by
  delta sb_143_16
  refine g_rb gs_143 4 (cd' := gb_143_16) rfl rfl ?_
  refine g_iload_n ok rfl ?_
  refine g_iconst ok (v := 1) rfl ?_
  refine g_iadd ok ?_
  refine g_iload_n ok rfl ?_
  refine g_ic_ge ok rfl (fun _ => ?_) (fun _ => ?_)
  · refine g_rb gs_143 5 (cd' := gb_143_23) rfl rfl ?_
    refine g_aload_n ok rfl rfl ?_
    refine g_getr ok 26 rfl rfl rfl ?_
    refine g_getr ok 3316 rfl rfl rfl ?_
    refine g_iload_n ok rfl ?_
    refine g_iaload ok (n := 400) rfl rfl (fun _ _ => ?_)
    refine g_aload_n ok rfl rfl ?_
    refine g_getr ok 16 rfl rfl rfl ?_
    refine g_geti ok rfl rfl ?_
    refine g_ic_ge ok rfl (fun _ => ?_) (fun _ => ?_)
    · refine g_rb gs_143 6 (cd' := gb_143_42) rfl rfl ?_
      refine g_aload_n ok rfl rfl ?_
      refine g_getr ok 26 rfl rfl rfl ?_
      refine g_getr ok 3316 rfl rfl rfl ?_
      refine g_iload_n ok rfl ?_
      refine g_iconst ok (v := 1) rfl ?_
      refine g_iadd ok ?_
      refine g_iaload ok (n := 400) rfl rfl (fun _ _ => ?_)
      refine g_iconst ok (v := 1) rfl ?_
      refine g_ic_le ok rfl (fun _ => ?_) (fun _ => ?_)
      · refine g_map hr16 ?_
        refine g_rb gs_143 7 (cd' := gb_143_57) rfl rfl ?_
        refine g_iconst ok (v := 0) rfl ?_
        exact g_zreturn ok rfl (Or.inl rfl) rfl (rfl)
      · refine g_rb gs_143 8 (cd' := gb_143_59) rfl rfl ?_
        refine g_iinc ok rfl rfl (L' := [(0, (27, 0, x0)), (1, (0, x1, 0)), (2, (0, (g32 (x2 + 2)), 0))]) rfl ?_
        refine g_goto ok rfl ?_
        exact g_wk ok [(0, (27, 0, x0)), (1, (0, x1, 0)), (2, (0, (g32 (x2 + 2)), 0))] ⟨rfl, rfl, rfl, trivial⟩ (hl16 (x0, x1, (g32 (x2 + 2)), s))
    · refine g_map hr16 ?_
      refine g_rb gs_143 7 (cd' := gb_143_57) rfl rfl ?_
      refine g_iconst ok (v := 0) rfl ?_
      exact g_zreturn ok rfl (Or.inl rfl) rfl (rfl)
  · refine g_map hr16 ?_
    refine g_rb gs_143 9 (cd' := gb_143_65) rfl rfl ?_
    refine g_iconst ok (v := 1) rfl ?_
    exact g_zreturn ok rfl (Or.inr rfl) rfl (rfl)
theorem tl_143_16 {X : gX} (ok : gOK X) (hX : gHX X) (d : Nat)  (y : (Nat × Int × Int × gS)) : Go X em_143 143 d 16 [] [(0, (27, 0, y.1)), (1, (0, y.2.1, 0)), (2, (0, y.2.2.1, 0))] [] y.2.2.2 0 0 (gloop (st_143_16) y) some :=
  g_loop (Lh := fun y => [(0, (27, 0, y.1)), (1, (0, y.2.1, 0)), (2, (0, y.2.2.1, 0))]) (sh := fun y => y.2.2.2) (fun k16 hl16 hr16 y => ts_143_16 ok hX d  hl16 hr16 y.1 y.2.1 y.2.2.1 y.2.2.2) y
theorem t_143 {X : gX} (ok : gOK X) (hX : gHX X) (d : Nat) (a0 : Nat) (a1 : Int) (s : gS) : Go X em_143 143 d 0 [] [(0, (27, 0, a0)), (1, (0, a1, 0))] [] s 0 0 (f_143 a0 a1 s) some := by
  delta f_143
  refine g_rb gs_143 0 (cd' := gb_143_0) rfl rfl ?_
  refine g_iload_n ok rfl ?_
  refine g_bipush ok (v := 40) rfl ?_
  refine g_ic_gt ok rfl (fun _ => ?_) (fun _ => ?_)
  · refine g_rb gs_143 2 (cd' := gb_143_12) rfl rfl ?_
    refine g_iconst ok (v := 0) rfl ?_
    exact g_zreturn ok rfl (Or.inl rfl) rfl (rfl)
  · refine g_rb gs_143 1 (cd' := gb_143_6) rfl rfl ?_
    refine g_iload_n ok rfl ?_
    refine g_iconst ok (v := 2) rfl ?_
    refine g_irem ok (by decide) ?_
    refine g_if_eq ok rfl (fun _ => ?_) (fun _ => ?_)
    · refine g_rb gs_143 3 (cd' := gb_143_14) rfl rfl ?_
      refine g_iconst ok (v := 0) rfl ?_
      refine g_istore_n ok rfl (L' := [(0, (27, 0, a0)), (1, (0, a1, 0)), (2, (0, 0, 0))]) rfl ?_
      exact g_wk ok [(0, (27, 0, a0)), (1, (0, a1, 0)), (2, (0, 0, 0))] ⟨rfl, rfl, rfl, trivial⟩ (tl_143_16 ok hX d  (a0, a1, 0, s))
    · refine g_rb gs_143 2 (cd' := gb_143_12) rfl rfl ?_
      refine g_iconst ok (v := 0) rfl ?_
      exact g_zreturn ok rfl (Or.inl rfl) rfl (rfl)
-- X11_fitsTale
theorem tb_144_46 {X : gX} (ok : gOK X) (hX : gHX X) (d : Nat) {k2 : (Nat × Int × Int × Int × gS) ⊕ gO → Option gO} (hl2 : ∀ y : (Nat × Int × Int × Int × gS), Go X em_144 144 (d + 1) 2 [] [(0, (27, 0, y.1)), (1, (0, y.2.1, 0)), (2, (0, y.2.2.1, 0)), (3, (0, y.2.2.2.1, 0))] [] y.2.2.2.2 0 0 (some (Sum.inl y)) k2) (hr2 : ∀ q, k2 (Sum.inr q) = some q) (x0 : Nat) (x1 : Int) (x2 : Int) (x3 : Int) (w0 : Int) (w1 : Int) (s : gS) : Go X em_144 144 (d + 1) 46 [] [(0, (27, 0, x0)), (1, (0, x1, 0)), (2, (0, x2, 0)), (3, (0, x3, 0))] [(0, w0, 0), (0, w1, 0)] s 0 0 (fb_144_46 x0 x1 x2 x3 w0 w1 s) k2 := by
  delta fb_144_46
  refine g_rb gs_144 5 (cd' := gb_144_46) rfl rfl ?_
  refine g_ic_eq ok rfl (fun _ => ?_) (fun _ => ?_)
  · refine g_rb gs_144 7 (cd' := gb_144_51) rfl rfl ?_
    refine g_iinc ok rfl rfl (L' := [(0, (27, 0, x0)), (1, (0, x1, 0)), (2, (0, x2, 0)), (3, (0, (g32 (x3 + 2)), 0))]) rfl ?_
    refine g_goto ok rfl ?_
    exact g_wk ok [(0, (27, 0, x0)), (1, (0, x1, 0)), (2, (0, x2, 0)), (3, (0, (g32 (x3 + 2)), 0))] ⟨rfl, rfl, rfl, rfl, trivial⟩ (hl2 (x0, x1, x2, (g32 (x3 + 2)), s))
  · refine g_map hr2 ?_
    refine g_rb gs_144 6 (cd' := gb_144_49) rfl rfl ?_
    refine g_iconst ok (v := 0) rfl ?_
    exact g_zreturn ok rfl (Or.inl rfl) rfl (rfl)
theorem ts_144_2 {X : gX} (ok : gOK X) (hX : gHX X) (d : Nat) {k2 : (Nat × Int × Int × Int × gS) ⊕ gO → Option gO} (hl2 : ∀ y : (Nat × Int × Int × Int × gS), Go X em_144 144 (d + 1) 2 [] [(0, (27, 0, y.1)), (1, (0, y.2.1, 0)), (2, (0, y.2.2.1, 0)), (3, (0, y.2.2.2.1, 0))] [] y.2.2.2.2 0 0 (some (Sum.inl y)) k2) (hr2 : ∀ q, k2 (Sum.inr q) = some q) (x0 : Nat) (x1 : Int) (x2 : Int) (x3 : Int) (s : gS) : Go X em_144 144 (d + 1) 2 [] [(0, (27, 0, x0)), (1, (0, x1, 0)), (2, (0, x2, 0)), (3, (0, x3, 0))] [] s 0 0 (sb_144_2 x0 x1 x2 x3 s) k2 := by
  delta sb_144_2
  refine g_rb gs_144 1 (cd' := gb_144_2) rfl rfl ?_
  refine g_iload_n ok rfl ?_
  refine g_iconst ok (v := 1) rfl ?_
  refine g_iadd ok ?_
  refine g_iload_n ok rfl ?_
  refine g_ic_ge ok rfl (fun _ => ?_) (fun _ => ?_)
  · refine g_rb gs_144 2 (cd' := gb_144_9) rfl rfl ?_
    refine g_aload_n ok rfl rfl ?_
    refine g_getr ok 16 rfl rfl rfl ?_
    refine g_aload_n ok rfl rfl ?_
    refine g_getr ok 26 rfl rfl rfl ?_
    refine g_getr ok 3316 rfl rfl rfl ?_
    refine g_iload_n ok rfl ?_
    refine g_iaload ok (n := 400) rfl rfl (fun _ _ => ?_)
    refine g_iload_n ok rfl ?_
    refine g_cvz ok (me_4 hX) rfl rfl rfl rfl (t_4 ok hX _ (gR s x0 4) (gI s (gR s (gR s x0 0) 0) (x3 : Int).toNat) x1 s) (fun v2 s1 hb3 => ?_)
    refine g_aload_n ok rfl rfl ?_
    refine g_getr ok 26 rfl rfl rfl ?_
    refine g_getr ok 3316 rfl rfl rfl ?_
    refine g_iload_n ok rfl ?_
    refine g_iconst ok (v := 1) rfl ?_
    refine g_iadd ok ?_
    refine g_iaload ok (n := 400) rfl rfl (fun _ _ => ?_)
    refine g_iconst ok (v := 1) rfl ?_
    refine g_ic_ne ok rfl (fun _ => ?_) (fun _ => ?_)
    · refine g_rb gs_144 3 (cd' := gb_144_41) rfl rfl ?_
      refine g_iconst ok (v := 1) rfl ?_
      refine g_goto ok rfl ?_
      exact g_wk ok [(0, (27, 0, x0)), (1, (0, x1, 0)), (2, (0, x2, 0)), (3, (0, x3, 0))] ⟨rfl, rfl, rfl, rfl, trivial⟩ (tb_144_46 ok hX d hl2 hr2 x0 x1 x2 x3 1 v2 s1)
    · refine g_rb gs_144 4 (cd' := gb_144_45) rfl rfl ?_
      refine g_iconst ok (v := 0) rfl ?_
      exact g_wk ok [(0, (27, 0, x0)), (1, (0, x1, 0)), (2, (0, x2, 0)), (3, (0, x3, 0))] ⟨rfl, rfl, rfl, rfl, trivial⟩ (tb_144_46 ok hX d hl2 hr2 x0 x1 x2 x3 0 v2 s1)
  · refine g_map hr2 ?_
    refine g_rb gs_144 8 (cd' := gb_144_57) rfl rfl ?_
    refine g_iconst ok (v := 1) rfl ?_
    exact g_zreturn ok rfl (Or.inr rfl) rfl (rfl)
theorem tl_144_2 {X : gX} (ok : gOK X) (hX : gHX X) (d : Nat)  (y : (Nat × Int × Int × Int × gS)) : Go X em_144 144 (d + 1) 2 [] [(0, (27, 0, y.1)), (1, (0, y.2.1, 0)), (2, (0, y.2.2.1, 0)), (3, (0, y.2.2.2.1, 0))] [] y.2.2.2.2 0 0 (gloop (st_144_2) y) some :=
  g_loop (Lh := fun y => [(0, (27, 0, y.1)), (1, (0, y.2.1, 0)), (2, (0, y.2.2.1, 0)), (3, (0, y.2.2.2.1, 0))]) (sh := fun y => y.2.2.2.2) (fun k2 hl2 hr2 y => ts_144_2 ok hX d  hl2 hr2 y.1 y.2.1 y.2.2.1 y.2.2.2.1 y.2.2.2.2) y
theorem t_144 {X : gX} (ok : gOK X) (hX : gHX X) (d : Nat) (a0 : Nat) (a1 : Int) (a2 : Int) (s : gS) : Go X em_144 144 (d + 1) 0 [] [(0, (27, 0, a0)), (1, (0, a1, 0)), (2, (0, a2, 0))] [] s 0 0 (f_144 a0 a1 a2 s) some := by
  delta f_144
  refine g_rb gs_144 0 (cd' := gb_144_0) rfl rfl ?_
  refine g_iconst ok (v := 0) rfl ?_
  refine g_istore_n ok rfl (L' := [(0, (27, 0, a0)), (1, (0, a1, 0)), (2, (0, a2, 0)), (3, (0, 0, 0))]) rfl ?_
  exact g_wk ok [(0, (27, 0, a0)), (1, (0, a1, 0)), (2, (0, a2, 0)), (3, (0, 0, 0))] ⟨rfl, rfl, rfl, rfl, trivial⟩ (tl_144_2 ok hX d  (a0, a1, a2, 0, s))
-- X11_takeFittingSets
theorem ts_142_40 {X : gX} (ok : gOK X) (hX : gHX X) (d : Nat) {k40 : (Nat × Int × Int × Int × gS) ⊕ gO → Option gO} (hl40 : ∀ y : (Nat × Int × Int × Int × gS), Go X em_142 142 (d + 2) 40 [] [(0, (27, 0, y.1)), (1, (0, y.2.1, 0)), (2, (2, y.2.2.1, 0)), (4, (0, y.2.2.2.1, 0))] [] y.2.2.2.2 0 0 (some (Sum.inl y)) k40) (hr40 : ∀ q, k40 (Sum.inr q) = some q) (x0 : Nat) (x1 : Int) (x2 : Int) (x4 : Int) (s : gS) : Go X em_142 142 (d + 2) 40 [] [(0, (27, 0, x0)), (1, (0, x1, 0)), (2, (2, x2, 0)), (4, (0, x4, 0))] [] s 0 0 (sb_142_40 x0 x1 x2 x4 s) k40 := by
  delta sb_142_40
  refine g_rb gs_142 3 (cd' := gb_142_40) rfl rfl ?_
  refine g_iload ok rfl ?_
  refine g_bipush ok (v := 64) rfl ?_
  refine g_ic_ge ok rfl (fun _ => ?_) (fun _ => ?_)
  · refine g_rb gs_142 4 (cd' := gb_142_47) rfl rfl ?_
    refine g_aload_n ok rfl rfl ?_
    refine g_iload ok rfl ?_
    refine g_iload_n ok rfl ?_
    refine g_cvz ok (me_144 hX) rfl rfl rfl rfl (t_144 ok hX _ x0 x4 x1 s) (fun v7 s6 hb8 => ?_)
    refine g_if_eq ok rfl (fun _ => ?_) (fun _ => ?_)
    · refine g_rb gs_142 6 (cd' := gb_142_64) rfl rfl ?_
      refine g_iinc ok rfl rfl (L' := [(0, (27, 0, x0)), (1, (0, x1, 0)), (2, (2, x2, 0)), (4, (0, (g32 (x4 + 1)), 0))]) rfl ?_
      refine g_goto ok rfl ?_
      exact g_wk ok [(0, (27, 0, x0)), (1, (0, x1, 0)), (2, (2, x2, 0)), (4, (0, (g32 (x4 + 1)), 0))] ⟨rfl, rfl, rfl, rfl, trivial⟩ (hl40 (x0, x1, x2, (g32 (x4 + 1)), s6))
    · refine g_rb gs_142 5 (cd' := gb_142_57) rfl rfl ?_
      refine g_lload_n ok rfl ?_
      refine g_lconst ok (v := 1) rfl ?_
      refine g_iload ok rfl ?_
      refine g_lshl ok ?_
      refine g_lor ok ?_
      let v9 : Int := (glor x2 (glshl 1 x4))
      refine g_lstore_n ok rfl (L' := [(0, (27, 0, x0)), (1, (0, x1, 0)), (2, (2, v9, 0)), (4, (0, x4, 0))]) rfl ?_
      refine g_rb gs_142 6 (cd' := gb_142_64) rfl rfl ?_
      refine g_iinc ok rfl rfl (L' := [(0, (27, 0, x0)), (1, (0, x1, 0)), (2, (2, v9, 0)), (4, (0, (g32 (x4 + 1)), 0))]) rfl ?_
      refine g_goto ok rfl ?_
      exact g_wk ok [(0, (27, 0, x0)), (1, (0, x1, 0)), (2, (2, v9, 0)), (4, (0, (g32 (x4 + 1)), 0))] ⟨rfl, rfl, rfl, rfl, trivial⟩ (hl40 (x0, x1, v9, (g32 (x4 + 1)), s6))
  · refine g_map hr40 ?_
    refine g_rb gs_142 7 (cd' := gb_142_70) rfl rfl ?_
    refine g_lload_n ok rfl ?_
    exact g_lreturn ok rfl rfl (rfl)
theorem tl_142_40 {X : gX} (ok : gOK X) (hX : gHX X) (d : Nat)  (y : (Nat × Int × Int × Int × gS)) : Go X em_142 142 (d + 2) 40 [] [(0, (27, 0, y.1)), (1, (0, y.2.1, 0)), (2, (2, y.2.2.1, 0)), (4, (0, y.2.2.2.1, 0))] [] y.2.2.2.2 0 0 (gloop (st_142_40) y) some :=
  g_loop (Lh := fun y => [(0, (27, 0, y.1)), (1, (0, y.2.1, 0)), (2, (2, y.2.2.1, 0)), (4, (0, y.2.2.2.1, 0))]) (sh := fun y => y.2.2.2.2) (fun k40 hl40 hr40 y => ts_142_40 ok hX d  hl40 hr40 y.1 y.2.1 y.2.2.1 y.2.2.2.1 y.2.2.2.2) y
theorem t_142 {X : gX} (ok : gOK X) (hX : gHX X) (d : Nat) (a0 : Nat) (s : gS) : Go X em_142 142 (d + 2) 0 [] [(0, (27, 0, a0))] [] s 0 0 (f_142 a0 s) some := by
  delta f_142
  refine g_rb gs_142 0 (cd' := gb_142_0) rfl rfl ?_
  refine g_aload_n ok rfl rfl ?_
  refine g_getr ok 26 rfl rfl rfl ?_
  refine g_geti ok rfl rfl ?_
  let v1 : Int := (gI s (gR s a0 0) 1)
  refine g_istore_n ok rfl (L' := [(0, (27, 0, a0)), (1, (0, v1, 0))]) rfl ?_
  refine g_aload_n ok rfl rfl ?_
  refine g_getr ok 26 rfl rfl rfl ?_
  refine g_iconst ok (v := 0) rfl ?_
  refine g_puti ok rfl rfl rfl ?_
  let s2 : gS := gw s (gR s a0 0) 1 0
  refine g_aload_n ok rfl rfl ?_
  refine g_iload_n ok rfl ?_
  refine g_cvz ok (me_143 hX) rfl rfl rfl rfl (t_143 ok hX _ a0 v1 s2) (fun v4 s3 hb5 => ?_)
  refine g_if_ne ok rfl (fun _ => ?_) (fun _ => ?_)
  · refine g_rb gs_142 1 (cd' := gb_142_24) rfl rfl ?_
    exact g_throw ok rfl rfl (rfl)
  · refine g_rb gs_142 2 (cd' := gb_142_35) rfl rfl ?_
    refine g_lconst ok (v := 0) rfl ?_
    refine g_lstore_n ok rfl (L' := [(0, (27, 0, a0)), (1, (0, v1, 0)), (2, (2, 0, 0))]) rfl ?_
    refine g_iconst ok (v := 1) rfl ?_
    refine g_istore ok rfl (L' := [(0, (27, 0, a0)), (1, (0, v1, 0)), (2, (2, 0, 0)), (4, (0, 1, 0))]) rfl ?_
    exact g_wk ok [(0, (27, 0, a0)), (1, (0, v1, 0)), (2, (2, 0, 0)), (4, (0, 1, 0))] ⟨rfl, rfl, rfl, rfl, trivial⟩ (tl_142_40 ok hX d  (a0, v1, 0, 1, s3))
-- J13_bitCount_95d88
theorem t_265 {X : gX} (ok : gOK X) (hX : gHX X) (d : Nat) (a0 : Int) (s : gS) : Go X em_265 265 d 0 [] [(0, (2, a0, 0))] [] s 0 0 (f_265 a0 s) some := by
  delta f_265
  refine g_rb gs_265 0 (cd' := gb_265_0) rfl rfl ?_
  refine g_lload_n ok rfl ?_
  refine g_lload_n ok rfl ?_
  refine g_iconst ok (v := 1) rfl ?_
  refine g_lushr ok ?_
  refine g_ldc2 ok (v := 6148914691236517205) (by decide) ?_ (by decide) (by decide)
  refine g_land ok ?_
  refine g_lsub ok ?_
  let v1 : Int := (g64 (a0 - (gland (glushr a0 1) 6148914691236517205)))
  refine g_lstore_n ok rfl (L' := [(0, (2, v1, 0))]) rfl ?_
  refine g_lload_n ok rfl ?_
  refine g_ldc2 ok (v := 3689348814741910323) (by decide) ?_ (by decide) (by decide)
  refine g_land ok ?_
  refine g_lload_n ok rfl ?_
  refine g_iconst ok (v := 2) rfl ?_
  refine g_lushr ok ?_
  refine g_ldc2 ok (v := 3689348814741910323) (by decide) ?_ (by decide) (by decide)
  refine g_land ok ?_
  refine g_ladd ok ?_
  let v2 : Int := (g64 ((gland v1 3689348814741910323) + (gland (glushr v1 2) 3689348814741910323)))
  refine g_lstore_n ok rfl (L' := [(0, (2, v2, 0))]) rfl ?_
  refine g_lload_n ok rfl ?_
  refine g_lload_n ok rfl ?_
  refine g_iconst ok (v := 4) rfl ?_
  refine g_lushr ok ?_
  refine g_ladd ok ?_
  refine g_ldc2 ok (v := 1085102592571150095) (by decide) ?_ (by decide) (by decide)
  refine g_land ok ?_
  let v3 : Int := (gland (g64 (v2 + (glushr v2 4))) 1085102592571150095)
  refine g_lstore_n ok rfl (L' := [(0, (2, v3, 0))]) rfl ?_
  refine g_lload_n ok rfl ?_
  refine g_lload_n ok rfl ?_
  refine g_bipush ok (v := 8) rfl ?_
  refine g_lushr ok ?_
  refine g_ladd ok ?_
  let v4 : Int := (g64 (v3 + (glushr v3 8)))
  refine g_lstore_n ok rfl (L' := [(0, (2, v4, 0))]) rfl ?_
  refine g_lload_n ok rfl ?_
  refine g_lload_n ok rfl ?_
  refine g_bipush ok (v := 16) rfl ?_
  refine g_lushr ok ?_
  refine g_ladd ok ?_
  let v5 : Int := (g64 (v4 + (glushr v4 16)))
  refine g_lstore_n ok rfl (L' := [(0, (2, v5, 0))]) rfl ?_
  refine g_lload_n ok rfl ?_
  refine g_lload_n ok rfl ?_
  refine g_bipush ok (v := 32) rfl ?_
  refine g_lushr ok ?_
  refine g_ladd ok ?_
  let v6 : Int := (g64 (v5 + (glushr v5 32)))
  refine g_lstore_n ok rfl (L' := [(0, (2, v6, 0))]) rfl ?_
  refine g_lload_n ok rfl ?_
  refine g_l2i ok ?_
  refine g_bipush ok (v := 127) rfl ?_
  refine g_iand ok ?_
  exact g_ireturn ok rfl rfl (rfl)
-- X11_seen
theorem ts_114_29 {X : gX} (ok : gOK X) (hX : gHX X) (d : Nat) {k29 : (Int × Int × Int × gS) ⊕ gO → Option gO} (hl29 : ∀ y : (Int × Int × Int × gS), Go X em_114 114 (d + 3) 29 [] [(2, (2, y.1, 0)), (4, (0, y.2.1, 0)), (5, (0, y.2.2.1, 0))] [] y.2.2.2 1 6 (some (Sum.inl y)) k29) (hr29 : ∀ q, k29 (Sum.inr q) = some q) (x2 : Int) (x4 : Int) (x5 : Int) (s : gS) : Go X em_114 114 (d + 3) 29 [] [(2, (2, x2, 0)), (4, (0, x4, 0)), (5, (0, x5, 0))] [] s 1 6 (sb_114_29 x2 x4 x5 s) k29 := by
  delta sb_114_29
  refine g_rb gs_114 5 (cd' := gb_114_29) rfl rfl ?_
  refine g_iload ok rfl ?_
  refine g_bipush ok (v := 64) rfl ?_
  refine g_ic_ge ok rfl (fun _ => ?_) (fun _ => ?_)
  · refine g_rb gs_114 6 (cd' := gb_114_36) rfl rfl ?_
    refine g_lload_n ok rfl ?_
    refine g_iload ok rfl ?_
    refine g_lshr ok ?_
    refine g_lconst ok (v := 1) rfl ?_
    refine g_land ok ?_
    refine g_lconst ok (v := 0) rfl ?_
    refine g_lcmp ok ?_
    refine g_if_eq ok rfl (fun _ => ?_) (fun _ => ?_)
    · refine g_rb gs_114 8 (cd' := gb_114_54) rfl rfl ?_
      refine g_iinc ok rfl rfl (L' := [(2, (2, x2, 0)), (4, (0, x4, 0)), (5, (0, (g32 (x5 + 1)), 0))]) rfl ?_
      refine g_goto ok rfl ?_
      exact g_wk ok [(2, (2, x2, 0)), (4, (0, x4, 0)), (5, (0, (g32 (x5 + 1)), 0))] ⟨rfl, rfl, rfl, trivial⟩ (hl29 (x2, x4, (g32 (x5 + 1)), s))
    · refine g_rb gs_114 7 (cd' := gb_114_47) rfl rfl ?_
      refine g_iload ok rfl ?_
      refine g_iload ok rfl ?_
      refine g_iand ok ?_
      refine g_istore ok rfl (L' := [(2, (2, x2, 0)), (4, (0, (gand x4 x5), 0)), (5, (0, x5, 0))]) rfl ?_
      refine g_rb gs_114 8 (cd' := gb_114_54) rfl rfl ?_
      refine g_iinc ok rfl rfl (L' := [(2, (2, x2, 0)), (4, (0, (gand x4 x5), 0)), (5, (0, (g32 (x5 + 1)), 0))]) rfl ?_
      refine g_goto ok rfl ?_
      exact g_wk ok [(2, (2, x2, 0)), (4, (0, (gand x4 x5), 0)), (5, (0, (g32 (x5 + 1)), 0))] ⟨rfl, rfl, rfl, trivial⟩ (hl29 (x2, (gand x4 x5), (g32 (x5 + 1)), s))
  · refine g_map hr29 ?_
    refine g_rb gs_114 9 (cd' := gb_114_60) rfl rfl ?_
    refine g_iload ok rfl ?_
    exact g_ireturn ok rfl rfl (rfl)
theorem tl_114_29 {X : gX} (ok : gOK X) (hX : gHX X) (d : Nat)  (y : (Int × Int × Int × gS)) : Go X em_114 114 (d + 3) 29 [] [(2, (2, y.1, 0)), (4, (0, y.2.1, 0)), (5, (0, y.2.2.1, 0))] [] y.2.2.2 1 6 (gloop (st_114_29) y) some :=
  g_loop (Lh := fun y => [(2, (2, y.1, 0)), (4, (0, y.2.1, 0)), (5, (0, y.2.2.1, 0))]) (sh := fun y => y.2.2.2) (fun k29 hl29 hr29 y => ts_114_29 ok hX d  hl29 hr29 y.1 y.2.1 y.2.2.1 y.2.2.2) y
theorem t_114 {X : gX} (ok : gOK X) (hX : gHX X) (d : Nat) (a0 : Nat) (a1 : Int) (s : gS) : Go X em_114 114 (d + 3) 0 [] [(0, (27, 0, a0)), (1, (0, a1, 0))] [] s 0 0 (f_114 a0 a1 s) some := by
  delta f_114
  refine g_rb gs_114 0 (cd' := gb_114_0) rfl rfl ?_
  refine g_aload_n ok rfl rfl ?_
  refine g_cvt1 ok (me_142 hX) rfl rfl rfl (tg := 2) rfl (Or.inr rfl) rfl rfl (fun _ => rfl) (t_142 ok hX _ a0 s) (fun v2 s1 => ?_)
  refine g_lstore_n ok rfl (L' := [(0, (27, 0, a0)), (1, (0, a1, 0)), (2, (2, v2, 0))]) rfl ?_
  refine g_iload_n ok rfl ?_
  refine g_if_ne ok rfl (fun _ => ?_) (fun _ => ?_)
  · refine g_rb gs_114 1 (cd' := gb_114_9) rfl rfl ?_
    refine g_lload_n ok rfl ?_
    refine g_cs1 ok (me_265 hX) rfl rfl rfl (t_265 ok hX _ v2 s1) (fun v4 s3 => ?_)
    exact g_ireturn ok rfl rfl (rfl)
  · refine g_rb gs_114 2 (cd' := gb_114_14) rfl rfl ?_
    refine g_lload_n ok rfl ?_
    refine g_lconst ok (v := 0) rfl ?_
    refine g_lcmp ok ?_
    refine g_if_ne ok rfl (fun _ => ?_) (fun _ => ?_)
    · refine g_rb gs_114 3 (cd' := gb_114_20) rfl rfl ?_
      refine g_iconst ok (v := 0) rfl ?_
      exact g_ireturn ok rfl rfl (rfl)
    · refine g_rb gs_114 4 (cd' := gb_114_22) rfl rfl ?_
      refine g_bipush ok (v := 63) rfl ?_
      refine g_istore ok rfl (L' := [(0, (27, 0, a0)), (1, (0, a1, 0)), (2, (2, v2, 0)), (4, (0, 63, 0))]) rfl ?_
      refine g_iconst ok (v := 1) rfl ?_
      refine g_istore ok rfl (L' := [(0, (27, 0, a0)), (1, (0, a1, 0)), (2, (2, v2, 0)), (4, (0, 63, 0)), (5, (0, 1, 0))]) rfl ?_
      exact g_wk ok [(2, (2, v2, 0)), (4, (0, 63, 0)), (5, (0, 1, 0))] ⟨rfl, rfl, rfl, trivial⟩ (tl_114_29 ok hX d  (v2, 63, 1, s1))
-- X11_caughtAmong
theorem ts_145_6 {X : gX} (ok : gOK X) (hX : gHX X) (d : Nat) {k6 : (Nat × Int × Int × Int × Int × gS) ⊕ gO → Option gO} (hl6 : ∀ y : (Nat × Int × Int × Int × Int × gS), Go X em_145 145 (d + 1) 6 [] [(0, (27, 0, y.1)), (1, (2, y.2.1, 0)), (3, (0, y.2.2.1, 0)), (4, (0, y.2.2.2.1, 0)), (5, (0, y.2.2.2.2.1, 0))] [] y.2.2.2.2.2 0 0 (some (Sum.inl y)) k6) (hr6 : ∀ q, k6 (Sum.inr q) = some q) (x0 : Nat) (x1 : Int) (x3 : Int) (x4 : Int) (x5 : Int) (s : gS) : Go X em_145 145 (d + 1) 6 [] [(0, (27, 0, x0)), (1, (2, x1, 0)), (3, (0, x3, 0)), (4, (0, x4, 0)), (5, (0, x5, 0))] [] s 0 0 (sb_145_6 x0 x1 x3 x4 x5 s) k6 := by
  delta sb_145_6
  refine g_rb gs_145 1 (cd' := gb_145_6) rfl rfl ?_
  refine g_iload ok rfl ?_
  refine g_bipush ok (v := 64) rfl ?_
  refine g_ic_ge ok rfl (fun _ => ?_) (fun _ => ?_)
  · refine g_rb gs_145 2 (cd' := gb_145_13) rfl rfl ?_
    refine g_lload_n ok rfl ?_
    refine g_iload ok rfl ?_
    refine g_lshr ok ?_
    refine g_lconst ok (v := 1) rfl ?_
    refine g_land ok ?_
    refine g_lconst ok (v := 0) rfl ?_
    refine g_lcmp ok ?_
    refine g_if_eq ok rfl (fun _ => ?_) (fun _ => ?_)
    · refine g_rb gs_145 5 (cd' := gb_145_40) rfl rfl ?_
      refine g_iinc ok rfl rfl (L' := [(0, (27, 0, x0)), (1, (2, x1, 0)), (3, (0, x3, 0)), (4, (0, x4, 0)), (5, (0, (g32 (x5 + 1)), 0))]) rfl ?_
      refine g_goto ok rfl ?_
      exact g_wk ok [(0, (27, 0, x0)), (1, (2, x1, 0)), (3, (0, x3, 0)), (4, (0, x4, 0)), (5, (0, (g32 (x5 + 1)), 0))] ⟨rfl, rfl, rfl, rfl, rfl, trivial⟩ (hl6 (x0, x1, x3, x4, (g32 (x5 + 1)), s))
    · refine g_rb gs_145 3 (cd' := gb_145_24) rfl rfl ?_
      refine g_aload_n ok rfl rfl ?_
      refine g_getr ok 16 rfl rfl rfl ?_
      refine g_iload_n ok rfl ?_
      refine g_iload ok rfl ?_
      refine g_cvz ok (me_4 hX) rfl rfl rfl rfl (t_4 ok hX _ (gR s x0 4) x3 x5 s) (fun v2 s1 hb3 => ?_)
      refine g_if_eq ok rfl (fun _ => ?_) (fun _ => ?_)
      · refine g_rb gs_145 5 (cd' := gb_145_40) rfl rfl ?_
        refine g_iinc ok rfl rfl (L' := [(0, (27, 0, x0)), (1, (2, x1, 0)), (3, (0, x3, 0)), (4, (0, x4, 0)), (5, (0, (g32 (x5 + 1)), 0))]) rfl ?_
        refine g_goto ok rfl ?_
        exact g_wk ok [(0, (27, 0, x0)), (1, (2, x1, 0)), (3, (0, x3, 0)), (4, (0, x4, 0)), (5, (0, (g32 (x5 + 1)), 0))] ⟨rfl, rfl, rfl, rfl, rfl, trivial⟩ (hl6 (x0, x1, x3, x4, (g32 (x5 + 1)), s1))
      · refine g_rb gs_145 4 (cd' := gb_145_37) rfl rfl ?_
        refine g_iinc ok rfl rfl (L' := [(0, (27, 0, x0)), (1, (2, x1, 0)), (3, (0, x3, 0)), (4, (0, (g32 (x4 + 1)), 0)), (5, (0, x5, 0))]) rfl ?_
        refine g_rb gs_145 5 (cd' := gb_145_40) rfl rfl ?_
        refine g_iinc ok rfl rfl (L' := [(0, (27, 0, x0)), (1, (2, x1, 0)), (3, (0, x3, 0)), (4, (0, (g32 (x4 + 1)), 0)), (5, (0, (g32 (x5 + 1)), 0))]) rfl ?_
        refine g_goto ok rfl ?_
        exact g_wk ok [(0, (27, 0, x0)), (1, (2, x1, 0)), (3, (0, x3, 0)), (4, (0, (g32 (x4 + 1)), 0)), (5, (0, (g32 (x5 + 1)), 0))] ⟨rfl, rfl, rfl, rfl, rfl, trivial⟩ (hl6 (x0, x1, x3, (g32 (x4 + 1)), (g32 (x5 + 1)), s1))
  · refine g_map hr6 ?_
    refine g_rb gs_145 6 (cd' := gb_145_46) rfl rfl ?_
    refine g_iload ok rfl ?_
    exact g_ireturn ok rfl rfl (rfl)
theorem tl_145_6 {X : gX} (ok : gOK X) (hX : gHX X) (d : Nat)  (y : (Nat × Int × Int × Int × Int × gS)) : Go X em_145 145 (d + 1) 6 [] [(0, (27, 0, y.1)), (1, (2, y.2.1, 0)), (3, (0, y.2.2.1, 0)), (4, (0, y.2.2.2.1, 0)), (5, (0, y.2.2.2.2.1, 0))] [] y.2.2.2.2.2 0 0 (gloop (st_145_6) y) some :=
  g_loop (Lh := fun y => [(0, (27, 0, y.1)), (1, (2, y.2.1, 0)), (3, (0, y.2.2.1, 0)), (4, (0, y.2.2.2.1, 0)), (5, (0, y.2.2.2.2.1, 0))]) (sh := fun y => y.2.2.2.2.2) (fun k6 hl6 hr6 y => ts_145_6 ok hX d  hl6 hr6 y.1 y.2.1 y.2.2.1 y.2.2.2.1 y.2.2.2.2.1 y.2.2.2.2.2) y
theorem t_145 {X : gX} (ok : gOK X) (hX : gHX X) (d : Nat) (a0 : Nat) (a1 : Int) (a3 : Int) (s : gS) : Go X em_145 145 (d + 1) 0 [] [(0, (27, 0, a0)), (1, (2, a1, 0)), (3, (0, a3, 0))] [] s 0 0 (f_145 a0 a1 a3 s) some := by
  delta f_145
  refine g_rb gs_145 0 (cd' := gb_145_0) rfl rfl ?_
  refine g_iconst ok (v := 0) rfl ?_
  refine g_istore ok rfl (L' := [(0, (27, 0, a0)), (1, (2, a1, 0)), (3, (0, a3, 0)), (4, (0, 0, 0))]) rfl ?_
  refine g_iconst ok (v := 1) rfl ?_
  refine g_istore ok rfl (L' := [(0, (27, 0, a0)), (1, (2, a1, 0)), (3, (0, a3, 0)), (4, (0, 0, 0)), (5, (0, 1, 0))]) rfl ?_
  exact g_wk ok [(0, (27, 0, a0)), (1, (2, a1, 0)), (3, (0, a3, 0)), (4, (0, 0, 0)), (5, (0, 1, 0))] ⟨rfl, rfl, rfl, rfl, rfl, trivial⟩ (tl_145_6 ok hX d  (a0, a1, a3, 0, 1, s))
-- X11_ask
theorem tb_115_69 {X : gX} (ok : gOK X) (hX : gHX X) (d : Nat) {k19 : (Nat × Int × Int × Int × Int × Int × gS) ⊕ gO → Option gO} (hl19 : ∀ y : (Nat × Int × Int × Int × Int × Int × gS), Go X em_115 115 (d + 3) 19 [] [(0, (27, 0, y.1)), (1, (2, y.2.1, 0)), (3, (0, y.2.2.1, 0)), (4, (0, y.2.2.2.1, 0)), (5, (0, y.2.2.2.2.1, 0)), (6, (0, y.2.2.2.2.2.1, 0))] [] y.2.2.2.2.2.2 1 6 (some (Sum.inl y)) k19) (hr19 : ∀ q, k19 (Sum.inr q) = some q) (x0 : Nat) (x1 : Int) (x3 : Int) (x6 : Int) (x8 : Int) (s : gS) : Go X em_115 115 (d + 3) 69 [] [(0, (27, 0, x0)), (1, (2, x1, 0)), (3, (0, x3, 0)), (6, (0, x6, 0)), (8, (0, x8, 0))] [] s 1 6 (fb_115_69 x0 x1 x3 x6 x8 s) k19 := by
  delta fb_115_69
  refine g_rb gs_115 5 (cd' := gb_115_69) rfl rfl ?_
  refine g_iload ok rfl ?_
  refine g_istore ok rfl (L' := [(0, (27, 0, x0)), (1, (2, x1, 0)), (3, (0, x3, 0)), (6, (0, x6, 0)), (8, (0, x8, 0)), (4, (0, x6, 0))]) rfl ?_
  refine g_iload ok rfl ?_
  refine g_istore ok rfl (L' := [(0, (27, 0, x0)), (1, (2, x1, 0)), (3, (0, x3, 0)), (6, (0, x6, 0)), (8, (0, x8, 0)), (4, (0, x6, 0)), (5, (0, x8, 0))]) rfl ?_
  refine g_rb gs_115 6 (cd' := gb_115_77) rfl rfl ?_
  refine g_iinc ok rfl rfl (L' := [(0, (27, 0, x0)), (1, (2, x1, 0)), (3, (0, x3, 0)), (6, (0, (g32 (x6 + 1)), 0)), (8, (0, x8, 0)), (4, (0, x6, 0)), (5, (0, x8, 0))]) rfl ?_
  refine g_goto ok rfl ?_
  exact g_wk ok [(0, (27, 0, x0)), (1, (2, x1, 0)), (3, (0, x3, 0)), (4, (0, x6, 0)), (5, (0, x8, 0)), (6, (0, (g32 (x6 + 1)), 0))] ⟨rfl, rfl, rfl, rfl, rfl, rfl, trivial⟩ (hl19 (x0, x1, x3, x6, x8, (g32 (x6 + 1)), s))
theorem ts_115_19 {X : gX} (ok : gOK X) (hX : gHX X) (d : Nat) {k19 : (Nat × Int × Int × Int × Int × Int × gS) ⊕ gO → Option gO} (hl19 : ∀ y : (Nat × Int × Int × Int × Int × Int × gS), Go X em_115 115 (d + 3) 19 [] [(0, (27, 0, y.1)), (1, (2, y.2.1, 0)), (3, (0, y.2.2.1, 0)), (4, (0, y.2.2.2.1, 0)), (5, (0, y.2.2.2.2.1, 0)), (6, (0, y.2.2.2.2.2.1, 0))] [] y.2.2.2.2.2.2 1 6 (some (Sum.inl y)) k19) (hr19 : ∀ q, k19 (Sum.inr q) = some q) (x0 : Nat) (x1 : Int) (x3 : Int) (x4 : Int) (x5 : Int) (x6 : Int) (s : gS) : Go X em_115 115 (d + 3) 19 [] [(0, (27, 0, x0)), (1, (2, x1, 0)), (3, (0, x3, 0)), (4, (0, x4, 0)), (5, (0, x5, 0)), (6, (0, x6, 0))] [] s 1 6 (sb_115_19 x0 x1 x3 x4 x5 x6 s) k19 := by
  delta sb_115_19
  refine g_rb gs_115 1 (cd' := gb_115_19) rfl rfl ?_
  refine g_iload ok rfl ?_
  refine g_aload_n ok rfl rfl ?_
  refine g_getr ok 16 rfl rfl rfl ?_
  refine g_geti ok rfl rfl ?_
  refine g_ic_ge ok rfl (fun _ => ?_) (fun _ => ?_)
  · refine g_rb gs_115 2 (cd' := gb_115_31) rfl rfl ?_
    refine g_iload_n ok rfl ?_
    refine g_iconst ok (v := 2) rfl ?_
    refine g_ic_lt ok rfl (fun _ => ?_) (fun _ => ?_)
    · refine g_map hr19 ?_
      refine g_rb gs_115 7 (cd' := gb_115_83) rfl rfl ?_
      refine g_iload ok rfl ?_
      exact g_ireturn ok rfl rfl (rfl)
    · refine g_rb gs_115 3 (cd' := gb_115_36) rfl rfl ?_
      refine g_aload_n ok rfl rfl ?_
      refine g_lload_n ok rfl ?_
      refine g_iload ok rfl ?_
      refine g_cv1 ok (me_145 hX) rfl rfl rfl rfl (t_145 ok hX _ x0 x1 x6 s) (fun v6 s5 => ?_)
      refine g_istore ok rfl (L' := [(0, (27, 0, x0)), (1, (2, x1, 0)), (3, (0, x3, 0)), (4, (0, x4, 0)), (5, (0, x5, 0)), (6, (0, x6, 0)), (7, (0, v6, 0))]) rfl ?_
      refine g_iload ok rfl ?_
      refine g_iload_n ok rfl ?_
      refine g_iload ok rfl ?_
      refine g_isub ok ?_
      refine g_max ok rfl ?_
      let v7 : Int := (max v6 (g32 (x3 - v6)))
      refine g_istore ok rfl (L' := [(0, (27, 0, x0)), (1, (2, x1, 0)), (3, (0, x3, 0)), (4, (0, x4, 0)), (5, (0, x5, 0)), (6, (0, x6, 0)), (7, (0, v6, 0)), (8, (0, v7, 0))]) rfl ?_
      refine g_iload ok rfl ?_
      refine g_iconst ok (v := (-1)) rfl ?_
      refine g_ic_eq ok rfl (fun _ => ?_) (fun _ => ?_)
      · exact g_wk ok [(0, (27, 0, x0)), (1, (2, x1, 0)), (3, (0, x3, 0)), (6, (0, x6, 0)), (8, (0, v7, 0))] ⟨rfl, rfl, rfl, rfl, rfl, trivial⟩ (tb_115_69 ok hX d hl19 hr19 x0 x1 x3 x6 v7 s5)
      · refine g_rb gs_115 4 (cd' := gb_115_62) rfl rfl ?_
        refine g_iload ok rfl ?_
        refine g_iload ok rfl ?_
        refine g_ic_ge ok rfl (fun _ => ?_) (fun _ => ?_)
        · exact g_wk ok [(0, (27, 0, x0)), (1, (2, x1, 0)), (3, (0, x3, 0)), (6, (0, x6, 0)), (8, (0, v7, 0))] ⟨rfl, rfl, rfl, rfl, rfl, trivial⟩ (tb_115_69 ok hX d hl19 hr19 x0 x1 x3 x6 v7 s5)
        · refine g_rb gs_115 6 (cd' := gb_115_77) rfl rfl ?_
          refine g_iinc ok rfl rfl (L' := [(0, (27, 0, x0)), (1, (2, x1, 0)), (3, (0, x3, 0)), (4, (0, x4, 0)), (5, (0, x5, 0)), (6, (0, (g32 (x6 + 1)), 0)), (7, (0, v6, 0)), (8, (0, v7, 0))]) rfl ?_
          refine g_goto ok rfl ?_
          exact g_wk ok [(0, (27, 0, x0)), (1, (2, x1, 0)), (3, (0, x3, 0)), (4, (0, x4, 0)), (5, (0, x5, 0)), (6, (0, (g32 (x6 + 1)), 0))] ⟨rfl, rfl, rfl, rfl, rfl, rfl, trivial⟩ (hl19 (x0, x1, x3, x4, x5, (g32 (x6 + 1)), s5))
  · refine g_map hr19 ?_
    refine g_rb gs_115 7 (cd' := gb_115_83) rfl rfl ?_
    refine g_iload ok rfl ?_
    exact g_ireturn ok rfl rfl (rfl)
theorem tl_115_19 {X : gX} (ok : gOK X) (hX : gHX X) (d : Nat)  (y : (Nat × Int × Int × Int × Int × Int × gS)) : Go X em_115 115 (d + 3) 19 [] [(0, (27, 0, y.1)), (1, (2, y.2.1, 0)), (3, (0, y.2.2.1, 0)), (4, (0, y.2.2.2.1, 0)), (5, (0, y.2.2.2.2.1, 0)), (6, (0, y.2.2.2.2.2.1, 0))] [] y.2.2.2.2.2.2 1 6 (gloop (st_115_19) y) some :=
  g_loop (Lh := fun y => [(0, (27, 0, y.1)), (1, (2, y.2.1, 0)), (3, (0, y.2.2.1, 0)), (4, (0, y.2.2.2.1, 0)), (5, (0, y.2.2.2.2.1, 0)), (6, (0, y.2.2.2.2.2.1, 0))]) (sh := fun y => y.2.2.2.2.2.2) (fun k19 hl19 hr19 y => ts_115_19 ok hX d  hl19 hr19 y.1 y.2.1 y.2.2.1 y.2.2.2.1 y.2.2.2.2.1 y.2.2.2.2.2.1 y.2.2.2.2.2.2) y
theorem t_115 {X : gX} (ok : gOK X) (hX : gHX X) (d : Nat) (a0 : Nat) (s : gS) : Go X em_115 115 (d + 3) 0 [] [(0, (27, 0, a0))] [] s 0 0 (f_115 a0 s) some := by
  delta f_115
  refine g_rb gs_115 0 (cd' := gb_115_0) rfl rfl ?_
  refine g_aload_n ok rfl rfl ?_
  refine g_cvt1 ok (me_142 hX) rfl rfl rfl (tg := 2) rfl (Or.inr rfl) rfl rfl (fun _ => rfl) (t_142 ok hX _ a0 s) (fun v2 s1 => ?_)
  refine g_lstore_n ok rfl (L' := [(0, (27, 0, a0)), (1, (2, v2, 0))]) rfl ?_
  refine g_lload_n ok rfl ?_
  refine g_cs1 ok (me_265 hX) rfl rfl rfl (t_265 ok hX _ v2 s1) (fun v4 s3 => ?_)
  refine g_istore_n ok rfl (L' := [(0, (27, 0, a0)), (1, (2, v2, 0)), (3, (0, v4, 0))]) rfl ?_
  refine g_iconst ok (v := (-1)) rfl ?_
  refine g_istore ok rfl (L' := [(0, (27, 0, a0)), (1, (2, v2, 0)), (3, (0, v4, 0)), (4, (0, (-1), 0))]) rfl ?_
  refine g_iconst ok (v := (-1)) rfl ?_
  refine g_istore ok rfl (L' := [(0, (27, 0, a0)), (1, (2, v2, 0)), (3, (0, v4, 0)), (4, (0, (-1), 0)), (5, (0, (-1), 0))]) rfl ?_
  refine g_iconst ok (v := 0) rfl ?_
  refine g_istore ok rfl (L' := [(0, (27, 0, a0)), (1, (2, v2, 0)), (3, (0, v4, 0)), (4, (0, (-1), 0)), (5, (0, (-1), 0)), (6, (0, 0, 0))]) rfl ?_
  exact g_wk ok [(0, (27, 0, a0)), (1, (2, v2, 0)), (3, (0, v4, 0)), (4, (0, (-1), 0)), (5, (0, (-1), 0)), (6, (0, 0, 0))] ⟨rfl, rfl, rfl, rfl, rfl, rfl, trivial⟩ (tl_115_19 ok hX d  (a0, v2, v4, (-1), (-1), 0, s3))
-- X11_princePays
theorem tb_146_38 {X : gX} (ok : gOK X) (hX : gHX X) (d : Nat)  (x5 : Int) (w0 : Int) (s : gS) : Go X em_146 146 d 38 [] [(5, (0, x5, 0))] [(0, w0, 0)] s 0 0 (fb_146_38 x5 w0 s) some := by
  delta fb_146_38
  refine g_rb gs_146 8 (cd' := gb_146_38) rfl rfl ?_
  refine g_istore ok rfl (L' := [(5, (0, x5, 0)), (6, (0, w0, 0))]) rfl ?_
  refine g_iload ok rfl ?_
  refine g_if_eq ok rfl (fun _ => ?_) (fun _ => ?_)
  · refine g_rb gs_146 10 (cd' := gb_146_53) rfl rfl ?_
    refine g_iload ok rfl ?_
    refine g_rb gs_146 11 (cd' := gb_146_55) rfl rfl ?_
    exact g_ireturn ok rfl rfl (rfl)
  · refine g_rb gs_146 9 (cd' := gb_146_45) rfl rfl ?_
    refine g_iload ok rfl ?_
    refine g_bipush ok (v := 50) rfl ?_
    refine g_iadd ok ?_
    refine g_goto ok rfl ?_
    refine g_rb gs_146 11 (cd' := gb_146_55) rfl rfl ?_
    exact g_ireturn ok rfl rfl (rfl)
theorem tb_146_37 {X : gX} (ok : gOK X) (hX : gHX X) (d : Nat)  (x5 : Int) (s : gS) : Go X em_146 146 d 37 [] [(5, (0, x5, 0))] [] s 0 0 (fb_146_37 x5 s) some := by
  delta fb_146_37
  refine g_rb gs_146 7 (cd' := gb_146_37) rfl rfl ?_
  refine g_iconst ok (v := 0) rfl ?_
  exact g_wk ok [(5, (0, x5, 0))] ⟨rfl, trivial⟩ (tb_146_38 ok hX d  x5 0 s)
theorem tb_146_17 {X : gX} (ok : gOK X) (hX : gHX X) (d : Nat)  (x1 : Int) (x2 : Int) (x4 : Int) (w0 : Int) (s : gS) : Go X em_146 146 d 17 [] [(1, (0, x1, 0)), (2, (0, x2, 0)), (4, (0, x4, 0))] [(0, w0, 0)] s 0 0 (fb_146_17 x1 x2 x4 w0 s) some := by
  delta fb_146_17
  refine g_rb gs_146 3 (cd' := gb_146_17) rfl rfl ?_
  refine g_istore ok rfl (L' := [(1, (0, x1, 0)), (2, (0, x2, 0)), (4, (0, x4, 0)), (5, (0, w0, 0))]) rfl ?_
  refine g_iload_n ok rfl ?_
  refine g_if_ne ok rfl (fun _ => ?_) (fun _ => ?_)
  · refine g_rb gs_146 4 (cd' := gb_146_23) rfl rfl ?_
    refine g_iload_n ok rfl ?_
    refine g_iconst ok (v := 1) rfl ?_
    refine g_ic_eq ok rfl (fun _ => ?_) (fun _ => ?_)
    · refine g_rb gs_146 6 (cd' := gb_146_33) rfl rfl ?_
      refine g_iconst ok (v := 1) rfl ?_
      refine g_goto ok rfl ?_
      exact g_wk ok [(5, (0, w0, 0))] ⟨rfl, trivial⟩ (tb_146_38 ok hX d  w0 1 s)
    · refine g_rb gs_146 5 (cd' := gb_146_28) rfl rfl ?_
      refine g_iload ok rfl ?_
      refine g_if_ne ok rfl (fun _ => ?_) (fun _ => ?_)
      · refine g_rb gs_146 6 (cd' := gb_146_33) rfl rfl ?_
        refine g_iconst ok (v := 1) rfl ?_
        refine g_goto ok rfl ?_
        exact g_wk ok [(5, (0, w0, 0))] ⟨rfl, trivial⟩ (tb_146_38 ok hX d  w0 1 s)
      · exact g_wk ok [(5, (0, w0, 0))] ⟨rfl, trivial⟩ (tb_146_37 ok hX d  w0 s)
  · exact g_wk ok [(5, (0, w0, 0))] ⟨rfl, trivial⟩ (tb_146_37 ok hX d  w0 s)
theorem t_146 {X : gX} (ok : gOK X) (hX : gHX X) (d : Nat) (a0 : Nat) (a1 : Int) (a2 : Int) (a3 : Int) (a4 : Int) (s : gS) : Go X em_146 146 d 0 [] [(0, (27, 0, a0)), (1, (0, a1, 0)), (2, (0, a2, 0)), (3, (0, a3, 0)), (4, (0, a4, 0))] [] s 0 0 (f_146 a0 a1 a2 a3 a4 s) some := by
  delta f_146
  refine g_rb gs_146 0 (cd' := gb_146_0) rfl rfl ?_
  refine g_iload_n ok rfl ?_
  refine g_if_ne ok rfl (fun _ => ?_) (fun _ => ?_)
  · refine g_rb gs_146 1 (cd' := gb_146_4) rfl rfl ?_
    refine g_aload_n ok rfl rfl ?_
    refine g_getr ok 16 rfl rfl rfl ?_
    refine g_getr ok 164 rfl rfl rfl ?_
    refine g_iload_n ok rfl ?_
    refine g_iaload ok (n := 6) rfl rfl (fun _ _ => ?_)
    refine g_goto ok rfl ?_
    exact g_wk ok [(1, (0, a1, 0)), (2, (0, a2, 0)), (4, (0, a4, 0))] ⟨rfl, rfl, rfl, trivial⟩ (tb_146_17 ok hX d  a1 a2 a4 (gI s (gR s (gR s a0 4) 3) (a3 : Int).toNat) s)
  · refine g_rb gs_146 2 (cd' := gb_146_16) rfl rfl ?_
    refine g_iconst ok (v := 0) rfl ?_
    exact g_wk ok [(1, (0, a1, 0)), (2, (0, a2, 0)), (4, (0, a4, 0))] ⟨rfl, rfl, rfl, trivial⟩ (tb_146_17 ok hX d  a1 a2 a4 0 s)
-- X11_manHas
theorem tb_147_21 {X : gX} (ok : gOK X) (hX : gHX X) (d : Nat)   (s : gS) : Go X em_147 147 d 21 [] [] [] s 0 0 (fb_147_21  s) some := by
  delta fb_147_21
  refine g_rb gs_147 5 (cd' := gb_147_21) rfl rfl ?_
  refine g_bipush ok (v := 30) rfl ?_
  refine g_rb gs_147 6 (cd' := gb_147_23) rfl rfl ?_
  exact g_ireturn ok rfl rfl (rfl)
theorem t_147 {X : gX} (ok : gOK X) (hX : gHX X) (d : Nat) (a0 : Int) (a1 : Int) (a2 : Int) (a3 : Int) (s : gS) : Go X em_147 147 d 0 [] [(0, (0, a0, 0)), (1, (0, a1, 0)), (2, (0, a2, 0)), (3, (0, a3, 0))] [] s 0 0 (f_147 a0 a1 a2 a3 s) some := by
  delta f_147
  refine g_rb gs_147 0 (cd' := gb_147_0) rfl rfl ?_
  refine g_iload_n ok rfl ?_
  refine g_iconst ok (v := 1) rfl ?_
  refine g_ic_ne ok rfl (fun _ => ?_) (fun _ => ?_)
  · refine g_rb gs_147 1 (cd' := gb_147_5) rfl rfl ?_
    refine g_bipush ok (v := 10) rfl ?_
    exact g_ireturn ok rfl rfl (rfl)
  · refine g_rb gs_147 2 (cd' := gb_147_8) rfl rfl ?_
    refine g_iload_n ok rfl ?_
    refine g_if_ne ok rfl (fun _ => ?_) (fun _ => ?_)
    · refine g_rb gs_147 3 (cd' := gb_147_12) rfl rfl ?_
      refine g_iload_n ok rfl ?_
      refine g_if_eq ok rfl (fun _ => ?_) (fun _ => ?_)
      · exact g_wk ok [] trivial (tb_147_21 ok hX d   s)
      · refine g_rb gs_147 4 (cd' := gb_147_16) rfl rfl ?_
        refine g_iload_n ok rfl ?_
        refine g_ineg ok ?_
        refine g_goto ok rfl ?_
        refine g_rb gs_147 6 (cd' := gb_147_23) rfl rfl ?_
        exact g_ireturn ok rfl rfl (rfl)
    · exact g_wk ok [] trivial (tb_147_21 ok hX d   s)
-- X11_rests
theorem tb_116_128 {X : gX} (ok : gOK X) (hX : gHX X) (d : Nat) {k40 : (Nat × Int × Nat × Int × Int × Int × gS) ⊕ gO → Option gO} (hl40 : ∀ y : (Nat × Int × Nat × Int × Int × Int × gS), Go X em_116 116 (d + 1) 40 [] [(0, (27, 0, y.1)), (2, (0, y.2.1, 0)), (3, (23, 0, y.2.2.1)), (4, (0, y.2.2.2.1, 0)), (5, (0, y.2.2.2.2.1, 0)), (6, (0, y.2.2.2.2.2.1, 0))] [] y.2.2.2.2.2.2 2 12 (some (Sum.inl y)) k40) (hr40 : ∀ q, k40 (Sum.inr q) = some q) (x0 : Nat) (x2 : Int) (x3 : Nat) (x4 : Int) (x5 : Int) (x6 : Int) (x9 : Int) (w0 : Int) (s : gS) : Go X em_116 116 (d + 1) 128 [] [(0, (27, 0, x0)), (2, (0, x2, 0)), (3, (23, 0, x3)), (4, (0, x4, 0)), (5, (0, x5, 0)), (6, (0, x6, 0)), (9, (0, x9, 0))] [(0, w0, 0)] s 2 12 (fb_116_128 x0 x2 x3 x4 x5 x6 x9 w0 s) k40 := by
  delta fb_116_128
  refine g_rb gs_116 8 (cd' := gb_116_128) rfl rfl ?_
  refine g_istore ok rfl (L' := [(0, (27, 0, x0)), (2, (0, x2, 0)), (3, (23, 0, x3)), (4, (0, x4, 0)), (5, (0, x5, 0)), (6, (0, x6, 0)), (9, (0, x9, 0)), (10, (0, w0, 0))]) rfl ?_
  refine g_iload ok rfl ?_
  refine g_if_eq ok rfl (fun _ => ?_) (fun _ => ?_)
  · refine g_rb gs_116 11 (cd' := gb_116_149) rfl rfl ?_
    refine g_iinc ok rfl rfl (L' := [(0, (27, 0, x0)), (2, (0, x2, 0)), (3, (23, 0, x3)), (4, (0, x4, 0)), (5, (0, x5, 0)), (6, (0, (g32 (x6 + 1)), 0)), (9, (0, x9, 0)), (10, (0, w0, 0))]) rfl ?_
    refine g_goto ok rfl ?_
    exact g_wk ok [(0, (27, 0, x0)), (2, (0, x2, 0)), (3, (23, 0, x3)), (4, (0, x4, 0)), (5, (0, x5, 0)), (6, (0, (g32 (x6 + 1)), 0))] ⟨rfl, rfl, rfl, rfl, rfl, rfl, trivial⟩ (hl40 (x0, x2, x3, x4, x5, (g32 (x6 + 1)), s))
  · refine g_rb gs_116 9 (cd' := gb_116_135) rfl rfl ?_
    refine g_iload ok rfl ?_
    refine g_if_eq ok rfl (fun _ => ?_) (fun _ => ?_)
    · refine g_rb gs_116 11 (cd' := gb_116_149) rfl rfl ?_
      refine g_iinc ok rfl rfl (L' := [(0, (27, 0, x0)), (2, (0, x2, 0)), (3, (23, 0, x3)), (4, (0, x4, 0)), (5, (0, x5, 0)), (6, (0, (g32 (x6 + 1)), 0)), (9, (0, x9, 0)), (10, (0, w0, 0))]) rfl ?_
      refine g_goto ok rfl ?_
      exact g_wk ok [(0, (27, 0, x0)), (2, (0, x2, 0)), (3, (23, 0, x3)), (4, (0, x4, 0)), (5, (0, x5, 0)), (6, (0, (g32 (x6 + 1)), 0))] ⟨rfl, rfl, rfl, rfl, rfl, rfl, trivial⟩ (hl40 (x0, x2, x3, x4, x5, (g32 (x6 + 1)), s))
    · refine g_rb gs_116 10 (cd' := gb_116_140) rfl rfl ?_
      refine g_iload ok rfl ?_
      refine g_iconst ok (v := 1) rfl ?_
      refine g_iload ok rfl ?_
      refine g_ishl ok ?_
      refine g_ior ok ?_
      let v17 : Int := (gor x5 (gshl 1 x6))
      refine g_istore ok rfl (L' := [(0, (27, 0, x0)), (2, (0, x2, 0)), (3, (23, 0, x3)), (4, (0, x4, 0)), (5, (0, v17, 0)), (6, (0, x6, 0)), (9, (0, x9, 0)), (10, (0, w0, 0))]) rfl ?_
      refine g_rb gs_116 11 (cd' := gb_116_149) rfl rfl ?_
      refine g_iinc ok rfl rfl (L' := [(0, (27, 0, x0)), (2, (0, x2, 0)), (3, (23, 0, x3)), (4, (0, x4, 0)), (5, (0, v17, 0)), (6, (0, (g32 (x6 + 1)), 0)), (9, (0, x9, 0)), (10, (0, w0, 0))]) rfl ?_
      refine g_goto ok rfl ?_
      exact g_wk ok [(0, (27, 0, x0)), (2, (0, x2, 0)), (3, (23, 0, x3)), (4, (0, x4, 0)), (5, (0, v17, 0)), (6, (0, (g32 (x6 + 1)), 0))] ⟨rfl, rfl, rfl, rfl, rfl, rfl, trivial⟩ (hl40 (x0, x2, x3, x4, v17, (g32 (x6 + 1)), s))
theorem tb_116_90 {X : gX} (ok : gOK X) (hX : gHX X) (d : Nat) {k40 : (Nat × Int × Nat × Int × Int × Int × gS) ⊕ gO → Option gO} (hl40 : ∀ y : (Nat × Int × Nat × Int × Int × Int × gS), Go X em_116 116 (d + 1) 40 [] [(0, (27, 0, y.1)), (2, (0, y.2.1, 0)), (3, (23, 0, y.2.2.1)), (4, (0, y.2.2.2.1, 0)), (5, (0, y.2.2.2.2.1, 0)), (6, (0, y.2.2.2.2.2.1, 0))] [] y.2.2.2.2.2.2 2 12 (some (Sum.inl y)) k40) (hr40 : ∀ q, k40 (Sum.inr q) = some q) (x0 : Nat) (x2 : Int) (x3 : Nat) (x4 : Int) (x5 : Int) (x6 : Int) (x7 : Int) (x8 : Int) (w0 : Int) (s : gS) : Go X em_116 116 (d + 1) 90 [] [(0, (27, 0, x0)), (2, (0, x2, 0)), (3, (23, 0, x3)), (4, (0, x4, 0)), (5, (0, x5, 0)), (6, (0, x6, 0)), (7, (0, x7, 0)), (8, (0, x8, 0))] [(0, w0, 0)] s 2 12 (fb_116_90 x0 x2 x3 x4 x5 x6 x7 x8 w0 s) k40 := by
  delta fb_116_90
  refine g_rb gs_116 5 (cd' := gb_116_90) rfl rfl ?_
  refine g_istore ok rfl (L' := [(0, (27, 0, x0)), (2, (0, x2, 0)), (3, (23, 0, x3)), (4, (0, x4, 0)), (5, (0, x5, 0)), (6, (0, x6, 0)), (7, (0, x7, 0)), (8, (0, x8, 0)), (9, (0, w0, 0))]) rfl ?_
  refine g_iload ok rfl ?_
  refine g_iload ok rfl ?_
  refine g_aload_n ok rfl rfl ?_
  refine g_geti ok rfl rfl ?_
  refine g_iload ok rfl ?_
  refine g_cs1 ok (me_147 hX) rfl rfl rfl (t_147 ok hX _ x7 x8 (gI s x3 0) x4 s) (fun v14 s13 => ?_)
  refine g_iload ok rfl ?_
  refine g_iconst ok (v := 1) rfl ?_
  refine g_iload ok rfl ?_
  refine g_isub ok ?_
  refine g_aload_n ok rfl rfl ?_
  refine g_geti ok rfl rfl ?_
  refine g_iload ok rfl ?_
  refine g_cs1 ok (me_147 hX) rfl rfl rfl (t_147 ok hX _ x7 (g32 (1 - x8)) (gI s13 x3 0) x4 s13) (fun v16 s15 => ?_)
  refine g_ic_lt ok rfl (fun _ => ?_) (fun _ => ?_)
  · refine g_rb gs_116 7 (cd' := gb_116_127) rfl rfl ?_
    refine g_iconst ok (v := 0) rfl ?_
    exact g_wk ok [(0, (27, 0, x0)), (2, (0, x2, 0)), (3, (23, 0, x3)), (4, (0, x4, 0)), (5, (0, x5, 0)), (6, (0, x6, 0)), (9, (0, w0, 0))] ⟨rfl, rfl, rfl, rfl, rfl, rfl, rfl, trivial⟩ (tb_116_128 ok hX d hl40 hr40 x0 x2 x3 x4 x5 x6 w0 0 s15)
  · refine g_rb gs_116 6 (cd' := gb_116_123) rfl rfl ?_
    refine g_iconst ok (v := 1) rfl ?_
    refine g_goto ok rfl ?_
    exact g_wk ok [(0, (27, 0, x0)), (2, (0, x2, 0)), (3, (23, 0, x3)), (4, (0, x4, 0)), (5, (0, x5, 0)), (6, (0, x6, 0)), (9, (0, w0, 0))] ⟨rfl, rfl, rfl, rfl, rfl, rfl, rfl, trivial⟩ (tb_116_128 ok hX d hl40 hr40 x0 x2 x3 x4 x5 x6 w0 1 s15)
theorem ts_116_40 {X : gX} (ok : gOK X) (hX : gHX X) (d : Nat) {k40 : (Nat × Int × Nat × Int × Int × Int × gS) ⊕ gO → Option gO} (hl40 : ∀ y : (Nat × Int × Nat × Int × Int × Int × gS), Go X em_116 116 (d + 1) 40 [] [(0, (27, 0, y.1)), (2, (0, y.2.1, 0)), (3, (23, 0, y.2.2.1)), (4, (0, y.2.2.2.1, 0)), (5, (0, y.2.2.2.2.1, 0)), (6, (0, y.2.2.2.2.2.1, 0))] [] y.2.2.2.2.2.2 2 12 (some (Sum.inl y)) k40) (hr40 : ∀ q, k40 (Sum.inr q) = some q) (x0 : Nat) (x2 : Int) (x3 : Nat) (x4 : Int) (x5 : Int) (x6 : Int) (s : gS) : Go X em_116 116 (d + 1) 40 [] [(0, (27, 0, x0)), (2, (0, x2, 0)), (3, (23, 0, x3)), (4, (0, x4, 0)), (5, (0, x5, 0)), (6, (0, x6, 0))] [] s 2 12 (sb_116_40 x0 x2 x3 x4 x5 x6 s) k40 := by
  delta sb_116_40
  refine g_rb gs_116 1 (cd' := gb_116_40) rfl rfl ?_
  refine g_iload ok rfl ?_
  refine g_iconst ok (v := 4) rfl ?_
  refine g_ic_ge ok rfl (fun _ => ?_) (fun _ => ?_)
  · refine g_rb gs_116 2 (cd' := gb_116_46) rfl rfl ?_
    refine g_iload ok rfl ?_
    refine g_iconst ok (v := 1) rfl ?_
    refine g_ishr ok ?_
    refine g_istore ok rfl (L' := [(0, (27, 0, x0)), (2, (0, x2, 0)), (3, (23, 0, x3)), (4, (0, x4, 0)), (5, (0, x5, 0)), (6, (0, x6, 0)), (7, (0, (gshr x6 1), 0))]) rfl ?_
    refine g_iload ok rfl ?_
    refine g_iconst ok (v := 1) rfl ?_
    refine g_iand ok ?_
    refine g_istore ok rfl (L' := [(0, (27, 0, x0)), (2, (0, x2, 0)), (3, (23, 0, x3)), (4, (0, x4, 0)), (5, (0, x5, 0)), (6, (0, x6, 0)), (7, (0, (gshr x6 1), 0)), (8, (0, (gand x6 1), 0))]) rfl ?_
    refine g_aload_n ok rfl rfl ?_
    refine g_iload ok rfl ?_
    refine g_iload ok rfl ?_
    refine g_iload_n ok rfl ?_
    refine g_iload ok rfl ?_
    refine g_cv1 ok (me_146 hX) rfl rfl rfl rfl (t_146 ok hX _ x0 (gshr x6 1) (gand x6 1) x2 x4 s) (fun v10 s9 => ?_)
    refine g_aload_n ok rfl rfl ?_
    refine g_iconst ok (v := 1) rfl ?_
    refine g_iload ok rfl ?_
    refine g_isub ok ?_
    refine g_iload ok rfl ?_
    refine g_iload_n ok rfl ?_
    refine g_iload ok rfl ?_
    refine g_cv1 ok (me_146 hX) rfl rfl rfl rfl (t_146 ok hX _ x0 (g32 (1 - (gshr x6 1))) (gand x6 1) x2 x4 s9) (fun v12 s11 => ?_)
    refine g_ic_gt ok rfl (fun _ => ?_) (fun _ => ?_)
    · refine g_rb gs_116 4 (cd' := gb_116_89) rfl rfl ?_
      refine g_iconst ok (v := 0) rfl ?_
      exact g_wk ok [(0, (27, 0, x0)), (2, (0, x2, 0)), (3, (23, 0, x3)), (4, (0, x4, 0)), (5, (0, x5, 0)), (6, (0, x6, 0)), (7, (0, (gshr x6 1), 0)), (8, (0, (gand x6 1), 0))] ⟨rfl, rfl, rfl, rfl, rfl, rfl, rfl, rfl, trivial⟩ (tb_116_90 ok hX d hl40 hr40 x0 x2 x3 x4 x5 x6 (gshr x6 1) (gand x6 1) 0 s11)
    · refine g_rb gs_116 3 (cd' := gb_116_85) rfl rfl ?_
      refine g_iconst ok (v := 1) rfl ?_
      refine g_goto ok rfl ?_
      exact g_wk ok [(0, (27, 0, x0)), (2, (0, x2, 0)), (3, (23, 0, x3)), (4, (0, x4, 0)), (5, (0, x5, 0)), (6, (0, x6, 0)), (7, (0, (gshr x6 1), 0)), (8, (0, (gand x6 1), 0))] ⟨rfl, rfl, rfl, rfl, rfl, rfl, rfl, rfl, trivial⟩ (tb_116_90 ok hX d hl40 hr40 x0 x2 x3 x4 x5 x6 (gshr x6 1) (gand x6 1) 1 s11)
  · refine g_map hr40 ?_
    refine g_rb gs_116 12 (cd' := gb_116_155) rfl rfl ?_
    refine g_iload ok rfl ?_
    exact g_ireturn ok rfl rfl (rfl)
theorem tl_116_40 {X : gX} (ok : gOK X) (hX : gHX X) (d : Nat)  (y : (Nat × Int × Nat × Int × Int × Int × gS)) : Go X em_116 116 (d + 1) 40 [] [(0, (27, 0, y.1)), (2, (0, y.2.1, 0)), (3, (23, 0, y.2.2.1)), (4, (0, y.2.2.2.1, 0)), (5, (0, y.2.2.2.2.1, 0)), (6, (0, y.2.2.2.2.2.1, 0))] [] y.2.2.2.2.2.2 2 12 (gloop (st_116_40) y) some :=
  g_loop (Lh := fun y => [(0, (27, 0, y.1)), (2, (0, y.2.1, 0)), (3, (23, 0, y.2.2.1)), (4, (0, y.2.2.2.1, 0)), (5, (0, y.2.2.2.2.1, 0)), (6, (0, y.2.2.2.2.2.1, 0))]) (sh := fun y => y.2.2.2.2.2.2) (fun k40 hl40 hr40 y => ts_116_40 ok hX d  hl40 hr40 y.1 y.2.1 y.2.2.1 y.2.2.2.1 y.2.2.2.2.1 y.2.2.2.2.2.1 y.2.2.2.2.2.2) y
theorem t_116 {X : gX} (ok : gOK X) (hX : gHX X) (d : Nat) (a0 : Nat) (a1 : Int) (a2 : Int) (s : gS) : Go X em_116 116 (d + 1) 0 [] [(0, (27, 0, a0)), (1, (0, a1, 0)), (2, (0, a2, 0))] [] s 0 0 (f_116 a0 a1 a2 s) some := by
  delta f_116
  refine g_rb gs_116 0 (cd' := gb_116_0) rfl rfl ?_
  refine g_aload_n ok rfl rfl ?_
  refine g_iload_n ok rfl ?_
  refine g_cvt0 ok (me_135 hX) rfl rfl rfl rfl rfl (fun _ => rfl) (t_135 ok hX _ a0 a1 s) (fun s1 => ?_)
  refine g_aload_n ok rfl rfl ?_
  refine g_iload_n ok rfl ?_
  refine g_cvt0 ok (me_136 hX) rfl rfl rfl rfl rfl (fun _ => rfl) (t_136 ok hX _ a0 a2 s1) (fun s3 => ?_)
  refine g_aload_n ok rfl rfl ?_
  refine g_getr ok 18 rfl rfl rfl ?_
  refine g_getr ok 168 rfl rfl rfl ?_
  refine g_iload_n ok rfl ?_
  refine g_aaload4 ok (n := 6) rfl rfl (fun _ _ => ?_)
  let v5 : Nat := (gR s3 (gR s3 (gR s3 a0 5) 0) (a1 : Int).toNat)
  refine g_astore_n ok rfl rfl (L' := [(0, (27, 0, a0)), (1, (0, a1, 0)), (2, (0, a2, 0)), (3, (23, 0, v5))]) rfl ?_
  refine g_aload_n ok rfl rfl ?_
  refine g_getr ok 16 rfl rfl rfl ?_
  refine g_iload_n ok rfl ?_
  refine g_aload_n ok rfl rfl ?_
  refine g_geti ok rfl rfl ?_
  refine g_cvz ok (me_4 hX) rfl rfl rfl rfl (t_4 ok hX _ (gR s3 a0 4) a2 (gI s3 v5 2) s3) (fun v7 s6 hb8 => ?_)
  refine g_istore ok rfl (L' := [(0, (27, 0, a0)), (1, (0, a1, 0)), (2, (0, a2, 0)), (3, (23, 0, v5)), (4, (0, v7, 0))]) rfl ?_
  refine g_iconst ok (v := 0) rfl ?_
  refine g_istore ok rfl (L' := [(0, (27, 0, a0)), (1, (0, a1, 0)), (2, (0, a2, 0)), (3, (23, 0, v5)), (4, (0, v7, 0)), (5, (0, 0, 0))]) rfl ?_
  refine g_iconst ok (v := 0) rfl ?_
  refine g_istore ok rfl (L' := [(0, (27, 0, a0)), (1, (0, a1, 0)), (2, (0, a2, 0)), (3, (23, 0, v5)), (4, (0, v7, 0)), (5, (0, 0, 0)), (6, (0, 0, 0))]) rfl ?_
  exact g_wk ok [(0, (27, 0, a0)), (2, (0, a2, 0)), (3, (23, 0, v5)), (4, (0, v7, 0)), (5, (0, 0, 0)), (6, (0, 0, 0))] ⟨rfl, rfl, rfl, rfl, rfl, rfl, trivial⟩ (tl_116_40 ok hX d  (a0, a2, v5, v7, 0, 0, s6))
-- X11_waysOf
theorem ts_148_34 {X : gX} (ok : gOK X) (hX : gHX X) (d : Nat) {k34 : (Nat × Int × Int × Int × Int × gS) ⊕ gO → Option gO} (hl34 : ∀ y : (Nat × Int × Int × Int × Int × gS), Go X em_148 148 d 34 [] [(0, (27, 0, y.1)), (1, (0, y.2.1, 0)), (2, (0, y.2.2.1, 0)), (3, (2, y.2.2.2.1, 0)), (5, (0, y.2.2.2.2.1, 0))] [] y.2.2.2.2.2 0 0 (some (Sum.inl y)) k34) (hr34 : ∀ q, k34 (Sum.inr q) = some q) (x0 : Nat) (x1 : Int) (x2 : Int) (x3 : Int) (x5 : Int) (s : gS) : Go X em_148 148 d 34 [] [(0, (27, 0, x0)), (1, (0, x1, 0)), (2, (0, x2, 0)), (3, (2, x3, 0)), (5, (0, x5, 0))] [] s 0 0 (sb_148_34 x0 x1 x2 x3 x5 s) k34 := by
  delta sb_148_34
  refine g_rb gs_148 4 (cd' := gb_148_34) rfl rfl ?_
  refine g_iload ok rfl ?_
  refine g_iload_n ok rfl ?_
  refine g_ic_ge ok rfl (fun _ => ?_) (fun _ => ?_)
  · refine g_rb gs_148 5 (cd' := gb_148_40) rfl rfl ?_
    refine g_lload_n ok rfl ?_
    refine g_iload ok rfl ?_
    refine g_iload_n ok rfl ?_
    refine g_ic_ge ok rfl (fun _ => ?_) (fun _ => ?_)
    · refine g_rb gs_148 6 (cd' := gb_148_47) rfl rfl ?_
      refine g_aload_n ok rfl rfl ?_
      refine g_getr ok 16 rfl rfl rfl ?_
      refine g_geti ok rfl rfl ?_
      refine g_i2l ok ?_
      refine g_goto ok rfl ?_
      refine g_rb gs_148 8 (cd' := gb_148_69) rfl rfl ?_
      refine g_lmul ok ?_
      let v2 : Int := (g64 (x3 * (gI s (gR s x0 4) 8)))
      refine g_lstore_n ok rfl (L' := [(0, (27, 0, x0)), (1, (0, x1, 0)), (2, (0, x2, 0)), (3, (2, v2, 0)), (5, (0, x5, 0))]) rfl ?_
      refine g_iinc ok rfl rfl (L' := [(0, (27, 0, x0)), (1, (0, x1, 0)), (2, (0, x2, 0)), (3, (2, v2, 0)), (5, (0, (g32 (x5 + 1)), 0))]) rfl ?_
      refine g_goto ok rfl ?_
      exact g_wk ok [(0, (27, 0, x0)), (1, (0, x1, 0)), (2, (0, x2, 0)), (3, (2, v2, 0)), (5, (0, (g32 (x5 + 1)), 0))] ⟨rfl, rfl, rfl, rfl, rfl, trivial⟩ (hl34 (x0, x1, x2, v2, (g32 (x5 + 1)), s))
    · refine g_rb gs_148 7 (cd' := gb_148_58) rfl rfl ?_
      refine g_bipush ok (v := 100) rfl ?_
      refine g_aload_n ok rfl rfl ?_
      refine g_getr ok 16 rfl rfl rfl ?_
      refine g_geti ok rfl rfl ?_
      refine g_isub ok ?_
      refine g_i2l ok ?_
      refine g_rb gs_148 8 (cd' := gb_148_69) rfl rfl ?_
      refine g_lmul ok ?_
      let v3 : Int := (g64 (x3 * (g32 (100 - (gI s (gR s x0 4) 8)))))
      refine g_lstore_n ok rfl (L' := [(0, (27, 0, x0)), (1, (0, x1, 0)), (2, (0, x2, 0)), (3, (2, v3, 0)), (5, (0, x5, 0))]) rfl ?_
      refine g_iinc ok rfl rfl (L' := [(0, (27, 0, x0)), (1, (0, x1, 0)), (2, (0, x2, 0)), (3, (2, v3, 0)), (5, (0, (g32 (x5 + 1)), 0))]) rfl ?_
      refine g_goto ok rfl ?_
      exact g_wk ok [(0, (27, 0, x0)), (1, (0, x1, 0)), (2, (0, x2, 0)), (3, (2, v3, 0)), (5, (0, (g32 (x5 + 1)), 0))] ⟨rfl, rfl, rfl, rfl, rfl, trivial⟩ (hl34 (x0, x1, x2, v3, (g32 (x5 + 1)), s))
  · refine g_map hr34 ?_
    refine g_rb gs_148 9 (cd' := gb_148_77) rfl rfl ?_
    refine g_lload_n ok rfl ?_
    exact g_lreturn ok rfl rfl (rfl)
theorem tl_148_34 {X : gX} (ok : gOK X) (hX : gHX X) (d : Nat)  (y : (Nat × Int × Int × Int × Int × gS)) : Go X em_148 148 d 34 [] [(0, (27, 0, y.1)), (1, (0, y.2.1, 0)), (2, (0, y.2.2.1, 0)), (3, (2, y.2.2.2.1, 0)), (5, (0, y.2.2.2.2.1, 0))] [] y.2.2.2.2.2 0 0 (gloop (st_148_34) y) some :=
  g_loop (Lh := fun y => [(0, (27, 0, y.1)), (1, (0, y.2.1, 0)), (2, (0, y.2.2.1, 0)), (3, (2, y.2.2.2.1, 0)), (5, (0, y.2.2.2.2.1, 0))]) (sh := fun y => y.2.2.2.2.2) (fun k34 hl34 hr34 y => ts_148_34 ok hX d  hl34 hr34 y.1 y.2.1 y.2.2.1 y.2.2.2.1 y.2.2.2.2.1 y.2.2.2.2.2) y
theorem ts_148_5 {X : gX} (ok : gOK X) (hX : gHX X) (d : Nat) {k5 : (Nat × Int × Int × Int × Int × gS) ⊕ gO → Option gO} (hl5 : ∀ y : (Nat × Int × Int × Int × Int × gS), Go X em_148 148 d 5 [] [(0, (27, 0, y.1)), (1, (0, y.2.1, 0)), (2, (0, y.2.2.1, 0)), (3, (2, y.2.2.2.1, 0)), (5, (0, y.2.2.2.2.1, 0))] [] y.2.2.2.2.2 0 0 (some (Sum.inl y)) k5) (hr5 : ∀ q, k5 (Sum.inr q) = some q) (x0 : Nat) (x1 : Int) (x2 : Int) (x3 : Int) (x5 : Int) (s : gS) : Go X em_148 148 d 5 [] [(0, (27, 0, x0)), (1, (0, x1, 0)), (2, (0, x2, 0)), (3, (2, x3, 0)), (5, (0, x5, 0))] [] s 0 0 (sb_148_5 x0 x1 x2 x3 x5 s) k5 := by
  delta sb_148_5
  refine g_rb gs_148 1 (cd' := gb_148_5) rfl rfl ?_
  refine g_iload ok rfl ?_
  refine g_iload_n ok rfl ?_
  refine g_ic_ge ok rfl (fun _ => ?_) (fun _ => ?_)
  · refine g_rb gs_148 2 (cd' := gb_148_11) rfl rfl ?_
    refine g_lload_n ok rfl ?_
    refine g_iload_n ok rfl ?_
    refine g_iload ok rfl ?_
    refine g_isub ok ?_
    refine g_i2l ok ?_
    refine g_lmul ok ?_
    refine g_iload ok rfl ?_
    refine g_iconst ok (v := 1) rfl ?_
    refine g_iadd ok ?_
    refine g_i2l ok ?_
    refine g_ite (fun _ => g_none) (fun hz => g_ldiv ok hz ?_)
    let v1 : Int := (gldiv (g64 (x3 * (g32 (x1 - x5)))) (g32 (x5 + 1)))
    refine g_lstore_n ok rfl (L' := [(0, (27, 0, x0)), (1, (0, x1, 0)), (2, (0, x2, 0)), (3, (2, v1, 0)), (5, (0, x5, 0))]) rfl ?_
    refine g_iinc ok rfl rfl (L' := [(0, (27, 0, x0)), (1, (0, x1, 0)), (2, (0, x2, 0)), (3, (2, v1, 0)), (5, (0, (g32 (x5 + 1)), 0))]) rfl ?_
    refine g_goto ok rfl ?_
    exact g_wk ok [(0, (27, 0, x0)), (1, (0, x1, 0)), (2, (0, x2, 0)), (3, (2, v1, 0)), (5, (0, (g32 (x5 + 1)), 0))] ⟨rfl, rfl, rfl, rfl, rfl, trivial⟩ (hl5 (x0, x1, x2, v1, (g32 (x5 + 1)), s))
  · refine g_map hr5 ?_
    refine g_rb gs_148 3 (cd' := gb_148_31) rfl rfl ?_
    refine g_iconst ok (v := 0) rfl ?_
    refine g_istore ok rfl (L' := [(0, (27, 0, x0)), (1, (0, x1, 0)), (2, (0, x2, 0)), (3, (2, x3, 0)), (5, (0, 0, 0))]) rfl ?_
    exact g_wk ok [(0, (27, 0, x0)), (1, (0, x1, 0)), (2, (0, x2, 0)), (3, (2, x3, 0)), (5, (0, 0, 0))] ⟨rfl, rfl, rfl, rfl, rfl, trivial⟩ (tl_148_34 ok hX d  (x0, x1, x2, x3, 0, s))
theorem tl_148_5 {X : gX} (ok : gOK X) (hX : gHX X) (d : Nat)  (y : (Nat × Int × Int × Int × Int × gS)) : Go X em_148 148 d 5 [] [(0, (27, 0, y.1)), (1, (0, y.2.1, 0)), (2, (0, y.2.2.1, 0)), (3, (2, y.2.2.2.1, 0)), (5, (0, y.2.2.2.2.1, 0))] [] y.2.2.2.2.2 0 0 (gloop (st_148_5) y) some :=
  g_loop (Lh := fun y => [(0, (27, 0, y.1)), (1, (0, y.2.1, 0)), (2, (0, y.2.2.1, 0)), (3, (2, y.2.2.2.1, 0)), (5, (0, y.2.2.2.2.1, 0))]) (sh := fun y => y.2.2.2.2.2) (fun k5 hl5 hr5 y => ts_148_5 ok hX d  hl5 hr5 y.1 y.2.1 y.2.2.1 y.2.2.2.1 y.2.2.2.2.1 y.2.2.2.2.2) y
theorem t_148 {X : gX} (ok : gOK X) (hX : gHX X) (d : Nat) (a0 : Nat) (a1 : Int) (a2 : Int) (s : gS) : Go X em_148 148 d 0 [] [(0, (27, 0, a0)), (1, (0, a1, 0)), (2, (0, a2, 0))] [] s 0 0 (f_148 a0 a1 a2 s) some := by
  delta f_148
  refine g_rb gs_148 0 (cd' := gb_148_0) rfl rfl ?_
  refine g_lconst ok (v := 1) rfl ?_
  refine g_lstore_n ok rfl (L' := [(0, (27, 0, a0)), (1, (0, a1, 0)), (2, (0, a2, 0)), (3, (2, 1, 0))]) rfl ?_
  refine g_iconst ok (v := 0) rfl ?_
  refine g_istore ok rfl (L' := [(0, (27, 0, a0)), (1, (0, a1, 0)), (2, (0, a2, 0)), (3, (2, 1, 0)), (5, (0, 0, 0))]) rfl ?_
  exact g_wk ok [(0, (27, 0, a0)), (1, (0, a1, 0)), (2, (0, a2, 0)), (3, (2, 1, 0)), (5, (0, 0, 0))] ⟨rfl, rfl, rfl, rfl, rfl, trivial⟩ (tl_148_5 ok hX d  (a0, a1, a2, 1, 0, s))
-- X11_odds
theorem ts_117_45 {X : gX} (ok : gOK X) (hX : gHX X) (d : Nat) {k45 : (Nat × Int × Int × Int × Int × gS) ⊕ gO → Option gO} (hl45 : ∀ y : (Nat × Int × Int × Int × Int × gS), Go X em_117 117 (d + 1) 45 [] [(0, (27, 0, y.1)), (1, (0, y.2.1, 0)), (3, (2, y.2.2.1, 0)), (5, (2, y.2.2.2.1, 0)), (7, (0, y.2.2.2.2.1, 0))] [] y.2.2.2.2.2 2 12 (some (Sum.inl y)) k45) (hr45 : ∀ q, k45 (Sum.inr q) = some q) (x0 : Nat) (x1 : Int) (x3 : Int) (x5 : Int) (x7 : Int) (s : gS) : Go X em_117 117 (d + 1) 45 [] [(0, (27, 0, x0)), (1, (0, x1, 0)), (3, (2, x3, 0)), (5, (2, x5, 0)), (7, (0, x7, 0))] [] s 2 12 (sb_117_45 x0 x1 x3 x5 x7 s) k45 := by
  delta sb_117_45
  refine g_rb gs_117 4 (cd' := gb_117_45) rfl rfl ?_
  refine g_iload ok rfl ?_
  refine g_iload_n ok rfl ?_
  refine g_ic_gt ok rfl (fun _ => ?_) (fun _ => ?_)
  · refine g_map hr45 ?_
    refine g_rb gs_117 6 (cd' := gb_117_67) rfl rfl ?_
    refine g_lload_n ok rfl ?_
    refine g_ldc2 ok (v := 10000) (by decide) ?_ (by decide) (by decide)
    refine g_lmul ok ?_
    refine g_lload ok rfl ?_
    refine g_ite (fun _ => g_none) (fun hz => g_ldiv ok hz ?_)
    refine g_l2i ok ?_
    exact g_ireturn ok rfl rfl (rfl)
  · refine g_rb gs_117 5 (cd' := gb_117_51) rfl rfl ?_
    refine g_lload_n ok rfl ?_
    refine g_aload_n ok rfl rfl ?_
    refine g_iload_n ok rfl ?_
    refine g_iload ok rfl ?_
    refine g_cvl ok (me_148 hX) rfl rfl rfl rfl (t_148 ok hX _ x0 x1 x7 s) (fun v6 s5 => ?_)
    refine g_ladd ok ?_
    refine g_lstore_n ok rfl (L' := [(0, (27, 0, x0)), (1, (0, x1, 0)), (3, (2, (g64 (x3 + v6)), 0)), (5, (2, x5, 0)), (7, (0, x7, 0))]) rfl ?_
    refine g_iinc ok rfl rfl (L' := [(0, (27, 0, x0)), (1, (0, x1, 0)), (3, (2, (g64 (x3 + v6)), 0)), (5, (2, x5, 0)), (7, (0, (g32 (x7 + 1)), 0))]) rfl ?_
    refine g_goto ok rfl ?_
    exact g_wk ok [(0, (27, 0, x0)), (1, (0, x1, 0)), (3, (2, (g64 (x3 + v6)), 0)), (5, (2, x5, 0)), (7, (0, (g32 (x7 + 1)), 0))] ⟨rfl, rfl, rfl, rfl, rfl, trivial⟩ (hl45 (x0, x1, (g64 (x3 + v6)), x5, (g32 (x7 + 1)), s5))
theorem tl_117_45 {X : gX} (ok : gOK X) (hX : gHX X) (d : Nat)  (y : (Nat × Int × Int × Int × Int × gS)) : Go X em_117 117 (d + 1) 45 [] [(0, (27, 0, y.1)), (1, (0, y.2.1, 0)), (3, (2, y.2.2.1, 0)), (5, (2, y.2.2.2.1, 0)), (7, (0, y.2.2.2.2.1, 0))] [] y.2.2.2.2.2 2 12 (gloop (st_117_45) y) some :=
  g_loop (Lh := fun y => [(0, (27, 0, y.1)), (1, (0, y.2.1, 0)), (3, (2, y.2.2.1, 0)), (5, (2, y.2.2.2.1, 0)), (7, (0, y.2.2.2.2.1, 0))]) (sh := fun y => y.2.2.2.2.2) (fun k45 hl45 hr45 y => ts_117_45 ok hX d  hl45 hr45 y.1 y.2.1 y.2.2.1 y.2.2.2.1 y.2.2.2.2.1 y.2.2.2.2.2) y
theorem ts_117_22 {X : gX} (ok : gOK X) (hX : gHX X) (d : Nat) {k22 : (Nat × Int × Int × Int × Int × Int × gS) ⊕ gO → Option gO} (hl22 : ∀ y : (Nat × Int × Int × Int × Int × Int × gS), Go X em_117 117 (d + 1) 22 [] [(0, (27, 0, y.1)), (1, (0, y.2.1, 0)), (2, (0, y.2.2.1, 0)), (3, (2, y.2.2.2.1, 0)), (5, (2, y.2.2.2.2.1, 0)), (7, (0, y.2.2.2.2.2.1, 0))] [] y.2.2.2.2.2.2 2 12 (some (Sum.inl y)) k22) (hr22 : ∀ q, k22 (Sum.inr q) = some q) (x0 : Nat) (x1 : Int) (x2 : Int) (x3 : Int) (x5 : Int) (x7 : Int) (s : gS) : Go X em_117 117 (d + 1) 22 [] [(0, (27, 0, x0)), (1, (0, x1, 0)), (2, (0, x2, 0)), (3, (2, x3, 0)), (5, (2, x5, 0)), (7, (0, x7, 0))] [] s 2 12 (sb_117_22 x0 x1 x2 x3 x5 x7 s) k22 := by
  delta sb_117_22
  refine g_rb gs_117 1 (cd' := gb_117_22) rfl rfl ?_
  refine g_iload ok rfl ?_
  refine g_iload_n ok rfl ?_
  refine g_ic_ge ok rfl (fun _ => ?_) (fun _ => ?_)
  · refine g_rb gs_117 2 (cd' := gb_117_28) rfl rfl ?_
    refine g_lload ok rfl ?_
    refine g_ldc2 ok (v := 100) (by decide) ?_ (by decide) (by decide)
    refine g_lmul ok ?_
    refine g_lstore ok rfl (L' := [(0, (27, 0, x0)), (1, (0, x1, 0)), (2, (0, x2, 0)), (3, (2, x3, 0)), (5, (2, (g64 (x5 * 100)), 0)), (7, (0, x7, 0))]) rfl ?_
    refine g_iinc ok rfl rfl (L' := [(0, (27, 0, x0)), (1, (0, x1, 0)), (2, (0, x2, 0)), (3, (2, x3, 0)), (5, (2, (g64 (x5 * 100)), 0)), (7, (0, (g32 (x7 + 1)), 0))]) rfl ?_
    refine g_goto ok rfl ?_
    exact g_wk ok [(0, (27, 0, x0)), (1, (0, x1, 0)), (2, (0, x2, 0)), (3, (2, x3, 0)), (5, (2, (g64 (x5 * 100)), 0)), (7, (0, (g32 (x7 + 1)), 0))] ⟨rfl, rfl, rfl, rfl, rfl, rfl, trivial⟩ (hl22 (x0, x1, x2, x3, (g64 (x5 * 100)), (g32 (x7 + 1)), s))
  · refine g_map hr22 ?_
    refine g_rb gs_117 3 (cd' := gb_117_42) rfl rfl ?_
    refine g_iload_n ok rfl ?_
    refine g_istore ok rfl (L' := [(0, (27, 0, x0)), (1, (0, x1, 0)), (2, (0, x2, 0)), (3, (2, x3, 0)), (5, (2, x5, 0)), (7, (0, x2, 0))]) rfl ?_
    exact g_wk ok [(0, (27, 0, x0)), (1, (0, x1, 0)), (3, (2, x3, 0)), (5, (2, x5, 0)), (7, (0, x2, 0))] ⟨rfl, rfl, rfl, rfl, rfl, trivial⟩ (tl_117_45 ok hX d  (x0, x1, x3, x5, x2, s))
theorem tl_117_22 {X : gX} (ok : gOK X) (hX : gHX X) (d : Nat)  (y : (Nat × Int × Int × Int × Int × Int × gS)) : Go X em_117 117 (d + 1) 22 [] [(0, (27, 0, y.1)), (1, (0, y.2.1, 0)), (2, (0, y.2.2.1, 0)), (3, (2, y.2.2.2.1, 0)), (5, (2, y.2.2.2.2.1, 0)), (7, (0, y.2.2.2.2.2.1, 0))] [] y.2.2.2.2.2.2 2 12 (gloop (st_117_22) y) some :=
  g_loop (Lh := fun y => [(0, (27, 0, y.1)), (1, (0, y.2.1, 0)), (2, (0, y.2.2.1, 0)), (3, (2, y.2.2.2.1, 0)), (5, (2, y.2.2.2.2.1, 0)), (7, (0, y.2.2.2.2.2.1, 0))]) (sh := fun y => y.2.2.2.2.2.2) (fun k22 hl22 hr22 y => ts_117_22 ok hX d  hl22 hr22 y.1 y.2.1 y.2.2.1 y.2.2.2.1 y.2.2.2.2.1 y.2.2.2.2.2.1 y.2.2.2.2.2.2) y
theorem t_117 {X : gX} (ok : gOK X) (hX : gHX X) (d : Nat) (a0 : Nat) (a1 : Int) (a2 : Int) (s : gS) : Go X em_117 117 (d + 1) 0 [] [(0, (27, 0, a0)), (1, (0, a1, 0)), (2, (0, a2, 0))] [] s 0 0 (f_117 a0 a1 a2 s) some := by
  delta f_117
  refine g_rb gs_117 0 (cd' := gb_117_0) rfl rfl ?_
  refine g_aload_n ok rfl rfl ?_
  refine g_iload_n ok rfl ?_
  refine g_iconst ok (v := 0) rfl ?_
  refine g_iconst ok (v := 5) rfl ?_
  refine g_cvt0 ok (me_138 hX) rfl rfl rfl rfl rfl (fun _ => rfl) (t_138 ok hX _ a0 a1 0 5 s) (fun s1 => ?_)
  refine g_aload_n ok rfl rfl ?_
  refine g_iload_n ok rfl ?_
  refine g_iconst ok (v := 0) rfl ?_
  refine g_iconst ok (v := 5) rfl ?_
  refine g_cvt0 ok (me_138 hX) rfl rfl rfl rfl rfl (fun _ => rfl) (t_138 ok hX _ a0 a2 0 5 s1) (fun s3 => ?_)
  refine g_lconst ok (v := 0) rfl ?_
  refine g_lstore_n ok rfl (L' := [(0, (27, 0, a0)), (1, (0, a1, 0)), (2, (0, a2, 0)), (3, (2, 0, 0))]) rfl ?_
  refine g_lconst ok (v := 1) rfl ?_
  refine g_lstore ok rfl (L' := [(0, (27, 0, a0)), (1, (0, a1, 0)), (2, (0, a2, 0)), (3, (2, 0, 0)), (5, (2, 1, 0))]) rfl ?_
  refine g_iconst ok (v := 0) rfl ?_
  refine g_istore ok rfl (L' := [(0, (27, 0, a0)), (1, (0, a1, 0)), (2, (0, a2, 0)), (3, (2, 0, 0)), (5, (2, 1, 0)), (7, (0, 0, 0))]) rfl ?_
  exact g_wk ok [(0, (27, 0, a0)), (1, (0, a1, 0)), (2, (0, a2, 0)), (3, (2, 0, 0)), (5, (2, 1, 0)), (7, (0, 0, 0))] ⟨rfl, rfl, rfl, rfl, rfl, rfl, trivial⟩ (tl_117_22 ok hX d  (a0, a1, a2, 0, 1, 0, s3))
-- X11_bids
theorem ts_118_7 {X : gX} (ok : gOK X) (hX : gHX X) (d : Nat) {k7 : (Nat × Int × Int × Int × Int × gS) ⊕ gO → Option gO} (hl7 : ∀ y : (Nat × Int × Int × Int × Int × gS), Go X em_118 118 d 7 [] [(0, (27, 0, y.1)), (1, (0, y.2.1, 0)), (2, (0, y.2.2.1, 0)), (3, (0, y.2.2.2.1, 0)), (4, (0, y.2.2.2.2.1, 0))] [] y.2.2.2.2.2 0 0 (some (Sum.inl y)) k7) (hr7 : ∀ q, k7 (Sum.inr q) = some q) (x0 : Nat) (x1 : Int) (x2 : Int) (x3 : Int) (x4 : Int) (s : gS) : Go X em_118 118 d 7 [] [(0, (27, 0, x0)), (1, (0, x1, 0)), (2, (0, x2, 0)), (3, (0, x3, 0)), (4, (0, x4, 0))] [] s 0 0 (sb_118_7 x0 x1 x2 x3 x4 s) k7 := by
  delta sb_118_7
  refine g_rb gs_118 1 (cd' := gb_118_7) rfl rfl ?_
  refine g_iload ok rfl ?_
  refine g_aload_n ok rfl rfl ?_
  refine g_getr ok 18 rfl rfl rfl ?_
  refine g_geti ok rfl rfl ?_
  refine g_ic_ge ok rfl (fun _ => ?_) (fun _ => ?_)
  · refine g_rb gs_118 2 (cd' := gb_118_19) rfl rfl ?_
    refine g_aload_n ok rfl rfl ?_
    refine g_getr ok 18 rfl rfl rfl ?_
    refine g_getr ok 164 rfl rfl rfl ?_
    refine g_iload ok rfl ?_
    refine g_iaload ok (n := 6) rfl rfl (fun _ _ => ?_)
    let v1 : Int := (gI s (gR s (gR s x0 5) 1) (x4 : Int).toNat)
    refine g_istore ok rfl (L' := [(0, (27, 0, x0)), (1, (0, x1, 0)), (2, (0, x2, 0)), (3, (0, x3, 0)), (4, (0, x4, 0)), (5, (0, v1, 0))]) rfl ?_
    refine g_iload_n ok rfl ?_
    refine g_iconst ok (v := (-1)) rfl ?_
    refine g_ic_ne ok rfl (fun _ => ?_) (fun _ => ?_)
    · refine g_rb gs_118 3 (cd' := gb_118_36) rfl rfl ?_
      refine g_iload ok rfl ?_
      refine g_istore_n ok rfl (L' := [(0, (27, 0, x0)), (1, (0, x1, 0)), (2, (0, x4, 0)), (3, (0, x3, 0)), (4, (0, x4, 0)), (5, (0, v1, 0))]) rfl ?_
      refine g_goto ok rfl ?_
      refine g_rb gs_118 7 (cd' := gb_118_79) rfl rfl ?_
      refine g_iinc ok rfl rfl (L' := [(0, (27, 0, x0)), (1, (0, x1, 0)), (2, (0, x4, 0)), (3, (0, x3, 0)), (4, (0, (g32 (x4 + 1)), 0)), (5, (0, v1, 0))]) rfl ?_
      refine g_goto ok rfl ?_
      exact g_wk ok [(0, (27, 0, x0)), (1, (0, x1, 0)), (2, (0, x4, 0)), (3, (0, x3, 0)), (4, (0, (g32 (x4 + 1)), 0))] ⟨rfl, rfl, rfl, rfl, rfl, trivial⟩ (hl7 (x0, x1, x4, x3, (g32 (x4 + 1)), s))
    · refine g_rb gs_118 4 (cd' := gb_118_42) rfl rfl ?_
      refine g_iload ok rfl ?_
      refine g_aload_n ok rfl rfl ?_
      refine g_getr ok 18 rfl rfl rfl ?_
      refine g_getr ok 164 rfl rfl rfl ?_
      refine g_iload_n ok rfl ?_
      refine g_iaload ok (n := 6) rfl rfl (fun _ _ => ?_)
      refine g_ic_le ok rfl (fun _ => ?_) (fun _ => ?_)
      · refine g_rb gs_118 5 (cd' := gb_118_56) rfl rfl ?_
        refine g_aload_n ok rfl rfl ?_
        refine g_getr ok 18 rfl rfl rfl ?_
        refine g_getr ok 164 rfl rfl rfl ?_
        refine g_iload_n ok rfl ?_
        refine g_iaload ok (n := 6) rfl rfl (fun _ _ => ?_)
        let v2 : Int := (gI s (gR s (gR s x0 5) 1) (x2 : Int).toNat)
        refine g_istore_n ok rfl (L' := [(0, (27, 0, x0)), (1, (0, x1, 0)), (2, (0, x2, 0)), (3, (0, v2, 0)), (4, (0, x4, 0)), (5, (0, v1, 0))]) rfl ?_
        refine g_iload ok rfl ?_
        refine g_istore_n ok rfl (L' := [(0, (27, 0, x0)), (1, (0, x1, 0)), (2, (0, x4, 0)), (3, (0, v2, 0)), (4, (0, x4, 0)), (5, (0, v1, 0))]) rfl ?_
        refine g_goto ok rfl ?_
        refine g_rb gs_118 7 (cd' := gb_118_79) rfl rfl ?_
        refine g_iinc ok rfl rfl (L' := [(0, (27, 0, x0)), (1, (0, x1, 0)), (2, (0, x4, 0)), (3, (0, v2, 0)), (4, (0, (g32 (x4 + 1)), 0)), (5, (0, v1, 0))]) rfl ?_
        refine g_goto ok rfl ?_
        exact g_wk ok [(0, (27, 0, x0)), (1, (0, x1, 0)), (2, (0, x4, 0)), (3, (0, v2, 0)), (4, (0, (g32 (x4 + 1)), 0))] ⟨rfl, rfl, rfl, rfl, rfl, trivial⟩ (hl7 (x0, x1, x4, v2, (g32 (x4 + 1)), s))
      · refine g_rb gs_118 6 (cd' := gb_118_72) rfl rfl ?_
        refine g_iload_n ok rfl ?_
        refine g_iload ok rfl ?_
        refine g_max ok rfl ?_
        refine g_istore_n ok rfl (L' := [(0, (27, 0, x0)), (1, (0, x1, 0)), (2, (0, x2, 0)), (3, (0, (max x3 v1), 0)), (4, (0, x4, 0)), (5, (0, v1, 0))]) rfl ?_
        refine g_rb gs_118 7 (cd' := gb_118_79) rfl rfl ?_
        refine g_iinc ok rfl rfl (L' := [(0, (27, 0, x0)), (1, (0, x1, 0)), (2, (0, x2, 0)), (3, (0, (max x3 v1), 0)), (4, (0, (g32 (x4 + 1)), 0)), (5, (0, v1, 0))]) rfl ?_
        refine g_goto ok rfl ?_
        exact g_wk ok [(0, (27, 0, x0)), (1, (0, x1, 0)), (2, (0, x2, 0)), (3, (0, (max x3 v1), 0)), (4, (0, (g32 (x4 + 1)), 0))] ⟨rfl, rfl, rfl, rfl, rfl, trivial⟩ (hl7 (x0, x1, x2, (max x3 v1), (g32 (x4 + 1)), s))
  · refine g_map hr7 ?_
    refine g_rb gs_118 8 (cd' := gb_118_85) rfl rfl ?_
    refine g_iload_n ok rfl ?_
    refine g_if_eq ok rfl (fun _ => ?_) (fun _ => ?_)
    · refine g_rb gs_118 10 (cd' := gb_118_93) rfl rfl ?_
      refine g_iload_n ok rfl ?_
      refine g_rb gs_118 11 (cd' := gb_118_94) rfl rfl ?_
      exact g_ireturn ok rfl rfl (rfl)
    · refine g_rb gs_118 9 (cd' := gb_118_89) rfl rfl ?_
      refine g_iload_n ok rfl ?_
      refine g_goto ok rfl ?_
      refine g_rb gs_118 11 (cd' := gb_118_94) rfl rfl ?_
      exact g_ireturn ok rfl rfl (rfl)
theorem tl_118_7 {X : gX} (ok : gOK X) (hX : gHX X) (d : Nat)  (y : (Nat × Int × Int × Int × Int × gS)) : Go X em_118 118 d 7 [] [(0, (27, 0, y.1)), (1, (0, y.2.1, 0)), (2, (0, y.2.2.1, 0)), (3, (0, y.2.2.2.1, 0)), (4, (0, y.2.2.2.2.1, 0))] [] y.2.2.2.2.2 0 0 (gloop (st_118_7) y) some :=
  g_loop (Lh := fun y => [(0, (27, 0, y.1)), (1, (0, y.2.1, 0)), (2, (0, y.2.2.1, 0)), (3, (0, y.2.2.2.1, 0)), (4, (0, y.2.2.2.2.1, 0))]) (sh := fun y => y.2.2.2.2.2) (fun k7 hl7 hr7 y => ts_118_7 ok hX d  hl7 hr7 y.1 y.2.1 y.2.2.1 y.2.2.2.1 y.2.2.2.2.1 y.2.2.2.2.2) y
theorem t_118 {X : gX} (ok : gOK X) (hX : gHX X) (d : Nat) (a0 : Nat) (a1 : Int) (s : gS) : Go X em_118 118 d 0 [] [(0, (27, 0, a0)), (1, (0, a1, 0))] [] s 0 0 (f_118 a0 a1 s) some := by
  delta f_118
  refine g_rb gs_118 0 (cd' := gb_118_0) rfl rfl ?_
  refine g_iconst ok (v := (-1)) rfl ?_
  refine g_istore_n ok rfl (L' := [(0, (27, 0, a0)), (1, (0, a1, 0)), (2, (0, (-1), 0))]) rfl ?_
  refine g_iconst ok (v := 0) rfl ?_
  refine g_istore_n ok rfl (L' := [(0, (27, 0, a0)), (1, (0, a1, 0)), (2, (0, (-1), 0)), (3, (0, 0, 0))]) rfl ?_
  refine g_iconst ok (v := 0) rfl ?_
  refine g_istore ok rfl (L' := [(0, (27, 0, a0)), (1, (0, a1, 0)), (2, (0, (-1), 0)), (3, (0, 0, 0)), (4, (0, 0, 0))]) rfl ?_
  exact g_wk ok [(0, (27, 0, a0)), (1, (0, a1, 0)), (2, (0, (-1), 0)), (3, (0, 0, 0)), (4, (0, 0, 0))] ⟨rfl, rfl, rfl, rfl, rfl, trivial⟩ (tl_118_7 ok hX d  (a0, a1, (-1), 0, 0, s))
-- X11_sold
theorem tb_119_10 {X : gX} (ok : gOK X) (hX : gHX X) (d : Nat)  (x0 : Nat) (x1 : Int) (s : gS) : Go X em_119 119 (d + 2) 10 [] [(0, (27, 0, x0)), (1, (0, x1, 0))] [] s 1 6 (fb_119_10 x0 x1 s) some := by
  delta fb_119_10
  refine g_rb gs_119 2 (cd' := gb_119_10) rfl rfl ?_
  refine g_aload_n ok rfl rfl ?_
  refine g_getr ok 24 rfl rfl rfl ?_
  refine g_cv0 ok (me_63 hX) rfl rfl rfl (t_63 ok hX _ (gR s x0 7) s) (fun s1 => ?_)
  refine g_iload_n ok rfl ?_
  refine g_iconst ok (v := (-1)) rfl ?_
  refine g_ic_ne ok rfl (fun _ => ?_) (fun _ => ?_)
  · refine g_rb gs_119 3 (cd' := gb_119_22) rfl rfl ?_
    refine g_aload_n ok rfl rfl ?_
    refine g_getr ok 24 rfl rfl rfl ?_
    refine g_cv1 ok (me_65 hX) rfl rfl rfl rfl (t_65 ok hX _ (gR s1 x0 7) s1) (fun v4 s3 => ?_)
    refine g_goto ok rfl ?_
    refine g_rb gs_119 5 (cd' := gb_119_40) rfl rfl ?_
    exact g_ireturn ok rfl rfl (rfl)
  · refine g_rb gs_119 4 (cd' := gb_119_32) rfl rfl ?_
    refine g_aload_n ok rfl rfl ?_
    refine g_getr ok 24 rfl rfl rfl ?_
    refine g_iload_n ok rfl ?_
    refine g_cv1 ok (me_66 hX) rfl rfl rfl rfl (t_66 ok hX _ (gR s1 x0 7) x1 s1) (fun v6 s5 => ?_)
    refine g_rb gs_119 5 (cd' := gb_119_40) rfl rfl ?_
    exact g_ireturn ok rfl rfl (rfl)
theorem t_119 {X : gX} (ok : gOK X) (hX : gHX X) (d : Nat) (a0 : Nat) (a1 : Int) (s : gS) : Go X em_119 119 (d + 2) 0 [] [(0, (27, 0, a0)), (1, (0, a1, 0))] [] s 0 0 (f_119 a0 a1 s) some := by
  delta f_119
  refine g_rb gs_119 0 (cd' := gb_119_0) rfl rfl ?_
  refine g_iload_n ok rfl ?_
  refine g_iconst ok (v := (-1)) rfl ?_
  refine g_ic_eq ok rfl (fun _ => ?_) (fun _ => ?_)
  · refine g_wd ok (cs' := 1) (ss' := 6) rfl rfl ?_
    exact g_wk ok [(0, (27, 0, a0)), (1, (0, a1, 0))] ⟨rfl, rfl, trivial⟩ (tb_119_10 ok hX d  a0 a1 s)
  · refine g_rb gs_119 1 (cd' := gb_119_5) rfl rfl ?_
    refine g_aload_n ok rfl rfl ?_
    refine g_iload_n ok rfl ?_
    refine g_cvt0 ok (me_137 hX) rfl rfl rfl rfl rfl (fun _ => rfl) (t_137 ok hX _ a0 a1 s) (fun s7 => ?_)
    exact g_wk ok [(0, (27, 0, a0)), (1, (0, a1, 0))] ⟨rfl, rfl, trivial⟩ (tb_119_10 ok hX d  a0 a1 s7)
-- X11_secret
theorem tb_120_57 {X : gX} (ok : gOK X) (hX : gHX X) (d : Nat) {k16 : (Nat × Int × Int × Int × gS) ⊕ gO → Option gO} (hl16 : ∀ y : (Nat × Int × Int × Int × gS), Go X em_120 120 (d + 1) 16 [] [(0, (27, 0, y.1)), (1, (0, y.2.1, 0)), (2, (0, y.2.2.1, 0)), (3, (0, y.2.2.2.1, 0))] [] y.2.2.2.2 0 0 (some (Sum.inl y)) k16) (hr16 : ∀ q, k16 (Sum.inr q) = some q) (x0 : Nat) (x1 : Int) (x3 : Int) (s : gS) : Go X em_120 120 (d + 1) 57 [] [(0, (27, 0, x0)), (1, (0, x1, 0)), (3, (0, x3, 0))] [] s 0 0 (fb_120_57 x0 x1 x3 s) k16 := by
  delta fb_120_57
  refine g_rb gs_120 5 (cd' := gb_120_57) rfl rfl ?_
  refine g_iload_n ok rfl ?_
  refine g_istore_n ok rfl (L' := [(0, (27, 0, x0)), (1, (0, x1, 0)), (3, (0, x3, 0)), (2, (0, x3, 0))]) rfl ?_
  refine g_rb gs_120 6 (cd' := gb_120_59) rfl rfl ?_
  refine g_iinc ok rfl rfl (L' := [(0, (27, 0, x0)), (1, (0, x1, 0)), (3, (0, (g32 (x3 + 1)), 0)), (2, (0, x3, 0))]) rfl ?_
  refine g_goto ok rfl ?_
  exact g_wk ok [(0, (27, 0, x0)), (1, (0, x1, 0)), (2, (0, x3, 0)), (3, (0, (g32 (x3 + 1)), 0))] ⟨rfl, rfl, rfl, rfl, trivial⟩ (hl16 (x0, x1, x3, (g32 (x3 + 1)), s))
theorem ts_120_16 {X : gX} (ok : gOK X) (hX : gHX X) (d : Nat) {k16 : (Nat × Int × Int × Int × gS) ⊕ gO → Option gO} (hl16 : ∀ y : (Nat × Int × Int × Int × gS), Go X em_120 120 (d + 1) 16 [] [(0, (27, 0, y.1)), (1, (0, y.2.1, 0)), (2, (0, y.2.2.1, 0)), (3, (0, y.2.2.2.1, 0))] [] y.2.2.2.2 0 0 (some (Sum.inl y)) k16) (hr16 : ∀ q, k16 (Sum.inr q) = some q) (x0 : Nat) (x1 : Int) (x2 : Int) (x3 : Int) (s : gS) : Go X em_120 120 (d + 1) 16 [] [(0, (27, 0, x0)), (1, (0, x1, 0)), (2, (0, x2, 0)), (3, (0, x3, 0))] [] s 0 0 (sb_120_16 x0 x1 x2 x3 s) k16 := by
  delta sb_120_16
  refine g_rb gs_120 1 (cd' := gb_120_16) rfl rfl ?_
  refine g_iload_n ok rfl ?_
  refine g_iconst ok (v := 1) rfl ?_
  refine g_aload_n ok rfl rfl ?_
  refine g_getr ok 18 rfl rfl rfl ?_
  refine g_geti ok rfl rfl ?_
  refine g_ishl ok ?_
  refine g_ic_ge ok rfl (fun _ => ?_) (fun _ => ?_)
  · refine g_rb gs_120 2 (cd' := gb_120_29) rfl rfl ?_
    refine g_aload_n ok rfl rfl ?_
    refine g_getr ok 18 rfl rfl rfl ?_
    refine g_iload_n ok rfl ?_
    refine g_cv1 ok (me_32 hX) rfl rfl rfl rfl (t_32 ok hX _ (gR s x0 5) x3 s) (fun v3 s2 => ?_)
    refine g_iload_n ok rfl ?_
    refine g_ic_ne ok rfl (fun _ => ?_) (fun _ => ?_)
    · refine g_rb gs_120 3 (cd' := gb_120_41) rfl rfl ?_
      refine g_iload_n ok rfl ?_
      refine g_iconst ok (v := (-1)) rfl ?_
      refine g_ic_eq ok rfl (fun _ => ?_) (fun _ => ?_)
      · exact g_wk ok [(0, (27, 0, x0)), (1, (0, x1, 0)), (3, (0, x3, 0))] ⟨rfl, rfl, rfl, trivial⟩ (tb_120_57 ok hX d hl16 hr16 x0 x1 x3 s2)
      · refine g_rb gs_120 4 (cd' := gb_120_46) rfl rfl ?_
        refine g_iload_n ok rfl ?_
        refine g_cs1 ok (me_264 hX) rfl rfl rfl (t_264 ok hX _ x3 s2) (fun v5 s4 => ?_)
        refine g_iload_n ok rfl ?_
        refine g_cs1 ok (me_264 hX) rfl rfl rfl (t_264 ok hX _ x2 s4) (fun v7 s6 => ?_)
        refine g_ic_ge ok rfl (fun _ => ?_) (fun _ => ?_)
        · exact g_wk ok [(0, (27, 0, x0)), (1, (0, x1, 0)), (3, (0, x3, 0))] ⟨rfl, rfl, rfl, trivial⟩ (tb_120_57 ok hX d hl16 hr16 x0 x1 x3 s6)
        · refine g_rb gs_120 6 (cd' := gb_120_59) rfl rfl ?_
          refine g_iinc ok rfl rfl (L' := [(0, (27, 0, x0)), (1, (0, x1, 0)), (2, (0, x2, 0)), (3, (0, (g32 (x3 + 1)), 0))]) rfl ?_
          refine g_goto ok rfl ?_
          exact g_wk ok [(0, (27, 0, x0)), (1, (0, x1, 0)), (2, (0, x2, 0)), (3, (0, (g32 (x3 + 1)), 0))] ⟨rfl, rfl, rfl, rfl, trivial⟩ (hl16 (x0, x1, x2, (g32 (x3 + 1)), s6))
    · refine g_rb gs_120 6 (cd' := gb_120_59) rfl rfl ?_
      refine g_iinc ok rfl rfl (L' := [(0, (27, 0, x0)), (1, (0, x1, 0)), (2, (0, x2, 0)), (3, (0, (g32 (x3 + 1)), 0))]) rfl ?_
      refine g_goto ok rfl ?_
      exact g_wk ok [(0, (27, 0, x0)), (1, (0, x1, 0)), (2, (0, x2, 0)), (3, (0, (g32 (x3 + 1)), 0))] ⟨rfl, rfl, rfl, rfl, trivial⟩ (hl16 (x0, x1, x2, (g32 (x3 + 1)), s2))
  · refine g_map hr16 ?_
    refine g_rb gs_120 7 (cd' := gb_120_65) rfl rfl ?_
    refine g_iload_n ok rfl ?_
    exact g_ireturn ok rfl rfl (rfl)
theorem tl_120_16 {X : gX} (ok : gOK X) (hX : gHX X) (d : Nat)  (y : (Nat × Int × Int × Int × gS)) : Go X em_120 120 (d + 1) 16 [] [(0, (27, 0, y.1)), (1, (0, y.2.1, 0)), (2, (0, y.2.2.1, 0)), (3, (0, y.2.2.2.1, 0))] [] y.2.2.2.2 0 0 (gloop (st_120_16) y) some :=
  g_loop (Lh := fun y => [(0, (27, 0, y.1)), (1, (0, y.2.1, 0)), (2, (0, y.2.2.1, 0)), (3, (0, y.2.2.2.1, 0))]) (sh := fun y => y.2.2.2.2) (fun k16 hl16 hr16 y => ts_120_16 ok hX d  hl16 hr16 y.1 y.2.1 y.2.2.1 y.2.2.2.1 y.2.2.2.2) y
theorem t_120 {X : gX} (ok : gOK X) (hX : gHX X) (d : Nat) (a0 : Nat) (s : gS) : Go X em_120 120 (d + 1) 0 [] [(0, (27, 0, a0))] [] s 0 0 (f_120 a0 s) some := by
  delta f_120
  refine g_rb gs_120 0 (cd' := gb_120_0) rfl rfl ?_
  refine g_iconst ok (v := 1) rfl ?_
  refine g_aload_n ok rfl rfl ?_
  refine g_getr ok 16 rfl rfl rfl ?_
  refine g_geti ok rfl rfl ?_
  refine g_ishl ok ?_
  refine g_iconst ok (v := 1) rfl ?_
  refine g_isub ok ?_
  let v1 : Int := (g32 ((gshl 1 (gI s (gR s a0 4) 5)) - 1))
  refine g_istore_n ok rfl (L' := [(0, (27, 0, a0)), (1, (0, v1, 0))]) rfl ?_
  refine g_iconst ok (v := (-1)) rfl ?_
  refine g_istore_n ok rfl (L' := [(0, (27, 0, a0)), (1, (0, v1, 0)), (2, (0, (-1), 0))]) rfl ?_
  refine g_iconst ok (v := 0) rfl ?_
  refine g_istore_n ok rfl (L' := [(0, (27, 0, a0)), (1, (0, v1, 0)), (2, (0, (-1), 0)), (3, (0, 0, 0))]) rfl ?_
  exact g_wk ok [(0, (27, 0, a0)), (1, (0, v1, 0)), (2, (0, (-1), 0)), (3, (0, 0, 0))] ⟨rfl, rfl, rfl, rfl, trivial⟩ (tl_120_16 ok hX d  (a0, v1, (-1), 0, s))
-- X11_mates
theorem ts_121_19 {X : gX} (ok : gOK X) (hX : gHX X) (d : Nat) {k4 : (Nat × Int × Int × gS) ⊕ gO → Option gO} (hl4 : ∀ y : (Nat × Int × Int × gS), Go X em_121 121 d 4 [] [(0, (27, 0, y.1)), (1, (0, y.2.1, 0)), (2, (0, y.2.2.1, 0))] [] y.2.2.2 0 0 (some (Sum.inl y)) k4) (hr4 : ∀ q, k4 (Sum.inr q) = some q) {k19 : (Nat × Int × Int × Int × gS) ⊕ ((Nat × Int × Int × gS) ⊕ gO) → Option gO} (hl19 : ∀ y : (Nat × Int × Int × Int × gS), Go X em_121 121 d 19 [] [(0, (27, 0, y.1)), (1, (0, y.2.1, 0)), (2, (0, y.2.2.1, 0)), (3, (0, y.2.2.2.1, 0))] [] y.2.2.2.2 0 0 (some (Sum.inl y)) k19) (hr19 : ∀ q, k19 (Sum.inr q) = k4 q) (x0 : Nat) (x1 : Int) (x2 : Int) (x3 : Int) (s : gS) : Go X em_121 121 d 19 [] [(0, (27, 0, x0)), (1, (0, x1, 0)), (2, (0, x2, 0)), (3, (0, x3, 0))] [] s 0 0 (sb_121_19 x0 x1 x2 x3 s) k19 := by
  delta sb_121_19
  refine g_rb gs_121 3 (cd' := gb_121_19) rfl rfl ?_
  refine g_iload_n ok rfl ?_
  refine g_aload_n ok rfl rfl ?_
  refine g_getr ok 18 rfl rfl rfl ?_
  refine g_geti ok rfl rfl ?_
  refine g_ic_ge ok rfl (fun _ => ?_) (fun _ => ?_)
  · refine g_rb gs_121 4 (cd' := gb_121_30) rfl rfl ?_
    refine g_aload_n ok rfl rfl ?_
    refine g_getr ok 18 rfl rfl rfl ?_
    refine g_getr ok 168 rfl rfl rfl ?_
    refine g_iload_n ok rfl ?_
    refine g_aaload4 ok (n := 6) rfl rfl (fun _ _ => ?_)
    refine g_geti ok rfl rfl ?_
    refine g_aload_n ok rfl rfl ?_
    refine g_getr ok 18 rfl rfl rfl ?_
    refine g_getr ok 168 rfl rfl rfl ?_
    refine g_iload_n ok rfl ?_
    refine g_aaload4 ok (n := 6) rfl rfl (fun _ _ => ?_)
    refine g_geti ok rfl rfl ?_
    refine g_ic_ne ok rfl (fun _ => ?_) (fun _ => ?_)
    · refine g_rb gs_121 5 (cd' := gb_121_57) rfl rfl ?_
      refine g_iinc ok rfl rfl (L' := [(0, (27, 0, x0)), (1, (0, (g32 (x1 + 1)), 0)), (2, (0, x2, 0)), (3, (0, x3, 0))]) rfl ?_
      refine g_rb gs_121 6 (cd' := gb_121_60) rfl rfl ?_
      refine g_iinc ok rfl rfl (L' := [(0, (27, 0, x0)), (1, (0, (g32 (x1 + 1)), 0)), (2, (0, x2, 0)), (3, (0, (g32 (x3 + 1)), 0))]) rfl ?_
      refine g_goto ok rfl ?_
      exact g_wk ok [(0, (27, 0, x0)), (1, (0, (g32 (x1 + 1)), 0)), (2, (0, x2, 0)), (3, (0, (g32 (x3 + 1)), 0))] ⟨rfl, rfl, rfl, rfl, trivial⟩ (hl19 (x0, (g32 (x1 + 1)), x2, (g32 (x3 + 1)), s))
    · refine g_rb gs_121 6 (cd' := gb_121_60) rfl rfl ?_
      refine g_iinc ok rfl rfl (L' := [(0, (27, 0, x0)), (1, (0, x1, 0)), (2, (0, x2, 0)), (3, (0, (g32 (x3 + 1)), 0))]) rfl ?_
      refine g_goto ok rfl ?_
      exact g_wk ok [(0, (27, 0, x0)), (1, (0, x1, 0)), (2, (0, x2, 0)), (3, (0, (g32 (x3 + 1)), 0))] ⟨rfl, rfl, rfl, rfl, trivial⟩ (hl19 (x0, x1, x2, (g32 (x3 + 1)), s))
  · refine g_map hr19 ?_
    refine g_rb gs_121 7 (cd' := gb_121_66) rfl rfl ?_
    refine g_iinc ok rfl rfl (L' := [(0, (27, 0, x0)), (1, (0, x1, 0)), (2, (0, (g32 (x2 + 1)), 0)), (3, (0, x3, 0))]) rfl ?_
    refine g_goto ok rfl ?_
    exact g_wk ok [(0, (27, 0, x0)), (1, (0, x1, 0)), (2, (0, (g32 (x2 + 1)), 0))] ⟨rfl, rfl, rfl, trivial⟩ (hl4 (x0, x1, (g32 (x2 + 1)), s))
theorem tl_121_19 {X : gX} (ok : gOK X) (hX : gHX X) (d : Nat) {k4 : (Nat × Int × Int × gS) ⊕ gO → Option gO} (hl4 : ∀ y : (Nat × Int × Int × gS), Go X em_121 121 d 4 [] [(0, (27, 0, y.1)), (1, (0, y.2.1, 0)), (2, (0, y.2.2.1, 0))] [] y.2.2.2 0 0 (some (Sum.inl y)) k4) (hr4 : ∀ q, k4 (Sum.inr q) = some q) (y : (Nat × Int × Int × Int × gS)) : Go X em_121 121 d 19 [] [(0, (27, 0, y.1)), (1, (0, y.2.1, 0)), (2, (0, y.2.2.1, 0)), (3, (0, y.2.2.2.1, 0))] [] y.2.2.2.2 0 0 (gloop (st_121_19) y) k4 :=
  g_loop (Lh := fun y => [(0, (27, 0, y.1)), (1, (0, y.2.1, 0)), (2, (0, y.2.2.1, 0)), (3, (0, y.2.2.2.1, 0))]) (sh := fun y => y.2.2.2.2) (fun k19 hl19 hr19 y => ts_121_19 ok hX d hl4 hr4 hl19 hr19 y.1 y.2.1 y.2.2.1 y.2.2.2.1 y.2.2.2.2) y
theorem ts_121_4 {X : gX} (ok : gOK X) (hX : gHX X) (d : Nat) {k4 : (Nat × Int × Int × gS) ⊕ gO → Option gO} (hl4 : ∀ y : (Nat × Int × Int × gS), Go X em_121 121 d 4 [] [(0, (27, 0, y.1)), (1, (0, y.2.1, 0)), (2, (0, y.2.2.1, 0))] [] y.2.2.2 0 0 (some (Sum.inl y)) k4) (hr4 : ∀ q, k4 (Sum.inr q) = some q) (x0 : Nat) (x1 : Int) (x2 : Int) (s : gS) : Go X em_121 121 d 4 [] [(0, (27, 0, x0)), (1, (0, x1, 0)), (2, (0, x2, 0))] [] s 0 0 (sb_121_4 x0 x1 x2 s) k4 := by
  delta sb_121_4
  refine g_rb gs_121 1 (cd' := gb_121_4) rfl rfl ?_
  refine g_iload_n ok rfl ?_
  refine g_aload_n ok rfl rfl ?_
  refine g_getr ok 18 rfl rfl rfl ?_
  refine g_geti ok rfl rfl ?_
  refine g_ic_ge ok rfl (fun _ => ?_) (fun _ => ?_)
  · refine g_rb gs_121 2 (cd' := gb_121_15) rfl rfl ?_
    refine g_iload_n ok rfl ?_
    refine g_iconst ok (v := 1) rfl ?_
    refine g_iadd ok ?_
    refine g_istore_n ok rfl (L' := [(0, (27, 0, x0)), (1, (0, x1, 0)), (2, (0, x2, 0)), (3, (0, (g32 (x2 + 1)), 0))]) rfl ?_
    exact g_wk ok [(0, (27, 0, x0)), (1, (0, x1, 0)), (2, (0, x2, 0)), (3, (0, (g32 (x2 + 1)), 0))] ⟨rfl, rfl, rfl, rfl, trivial⟩ (tl_121_19 ok hX d hl4 hr4 (x0, x1, x2, (g32 (x2 + 1)), s))
  · refine g_map hr4 ?_
    refine g_rb gs_121 8 (cd' := gb_121_72) rfl rfl ?_
    refine g_iload_n ok rfl ?_
    exact g_ireturn ok rfl rfl (rfl)
theorem tl_121_4 {X : gX} (ok : gOK X) (hX : gHX X) (d : Nat)  (y : (Nat × Int × Int × gS)) : Go X em_121 121 d 4 [] [(0, (27, 0, y.1)), (1, (0, y.2.1, 0)), (2, (0, y.2.2.1, 0))] [] y.2.2.2 0 0 (gloop (st_121_4) y) some :=
  g_loop (Lh := fun y => [(0, (27, 0, y.1)), (1, (0, y.2.1, 0)), (2, (0, y.2.2.1, 0))]) (sh := fun y => y.2.2.2) (fun k4 hl4 hr4 y => ts_121_4 ok hX d  hl4 hr4 y.1 y.2.1 y.2.2.1 y.2.2.2) y
theorem t_121 {X : gX} (ok : gOK X) (hX : gHX X) (d : Nat) (a0 : Nat) (s : gS) : Go X em_121 121 d 0 [] [(0, (27, 0, a0))] [] s 0 0 (f_121 a0 s) some := by
  delta f_121
  refine g_rb gs_121 0 (cd' := gb_121_0) rfl rfl ?_
  refine g_iconst ok (v := 0) rfl ?_
  refine g_istore_n ok rfl (L' := [(0, (27, 0, a0)), (1, (0, 0, 0))]) rfl ?_
  refine g_iconst ok (v := 0) rfl ?_
  refine g_istore_n ok rfl (L' := [(0, (27, 0, a0)), (1, (0, 0, 0)), (2, (0, 0, 0))]) rfl ?_
  exact g_wk ok [(0, (27, 0, a0)), (1, (0, 0, 0)), (2, (0, 0, 0))] ⟨rfl, rfl, rfl, trivial⟩ (tl_121_4 ok hX d  (a0, 0, 0, s))
-- X11_knows
theorem ts_122_11 {X : gX} (ok : gOK X) (hX : gHX X) (d : Nat) {k11 : (Nat × Int × Int × Int × gS) ⊕ gO → Option gO} (hl11 : ∀ y : (Nat × Int × Int × Int × gS), Go X em_122 122 (d + 1) 11 [] [(0, (27, 0, y.1)), (1, (0, y.2.1, 0)), (2, (0, y.2.2.1, 0)), (3, (0, y.2.2.2.1, 0))] [] y.2.2.2.2 1 6 (some (Sum.inl y)) k11) (hr11 : ∀ q, k11 (Sum.inr q) = some q) (x0 : Nat) (x1 : Int) (x2 : Int) (x3 : Int) (s : gS) : Go X em_122 122 (d + 1) 11 [] [(0, (27, 0, x0)), (1, (0, x1, 0)), (2, (0, x2, 0)), (3, (0, x3, 0))] [] s 1 6 (sb_122_11 x0 x1 x2 x3 s) k11 := by
  delta sb_122_11
  refine g_rb gs_122 1 (cd' := gb_122_11) rfl rfl ?_
  refine g_iload_n ok rfl ?_
  refine g_aload_n ok rfl rfl ?_
  refine g_getr ok 18 rfl rfl rfl ?_
  refine g_geti ok rfl rfl ?_
  refine g_ic_ge ok rfl (fun _ => ?_) (fun _ => ?_)
  · refine g_rb gs_122 2 (cd' := gb_122_22) rfl rfl ?_
    refine g_iload_n ok rfl ?_
    refine g_aload_n ok rfl rfl ?_
    refine g_getr ok 18 rfl rfl rfl ?_
    refine g_getr ok 168 rfl rfl rfl ?_
    refine g_iload_n ok rfl ?_
    refine g_aaload4 ok (n := 6) rfl rfl (fun _ _ => ?_)
    refine g_geti ok rfl rfl ?_
    refine g_iload_n ok rfl ?_
    refine g_ishr ok ?_
    refine g_iconst ok (v := 1) rfl ?_
    refine g_iand ok ?_
    refine g_iload_n ok rfl ?_
    refine g_ishl ok ?_
    refine g_ior ok ?_
    let v3 : Int := (gor x2 (gshl (gand (gshr (gI s (gR s (gR s (gR s x0 5) 0) (x3 : Int).toNat) 2) x1) 1) x3))
    refine g_istore_n ok rfl (L' := [(0, (27, 0, x0)), (1, (0, x1, 0)), (2, (0, v3, 0)), (3, (0, x3, 0))]) rfl ?_
    refine g_iinc ok rfl rfl (L' := [(0, (27, 0, x0)), (1, (0, x1, 0)), (2, (0, v3, 0)), (3, (0, (g32 (x3 + 1)), 0))]) rfl ?_
    refine g_goto ok rfl ?_
    exact g_wk ok [(0, (27, 0, x0)), (1, (0, x1, 0)), (2, (0, v3, 0)), (3, (0, (g32 (x3 + 1)), 0))] ⟨rfl, rfl, rfl, rfl, trivial⟩ (hl11 (x0, x1, v3, (g32 (x3 + 1)), s))
  · refine g_map hr11 ?_
    refine g_rb gs_122 3 (cd' := gb_122_49) rfl rfl ?_
    refine g_iload_n ok rfl ?_
    exact g_ireturn ok rfl rfl (rfl)
theorem tl_122_11 {X : gX} (ok : gOK X) (hX : gHX X) (d : Nat)  (y : (Nat × Int × Int × Int × gS)) : Go X em_122 122 (d + 1) 11 [] [(0, (27, 0, y.1)), (1, (0, y.2.1, 0)), (2, (0, y.2.2.1, 0)), (3, (0, y.2.2.2.1, 0))] [] y.2.2.2.2 1 6 (gloop (st_122_11) y) some :=
  g_loop (Lh := fun y => [(0, (27, 0, y.1)), (1, (0, y.2.1, 0)), (2, (0, y.2.2.1, 0)), (3, (0, y.2.2.2.1, 0))]) (sh := fun y => y.2.2.2.2) (fun k11 hl11 hr11 y => ts_122_11 ok hX d  hl11 hr11 y.1 y.2.1 y.2.2.1 y.2.2.2.1 y.2.2.2.2) y
theorem t_122 {X : gX} (ok : gOK X) (hX : gHX X) (d : Nat) (a0 : Nat) (a1 : Int) (s : gS) : Go X em_122 122 (d + 1) 0 [] [(0, (27, 0, a0)), (1, (0, a1, 0))] [] s 0 0 (f_122 a0 a1 s) some := by
  delta f_122
  refine g_rb gs_122 0 (cd' := gb_122_0) rfl rfl ?_
  refine g_aload_n ok rfl rfl ?_
  refine g_iload_n ok rfl ?_
  refine g_iconst ok (v := 0) rfl ?_
  refine g_iconst ok (v := 5) rfl ?_
  refine g_cvt0 ok (me_138 hX) rfl rfl rfl rfl rfl (fun _ => rfl) (t_138 ok hX _ a0 a1 0 5 s) (fun s1 => ?_)
  refine g_iconst ok (v := 0) rfl ?_
  refine g_istore_n ok rfl (L' := [(0, (27, 0, a0)), (1, (0, a1, 0)), (2, (0, 0, 0))]) rfl ?_
  refine g_iconst ok (v := 0) rfl ?_
  refine g_istore_n ok rfl (L' := [(0, (27, 0, a0)), (1, (0, a1, 0)), (2, (0, 0, 0)), (3, (0, 0, 0))]) rfl ?_
  exact g_wk ok [(0, (27, 0, a0)), (1, (0, a1, 0)), (2, (0, 0, 0)), (3, (0, 0, 0))] ⟨rfl, rfl, rfl, rfl, trivial⟩ (tl_122_11 ok hX d  (a0, a1, 0, 0, s1))
-- X11_dearest
theorem tb_123_41 {X : gX} (ok : gOK X) (hX : gHX X) (d : Nat) {k4 : (Nat × Int × Int × gS) ⊕ gO → Option gO} (hl4 : ∀ y : (Nat × Int × Int × gS), Go X em_123 123 d 4 [] [(0, (27, 0, y.1)), (1, (0, y.2.1, 0)), (2, (0, y.2.2.1, 0))] [] y.2.2.2 0 0 (some (Sum.inl y)) k4) (hr4 : ∀ q, k4 (Sum.inr q) = some q) (x0 : Nat) (x2 : Int) (s : gS) : Go X em_123 123 d 41 [] [(0, (27, 0, x0)), (2, (0, x2, 0))] [] s 0 0 (fb_123_41 x0 x2 s) k4 := by
  delta fb_123_41
  refine g_rb gs_123 4 (cd' := gb_123_41) rfl rfl ?_
  refine g_iload_n ok rfl ?_
  refine g_istore_n ok rfl (L' := [(0, (27, 0, x0)), (2, (0, x2, 0)), (1, (0, x2, 0))]) rfl ?_
  refine g_rb gs_123 5 (cd' := gb_123_43) rfl rfl ?_
  refine g_iinc ok rfl rfl (L' := [(0, (27, 0, x0)), (2, (0, (g32 (x2 + 1)), 0)), (1, (0, x2, 0))]) rfl ?_
  refine g_goto ok rfl ?_
  exact g_wk ok [(0, (27, 0, x0)), (1, (0, x2, 0)), (2, (0, (g32 (x2 + 1)), 0))] ⟨rfl, rfl, rfl, trivial⟩ (hl4 (x0, x2, (g32 (x2 + 1)), s))
theorem ts_123_4 {X : gX} (ok : gOK X) (hX : gHX X) (d : Nat) {k4 : (Nat × Int × Int × gS) ⊕ gO → Option gO} (hl4 : ∀ y : (Nat × Int × Int × gS), Go X em_123 123 d 4 [] [(0, (27, 0, y.1)), (1, (0, y.2.1, 0)), (2, (0, y.2.2.1, 0))] [] y.2.2.2 0 0 (some (Sum.inl y)) k4) (hr4 : ∀ q, k4 (Sum.inr q) = some q) (x0 : Nat) (x1 : Int) (x2 : Int) (s : gS) : Go X em_123 123 d 4 [] [(0, (27, 0, x0)), (1, (0, x1, 0)), (2, (0, x2, 0))] [] s 0 0 (sb_123_4 x0 x1 x2 s) k4 := by
  delta sb_123_4
  refine g_rb gs_123 1 (cd' := gb_123_4) rfl rfl ?_
  refine g_iload_n ok rfl ?_
  refine g_aload_n ok rfl rfl ?_
  refine g_getr ok 16 rfl rfl rfl ?_
  refine g_geti ok rfl rfl ?_
  refine g_ic_ge ok rfl (fun _ => ?_) (fun _ => ?_)
  · refine g_rb gs_123 2 (cd' := gb_123_15) rfl rfl ?_
    refine g_iload_n ok rfl ?_
    refine g_iconst ok (v := (-1)) rfl ?_
    refine g_ic_eq ok rfl (fun _ => ?_) (fun _ => ?_)
    · exact g_wk ok [(0, (27, 0, x0)), (2, (0, x2, 0))] ⟨rfl, rfl, trivial⟩ (tb_123_41 ok hX d hl4 hr4 x0 x2 s)
    · refine g_rb gs_123 3 (cd' := gb_123_20) rfl rfl ?_
      refine g_aload_n ok rfl rfl ?_
      refine g_getr ok 16 rfl rfl rfl ?_
      refine g_getr ok 180 rfl rfl rfl ?_
      refine g_iload_n ok rfl ?_
      refine g_iaload ok (n := 8) rfl rfl (fun _ _ => ?_)
      refine g_aload_n ok rfl rfl ?_
      refine g_getr ok 16 rfl rfl rfl ?_
      refine g_getr ok 180 rfl rfl rfl ?_
      refine g_iload_n ok rfl ?_
      refine g_iaload ok (n := 8) rfl rfl (fun _ _ => ?_)
      refine g_ic_le ok rfl (fun _ => ?_) (fun _ => ?_)
      · exact g_wk ok [(0, (27, 0, x0)), (2, (0, x2, 0))] ⟨rfl, rfl, trivial⟩ (tb_123_41 ok hX d hl4 hr4 x0 x2 s)
      · refine g_rb gs_123 5 (cd' := gb_123_43) rfl rfl ?_
        refine g_iinc ok rfl rfl (L' := [(0, (27, 0, x0)), (1, (0, x1, 0)), (2, (0, (g32 (x2 + 1)), 0))]) rfl ?_
        refine g_goto ok rfl ?_
        exact g_wk ok [(0, (27, 0, x0)), (1, (0, x1, 0)), (2, (0, (g32 (x2 + 1)), 0))] ⟨rfl, rfl, rfl, trivial⟩ (hl4 (x0, x1, (g32 (x2 + 1)), s))
  · refine g_map hr4 ?_
    refine g_rb gs_123 6 (cd' := gb_123_49) rfl rfl ?_
    refine g_iload_n ok rfl ?_
    exact g_ireturn ok rfl rfl (rfl)
theorem tl_123_4 {X : gX} (ok : gOK X) (hX : gHX X) (d : Nat)  (y : (Nat × Int × Int × gS)) : Go X em_123 123 d 4 [] [(0, (27, 0, y.1)), (1, (0, y.2.1, 0)), (2, (0, y.2.2.1, 0))] [] y.2.2.2 0 0 (gloop (st_123_4) y) some :=
  g_loop (Lh := fun y => [(0, (27, 0, y.1)), (1, (0, y.2.1, 0)), (2, (0, y.2.2.1, 0))]) (sh := fun y => y.2.2.2) (fun k4 hl4 hr4 y => ts_123_4 ok hX d  hl4 hr4 y.1 y.2.1 y.2.2.1 y.2.2.2) y
theorem t_123 {X : gX} (ok : gOK X) (hX : gHX X) (d : Nat) (a0 : Nat) (s : gS) : Go X em_123 123 d 0 [] [(0, (27, 0, a0))] [] s 0 0 (f_123 a0 s) some := by
  delta f_123
  refine g_rb gs_123 0 (cd' := gb_123_0) rfl rfl ?_
  refine g_iconst ok (v := (-1)) rfl ?_
  refine g_istore_n ok rfl (L' := [(0, (27, 0, a0)), (1, (0, (-1), 0))]) rfl ?_
  refine g_iconst ok (v := 0) rfl ?_
  refine g_istore_n ok rfl (L' := [(0, (27, 0, a0)), (1, (0, (-1), 0)), (2, (0, 0, 0))]) rfl ?_
  exact g_wk ok [(0, (27, 0, a0)), (1, (0, (-1), 0)), (2, (0, 0, 0))] ⟨rfl, rfl, rfl, trivial⟩ (tl_123_4 ok hX d  (a0, (-1), 0, s))
