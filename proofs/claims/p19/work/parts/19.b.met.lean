-- X0_copyFrom
theorem t_1 {X : gX} (ok : gOK X) (hX : gHX X) (d : Nat) (a0 : Nat) (a1 : Nat) (s : gS) : Go X em_1 1 d 0 [] [(0, (16, 0, a0)), (1, (16, 0, a1))] [] s 0 0 (f_1 a0 a1 s) some := by
  delta f_1
  refine g_rb gs_1 0 (cd' := gb_1_0) rfl rfl ?_
  refine g_aload_n ok rfl rfl ?_
  refine g_getr ok 180 rfl rfl rfl ?_
  refine g_iconst ok (v := 0) rfl ?_
  refine g_aload_n ok rfl rfl ?_
  refine g_getr ok 180 rfl rfl rfl ?_
  refine g_iconst ok (v := 0) rfl ?_
  refine g_bipush ok (v := 8) rfl ?_
  refine g_acopy ok (n1 := 8) (n2 := 8) rfl rfl (by decide) (by decide) (by decide) (by decide) (by decide) rfl ?_
  let s1 : gS := gcpy s (gR s a1 0) 0 (gR s a0 0) 0 8
  refine g_aload_n ok rfl rfl ?_
  refine g_getr ok 180 rfl rfl rfl ?_
  refine g_iconst ok (v := 0) rfl ?_
  refine g_aload_n ok rfl rfl ?_
  refine g_getr ok 180 rfl rfl rfl ?_
  refine g_iconst ok (v := 0) rfl ?_
  refine g_bipush ok (v := 8) rfl ?_
  refine g_acopy ok (n1 := 8) (n2 := 8) rfl rfl (by decide) (by decide) (by decide) (by decide) (by decide) rfl ?_
  let s2 : gS := gcpy s1 (gR s1 a1 1) 0 (gR s1 a0 1) 0 8
  refine g_aload_n ok rfl rfl ?_
  refine g_getr ok 180 rfl rfl rfl ?_
  refine g_iconst ok (v := 0) rfl ?_
  refine g_aload_n ok rfl rfl ?_
  refine g_getr ok 180 rfl rfl rfl ?_
  refine g_iconst ok (v := 0) rfl ?_
  refine g_bipush ok (v := 8) rfl ?_
  refine g_acopy ok (n1 := 8) (n2 := 8) rfl rfl (by decide) (by decide) (by decide) (by decide) (by decide) rfl ?_
  let s3 : gS := gcpy s2 (gR s2 a1 2) 0 (gR s2 a0 2) 0 8
  refine g_aload_n ok rfl rfl ?_
  refine g_getr ok 164 rfl rfl rfl ?_
  refine g_iconst ok (v := 0) rfl ?_
  refine g_aload_n ok rfl rfl ?_
  refine g_getr ok 164 rfl rfl rfl ?_
  refine g_iconst ok (v := 0) rfl ?_
  refine g_bipush ok (v := 6) rfl ?_
  refine g_acopy ok (n1 := 6) (n2 := 6) rfl rfl (by decide) (by decide) (by decide) (by decide) (by decide) rfl ?_
  let s4 : gS := gcpy s3 (gR s3 a1 3) 0 (gR s3 a0 3) 0 6
  refine g_aload_n ok rfl rfl ?_
  refine g_getr ok 164 rfl rfl rfl ?_
  refine g_iconst ok (v := 0) rfl ?_
  refine g_aload_n ok rfl rfl ?_
  refine g_getr ok 164 rfl rfl rfl ?_
  refine g_iconst ok (v := 0) rfl ?_
  refine g_bipush ok (v := 6) rfl ?_
  refine g_acopy ok (n1 := 6) (n2 := 6) rfl rfl (by decide) (by decide) (by decide) (by decide) (by decide) rfl ?_
  let s5 : gS := gcpy s4 (gR s4 a1 4) 0 (gR s4 a0 4) 0 6
  refine g_aload_n ok rfl rfl ?_
  refine g_aload_n ok rfl rfl ?_
  refine g_geti ok rfl rfl ?_
  refine g_puti ok rfl rfl rfl ?_
  let s6 : gS := gw s5 a0 5 (gI s5 a1 5)
  refine g_aload_n ok rfl rfl ?_
  refine g_aload_n ok rfl rfl ?_
  refine g_geti ok rfl rfl ?_
  refine g_puti ok rfl rfl rfl ?_
  let s7 : gS := gw s6 a0 6 (gI s6 a1 6)
  refine g_aload_n ok rfl rfl ?_
  refine g_aload_n ok rfl rfl ?_
  refine g_geti ok rfl rfl ?_
  refine g_puti ok rfl rfl rfl ?_
  let s8 : gS := gw s7 a0 7 (gI s7 a1 7)
  refine g_aload_n ok rfl rfl ?_
  refine g_aload_n ok rfl rfl ?_
  refine g_geti ok rfl rfl ?_
  refine g_puti ok rfl rfl rfl ?_
  let s9 : gS := gw s8 a0 8 (gI s8 a1 8)
  refine g_aload_n ok rfl rfl ?_
  refine g_aload_n ok rfl rfl ?_
  refine g_geti ok rfl rfl ?_
  refine g_puti ok rfl rfl rfl ?_
  let s10 : gS := gw s9 a0 9 (gI s9 a1 9)
  refine g_aload_n ok rfl rfl ?_
  refine g_aload_n ok rfl rfl ?_
  refine g_geti ok rfl rfl ?_
  refine g_puti ok rfl rfl rfl ?_
  let s11 : gS := gw s10 a0 10 (gI s10 a1 10)
  refine g_aload_n ok rfl rfl ?_
  refine g_aload_n ok rfl rfl ?_
  refine g_getr ok 11 rfl rfl rfl ?_
  refine g_putr ok (r := (gR s11 a1 11)) (tg := 10) rfl rfl (gtr_ok rfl) rfl (fun h => h) ?_
  let s12 : gS := gwr s11 a0 11 (gR s11 a1 11)
  exact g_return ok rfl rfl (rfl)
-- X0_addStep
theorem t_2 {X : gX} (ok : gOK X) (hX : gHX X) (d : Nat) (a0 : Nat) (a1 : Int) (a2 : Int) (a3 : Int) (s : gS) : Go X em_2 2 d 0 [] [(0, (16, 0, a0)), (1, (0, a1, 0)), (2, (0, a2, 0)), (3, (0, a3, 0))] [] s 0 0 (f_2 a0 a1 a2 a3 s) some := by
  delta f_2
  refine g_rb gs_2 0 (cd' := gb_2_0) rfl rfl ?_
  refine g_aload_n ok rfl rfl ?_
  refine g_geti ok rfl rfl ?_
  refine g_bipush ok (v := 8) rfl ?_
  refine g_ic_ge ok rfl (fun _ => ?_) (fun _ => ?_)
  · refine g_rb gs_2 1 (cd' := gb_2_9) rfl rfl ?_
    refine g_aload_n ok rfl rfl ?_
    refine g_getr ok 180 rfl rfl rfl ?_
    refine g_aload_n ok rfl rfl ?_
    refine g_geti ok rfl rfl ?_
    refine g_iload_n ok rfl ?_
    refine g_iastore ok (n := 8) rfl rfl (fun _ _ => ?_)
    let s1 : gS := gw s (gR s a0 0) ((gI s a0 5) : Int).toNat a1
    refine g_aload_n ok rfl rfl ?_
    refine g_getr ok 180 rfl rfl rfl ?_
    refine g_aload_n ok rfl rfl ?_
    refine g_geti ok rfl rfl ?_
    refine g_iload_n ok rfl ?_
    refine g_iastore ok (n := 8) rfl rfl (fun _ _ => ?_)
    let s2 : gS := gw s1 (gR s1 a0 1) ((gI s1 a0 5) : Int).toNat a2
    refine g_aload_n ok rfl rfl ?_
    refine g_getr ok 180 rfl rfl rfl ?_
    refine g_aload_n ok rfl rfl ?_
    refine g_geti ok rfl rfl ?_
    refine g_iload_n ok rfl ?_
    refine g_iastore ok (n := 8) rfl rfl (fun _ _ => ?_)
    let s3 : gS := gw s2 (gR s2 a0 2) ((gI s2 a0 5) : Int).toNat a3
    refine g_aload_n ok rfl rfl ?_
    refine g_dup ok rfl ?_
    refine g_geti ok rfl rfl ?_
    refine g_iconst ok (v := 1) rfl ?_
    refine g_iadd ok ?_
    refine g_puti ok rfl rfl rfl ?_
    let s4 : gS := gw s3 a0 5 (g32 ((gI s3 a0 5) + 1))
    refine g_rb gs_2 2 (cd' := gb_2_49) rfl rfl ?_
    exact g_return ok rfl rfl (rfl)
  · refine g_rb gs_2 2 (cd' := gb_2_49) rfl rfl ?_
    exact g_return ok rfl rfl (rfl)
-- X0_addTest
theorem t_3 {X : gX} (ok : gOK X) (hX : gHX X) (d : Nat) (a0 : Nat) (a1 : Int) (a2 : Int) (s : gS) : Go X em_3 3 d 0 [] [(0, (16, 0, a0)), (1, (0, a1, 0)), (2, (0, a2, 0))] [] s 0 0 (f_3 a0 a1 a2 s) some := by
  delta f_3
  refine g_rb gs_3 0 (cd' := gb_3_0) rfl rfl ?_
  refine g_aload_n ok rfl rfl ?_
  refine g_geti ok rfl rfl ?_
  refine g_bipush ok (v := 6) rfl ?_
  refine g_ic_ge ok rfl (fun _ => ?_) (fun _ => ?_)
  · refine g_rb gs_3 1 (cd' := gb_3_9) rfl rfl ?_
    refine g_aload_n ok rfl rfl ?_
    refine g_getr ok 164 rfl rfl rfl ?_
    refine g_aload_n ok rfl rfl ?_
    refine g_geti ok rfl rfl ?_
    refine g_iload_n ok rfl ?_
    refine g_iastore ok (n := 6) rfl rfl (fun _ _ => ?_)
    let s1 : gS := gw s (gR s a0 3) ((gI s a0 6) : Int).toNat a1
    refine g_aload_n ok rfl rfl ?_
    refine g_getr ok 164 rfl rfl rfl ?_
    refine g_aload_n ok rfl rfl ?_
    refine g_geti ok rfl rfl ?_
    refine g_iload_n ok rfl ?_
    refine g_iastore ok (n := 6) rfl rfl (fun _ _ => ?_)
    let s2 : gS := gw s1 (gR s1 a0 4) ((gI s1 a0 6) : Int).toNat a2
    refine g_aload_n ok rfl rfl ?_
    refine g_dup ok rfl ?_
    refine g_geti ok rfl rfl ?_
    refine g_iconst ok (v := 1) rfl ?_
    refine g_iadd ok ?_
    refine g_puti ok rfl rfl rfl ?_
    let s3 : gS := gw s2 a0 6 (g32 ((gI s2 a0 6) + 1))
    refine g_rb gs_3 2 (cd' := gb_3_39) rfl rfl ?_
    exact g_return ok rfl rfl (rfl)
  · refine g_rb gs_3 2 (cd' := gb_3_39) rfl rfl ?_
    exact g_return ok rfl rfl (rfl)
-- X0_catches
theorem t_4 {X : gX} (ok : gOK X) (hX : gHX X) (d : Nat) (a0 : Nat) (a1 : Int) (a2 : Int) (s : gS) : Go X em_4 4 d 0 [] [(0, (16, 0, a0)), (1, (0, a1, 0)), (2, (0, a2, 0))] [] s 0 0 (f_4 a0 a1 a2 s) some := by
  delta f_4
  refine g_rb gs_4 0 (cd' := gb_4_0) rfl rfl ?_
  refine g_iload_n ok rfl ?_
  refine g_aload_n ok rfl rfl ?_
  refine g_getr ok 164 rfl rfl rfl ?_
  refine g_iload_n ok rfl ?_
  refine g_iaload ok (n := 6) rfl rfl (fun _ _ => ?_)
  refine g_iconst ok (v := (-1)) rfl ?_
  refine g_ixor ok ?_
  refine g_iand ok ?_
  refine g_if_ne ok rfl (fun _ => ?_) (fun _ => ?_)
  · refine g_rb gs_4 1 (cd' := gb_4_13) rfl rfl ?_
    refine g_iconst ok (v := 1) rfl ?_
    refine g_goto ok rfl ?_
    refine g_rb gs_4 3 (cd' := gb_4_18) rfl rfl ?_
    exact g_zreturn ok rfl (Or.inr rfl) rfl (rfl)
  · refine g_rb gs_4 2 (cd' := gb_4_17) rfl rfl ?_
    refine g_iconst ok (v := 0) rfl ?_
    refine g_rb gs_4 3 (cd' := gb_4_18) rfl rfl ?_
    exact g_zreturn ok rfl (Or.inl rfl) rfl (rfl)
-- X0_stopsAll
theorem ts_5_5 {X : gX} (ok : gOK X) (hX : gHX X) (d : Nat) {k5 : (Nat × Int × Int × Int × gS) ⊕ gO → Option gO} (hl5 : ∀ y : (Nat × Int × Int × Int × gS), Go X em_5 5 d 5 [] [(0, (16, 0, y.1)), (1, (0, y.2.1, 0)), (3, (0, y.2.2.1, 0)), (4, (0, y.2.2.2.1, 0))] [] y.2.2.2.2 0 0 (some (Sum.inl y)) k5) (hr5 : ∀ q, k5 (Sum.inr q) = some q) (x0 : Nat) (x1 : Int) (x3 : Int) (x4 : Int) (s : gS) : Go X em_5 5 d 5 [] [(0, (16, 0, x0)), (1, (0, x1, 0)), (3, (0, x3, 0)), (4, (0, x4, 0))] [] s 0 0 (sb_5_5 x0 x1 x3 x4 s) k5 := by
  delta sb_5_5
  refine g_rb gs_5 1 (cd' := gb_5_5) rfl rfl ?_
  refine g_iload ok rfl ?_
  refine g_aload_n ok rfl rfl ?_
  refine g_geti ok rfl rfl ?_
  refine g_ic_ge ok rfl (fun _ => ?_) (fun _ => ?_)
  · refine g_rb gs_5 2 (cd' := gb_5_14) rfl rfl ?_
    refine g_iload_n ok rfl ?_
    refine g_iload ok rfl ?_
    refine g_ishr ok ?_
    refine g_iconst ok (v := 1) rfl ?_
    refine g_iand ok ?_
    refine g_if_eq ok rfl (fun _ => ?_) (fun _ => ?_)
    · refine g_rb gs_5 4 (cd' := gb_5_35) rfl rfl ?_
      refine g_iinc ok rfl rfl (L' := [(0, (16, 0, x0)), (1, (0, x1, 0)), (3, (0, x3, 0)), (4, (0, (g32 (x4 + 1)), 0))]) rfl ?_
      refine g_goto ok rfl ?_
      exact g_wk ok [(0, (16, 0, x0)), (1, (0, x1, 0)), (3, (0, x3, 0)), (4, (0, (g32 (x4 + 1)), 0))] ⟨rfl, rfl, rfl, rfl, trivial⟩ (hl5 (x0, x1, x3, (g32 (x4 + 1)), s))
    · refine g_rb gs_5 3 (cd' := gb_5_23) rfl rfl ?_
      refine g_iload_n ok rfl ?_
      refine g_aload_n ok rfl rfl ?_
      refine g_getr ok 164 rfl rfl rfl ?_
      refine g_iload ok rfl ?_
      refine g_iaload ok (n := 6) rfl rfl (fun _ _ => ?_)
      refine g_iconst ok (v := (-1)) rfl ?_
      refine g_ixor ok ?_
      refine g_iand ok ?_
      let v1 : Int := (gand x3 (gxor (gI s (gR s x0 4) (x4 : Int).toNat) (-1)))
      refine g_istore_n ok rfl (L' := [(0, (16, 0, x0)), (1, (0, x1, 0)), (3, (0, v1, 0)), (4, (0, x4, 0))]) rfl ?_
      refine g_rb gs_5 4 (cd' := gb_5_35) rfl rfl ?_
      refine g_iinc ok rfl rfl (L' := [(0, (16, 0, x0)), (1, (0, x1, 0)), (3, (0, v1, 0)), (4, (0, (g32 (x4 + 1)), 0))]) rfl ?_
      refine g_goto ok rfl ?_
      exact g_wk ok [(0, (16, 0, x0)), (1, (0, x1, 0)), (3, (0, v1, 0)), (4, (0, (g32 (x4 + 1)), 0))] ⟨rfl, rfl, rfl, rfl, trivial⟩ (hl5 (x0, x1, v1, (g32 (x4 + 1)), s))
  · refine g_map hr5 ?_
    refine g_rb gs_5 5 (cd' := gb_5_41) rfl rfl ?_
    refine g_iload_n ok rfl ?_
    refine g_if_ne ok rfl (fun _ => ?_) (fun _ => ?_)
    · refine g_rb gs_5 6 (cd' := gb_5_45) rfl rfl ?_
      refine g_iconst ok (v := 1) rfl ?_
      refine g_goto ok rfl ?_
      refine g_rb gs_5 8 (cd' := gb_5_50) rfl rfl ?_
      exact g_zreturn ok rfl (Or.inr rfl) rfl (rfl)
    · refine g_rb gs_5 7 (cd' := gb_5_49) rfl rfl ?_
      refine g_iconst ok (v := 0) rfl ?_
      refine g_rb gs_5 8 (cd' := gb_5_50) rfl rfl ?_
      exact g_zreturn ok rfl (Or.inl rfl) rfl (rfl)
theorem tl_5_5 {X : gX} (ok : gOK X) (hX : gHX X) (d : Nat)  (y : (Nat × Int × Int × Int × gS)) : Go X em_5 5 d 5 [] [(0, (16, 0, y.1)), (1, (0, y.2.1, 0)), (3, (0, y.2.2.1, 0)), (4, (0, y.2.2.2.1, 0))] [] y.2.2.2.2 0 0 (gloop (st_5_5) y) some :=
  g_loop (Lh := fun y => [(0, (16, 0, y.1)), (1, (0, y.2.1, 0)), (3, (0, y.2.2.1, 0)), (4, (0, y.2.2.2.1, 0))]) (sh := fun y => y.2.2.2.2) (fun k5 hl5 hr5 y => ts_5_5 ok hX d  hl5 hr5 y.1 y.2.1 y.2.2.1 y.2.2.2.1 y.2.2.2.2) y
theorem t_5 {X : gX} (ok : gOK X) (hX : gHX X) (d : Nat) (a0 : Nat) (a1 : Int) (a2 : Int) (s : gS) : Go X em_5 5 d 0 [] [(0, (16, 0, a0)), (1, (0, a1, 0)), (2, (0, a2, 0))] [] s 0 0 (f_5 a0 a1 a2 s) some := by
  delta f_5
  refine g_rb gs_5 0 (cd' := gb_5_0) rfl rfl ?_
  refine g_iload_n ok rfl ?_
  refine g_istore_n ok rfl (L' := [(0, (16, 0, a0)), (1, (0, a1, 0)), (2, (0, a2, 0)), (3, (0, a2, 0))]) rfl ?_
  refine g_iconst ok (v := 0) rfl ?_
  refine g_istore ok rfl (L' := [(0, (16, 0, a0)), (1, (0, a1, 0)), (2, (0, a2, 0)), (3, (0, a2, 0)), (4, (0, 0, 0))]) rfl ?_
  exact g_wk ok [(0, (16, 0, a0)), (1, (0, a1, 0)), (3, (0, a2, 0)), (4, (0, 0, 0))] ⟨rfl, rfl, rfl, rfl, trivial⟩ (tl_5_5 ok hX d  (a0, a1, a2, 0, s))
-- X0_costOfTests
theorem ts_6_4 {X : gX} (ok : gOK X) (hX : gHX X) (d : Nat) {k4 : (Nat × Int × Int × Int × gS) ⊕ gO → Option gO} (hl4 : ∀ y : (Nat × Int × Int × Int × gS), Go X em_6 6 d 4 [] [(0, (16, 0, y.1)), (1, (0, y.2.1, 0)), (2, (0, y.2.2.1, 0)), (3, (0, y.2.2.2.1, 0))] [] y.2.2.2.2 0 0 (some (Sum.inl y)) k4) (hr4 : ∀ q, k4 (Sum.inr q) = some q) (x0 : Nat) (x1 : Int) (x2 : Int) (x3 : Int) (s : gS) : Go X em_6 6 d 4 [] [(0, (16, 0, x0)), (1, (0, x1, 0)), (2, (0, x2, 0)), (3, (0, x3, 0))] [] s 0 0 (sb_6_4 x0 x1 x2 x3 s) k4 := by
  delta sb_6_4
  refine g_rb gs_6 1 (cd' := gb_6_4) rfl rfl ?_
  refine g_iload_n ok rfl ?_
  refine g_aload_n ok rfl rfl ?_
  refine g_geti ok rfl rfl ?_
  refine g_ic_ge ok rfl (fun _ => ?_) (fun _ => ?_)
  · refine g_rb gs_6 2 (cd' := gb_6_12) rfl rfl ?_
    refine g_iload_n ok rfl ?_
    refine g_iload_n ok rfl ?_
    refine g_ishr ok ?_
    refine g_iconst ok (v := 1) rfl ?_
    refine g_iand ok ?_
    refine g_if_eq ok rfl (fun _ => ?_) (fun _ => ?_)
    · refine g_rb gs_6 4 (cd' := gb_6_29) rfl rfl ?_
      refine g_iinc ok rfl rfl (L' := [(0, (16, 0, x0)), (1, (0, x1, 0)), (2, (0, x2, 0)), (3, (0, (g32 (x3 + 1)), 0))]) rfl ?_
      refine g_goto ok rfl ?_
      exact g_wk ok [(0, (16, 0, x0)), (1, (0, x1, 0)), (2, (0, x2, 0)), (3, (0, (g32 (x3 + 1)), 0))] ⟨rfl, rfl, rfl, rfl, trivial⟩ (hl4 (x0, x1, x2, (g32 (x3 + 1)), s))
    · refine g_rb gs_6 3 (cd' := gb_6_20) rfl rfl ?_
      refine g_iload_n ok rfl ?_
      refine g_aload_n ok rfl rfl ?_
      refine g_getr ok 164 rfl rfl rfl ?_
      refine g_iload_n ok rfl ?_
      refine g_iaload ok (n := 6) rfl rfl (fun _ _ => ?_)
      refine g_iadd ok ?_
      let v1 : Int := (g32 (x2 + (gI s (gR s x0 3) (x3 : Int).toNat)))
      refine g_istore_n ok rfl (L' := [(0, (16, 0, x0)), (1, (0, x1, 0)), (2, (0, v1, 0)), (3, (0, x3, 0))]) rfl ?_
      refine g_rb gs_6 4 (cd' := gb_6_29) rfl rfl ?_
      refine g_iinc ok rfl rfl (L' := [(0, (16, 0, x0)), (1, (0, x1, 0)), (2, (0, v1, 0)), (3, (0, (g32 (x3 + 1)), 0))]) rfl ?_
      refine g_goto ok rfl ?_
      exact g_wk ok [(0, (16, 0, x0)), (1, (0, x1, 0)), (2, (0, v1, 0)), (3, (0, (g32 (x3 + 1)), 0))] ⟨rfl, rfl, rfl, rfl, trivial⟩ (hl4 (x0, x1, v1, (g32 (x3 + 1)), s))
  · refine g_map hr4 ?_
    refine g_rb gs_6 5 (cd' := gb_6_35) rfl rfl ?_
    refine g_iload_n ok rfl ?_
    exact g_ireturn ok rfl rfl (rfl)
theorem tl_6_4 {X : gX} (ok : gOK X) (hX : gHX X) (d : Nat)  (y : (Nat × Int × Int × Int × gS)) : Go X em_6 6 d 4 [] [(0, (16, 0, y.1)), (1, (0, y.2.1, 0)), (2, (0, y.2.2.1, 0)), (3, (0, y.2.2.2.1, 0))] [] y.2.2.2.2 0 0 (gloop (st_6_4) y) some :=
  g_loop (Lh := fun y => [(0, (16, 0, y.1)), (1, (0, y.2.1, 0)), (2, (0, y.2.2.1, 0)), (3, (0, y.2.2.2.1, 0))]) (sh := fun y => y.2.2.2.2) (fun k4 hl4 hr4 y => ts_6_4 ok hX d  hl4 hr4 y.1 y.2.1 y.2.2.1 y.2.2.2.1 y.2.2.2.2) y
theorem t_6 {X : gX} (ok : gOK X) (hX : gHX X) (d : Nat) (a0 : Nat) (a1 : Int) (s : gS) : Go X em_6 6 d 0 [] [(0, (16, 0, a0)), (1, (0, a1, 0))] [] s 0 0 (f_6 a0 a1 s) some := by
  delta f_6
  refine g_rb gs_6 0 (cd' := gb_6_0) rfl rfl ?_
  refine g_iconst ok (v := 0) rfl ?_
  refine g_istore_n ok rfl (L' := [(0, (16, 0, a0)), (1, (0, a1, 0)), (2, (0, 0, 0))]) rfl ?_
  refine g_iconst ok (v := 0) rfl ?_
  refine g_istore_n ok rfl (L' := [(0, (16, 0, a0)), (1, (0, a1, 0)), (2, (0, 0, 0)), (3, (0, 0, 0))]) rfl ?_
  exact g_wk ok [(0, (16, 0, a0)), (1, (0, a1, 0)), (2, (0, 0, 0)), (3, (0, 0, 0))] ⟨rfl, rfl, rfl, rfl, trivial⟩ (tl_6_4 ok hX d  (a0, a1, 0, 0, s))
-- X0_outlayOf
theorem ts_7_23 {X : gX} (ok : gOK X) (hX : gHX X) (d : Nat) {k23 : (Nat × Int × Int × gS) ⊕ gO → Option gO} (hl23 : ∀ y : (Nat × Int × Int × gS), Go X em_7 7 d 23 [] [(0, (16, 0, y.1)), (2, (0, y.2.1, 0)), (3, (0, y.2.2.1, 0))] [] y.2.2.2 0 0 (some (Sum.inl y)) k23) (hr23 : ∀ q, k23 (Sum.inr q) = some q) (x0 : Nat) (x2 : Int) (x3 : Int) (s : gS) : Go X em_7 7 d 23 [] [(0, (16, 0, x0)), (2, (0, x2, 0)), (3, (0, x3, 0))] [] s 0 0 (sb_7_23 x0 x2 x3 s) k23 := by
  delta sb_7_23
  refine g_rb gs_7 4 (cd' := gb_7_23) rfl rfl ?_
  refine g_iload_n ok rfl ?_
  refine g_aload_n ok rfl rfl ?_
  refine g_geti ok rfl rfl ?_
  refine g_ic_ge ok rfl (fun _ => ?_) (fun _ => ?_)
  · refine g_rb gs_7 5 (cd' := gb_7_31) rfl rfl ?_
    refine g_iload_n ok rfl ?_
    refine g_aload_n ok rfl rfl ?_
    refine g_getr ok 180 rfl rfl rfl ?_
    refine g_iload_n ok rfl ?_
    refine g_iaload ok (n := 8) rfl rfl (fun _ _ => ?_)
    refine g_iadd ok ?_
    let v1 : Int := (g32 (x2 + (gI s (gR s x0 1) (x3 : Int).toNat)))
    refine g_istore_n ok rfl (L' := [(0, (16, 0, x0)), (2, (0, v1, 0)), (3, (0, x3, 0))]) rfl ?_
    refine g_iinc ok rfl rfl (L' := [(0, (16, 0, x0)), (2, (0, v1, 0)), (3, (0, (g32 (x3 + 1)), 0))]) rfl ?_
    refine g_goto ok rfl ?_
    exact g_wk ok [(0, (16, 0, x0)), (2, (0, v1, 0)), (3, (0, (g32 (x3 + 1)), 0))] ⟨rfl, rfl, rfl, trivial⟩ (hl23 (x0, v1, (g32 (x3 + 1)), s))
  · refine g_map hr23 ?_
    refine g_rb gs_7 6 (cd' := gb_7_46) rfl rfl ?_
    refine g_iload_n ok rfl ?_
    exact g_ireturn ok rfl rfl (rfl)
theorem tl_7_23 {X : gX} (ok : gOK X) (hX : gHX X) (d : Nat)  (y : (Nat × Int × Int × gS)) : Go X em_7 7 d 23 [] [(0, (16, 0, y.1)), (2, (0, y.2.1, 0)), (3, (0, y.2.2.1, 0))] [] y.2.2.2 0 0 (gloop (st_7_23) y) some :=
  g_loop (Lh := fun y => [(0, (16, 0, y.1)), (2, (0, y.2.1, 0)), (3, (0, y.2.2.1, 0))]) (sh := fun y => y.2.2.2) (fun k23 hl23 hr23 y => ts_7_23 ok hX d  hl23 hr23 y.1 y.2.1 y.2.2.1 y.2.2.2) y
theorem tb_7_22 {X : gX} (ok : gOK X) (hX : gHX X) (d : Nat)  (x0 : Nat) (x2 : Int) (w0 : Int) (s : gS) : Go X em_7 7 d 22 [] [(0, (16, 0, x0)), (2, (0, x2, 0))] [(0, w0, 0)] s 0 0 (fb_7_22 x0 x2 w0 s) some := by
  delta fb_7_22
  refine g_rb gs_7 3 (cd' := gb_7_22) rfl rfl ?_
  refine g_istore_n ok rfl (L' := [(0, (16, 0, x0)), (2, (0, x2, 0)), (3, (0, w0, 0))]) rfl ?_
  exact g_wk ok [(0, (16, 0, x0)), (2, (0, x2, 0)), (3, (0, w0, 0))] ⟨rfl, rfl, rfl, trivial⟩ (tl_7_23 ok hX d  (x0, x2, w0, s))
theorem t_7 {X : gX} (ok : gOK X) (hX : gHX X) (d : Nat) (a0 : Nat) (a1 : Nat) (s : gS) : Go X em_7 7 d 0 [] [(0, (16, 0, a0)), (1, (23, 0, a1))] [] s 0 0 (f_7 a0 a1 s) some := by
  delta f_7
  refine g_rb gs_7 0 (cd' := gb_7_0) rfl rfl ?_
  refine g_iconst ok (v := 0) rfl ?_
  refine g_istore_n ok rfl (L' := [(0, (16, 0, a0)), (1, (23, 0, a1)), (2, (0, 0, 0))]) rfl ?_
  refine g_aload_n ok rfl rfl ?_
  refine g_geti ok rfl rfl ?_
  refine g_if_le ok rfl (fun _ => ?_) (fun _ => ?_)
  · refine g_rb gs_7 1 (cd' := gb_7_9) rfl rfl ?_
    refine g_aload_n ok rfl rfl ?_
    refine g_geti ok rfl rfl ?_
    refine g_iconst ok (v := 1) rfl ?_
    refine g_iadd ok ?_
    refine g_goto ok rfl ?_
    exact g_wk ok [(0, (16, 0, a0)), (2, (0, 0, 0))] ⟨rfl, rfl, trivial⟩ (tb_7_22 ok hX d  a0 0 (g32 ((gI s a1 3) + 1)) s)
  · refine g_rb gs_7 2 (cd' := gb_7_18) rfl rfl ?_
    refine g_aload_n ok rfl rfl ?_
    refine g_geti ok rfl rfl ?_
    exact g_wk ok [(0, (16, 0, a0)), (2, (0, 0, 0))] ⟨rfl, rfl, trivial⟩ (tb_7_22 ok hX d  a0 0 (gI s a1 3) s)
-- X0_daysLeftOf
theorem ts_8_11 {X : gX} (ok : gOK X) (hX : gHX X) (d : Nat) {k11 : (Nat × Int × Int × gS) ⊕ gO → Option gO} (hl11 : ∀ y : (Nat × Int × Int × gS), Go X em_8 8 d 11 [] [(0, (16, 0, y.1)), (2, (0, y.2.1, 0)), (3, (0, y.2.2.1, 0))] [] y.2.2.2 0 0 (some (Sum.inl y)) k11) (hr11 : ∀ q, k11 (Sum.inr q) = some q) (x0 : Nat) (x2 : Int) (x3 : Int) (s : gS) : Go X em_8 8 d 11 [] [(0, (16, 0, x0)), (2, (0, x2, 0)), (3, (0, x3, 0))] [] s 0 0 (sb_8_11 x0 x2 x3 s) k11 := by
  delta sb_8_11
  refine g_rb gs_8 1 (cd' := gb_8_11) rfl rfl ?_
  refine g_iload_n ok rfl ?_
  refine g_aload_n ok rfl rfl ?_
  refine g_geti ok rfl rfl ?_
  refine g_ic_ge ok rfl (fun _ => ?_) (fun _ => ?_)
  · refine g_rb gs_8 2 (cd' := gb_8_19) rfl rfl ?_
    refine g_iload_n ok rfl ?_
    refine g_aload_n ok rfl rfl ?_
    refine g_getr ok 180 rfl rfl rfl ?_
    refine g_iload_n ok rfl ?_
    refine g_iaload ok (n := 8) rfl rfl (fun _ _ => ?_)
    refine g_iadd ok ?_
    let v2 : Int := (g32 (x2 + (gI s (gR s x0 0) (x3 : Int).toNat)))
    refine g_istore_n ok rfl (L' := [(0, (16, 0, x0)), (2, (0, v2, 0)), (3, (0, x3, 0))]) rfl ?_
    refine g_iinc ok rfl rfl (L' := [(0, (16, 0, x0)), (2, (0, v2, 0)), (3, (0, (g32 (x3 + 1)), 0))]) rfl ?_
    refine g_goto ok rfl ?_
    exact g_wk ok [(0, (16, 0, x0)), (2, (0, v2, 0)), (3, (0, (g32 (x3 + 1)), 0))] ⟨rfl, rfl, rfl, trivial⟩ (hl11 (x0, v2, (g32 (x3 + 1)), s))
  · refine g_map hr11 ?_
    refine g_rb gs_8 3 (cd' := gb_8_34) rfl rfl ?_
    refine g_iload_n ok rfl ?_
    exact g_ireturn ok rfl rfl (rfl)
theorem tl_8_11 {X : gX} (ok : gOK X) (hX : gHX X) (d : Nat)  (y : (Nat × Int × Int × gS)) : Go X em_8 8 d 11 [] [(0, (16, 0, y.1)), (2, (0, y.2.1, 0)), (3, (0, y.2.2.1, 0))] [] y.2.2.2 0 0 (gloop (st_8_11) y) some :=
  g_loop (Lh := fun y => [(0, (16, 0, y.1)), (2, (0, y.2.1, 0)), (3, (0, y.2.2.1, 0))]) (sh := fun y => y.2.2.2) (fun k11 hl11 hr11 y => ts_8_11 ok hX d  hl11 hr11 y.1 y.2.1 y.2.2.1 y.2.2.2) y
theorem t_8 {X : gX} (ok : gOK X) (hX : gHX X) (d : Nat) (a0 : Nat) (a1 : Nat) (s : gS) : Go X em_8 8 d 0 [] [(0, (16, 0, a0)), (1, (23, 0, a1))] [] s 0 0 (f_8 a0 a1 s) some := by
  delta f_8
  refine g_rb gs_8 0 (cd' := gb_8_0) rfl rfl ?_
  refine g_aload_n ok rfl rfl ?_
  refine g_geti ok rfl rfl ?_
  refine g_ineg ok ?_
  let v1 : Int := (g32 (-(gI s a1 4)))
  refine g_istore_n ok rfl (L' := [(0, (16, 0, a0)), (1, (23, 0, a1)), (2, (0, v1, 0))]) rfl ?_
  refine g_aload_n ok rfl rfl ?_
  refine g_geti ok rfl rfl ?_
  refine g_istore_n ok rfl (L' := [(0, (16, 0, a0)), (1, (23, 0, a1)), (2, (0, v1, 0)), (3, (0, (gI s a1 3), 0))]) rfl ?_
  exact g_wk ok [(0, (16, 0, a0)), (2, (0, v1, 0)), (3, (0, (gI s a1 3), 0))] ⟨rfl, rfl, rfl, trivial⟩ (tl_8_11 ok hX d  (a0, v1, (gI s a1 3), s))
-- X0_showsLeftOf
theorem ts_9_7 {X : gX} (ok : gOK X) (hX : gHX X) (d : Nat) {k7 : (Nat × Int × Int × gS) ⊕ gO → Option gO} (hl7 : ∀ y : (Nat × Int × Int × gS), Go X em_9 9 d 7 [] [(0, (16, 0, y.1)), (2, (0, y.2.1, 0)), (3, (0, y.2.2.1, 0))] [] y.2.2.2 0 0 (some (Sum.inl y)) k7) (hr7 : ∀ q, k7 (Sum.inr q) = some q) (x0 : Nat) (x2 : Int) (x3 : Int) (s : gS) : Go X em_9 9 d 7 [] [(0, (16, 0, x0)), (2, (0, x2, 0)), (3, (0, x3, 0))] [] s 0 0 (sb_9_7 x0 x2 x3 s) k7 := by
  delta sb_9_7
  refine g_rb gs_9 1 (cd' := gb_9_7) rfl rfl ?_
  refine g_iload_n ok rfl ?_
  refine g_aload_n ok rfl rfl ?_
  refine g_geti ok rfl rfl ?_
  refine g_ic_ge ok rfl (fun _ => ?_) (fun _ => ?_)
  · refine g_rb gs_9 2 (cd' := gb_9_15) rfl rfl ?_
    refine g_iload_n ok rfl ?_
    refine g_aload_n ok rfl rfl ?_
    refine g_getr ok 180 rfl rfl rfl ?_
    refine g_iload_n ok rfl ?_
    refine g_iaload ok (n := 8) rfl rfl (fun _ _ => ?_)
    refine g_iadd ok ?_
    let v1 : Int := (g32 (x2 + (gI s (gR s x0 2) (x3 : Int).toNat)))
    refine g_istore_n ok rfl (L' := [(0, (16, 0, x0)), (2, (0, v1, 0)), (3, (0, x3, 0))]) rfl ?_
    refine g_iinc ok rfl rfl (L' := [(0, (16, 0, x0)), (2, (0, v1, 0)), (3, (0, (g32 (x3 + 1)), 0))]) rfl ?_
    refine g_goto ok rfl ?_
    exact g_wk ok [(0, (16, 0, x0)), (2, (0, v1, 0)), (3, (0, (g32 (x3 + 1)), 0))] ⟨rfl, rfl, rfl, trivial⟩ (hl7 (x0, v1, (g32 (x3 + 1)), s))
  · refine g_map hr7 ?_
    refine g_rb gs_9 3 (cd' := gb_9_30) rfl rfl ?_
    refine g_iload_n ok rfl ?_
    exact g_ireturn ok rfl rfl (rfl)
theorem tl_9_7 {X : gX} (ok : gOK X) (hX : gHX X) (d : Nat)  (y : (Nat × Int × Int × gS)) : Go X em_9 9 d 7 [] [(0, (16, 0, y.1)), (2, (0, y.2.1, 0)), (3, (0, y.2.2.1, 0))] [] y.2.2.2 0 0 (gloop (st_9_7) y) some :=
  g_loop (Lh := fun y => [(0, (16, 0, y.1)), (2, (0, y.2.1, 0)), (3, (0, y.2.2.1, 0))]) (sh := fun y => y.2.2.2) (fun k7 hl7 hr7 y => ts_9_7 ok hX d  hl7 hr7 y.1 y.2.1 y.2.2.1 y.2.2.2) y
theorem t_9 {X : gX} (ok : gOK X) (hX : gHX X) (d : Nat) (a0 : Nat) (a1 : Nat) (s : gS) : Go X em_9 9 d 0 [] [(0, (16, 0, a0)), (1, (23, 0, a1))] [] s 0 0 (f_9 a0 a1 s) some := by
  delta f_9
  refine g_rb gs_9 0 (cd' := gb_9_0) rfl rfl ?_
  refine g_iconst ok (v := 0) rfl ?_
  refine g_istore_n ok rfl (L' := [(0, (16, 0, a0)), (1, (23, 0, a1)), (2, (0, 0, 0))]) rfl ?_
  refine g_aload_n ok rfl rfl ?_
  refine g_geti ok rfl rfl ?_
  refine g_istore_n ok rfl (L' := [(0, (16, 0, a0)), (1, (23, 0, a1)), (2, (0, 0, 0)), (3, (0, (gI s a1 3), 0))]) rfl ?_
  exact g_wk ok [(0, (16, 0, a0)), (2, (0, 0, 0)), (3, (0, (gI s a1 3), 0))] ⟨rfl, rfl, rfl, trivial⟩ (tl_9_7 ok hX d  (a0, 0, (gI s a1 3), s))
-- X10_advance
theorem ts_78_174 {X : gX} (ok : gOK X) (hX : gHX X) (d : Nat) {k174 : (Nat × Int × Int × gS) ⊕ gO → Option gO} (hl174 : ∀ y : (Nat × Int × Int × gS), Go X em_78 78 d 174 [] [(0, (26, 0, y.1)), (4, (0, y.2.1, 0)), (5, (0, y.2.2.1, 0))] [] y.2.2.2 0 0 (some (Sum.inl y)) k174) (hr174 : ∀ q, k174 (Sum.inr q) = some q) (x0 : Nat) (x4 : Int) (x5 : Int) (s : gS) : Go X em_78 78 d 174 [] [(0, (26, 0, x0)), (4, (0, x4, 0)), (5, (0, x5, 0))] [] s 0 0 (sb_78_174 x0 x4 x5 s) k174 := by
  delta sb_78_174
  refine g_rb gs_78 26 (cd' := gb_78_174) rfl rfl ?_
  refine g_aload_n ok rfl rfl ?_
  refine g_geti ok rfl rfl ?_
  refine g_iconst ok (v := 3) rfl ?_
  refine g_ic_eq ok rfl (fun _ => ?_) (fun _ => ?_)
  · refine g_map hr174 ?_
    refine g_rb gs_78 31 (cd' := gb_78_234) rfl rfl ?_
    exact g_return ok rfl rfl (rfl)
  · refine g_rb gs_78 27 (cd' := gb_78_182) rfl rfl ?_
    refine g_aload_n ok rfl rfl ?_
    refine g_geti ok rfl rfl ?_
    refine g_aload_n ok rfl rfl ?_
    refine g_geti ok rfl rfl ?_
    refine g_ic_ge ok rfl (fun _ => ?_) (fun _ => ?_)
    · refine g_rb gs_78 28 (cd' := gb_78_193) rfl rfl ?_
      refine g_aload_n ok rfl rfl ?_
      refine g_getr ok 3316 rfl rfl rfl ?_
      refine g_aload_n ok rfl rfl ?_
      refine g_geti ok rfl rfl ?_
      refine g_iaload ok (n := 400) rfl rfl (fun _ _ => ?_)
      refine g_iload ok rfl ?_
      refine g_ic_lt ok rfl (fun _ => ?_) (fun _ => ?_)
      · refine g_map hr174 ?_
        refine g_rb gs_78 31 (cd' := gb_78_234) rfl rfl ?_
        exact g_return ok rfl rfl (rfl)
      · refine g_rb gs_78 29 (cd' := gb_78_207) rfl rfl ?_
        refine g_aload_n ok rfl rfl ?_
        refine g_getr ok 3316 rfl rfl rfl ?_
        refine g_aload_n ok rfl rfl ?_
        refine g_geti ok rfl rfl ?_
        refine g_iaload ok (n := 400) rfl rfl (fun _ _ => ?_)
        refine g_iload ok rfl ?_
        refine g_ic_gt ok rfl (fun _ => ?_) (fun _ => ?_)
        · refine g_map hr174 ?_
          refine g_rb gs_78 31 (cd' := gb_78_234) rfl rfl ?_
          exact g_return ok rfl rfl (rfl)
        · refine g_rb gs_78 30 (cd' := gb_78_221) rfl rfl ?_
          refine g_aload_n ok rfl rfl ?_
          refine g_dup ok rfl ?_
          refine g_geti ok rfl rfl ?_
          refine g_iconst ok (v := 1) rfl ?_
          refine g_iadd ok ?_
          refine g_puti ok rfl rfl rfl ?_
          let s7 : gS := gw s x0 4 (g32 ((gI s x0 4) + 1))
          refine g_goto ok rfl ?_
          exact g_wk ok [(0, (26, 0, x0)), (4, (0, x4, 0)), (5, (0, x5, 0))] ⟨rfl, rfl, rfl, trivial⟩ (hl174 (x0, x4, x5, s7))
    · refine g_map hr174 ?_
      refine g_rb gs_78 31 (cd' := gb_78_234) rfl rfl ?_
      exact g_return ok rfl rfl (rfl)
theorem tl_78_174 {X : gX} (ok : gOK X) (hX : gHX X) (d : Nat)  (y : (Nat × Int × Int × gS)) : Go X em_78 78 d 174 [] [(0, (26, 0, y.1)), (4, (0, y.2.1, 0)), (5, (0, y.2.2.1, 0))] [] y.2.2.2 0 0 (gloop (st_78_174) y) some :=
  g_loop (Lh := fun y => [(0, (26, 0, y.1)), (4, (0, y.2.1, 0)), (5, (0, y.2.2.1, 0))]) (sh := fun y => y.2.2.2) (fun k174 hl174 hr174 y => ts_78_174 ok hX d  hl174 hr174 y.1 y.2.1 y.2.2.1 y.2.2.2) y
theorem tb_78_172 {X : gX} (ok : gOK X) (hX : gHX X) (d : Nat)  (x0 : Nat) (x4 : Int) (w0 : Int) (s : gS) : Go X em_78 78 d 172 [] [(0, (26, 0, x0)), (4, (0, x4, 0))] [(0, w0, 0)] s 0 0 (fb_78_172 x0 x4 w0 s) some := by
  delta fb_78_172
  refine g_rb gs_78 25 (cd' := gb_78_172) rfl rfl ?_
  refine g_istore ok rfl (L' := [(0, (26, 0, x0)), (4, (0, x4, 0)), (5, (0, w0, 0))]) rfl ?_
  exact g_wk ok [(0, (26, 0, x0)), (4, (0, x4, 0)), (5, (0, w0, 0))] ⟨rfl, rfl, rfl, trivial⟩ (tl_78_174 ok hX d  (x0, x4, w0, s))
theorem tb_78_159 {X : gX} (ok : gOK X) (hX : gHX X) (d : Nat)  (x0 : Nat) (x2 : Int) (w0 : Int) (s : gS) : Go X em_78 78 d 159 [] [(0, (26, 0, x0)), (2, (0, x2, 0))] [(0, w0, 0)] s 0 0 (fb_78_159 x0 x2 w0 s) some := by
  delta fb_78_159
  refine g_rb gs_78 22 (cd' := gb_78_159) rfl rfl ?_
  refine g_istore ok rfl (L' := [(0, (26, 0, x0)), (2, (0, x2, 0)), (4, (0, w0, 0))]) rfl ?_
  refine g_iload_n ok rfl ?_
  refine g_if_eq ok rfl (fun _ => ?_) (fun _ => ?_)
  · refine g_rb gs_78 24 (cd' := gb_78_170) rfl rfl ?_
    refine g_bipush ok (v := 57) rfl ?_
    exact g_wk ok [(0, (26, 0, x0)), (4, (0, w0, 0))] ⟨rfl, rfl, trivial⟩ (tb_78_172 ok hX d  x0 w0 57 s)
  · refine g_rb gs_78 23 (cd' := gb_78_165) rfl rfl ?_
    refine g_bipush ok (v := 122) rfl ?_
    refine g_goto ok rfl ?_
    exact g_wk ok [(0, (26, 0, x0)), (4, (0, w0, 0))] ⟨rfl, rfl, trivial⟩ (tb_78_172 ok hX d  x0 w0 122 s)
theorem tb_78_135 {X : gX} (ok : gOK X) (hX : gHX X) (d : Nat)  (x0 : Nat) (x2 : Int) (w0 : Int) (w1 : Nat) (s : gS) : Go X em_78 78 d 135 [] [(0, (26, 0, x0)), (2, (0, x2, 0))] [(0, w0, 0), (26, 0, w1)] s 0 0 (fb_78_135 x0 x2 w0 w1 s) some := by
  delta fb_78_135
  refine g_rb gs_78 19 (cd' := gb_78_135) rfl rfl ?_
  refine g_puti ok rfl rfl rfl ?_
  let s5 : gS := gw s w1 2 w0
  refine g_aload_n ok rfl rfl ?_
  refine g_dup ok rfl ?_
  refine g_geti ok rfl rfl ?_
  refine g_iconst ok (v := 1) rfl ?_
  refine g_iadd ok ?_
  refine g_puti ok rfl rfl rfl ?_
  let s6 : gS := gw s5 x0 4 (g32 ((gI s5 x0 4) + 1))
  refine g_iload_n ok rfl ?_
  refine g_if_eq ok rfl (fun _ => ?_) (fun _ => ?_)
  · refine g_rb gs_78 21 (cd' := gb_78_157) rfl rfl ?_
    refine g_bipush ok (v := 48) rfl ?_
    exact g_wk ok [(0, (26, 0, x0)), (2, (0, x2, 0))] ⟨rfl, rfl, trivial⟩ (tb_78_159 ok hX d  x0 x2 48 s6)
  · refine g_rb gs_78 20 (cd' := gb_78_152) rfl rfl ?_
    refine g_bipush ok (v := 97) rfl ?_
    refine g_goto ok rfl ?_
    exact g_wk ok [(0, (26, 0, x0)), (2, (0, x2, 0))] ⟨rfl, rfl, trivial⟩ (tb_78_159 ok hX d  x0 x2 97 s6)
theorem tb_78_116 {X : gX} (ok : gOK X) (hX : gHX X) (d : Nat)  (x0 : Nat) (x2 : Int) (w0 : Int) (s : gS) : Go X em_78 78 d 116 [] [(0, (26, 0, x0)), (2, (0, x2, 0))] [(0, w0, 0)] s 0 0 (fb_78_116 x0 x2 w0 s) some := by
  delta fb_78_116
  refine g_rb gs_78 14 (cd' := gb_78_116) rfl rfl ?_
  refine g_istore_n ok rfl (L' := [(0, (26, 0, x0)), (2, (0, x2, 0)), (3, (0, w0, 0))]) rfl ?_
  refine g_aload_n ok rfl rfl ?_
  refine g_iload_n ok rfl ?_
  refine g_if_eq ok rfl (fun _ => ?_) (fun _ => ?_)
  · refine g_rb gs_78 16 (cd' := gb_78_126) rfl rfl ?_
    refine g_iload_n ok rfl ?_
    refine g_if_eq ok rfl (fun _ => ?_) (fun _ => ?_)
    · refine g_rb gs_78 18 (cd' := gb_78_134) rfl rfl ?_
      refine g_iconst ok (v := 3) rfl ?_
      exact g_wk ok [(0, (26, 0, x0)), (2, (0, x2, 0))] ⟨rfl, rfl, trivial⟩ (tb_78_135 ok hX d  x0 x2 3 x0 s)
    · refine g_rb gs_78 17 (cd' := gb_78_130) rfl rfl ?_
      refine g_iconst ok (v := 2) rfl ?_
      refine g_goto ok rfl ?_
      exact g_wk ok [(0, (26, 0, x0)), (2, (0, x2, 0))] ⟨rfl, rfl, trivial⟩ (tb_78_135 ok hX d  x0 x2 2 x0 s)
  · refine g_rb gs_78 15 (cd' := gb_78_122) rfl rfl ?_
    refine g_iconst ok (v := 1) rfl ?_
    refine g_goto ok rfl ?_
    exact g_wk ok [(0, (26, 0, x0)), (2, (0, x2, 0))] ⟨rfl, rfl, trivial⟩ (tb_78_135 ok hX d  x0 x2 1 x0 s)
theorem tb_78_115 {X : gX} (ok : gOK X) (hX : gHX X) (d : Nat)  (x0 : Nat) (x2 : Int) (s : gS) : Go X em_78 78 d 115 [] [(0, (26, 0, x0)), (2, (0, x2, 0))] [] s 0 0 (fb_78_115 x0 x2 s) some := by
  delta fb_78_115
  refine g_rb gs_78 13 (cd' := gb_78_115) rfl rfl ?_
  refine g_iconst ok (v := 0) rfl ?_
  exact g_wk ok [(0, (26, 0, x0)), (2, (0, x2, 0))] ⟨rfl, rfl, trivial⟩ (tb_78_116 ok hX d  x0 x2 0 s)
theorem tb_78_98 {X : gX} (ok : gOK X) (hX : gHX X) (d : Nat)  (x0 : Nat) (x1 : Int) (w0 : Int) (s : gS) : Go X em_78 78 d 98 [] [(0, (26, 0, x0)), (1, (0, x1, 0))] [(0, w0, 0)] s 0 0 (fb_78_98 x0 x1 w0 s) some := by
  delta fb_78_98
  refine g_rb gs_78 10 (cd' := gb_78_98) rfl rfl ?_
  refine g_istore_n ok rfl (L' := [(0, (26, 0, x0)), (1, (0, x1, 0)), (2, (0, w0, 0))]) rfl ?_
  refine g_iload_n ok rfl ?_
  refine g_bipush ok (v := 48) rfl ?_
  refine g_ic_lt ok rfl (fun _ => ?_) (fun _ => ?_)
  · exact g_wk ok [(0, (26, 0, x0)), (2, (0, w0, 0))] ⟨rfl, rfl, trivial⟩ (tb_78_115 ok hX d  x0 w0 s)
  · refine g_rb gs_78 11 (cd' := gb_78_105) rfl rfl ?_
    refine g_iload_n ok rfl ?_
    refine g_bipush ok (v := 57) rfl ?_
    refine g_ic_gt ok rfl (fun _ => ?_) (fun _ => ?_)
    · exact g_wk ok [(0, (26, 0, x0)), (2, (0, w0, 0))] ⟨rfl, rfl, trivial⟩ (tb_78_115 ok hX d  x0 w0 s)
    · refine g_rb gs_78 12 (cd' := gb_78_111) rfl rfl ?_
      refine g_iconst ok (v := 1) rfl ?_
      refine g_goto ok rfl ?_
      exact g_wk ok [(0, (26, 0, x0)), (2, (0, w0, 0))] ⟨rfl, rfl, trivial⟩ (tb_78_116 ok hX d  x0 w0 1 s)
theorem tb_78_97 {X : gX} (ok : gOK X) (hX : gHX X) (d : Nat)  (x0 : Nat) (x1 : Int) (s : gS) : Go X em_78 78 d 97 [] [(0, (26, 0, x0)), (1, (0, x1, 0))] [] s 0 0 (fb_78_97 x0 x1 s) some := by
  delta fb_78_97
  refine g_rb gs_78 9 (cd' := gb_78_97) rfl rfl ?_
  refine g_iconst ok (v := 0) rfl ?_
  exact g_wk ok [(0, (26, 0, x0)), (1, (0, x1, 0))] ⟨rfl, rfl, trivial⟩ (tb_78_98 ok hX d  x0 x1 0 s)
theorem tb_78_46 {X : gX} (ok : gOK X) (hX : gHX X) (d : Nat)  (x0 : Nat) (s : gS) : Go X em_78 78 d 46 [] [(0, (26, 0, x0))] [] s 0 0 (fb_78_46 x0 s) some := by
  delta fb_78_46
  refine g_rb gs_78 4 (cd' := gb_78_46) rfl rfl ?_
  refine g_aload_n ok rfl rfl ?_
  refine g_aload_n ok rfl rfl ?_
  refine g_geti ok rfl rfl ?_
  refine g_puti ok rfl rfl rfl ?_
  let s3 : gS := gw s x0 4 (gI s x0 3)
  refine g_aload_n ok rfl rfl ?_
  refine g_geti ok rfl rfl ?_
  refine g_aload_n ok rfl rfl ?_
  refine g_geti ok rfl rfl ?_
  refine g_ic_lt ok rfl (fun _ => ?_) (fun _ => ?_)
  · refine g_rb gs_78 6 (cd' := gb_78_71) rfl rfl ?_
    refine g_aload_n ok rfl rfl ?_
    refine g_getr ok 3316 rfl rfl rfl ?_
    refine g_aload_n ok rfl rfl ?_
    refine g_geti ok rfl rfl ?_
    refine g_iaload ok (n := 400) rfl rfl (fun _ _ => ?_)
    let v4 : Int := (gI s3 (gR s3 x0 0) ((gI s3 x0 3) : Int).toNat)
    refine g_istore_n ok rfl (L' := [(0, (26, 0, x0)), (1, (0, v4, 0))]) rfl ?_
    refine g_iload_n ok rfl ?_
    refine g_bipush ok (v := 97) rfl ?_
    refine g_ic_lt ok rfl (fun _ => ?_) (fun _ => ?_)
    · exact g_wk ok [(0, (26, 0, x0)), (1, (0, v4, 0))] ⟨rfl, rfl, trivial⟩ (tb_78_97 ok hX d  x0 v4 s3)
    · refine g_rb gs_78 7 (cd' := gb_78_87) rfl rfl ?_
      refine g_iload_n ok rfl ?_
      refine g_bipush ok (v := 122) rfl ?_
      refine g_ic_gt ok rfl (fun _ => ?_) (fun _ => ?_)
      · exact g_wk ok [(0, (26, 0, x0)), (1, (0, v4, 0))] ⟨rfl, rfl, trivial⟩ (tb_78_97 ok hX d  x0 v4 s3)
      · refine g_rb gs_78 8 (cd' := gb_78_93) rfl rfl ?_
        refine g_iconst ok (v := 1) rfl ?_
        refine g_goto ok rfl ?_
        exact g_wk ok [(0, (26, 0, x0)), (1, (0, v4, 0))] ⟨rfl, rfl, trivial⟩ (tb_78_98 ok hX d  x0 v4 1 s3)
  · refine g_rb gs_78 5 (cd' := gb_78_65) rfl rfl ?_
    refine g_aload_n ok rfl rfl ?_
    refine g_iconst ok (v := 0) rfl ?_
    refine g_puti ok rfl rfl rfl ?_
    let s8 : gS := gw s3 x0 2 0
    exact g_return ok rfl rfl (rfl)
theorem ts_78_8 {X : gX} (ok : gOK X) (hX : gHX X) (d : Nat) {k8 : (Nat × gS) ⊕ gO → Option gO} (hl8 : ∀ y : (Nat × gS), Go X em_78 78 d 8 [] [(0, (26, 0, y.1))] [] y.2 0 0 (some (Sum.inl y)) k8) (hr8 : ∀ q, k8 (Sum.inr q) = some q) (x0 : Nat) (s : gS) : Go X em_78 78 d 8 [] [(0, (26, 0, x0))] [] s 0 0 (sb_78_8 x0 s) k8 := by
  delta sb_78_8
  refine g_rb gs_78 1 (cd' := gb_78_8) rfl rfl ?_
  refine g_aload_n ok rfl rfl ?_
  refine g_geti ok rfl rfl ?_
  refine g_aload_n ok rfl rfl ?_
  refine g_geti ok rfl rfl ?_
  refine g_ic_ge ok rfl (fun _ => ?_) (fun _ => ?_)
  · refine g_rb gs_78 2 (cd' := gb_78_19) rfl rfl ?_
    refine g_aload_n ok rfl rfl ?_
    refine g_getr ok 3316 rfl rfl rfl ?_
    refine g_aload_n ok rfl rfl ?_
    refine g_geti ok rfl rfl ?_
    refine g_iaload ok (n := 400) rfl rfl (fun _ _ => ?_)
    refine g_bipush ok (v := 32) rfl ?_
    refine g_ic_ne ok rfl (fun _ => ?_) (fun _ => ?_)
    · refine g_rb gs_78 3 (cd' := gb_78_33) rfl rfl ?_
      refine g_aload_n ok rfl rfl ?_
      refine g_dup ok rfl ?_
      refine g_geti ok rfl rfl ?_
      refine g_iconst ok (v := 1) rfl ?_
      refine g_iadd ok ?_
      refine g_puti ok rfl rfl rfl ?_
      let s2 : gS := gw s x0 3 (g32 ((gI s x0 3) + 1))
      refine g_goto ok rfl ?_
      exact g_wk ok [(0, (26, 0, x0))] ⟨rfl, trivial⟩ (hl8 (x0, s2))
    · refine g_map hr8 ?_
      exact g_wk ok [(0, (26, 0, x0))] ⟨rfl, trivial⟩ (tb_78_46 ok hX d  x0 s)
  · refine g_map hr8 ?_
    exact g_wk ok [(0, (26, 0, x0))] ⟨rfl, trivial⟩ (tb_78_46 ok hX d  x0 s)
theorem tl_78_8 {X : gX} (ok : gOK X) (hX : gHX X) (d : Nat)  (y : (Nat × gS)) : Go X em_78 78 d 8 [] [(0, (26, 0, y.1))] [] y.2 0 0 (gloop (st_78_8) y) some :=
  g_loop (Lh := fun y => [(0, (26, 0, y.1))]) (sh := fun y => y.2) (fun k8 hl8 hr8 y => ts_78_8 ok hX d  hl8 hr8 y.1 y.2) y
theorem t_78 {X : gX} (ok : gOK X) (hX : gHX X) (d : Nat) (a0 : Nat) (s : gS) : Go X em_78 78 d 0 [] [(0, (26, 0, a0))] [] s 0 0 (f_78 a0 s) some := by
  delta f_78
  refine g_rb gs_78 0 (cd' := gb_78_0) rfl rfl ?_
  refine g_aload_n ok rfl rfl ?_
  refine g_aload_n ok rfl rfl ?_
  refine g_geti ok rfl rfl ?_
  refine g_puti ok rfl rfl rfl ?_
  let s1 : gS := gw s a0 3 (gI s a0 4)
  exact g_wk ok [(0, (26, 0, a0))] ⟨rfl, trivial⟩ (tl_78_8 ok hX d  (a0, s1))
-- X10_rewind
theorem t_77 {X : gX} (ok : gOK X) (hX : gHX X) (d : Nat) (a0 : Nat) (s : gS) : Go X em_77 77 (d + 1) 0 [] [(0, (26, 0, a0))] [] s 0 0 (f_77 a0 s) some := by
  delta f_77
  refine g_rb gs_77 0 (cd' := gb_77_0) rfl rfl ?_
  refine g_aload_n ok rfl rfl ?_
  refine g_iconst ok (v := 0) rfl ?_
  refine g_puti ok rfl rfl rfl ?_
  let s1 : gS := gw s a0 4 0
  refine g_aload_n ok rfl rfl ?_
  refine g_cv0 ok (me_78 hX) rfl rfl rfl (t_78 ok hX _ a0 s1) (fun s2 => ?_)
  exact g_return ok rfl rfl (rfl)
-- X10_atEnd
theorem t_79 {X : gX} (ok : gOK X) (hX : gHX X) (d : Nat) (a0 : Nat) (s : gS) : Go X em_79 79 d 0 [] [(0, (26, 0, a0))] [] s 0 0 (f_79 a0 s) some := by
  delta f_79
  refine g_rb gs_79 0 (cd' := gb_79_0) rfl rfl ?_
  refine g_aload_n ok rfl rfl ?_
  refine g_geti ok rfl rfl ?_
  refine g_if_ne ok rfl (fun _ => ?_) (fun _ => ?_)
  · refine g_rb gs_79 1 (cd' := gb_79_7) rfl rfl ?_
    refine g_iconst ok (v := 1) rfl ?_
    refine g_goto ok rfl ?_
    refine g_rb gs_79 3 (cd' := gb_79_12) rfl rfl ?_
    exact g_zreturn ok rfl (Or.inr rfl) rfl (rfl)
  · refine g_rb gs_79 2 (cd' := gb_79_11) rfl rfl ?_
    refine g_iconst ok (v := 0) rfl ?_
    refine g_rb gs_79 3 (cd' := gb_79_12) rfl rfl ?_
    exact g_zreturn ok rfl (Or.inl rfl) rfl (rfl)
-- X10_isWord
theorem ts_80_28 {X : gX} (ok : gOK X) (hX : gHX X) (d : Nat) {k28 : (Nat × Nat × Int × gS) ⊕ gO → Option gO} (hl28 : ∀ y : (Nat × Nat × Int × gS), Go X em_80 80 (d + 4) 28 [] [(0, (26, 0, y.1)), (1, (8, 0, y.2.1)), (2, (0, y.2.2.1, 0))] [] y.2.2.2 0 0 (some (Sum.inl y)) k28) (hr28 : ∀ q, k28 (Sum.inr q) = some q) (x0 : Nat) (x1 : Nat) (x2 : Int) (s : gS) : Go X em_80 80 (d + 4) 28 [] [(0, (26, 0, x0)), (1, (8, 0, x1)), (2, (0, x2, 0))] [] s 0 0 (sb_80_28 x0 x1 x2 s) k28 := by
  delta sb_80_28
  refine g_rb gs_80 4 (cd' := gb_80_28) rfl rfl ?_
  refine g_iload_n ok rfl ?_
  refine g_aload_n ok rfl rfl ?_
  refine g_cq1 ok (me_266 hX) rfl rfl rfl (t_266 ok hX _ x1 s) (fun v4 s3 => ?_)
  refine g_ic_ge ok rfl (fun _ => ?_) (fun _ => ?_)
  · refine g_rb gs_80 5 (cd' := gb_80_36) rfl rfl ?_
    refine g_aload_n ok rfl rfl ?_
    refine g_getr ok 3316 rfl rfl rfl ?_
    refine g_aload_n ok rfl rfl ?_
    refine g_geti ok rfl rfl ?_
    refine g_iload_n ok rfl ?_
    refine g_iadd ok ?_
    refine g_iaload ok (n := 400) rfl rfl (fun _ _ => ?_)
    refine g_aload_n ok rfl rfl ?_
    refine g_iload_n ok rfl ?_
    refine g_cq1 ok (me_267 hX) rfl rfl rfl (t_267 ok hX _ x1 x2 s3) (fun v6 s5 => ?_)
    refine g_ic_eq ok rfl (fun _ => ?_) (fun _ => ?_)
    · refine g_rb gs_80 7 (cd' := gb_80_57) rfl rfl ?_
      refine g_iinc ok rfl rfl (L' := [(0, (26, 0, x0)), (1, (8, 0, x1)), (2, (0, (g32 (x2 + 1)), 0))]) rfl ?_
      refine g_goto ok rfl ?_
      exact g_wk ok [(0, (26, 0, x0)), (1, (8, 0, x1)), (2, (0, (g32 (x2 + 1)), 0))] ⟨rfl, rfl, rfl, trivial⟩ (hl28 (x0, x1, (g32 (x2 + 1)), s5))
    · refine g_map hr28 ?_
      refine g_rb gs_80 6 (cd' := gb_80_55) rfl rfl ?_
      refine g_iconst ok (v := 0) rfl ?_
      exact g_zreturn ok rfl (Or.inl rfl) rfl (rfl)
  · refine g_map hr28 ?_
    refine g_rb gs_80 8 (cd' := gb_80_63) rfl rfl ?_
    refine g_iconst ok (v := 1) rfl ?_
    exact g_zreturn ok rfl (Or.inr rfl) rfl (rfl)
theorem tl_80_28 {X : gX} (ok : gOK X) (hX : gHX X) (d : Nat)  (y : (Nat × Nat × Int × gS)) : Go X em_80 80 (d + 4) 28 [] [(0, (26, 0, y.1)), (1, (8, 0, y.2.1)), (2, (0, y.2.2.1, 0))] [] y.2.2.2 0 0 (gloop (st_80_28) y) some :=
  g_loop (Lh := fun y => [(0, (26, 0, y.1)), (1, (8, 0, y.2.1)), (2, (0, y.2.2.1, 0))]) (sh := fun y => y.2.2.2) (fun k28 hl28 hr28 y => ts_80_28 ok hX d  hl28 hr28 y.1 y.2.1 y.2.2.1 y.2.2.2) y
theorem t_80 {X : gX} (ok : gOK X) (hX : gHX X) (d : Nat) (a0 : Nat) (a1 : Nat) (s : gS) : Go X em_80 80 (d + 4) 0 [] [(0, (26, 0, a0)), (1, (8, 0, a1))] [] s 0 0 (f_80 a0 a1 s) some := by
  delta f_80
  refine g_rb gs_80 0 (cd' := gb_80_0) rfl rfl ?_
  refine g_aload_n ok rfl rfl ?_
  refine g_geti ok rfl rfl ?_
  refine g_iconst ok (v := 1) rfl ?_
  refine g_ic_ne ok rfl (fun _ => ?_) (fun _ => ?_)
  · refine g_rb gs_80 1 (cd' := gb_80_8) rfl rfl ?_
    refine g_aload_n ok rfl rfl ?_
    refine g_geti ok rfl rfl ?_
    refine g_aload_n ok rfl rfl ?_
    refine g_geti ok rfl rfl ?_
    refine g_isub ok ?_
    refine g_aload_n ok rfl rfl ?_
    refine g_cq1 ok (me_266 hX) rfl rfl rfl (t_266 ok hX _ a1 s) (fun v2 s1 => ?_)
    refine g_ic_eq ok rfl (fun _ => ?_) (fun _ => ?_)
    · refine g_rb gs_80 3 (cd' := gb_80_26) rfl rfl ?_
      refine g_iconst ok (v := 0) rfl ?_
      refine g_istore_n ok rfl (L' := [(0, (26, 0, a0)), (1, (8, 0, a1)), (2, (0, 0, 0))]) rfl ?_
      exact g_wk ok [(0, (26, 0, a0)), (1, (8, 0, a1)), (2, (0, 0, 0))] ⟨rfl, rfl, rfl, trivial⟩ (tl_80_28 ok hX d  (a0, a1, 0, s1))
    · refine g_rb gs_80 2 (cd' := gb_80_24) rfl rfl ?_
      refine g_iconst ok (v := 0) rfl ?_
      exact g_zreturn ok rfl (Or.inl rfl) rfl (rfl)
  · refine g_rb gs_80 2 (cd' := gb_80_24) rfl rfl ?_
    refine g_iconst ok (v := 0) rfl ?_
    exact g_zreturn ok rfl (Or.inl rfl) rfl (rfl)
-- X10_takeWord
theorem t_82 {X : gX} (ok : gOK X) (hX : gHX X) (d : Nat) (a0 : Nat) (a1 : Nat) (s : gS) : Go X em_82 82 (d + 5) 0 [] [(0, (26, 0, a0)), (1, (8, 0, a1))] [] s 0 0 (f_82 a0 a1 s) some := by
  delta f_82
  refine g_rb gs_82 0 (cd' := gb_82_0) rfl rfl ?_
  refine g_aload_n ok rfl rfl ?_
  refine g_aload_n ok rfl rfl ?_
  refine g_cvz ok (me_80 hX) rfl rfl rfl rfl (t_80 ok hX _ a0 a1 s) (fun v2 s1 hb3 => ?_)
  refine g_istore_n ok rfl (L' := [(0, (26, 0, a0)), (1, (8, 0, a1)), (2, (0, v2, 0))]) rfl ?_
  refine g_iload_n ok rfl ?_
  refine g_if_eq ok rfl (fun _ => ?_) (fun _ => ?_)
  · refine g_rb gs_82 2 (cd' := gb_82_14) rfl rfl ?_
    refine g_iload_n ok rfl ?_
    exact g_zreturn ok rfl hb3 rfl (rfl)
  · refine g_rb gs_82 1 (cd' := gb_82_10) rfl rfl ?_
    refine g_aload_n ok rfl rfl ?_
    refine g_cv0 ok (me_78 hX) rfl rfl rfl (t_78 ok hX _ a0 s1) (fun s4 => ?_)
    refine g_rb gs_82 2 (cd' := gb_82_14) rfl rfl ?_
    refine g_iload_n ok rfl ?_
    exact g_zreturn ok rfl hb3 rfl (rfl)
-- X10_takeNumber
theorem ts_84_31 {X : gX} (ok : gOK X) (hX : gHX X) (d : Nat) {k31 : (Nat × Int × Int × Int × Int × gS) ⊕ gO → Option gO} (hl31 : ∀ y : (Nat × Int × Int × Int × Int × gS), Go X em_84 84 (d + 1) 31 [] [(0, (26, 0, y.1)), (1, (0, y.2.1, 0)), (2, (0, y.2.2.1, 0)), (3, (0, y.2.2.2.1, 0)), (4, (0, y.2.2.2.2.1, 0))] [] y.2.2.2.2.2 0 0 (some (Sum.inl y)) k31) (hr31 : ∀ q, k31 (Sum.inr q) = some q) (x0 : Nat) (x1 : Int) (x2 : Int) (x3 : Int) (x4 : Int) (s : gS) : Go X em_84 84 (d + 1) 31 [] [(0, (26, 0, x0)), (1, (0, x1, 0)), (2, (0, x2, 0)), (3, (0, x3, 0)), (4, (0, x4, 0))] [] s 0 0 (sb_84_31 x0 x1 x2 x3 x4 s) k31 := by
  delta sb_84_31
  refine g_rb gs_84 4 (cd' := gb_84_31) rfl rfl ?_
  refine g_iload ok rfl ?_
  refine g_aload_n ok rfl rfl ?_
  refine g_geti ok rfl rfl ?_
  refine g_ic_ge ok rfl (fun _ => ?_) (fun _ => ?_)
  · refine g_rb gs_84 5 (cd' := gb_84_40) rfl rfl ?_
    refine g_iload_n ok rfl ?_
    refine g_bipush ok (v := 10) rfl ?_
    refine g_imul ok ?_
    refine g_aload_n ok rfl rfl ?_
    refine g_getr ok 3316 rfl rfl rfl ?_
    refine g_iload ok rfl ?_
    refine g_iaload ok (n := 400) rfl rfl (fun _ _ => ?_)
    refine g_iadd ok ?_
    refine g_bipush ok (v := 48) rfl ?_
    refine g_isub ok ?_
    let v1 : Int := (g32 ((g32 ((g32 (x3 * 10)) + (gI s (gR s x0 0) (x4 : Int).toNat))) - 48))
    refine g_istore_n ok rfl (L' := [(0, (26, 0, x0)), (1, (0, x1, 0)), (2, (0, x2, 0)), (3, (0, v1, 0)), (4, (0, x4, 0))]) rfl ?_
    refine g_iinc ok rfl rfl (L' := [(0, (26, 0, x0)), (1, (0, x1, 0)), (2, (0, x2, 0)), (3, (0, v1, 0)), (4, (0, (g32 (x4 + 1)), 0))]) rfl ?_
    refine g_goto ok rfl ?_
    exact g_wk ok [(0, (26, 0, x0)), (1, (0, x1, 0)), (2, (0, x2, 0)), (3, (0, v1, 0)), (4, (0, (g32 (x4 + 1)), 0))] ⟨rfl, rfl, rfl, rfl, rfl, trivial⟩ (hl31 (x0, x1, x2, v1, (g32 (x4 + 1)), s))
  · refine g_map hr31 ?_
    refine g_rb gs_84 6 (cd' := gb_84_62) rfl rfl ?_
    refine g_iload_n ok rfl ?_
    refine g_iload_n ok rfl ?_
    refine g_ic_lt ok rfl (fun _ => ?_) (fun _ => ?_)
    · refine g_rb gs_84 8 (cd' := gb_84_72) rfl rfl ?_
      refine g_iconst ok (v := (-1)) rfl ?_
      exact g_ireturn ok rfl rfl (rfl)
    · refine g_rb gs_84 7 (cd' := gb_84_67) rfl rfl ?_
      refine g_iload_n ok rfl ?_
      refine g_iload_n ok rfl ?_
      refine g_ic_le ok rfl (fun _ => ?_) (fun _ => ?_)
      · refine g_rb gs_84 8 (cd' := gb_84_72) rfl rfl ?_
        refine g_iconst ok (v := (-1)) rfl ?_
        exact g_ireturn ok rfl rfl (rfl)
      · refine g_rb gs_84 9 (cd' := gb_84_74) rfl rfl ?_
        refine g_aload_n ok rfl rfl ?_
        refine g_cv0 ok (me_78 hX) rfl rfl rfl (t_78 ok hX _ x0 s) (fun s2 => ?_)
        refine g_iload_n ok rfl ?_
        exact g_ireturn ok rfl rfl (rfl)
theorem tl_84_31 {X : gX} (ok : gOK X) (hX : gHX X) (d : Nat)  (y : (Nat × Int × Int × Int × Int × gS)) : Go X em_84 84 (d + 1) 31 [] [(0, (26, 0, y.1)), (1, (0, y.2.1, 0)), (2, (0, y.2.2.1, 0)), (3, (0, y.2.2.2.1, 0)), (4, (0, y.2.2.2.2.1, 0))] [] y.2.2.2.2.2 0 0 (gloop (st_84_31) y) some :=
  g_loop (Lh := fun y => [(0, (26, 0, y.1)), (1, (0, y.2.1, 0)), (2, (0, y.2.2.1, 0)), (3, (0, y.2.2.2.1, 0)), (4, (0, y.2.2.2.2.1, 0))]) (sh := fun y => y.2.2.2.2.2) (fun k31 hl31 hr31 y => ts_84_31 ok hX d  hl31 hr31 y.1 y.2.1 y.2.2.1 y.2.2.2.1 y.2.2.2.2.1 y.2.2.2.2.2) y
theorem t_84 {X : gX} (ok : gOK X) (hX : gHX X) (d : Nat) (a0 : Nat) (a1 : Int) (a2 : Int) (s : gS) : Go X em_84 84 (d + 1) 0 [] [(0, (26, 0, a0)), (1, (0, a1, 0)), (2, (0, a2, 0))] [] s 0 0 (f_84 a0 a1 a2 s) some := by
  delta f_84
  refine g_rb gs_84 0 (cd' := gb_84_0) rfl rfl ?_
  refine g_aload_n ok rfl rfl ?_
  refine g_geti ok rfl rfl ?_
  refine g_iconst ok (v := 2) rfl ?_
  refine g_ic_ne ok rfl (fun _ => ?_) (fun _ => ?_)
  · refine g_rb gs_84 1 (cd' := gb_84_8) rfl rfl ?_
    refine g_aload_n ok rfl rfl ?_
    refine g_geti ok rfl rfl ?_
    refine g_aload_n ok rfl rfl ?_
    refine g_geti ok rfl rfl ?_
    refine g_isub ok ?_
    refine g_iconst ok (v := 3) rfl ?_
    refine g_ic_le ok rfl (fun _ => ?_) (fun _ => ?_)
    · refine g_rb gs_84 2 (cd' := gb_84_21) rfl rfl ?_
      refine g_iconst ok (v := (-1)) rfl ?_
      exact g_ireturn ok rfl rfl (rfl)
    · refine g_rb gs_84 3 (cd' := gb_84_23) rfl rfl ?_
      refine g_iconst ok (v := 0) rfl ?_
      refine g_istore_n ok rfl (L' := [(0, (26, 0, a0)), (1, (0, a1, 0)), (2, (0, a2, 0)), (3, (0, 0, 0))]) rfl ?_
      refine g_aload_n ok rfl rfl ?_
      refine g_geti ok rfl rfl ?_
      refine g_istore ok rfl (L' := [(0, (26, 0, a0)), (1, (0, a1, 0)), (2, (0, a2, 0)), (3, (0, 0, 0)), (4, (0, (gI s a0 3), 0))]) rfl ?_
      exact g_wk ok [(0, (26, 0, a0)), (1, (0, a1, 0)), (2, (0, a2, 0)), (3, (0, 0, 0)), (4, (0, (gI s a0 3), 0))] ⟨rfl, rfl, rfl, rfl, rfl, trivial⟩ (tl_84_31 ok hX d  (a0, a1, a2, 0, (gI s a0 3), s))
  · refine g_rb gs_84 2 (cd' := gb_84_21) rfl rfl ?_
    refine g_iconst ok (v := (-1)) rfl ?_
    exact g_ireturn ok rfl rfl (rfl)
-- X1_numberBehind
theorem t_13 {X : gX} (ok : gOK X) (hX : gHX X) (d : Nat) (a0 : Nat) (a1 : Nat) (a2 : Int) (a3 : Int) (s : gS) : Go X em_13 13 (d + 6) 0 [] [(0, (17, 0, a0)), (1, (8, 0, a1)), (2, (0, a2, 0)), (3, (0, a3, 0))] [] s 0 0 (f_13 a0 a1 a2 a3 s) some := by
  delta f_13
  refine g_rb gs_13 0 (cd' := gb_13_0) rfl rfl ?_
  refine g_aload_n ok rfl rfl ?_
  refine g_getr ok 26 rfl rfl rfl ?_
  refine g_aload_n ok rfl rfl ?_
  refine g_cvz ok (me_82 hX) rfl rfl rfl rfl (t_82 ok hX _ (gR s a0 0) a1 s) (fun v2 s1 hb3 => ?_)
  refine g_if_eq ok rfl (fun _ => ?_) (fun _ => ?_)
  · refine g_rb gs_13 2 (cd' := gb_13_23) rfl rfl ?_
    refine g_iconst ok (v := (-1)) rfl ?_
    refine g_rb gs_13 3 (cd' := gb_13_24) rfl rfl ?_
    exact g_ireturn ok rfl rfl (rfl)
  · refine g_rb gs_13 1 (cd' := gb_13_11) rfl rfl ?_
    refine g_aload_n ok rfl rfl ?_
    refine g_getr ok 26 rfl rfl rfl ?_
    refine g_iload_n ok rfl ?_
    refine g_iload_n ok rfl ?_
    refine g_cv1 ok (me_84 hX) rfl rfl rfl rfl (t_84 ok hX _ (gR s1 a0 0) a2 a3 s1) (fun v5 s4 => ?_)
    refine g_goto ok rfl ?_
    refine g_rb gs_13 3 (cd' := gb_13_24) rfl rfl ?_
    exact g_ireturn ok rfl rfl (rfl)
-- X1_readsStep
theorem tb_15_54 {X : gX} (ok : gOK X) (hX : gHX X) (d : Nat)  (x1 : Nat) (x2 : Int) (x3 : Int) (w0 : Int) (s : gS) : Go X em_15 15 (d + 7) 54 [] [(1, (16, 0, x1)), (2, (0, x2, 0)), (3, (0, x3, 0))] [(0, w0, 0)] s 0 0 (fb_15_54 x1 x2 x3 w0 s) some := by
  delta fb_15_54
  refine g_rb gs_15 6 (cd' := gb_15_54) rfl rfl ?_
  refine g_istore ok rfl (L' := [(1, (16, 0, x1)), (2, (0, x2, 0)), (3, (0, x3, 0)), (4, (0, w0, 0))]) rfl ?_
  refine g_iload ok rfl ?_
  refine g_iconst ok (v := (-1)) rfl ?_
  refine g_ic_ne ok rfl (fun _ => ?_) (fun _ => ?_)
  · refine g_rb gs_15 7 (cd' := gb_15_62) rfl rfl ?_
    refine g_iconst ok (v := 0) rfl ?_
    exact g_zreturn ok rfl (Or.inl rfl) rfl (rfl)
  · refine g_rb gs_15 8 (cd' := gb_15_64) rfl rfl ?_
    refine g_aload_n ok rfl rfl ?_
    refine g_iload_n ok rfl ?_
    refine g_iload_n ok rfl ?_
    refine g_iload ok rfl ?_
    refine g_cv0 ok (me_2 hX) rfl rfl rfl (t_2 ok hX _ x1 x2 x3 w0 s) (fun s5 => ?_)
    refine g_iconst ok (v := 1) rfl ?_
    exact g_zreturn ok rfl (Or.inr rfl) rfl (rfl)
theorem tb_15_35 {X : gX} (ok : gOK X) (hX : gHX X) (d : Nat)  (x0 : Nat) (x1 : Nat) (x2 : Int) (w0 : Int) (s : gS) : Go X em_15 15 (d + 7) 35 [] [(0, (17, 0, x0)), (1, (16, 0, x1)), (2, (0, x2, 0))] [(0, w0, 0)] s 0 0 (fb_15_35 x0 x1 x2 w0 s) some := by
  delta fb_15_35
  refine g_rb gs_15 3 (cd' := gb_15_35) rfl rfl ?_
  refine g_istore_n ok rfl (L' := [(0, (17, 0, x0)), (1, (16, 0, x1)), (2, (0, x2, 0)), (3, (0, w0, 0))]) rfl ?_
  refine g_iload_n ok rfl ?_
  refine g_iconst ok (v := (-1)) rfl ?_
  refine g_ic_ne ok rfl (fun _ => ?_) (fun _ => ?_)
  · refine g_rb gs_15 4 (cd' := gb_15_41) rfl rfl ?_
    refine g_iconst ok (v := (-1)) rfl ?_
    refine g_goto ok rfl ?_
    exact g_wk ok [(1, (16, 0, x1)), (2, (0, x2, 0)), (3, (0, w0, 0))] ⟨rfl, rfl, rfl, trivial⟩ (tb_15_54 ok hX d  x1 x2 w0 (-1) s)
  · refine g_rb gs_15 5 (cd' := gb_15_45) rfl rfl ?_
    refine g_aload_n ok rfl rfl ?_
    refine g_ldcs ok rfl ?_
    refine g_iconst ok (v := 0) rfl ?_
    refine g_bipush ok (v := 50) rfl ?_
    refine g_cv1 ok (me_13 hX) rfl rfl rfl rfl (t_13 ok hX _ x0 20 0 50 s) (fun v8 s7 => ?_)
    exact g_wk ok [(1, (16, 0, x1)), (2, (0, x2, 0)), (3, (0, w0, 0))] ⟨rfl, rfl, rfl, trivial⟩ (tb_15_54 ok hX d  x1 x2 w0 v8 s7)
theorem t_15 {X : gX} (ok : gOK X) (hX : gHX X) (d : Nat) (a0 : Nat) (a1 : Nat) (s : gS) : Go X em_15 15 (d + 7) 0 [] [(0, (17, 0, a0)), (1, (16, 0, a1))] [] s 0 0 (f_15 a0 a1 s) some := by
  delta f_15
  refine g_rb gs_15 0 (cd' := gb_15_0) rfl rfl ?_
  refine g_aload_n ok rfl rfl ?_
  refine g_getr ok 26 rfl rfl rfl ?_
  refine g_cv0 ok (me_78 hX) rfl rfl rfl (t_78 ok hX _ (gR s a0 0) s) (fun s1 => ?_)
  refine g_aload_n ok rfl rfl ?_
  refine g_ldcs ok rfl ?_
  refine g_iconst ok (v := 1) rfl ?_
  refine g_bipush ok (v := 30) rfl ?_
  refine g_cv1 ok (me_13 hX) rfl rfl rfl rfl (t_13 ok hX _ a0 18 1 30 s1) (fun v4 s3 => ?_)
  refine g_istore_n ok rfl (L' := [(0, (17, 0, a0)), (1, (16, 0, a1)), (2, (0, v4, 0))]) rfl ?_
  refine g_iload_n ok rfl ?_
  refine g_iconst ok (v := (-1)) rfl ?_
  refine g_ic_ne ok rfl (fun _ => ?_) (fun _ => ?_)
  · refine g_rb gs_15 1 (cd' := gb_15_22) rfl rfl ?_
    refine g_iconst ok (v := (-1)) rfl ?_
    refine g_goto ok rfl ?_
    exact g_wk ok [(0, (17, 0, a0)), (1, (16, 0, a1)), (2, (0, v4, 0))] ⟨rfl, rfl, rfl, trivial⟩ (tb_15_35 ok hX d  a0 a1 v4 (-1) s3)
  · refine g_rb gs_15 2 (cd' := gb_15_26) rfl rfl ?_
    refine g_aload_n ok rfl rfl ?_
    refine g_ldcs ok rfl ?_
    refine g_iconst ok (v := 0) rfl ?_
    refine g_bipush ok (v := 99) rfl ?_
    refine g_cv1 ok (me_13 hX) rfl rfl rfl rfl (t_13 ok hX _ a0 19 0 99 s3) (fun v10 s9 => ?_)
    exact g_wk ok [(0, (17, 0, a0)), (1, (16, 0, a1)), (2, (0, v4, 0))] ⟨rfl, rfl, rfl, trivial⟩ (tb_15_35 ok hX d  a0 a1 v4 v10 s9)
-- X10_takeTricks
theorem ts_85_17 {X : gX} (ok : gOK X) (hX : gHX X) (d : Nat) {k17 : (Nat × Int × Int × gS) ⊕ gO → Option gO} (hl17 : ∀ y : (Nat × Int × Int × gS), Go X em_85 85 (d + 1) 17 [] [(0, (26, 0, y.1)), (1, (0, y.2.1, 0)), (2, (0, y.2.2.1, 0))] [] y.2.2.2 0 0 (some (Sum.inl y)) k17) (hr17 : ∀ q, k17 (Sum.inr q) = some q) (x0 : Nat) (x1 : Int) (x2 : Int) (s : gS) : Go X em_85 85 (d + 1) 17 [] [(0, (26, 0, x0)), (1, (0, x1, 0)), (2, (0, x2, 0))] [] s 0 0 (sb_85_17 x0 x1 x2 s) k17 := by
  delta sb_85_17
  refine g_rb gs_85 3 (cd' := gb_85_17) rfl rfl ?_
  refine g_iload_n ok rfl ?_
  refine g_aload_n ok rfl rfl ?_
  refine g_geti ok rfl rfl ?_
  refine g_ic_ge ok rfl (fun _ => ?_) (fun _ => ?_)
  · refine g_rb gs_85 4 (cd' := gb_85_25) rfl rfl ?_
    refine g_aload_n ok rfl rfl ?_
    refine g_getr ok 3316 rfl rfl rfl ?_
    refine g_iload_n ok rfl ?_
    refine g_iaload ok (n := 400) rfl rfl (fun _ _ => ?_)
    refine g_bipush ok (v := 97) rfl ?_
    refine g_isub ok ?_
    let v1 : Int := (g32 ((gI s (gR s x0 0) (x2 : Int).toNat) - 97))
    refine g_istore_n ok rfl (L' := [(0, (26, 0, x0)), (1, (0, x1, 0)), (2, (0, x2, 0)), (3, (0, v1, 0))]) rfl ?_
    refine g_iload_n ok rfl ?_
    refine g_bipush ok (v := 6) rfl ?_
    refine g_ic_ge ok rfl (fun _ => ?_) (fun _ => ?_)
    · refine g_rb gs_85 5 (cd' := gb_85_41) rfl rfl ?_
      refine g_iload_n ok rfl ?_
      refine g_iload_n ok rfl ?_
      refine g_ishr ok ?_
      refine g_iconst ok (v := 1) rfl ?_
      refine g_iand ok ?_
      refine g_if_eq ok rfl (fun _ => ?_) (fun _ => ?_)
      · refine g_rb gs_85 7 (cd' := gb_85_51) rfl rfl ?_
        refine g_iload_n ok rfl ?_
        refine g_iconst ok (v := 1) rfl ?_
        refine g_iload_n ok rfl ?_
        refine g_ishl ok ?_
        refine g_ior ok ?_
        let v2 : Int := (gor x1 (gshl 1 v1))
        refine g_istore_n ok rfl (L' := [(0, (26, 0, x0)), (1, (0, v2, 0)), (2, (0, x2, 0)), (3, (0, v1, 0))]) rfl ?_
        refine g_iinc ok rfl rfl (L' := [(0, (26, 0, x0)), (1, (0, v2, 0)), (2, (0, (g32 (x2 + 1)), 0)), (3, (0, v1, 0))]) rfl ?_
        refine g_goto ok rfl ?_
        exact g_wk ok [(0, (26, 0, x0)), (1, (0, v2, 0)), (2, (0, (g32 (x2 + 1)), 0))] ⟨rfl, rfl, rfl, trivial⟩ (hl17 (x0, v2, (g32 (x2 + 1)), s))
      · refine g_map hr17 ?_
        refine g_rb gs_85 6 (cd' := gb_85_49) rfl rfl ?_
        refine g_iconst ok (v := (-1)) rfl ?_
        exact g_ireturn ok rfl rfl (rfl)
    · refine g_map hr17 ?_
      refine g_rb gs_85 6 (cd' := gb_85_49) rfl rfl ?_
      refine g_iconst ok (v := (-1)) rfl ?_
      exact g_ireturn ok rfl rfl (rfl)
  · refine g_map hr17 ?_
    refine g_rb gs_85 8 (cd' := gb_85_63) rfl rfl ?_
    refine g_aload_n ok rfl rfl ?_
    refine g_cv0 ok (me_78 hX) rfl rfl rfl (t_78 ok hX _ x0 s) (fun s3 => ?_)
    refine g_iload_n ok rfl ?_
    exact g_ireturn ok rfl rfl (rfl)
theorem tl_85_17 {X : gX} (ok : gOK X) (hX : gHX X) (d : Nat)  (y : (Nat × Int × Int × gS)) : Go X em_85 85 (d + 1) 17 [] [(0, (26, 0, y.1)), (1, (0, y.2.1, 0)), (2, (0, y.2.2.1, 0))] [] y.2.2.2 0 0 (gloop (st_85_17) y) some :=
  g_loop (Lh := fun y => [(0, (26, 0, y.1)), (1, (0, y.2.1, 0)), (2, (0, y.2.2.1, 0))]) (sh := fun y => y.2.2.2) (fun k17 hl17 hr17 y => ts_85_17 ok hX d  hl17 hr17 y.1 y.2.1 y.2.2.1 y.2.2.2) y
theorem t_85 {X : gX} (ok : gOK X) (hX : gHX X) (d : Nat) (a0 : Nat) (s : gS) : Go X em_85 85 (d + 1) 0 [] [(0, (26, 0, a0))] [] s 0 0 (f_85 a0 s) some := by
  delta f_85
  refine g_rb gs_85 0 (cd' := gb_85_0) rfl rfl ?_
  refine g_aload_n ok rfl rfl ?_
  refine g_geti ok rfl rfl ?_
  refine g_iconst ok (v := 1) rfl ?_
  refine g_ic_eq ok rfl (fun _ => ?_) (fun _ => ?_)
  · refine g_rb gs_85 2 (cd' := gb_85_10) rfl rfl ?_
    refine g_iconst ok (v := 0) rfl ?_
    refine g_istore_n ok rfl (L' := [(0, (26, 0, a0)), (1, (0, 0, 0))]) rfl ?_
    refine g_aload_n ok rfl rfl ?_
    refine g_geti ok rfl rfl ?_
    refine g_istore_n ok rfl (L' := [(0, (26, 0, a0)), (1, (0, 0, 0)), (2, (0, (gI s a0 3), 0))]) rfl ?_
    exact g_wk ok [(0, (26, 0, a0)), (1, (0, 0, 0)), (2, (0, (gI s a0 3), 0))] ⟨rfl, rfl, rfl, trivial⟩ (tl_85_17 ok hX d  (a0, 0, (gI s a0 3), s))
  · refine g_rb gs_85 1 (cd' := gb_85_8) rfl rfl ?_
    refine g_iconst ok (v := (-1)) rfl ?_
    exact g_ireturn ok rfl rfl (rfl)
-- X1_tricksBehind
theorem t_14 {X : gX} (ok : gOK X) (hX : gHX X) (d : Nat) (a0 : Nat) (a1 : Nat) (s : gS) : Go X em_14 14 (d + 6) 0 [] [(0, (17, 0, a0)), (1, (8, 0, a1))] [] s 0 0 (f_14 a0 a1 s) some := by
  delta f_14
  refine g_rb gs_14 0 (cd' := gb_14_0) rfl rfl ?_
  refine g_aload_n ok rfl rfl ?_
  refine g_getr ok 26 rfl rfl rfl ?_
  refine g_aload_n ok rfl rfl ?_
  refine g_cvz ok (me_82 hX) rfl rfl rfl rfl (t_82 ok hX _ (gR s a0 0) a1 s) (fun v2 s1 hb3 => ?_)
  refine g_if_eq ok rfl (fun _ => ?_) (fun _ => ?_)
  · refine g_rb gs_14 2 (cd' := gb_14_21) rfl rfl ?_
    refine g_iconst ok (v := (-1)) rfl ?_
    refine g_rb gs_14 3 (cd' := gb_14_22) rfl rfl ?_
    exact g_ireturn ok rfl rfl (rfl)
  · refine g_rb gs_14 1 (cd' := gb_14_11) rfl rfl ?_
    refine g_aload_n ok rfl rfl ?_
    refine g_getr ok 26 rfl rfl rfl ?_
    refine g_cv1 ok (me_85 hX) rfl rfl rfl rfl (t_85 ok hX _ (gR s1 a0 0) s1) (fun v5 s4 => ?_)
    refine g_goto ok rfl ?_
    refine g_rb gs_14 3 (cd' := gb_14_22) rfl rfl ?_
    exact g_ireturn ok rfl rfl (rfl)
-- X2_addMan
theorem t_24 {X : gX} (ok : gOK X) (hX : gHX X) (d : Nat) (a0 : Nat) (a1 : Int) (a2 : Int) (a3 : Int) (s : gS) : Go X em_24 24 d 0 [] [(0, (18, 0, a0)), (1, (0, a1, 0)), (2, (0, a2, 0)), (3, (0, a3, 0))] [] s 0 0 (f_24 a0 a1 a2 a3 s) some := by
  delta f_24
  refine g_rb gs_24 0 (cd' := gb_24_0) rfl rfl ?_
  refine g_aload_n ok rfl rfl ?_
  refine g_geti ok rfl rfl ?_
  refine g_bipush ok (v := 6) rfl ?_
  refine g_ic_ge ok rfl (fun _ => ?_) (fun _ => ?_)
  · refine g_rb gs_24 1 (cd' := gb_24_9) rfl rfl ?_
    refine g_aload_n ok rfl rfl ?_
    refine g_getr ok 168 rfl rfl rfl ?_
    refine g_aload_n ok rfl rfl ?_
    refine g_geti ok rfl rfl ?_
    refine g_aaload4 ok (n := 6) rfl rfl (fun _ _ => ?_)
    let v1 : Nat := (gR s (gR s a0 0) ((gI s a0 4) : Int).toNat)
    refine g_astore ok rfl rfl (L' := [(0, (18, 0, a0)), (1, (0, a1, 0)), (2, (0, a2, 0)), (3, (0, a3, 0)), (4, (23, 0, v1))]) rfl ?_
    refine g_aload ok rfl rfl ?_
    refine g_iload_n ok rfl ?_
    refine g_puti ok rfl rfl rfl ?_
    let s2 : gS := gw s v1 0 a1
    refine g_aload ok rfl rfl ?_
    refine g_iload_n ok rfl ?_
    refine g_puti ok rfl rfl rfl ?_
    let s3 : gS := gw s2 v1 1 a2
    refine g_aload ok rfl rfl ?_
    refine g_iload_n ok rfl ?_
    refine g_puti ok rfl rfl rfl ?_
    let s4 : gS := gw s3 v1 2 a3
    refine g_aload ok rfl rfl ?_
    refine g_iconst ok (v := 0) rfl ?_
    refine g_puti ok rfl rfl rfl ?_
    let s5 : gS := gw s4 v1 3 0
    refine g_aload ok rfl rfl ?_
    refine g_iconst ok (v := 0) rfl ?_
    refine g_puti ok rfl rfl rfl ?_
    let s6 : gS := gw s5 v1 4 0
    refine g_aload ok rfl rfl ?_
    refine g_iconst ok (v := 0) rfl ?_
    refine g_puti ok rfl rfl rfl ?_
    let s7 : gS := gw s6 v1 5 0
    refine g_aload_n ok rfl rfl ?_
    refine g_dup ok rfl ?_
    refine g_geti ok rfl rfl ?_
    refine g_iconst ok (v := 1) rfl ?_
    refine g_iadd ok ?_
    refine g_puti ok rfl rfl rfl ?_
    let s8 : gS := gw s7 a0 4 (g32 ((gI s7 a0 4) + 1))
    refine g_rb gs_24 2 (cd' := gb_24_66) rfl rfl ?_
    exact g_return ok rfl rfl (rfl)
  · refine g_rb gs_24 2 (cd' := gb_24_66) rfl rfl ?_
    exact g_return ok rfl rfl (rfl)
-- X1_readsMan
theorem tb_16_51 {X : gX} (ok : gOK X) (hX : gHX X) (d : Nat)  (x1 : Nat) (x2 : Int) (x3 : Int) (w0 : Int) (s : gS) : Go X em_16 16 (d + 7) 51 [] [(1, (18, 0, x1)), (2, (0, x2, 0)), (3, (0, x3, 0))] [(0, w0, 0)] s 0 0 (fb_16_51 x1 x2 x3 w0 s) some := by
  delta fb_16_51
  refine g_rb gs_16 6 (cd' := gb_16_51) rfl rfl ?_
  refine g_istore ok rfl (L' := [(1, (18, 0, x1)), (2, (0, x2, 0)), (3, (0, x3, 0)), (4, (0, w0, 0))]) rfl ?_
  refine g_iload ok rfl ?_
  refine g_iconst ok (v := (-1)) rfl ?_
  refine g_ic_ne ok rfl (fun _ => ?_) (fun _ => ?_)
  · refine g_rb gs_16 7 (cd' := gb_16_59) rfl rfl ?_
    refine g_iconst ok (v := 0) rfl ?_
    exact g_zreturn ok rfl (Or.inl rfl) rfl (rfl)
  · refine g_rb gs_16 8 (cd' := gb_16_61) rfl rfl ?_
    refine g_aload_n ok rfl rfl ?_
    refine g_iload_n ok rfl ?_
    refine g_iload_n ok rfl ?_
    refine g_iload ok rfl ?_
    refine g_cv0 ok (me_24 hX) rfl rfl rfl (t_24 ok hX _ x1 x2 x3 w0 s) (fun s5 => ?_)
    refine g_iconst ok (v := 1) rfl ?_
    exact g_zreturn ok rfl (Or.inr rfl) rfl (rfl)
theorem tb_16_35 {X : gX} (ok : gOK X) (hX : gHX X) (d : Nat)  (x0 : Nat) (x1 : Nat) (x2 : Int) (w0 : Int) (s : gS) : Go X em_16 16 (d + 7) 35 [] [(0, (17, 0, x0)), (1, (18, 0, x1)), (2, (0, x2, 0))] [(0, w0, 0)] s 0 0 (fb_16_35 x0 x1 x2 w0 s) some := by
  delta fb_16_35
  refine g_rb gs_16 3 (cd' := gb_16_35) rfl rfl ?_
  refine g_istore_n ok rfl (L' := [(0, (17, 0, x0)), (1, (18, 0, x1)), (2, (0, x2, 0)), (3, (0, w0, 0))]) rfl ?_
  refine g_iload_n ok rfl ?_
  refine g_iconst ok (v := (-1)) rfl ?_
  refine g_ic_ne ok rfl (fun _ => ?_) (fun _ => ?_)
  · refine g_rb gs_16 4 (cd' := gb_16_41) rfl rfl ?_
    refine g_iconst ok (v := (-1)) rfl ?_
    refine g_goto ok rfl ?_
    exact g_wk ok [(1, (18, 0, x1)), (2, (0, x2, 0)), (3, (0, w0, 0))] ⟨rfl, rfl, rfl, trivial⟩ (tb_16_51 ok hX d  x1 x2 w0 (-1) s)
  · refine g_rb gs_16 5 (cd' := gb_16_45) rfl rfl ?_
    refine g_aload_n ok rfl rfl ?_
    refine g_ldcs ok rfl ?_
    refine g_cv1 ok (me_14 hX) rfl rfl rfl rfl (t_14 ok hX _ x0 23 s) (fun v8 s7 => ?_)
    exact g_wk ok [(1, (18, 0, x1)), (2, (0, x2, 0)), (3, (0, w0, 0))] ⟨rfl, rfl, rfl, trivial⟩ (tb_16_51 ok hX d  x1 x2 w0 v8 s7)
theorem t_16 {X : gX} (ok : gOK X) (hX : gHX X) (d : Nat) (a0 : Nat) (a1 : Nat) (s : gS) : Go X em_16 16 (d + 7) 0 [] [(0, (17, 0, a0)), (1, (18, 0, a1))] [] s 0 0 (f_16 a0 a1 s) some := by
  delta f_16
  refine g_rb gs_16 0 (cd' := gb_16_0) rfl rfl ?_
  refine g_aload_n ok rfl rfl ?_
  refine g_getr ok 26 rfl rfl rfl ?_
  refine g_cv0 ok (me_78 hX) rfl rfl rfl (t_78 ok hX _ (gR s a0 0) s) (fun s1 => ?_)
  refine g_aload_n ok rfl rfl ?_
  refine g_ldcs ok rfl ?_
  refine g_iconst ok (v := 0) rfl ?_
  refine g_bipush ok (v := 99) rfl ?_
  refine g_cv1 ok (me_13 hX) rfl rfl rfl rfl (t_13 ok hX _ a0 21 0 99 s1) (fun v4 s3 => ?_)
  refine g_istore_n ok rfl (L' := [(0, (17, 0, a0)), (1, (18, 0, a1)), (2, (0, v4, 0))]) rfl ?_
  refine g_iload_n ok rfl ?_
  refine g_iconst ok (v := (-1)) rfl ?_
  refine g_ic_ne ok rfl (fun _ => ?_) (fun _ => ?_)
  · refine g_rb gs_16 1 (cd' := gb_16_22) rfl rfl ?_
    refine g_iconst ok (v := (-1)) rfl ?_
    refine g_goto ok rfl ?_
    exact g_wk ok [(0, (17, 0, a0)), (1, (18, 0, a1)), (2, (0, v4, 0))] ⟨rfl, rfl, rfl, trivial⟩ (tb_16_35 ok hX d  a0 a1 v4 (-1) s3)
  · refine g_rb gs_16 2 (cd' := gb_16_26) rfl rfl ?_
    refine g_aload_n ok rfl rfl ?_
    refine g_ldcs ok rfl ?_
    refine g_iconst ok (v := 0) rfl ?_
    refine g_bipush ok (v := 9) rfl ?_
    refine g_cv1 ok (me_13 hX) rfl rfl rfl rfl (t_13 ok hX _ a0 22 0 9 s3) (fun v10 s9 => ?_)
    exact g_wk ok [(0, (17, 0, a0)), (1, (18, 0, a1)), (2, (0, v4, 0))] ⟨rfl, rfl, rfl, trivial⟩ (tb_16_35 ok hX d  a0 a1 v4 v10 s9)
-- X1_readsTest
theorem tb_17_32 {X : gX} (ok : gOK X) (hX : gHX X) (d : Nat)  (x1 : Nat) (x2 : Int) (w0 : Int) (s : gS) : Go X em_17 17 (d + 7) 32 [] [(1, (16, 0, x1)), (2, (0, x2, 0))] [(0, w0, 0)] s 0 0 (fb_17_32 x1 x2 w0 s) some := by
  delta fb_17_32
  refine g_rb gs_17 3 (cd' := gb_17_32) rfl rfl ?_
  refine g_istore_n ok rfl (L' := [(1, (16, 0, x1)), (2, (0, x2, 0)), (3, (0, w0, 0))]) rfl ?_
  refine g_iload_n ok rfl ?_
  refine g_iconst ok (v := (-1)) rfl ?_
  refine g_ic_ne ok rfl (fun _ => ?_) (fun _ => ?_)
  · refine g_rb gs_17 4 (cd' := gb_17_38) rfl rfl ?_
    refine g_iconst ok (v := 0) rfl ?_
    exact g_zreturn ok rfl (Or.inl rfl) rfl (rfl)
  · refine g_rb gs_17 5 (cd' := gb_17_40) rfl rfl ?_
    refine g_aload_n ok rfl rfl ?_
    refine g_iload_n ok rfl ?_
    refine g_iload_n ok rfl ?_
    refine g_cv0 ok (me_3 hX) rfl rfl rfl (t_3 ok hX _ x1 x2 w0 s) (fun s5 => ?_)
    refine g_iconst ok (v := 1) rfl ?_
    exact g_zreturn ok rfl (Or.inr rfl) rfl (rfl)
theorem t_17 {X : gX} (ok : gOK X) (hX : gHX X) (d : Nat) (a0 : Nat) (a1 : Nat) (s : gS) : Go X em_17 17 (d + 7) 0 [] [(0, (17, 0, a0)), (1, (16, 0, a1))] [] s 0 0 (f_17 a0 a1 s) some := by
  delta f_17
  refine g_rb gs_17 0 (cd' := gb_17_0) rfl rfl ?_
  refine g_aload_n ok rfl rfl ?_
  refine g_getr ok 26 rfl rfl rfl ?_
  refine g_cv0 ok (me_78 hX) rfl rfl rfl (t_78 ok hX _ (gR s a0 0) s) (fun s1 => ?_)
  refine g_aload_n ok rfl rfl ?_
  refine g_ldcs ok rfl ?_
  refine g_iconst ok (v := 0) rfl ?_
  refine g_bipush ok (v := 99) rfl ?_
  refine g_cv1 ok (me_13 hX) rfl rfl rfl rfl (t_13 ok hX _ a0 19 0 99 s1) (fun v4 s3 => ?_)
  refine g_istore_n ok rfl (L' := [(0, (17, 0, a0)), (1, (16, 0, a1)), (2, (0, v4, 0))]) rfl ?_
  refine g_iload_n ok rfl ?_
  refine g_iconst ok (v := (-1)) rfl ?_
  refine g_ic_ne ok rfl (fun _ => ?_) (fun _ => ?_)
  · refine g_rb gs_17 1 (cd' := gb_17_22) rfl rfl ?_
    refine g_iconst ok (v := (-1)) rfl ?_
    refine g_goto ok rfl ?_
    exact g_wk ok [(1, (16, 0, a1)), (2, (0, v4, 0))] ⟨rfl, rfl, trivial⟩ (tb_17_32 ok hX d  a1 v4 (-1) s3)
  · refine g_rb gs_17 2 (cd' := gb_17_26) rfl rfl ?_
    refine g_aload_n ok rfl rfl ?_
    refine g_ldcs ok rfl ?_
    refine g_cv1 ok (me_14 hX) rfl rfl rfl rfl (t_14 ok hX _ a0 24 s3) (fun v8 s7 => ?_)
    exact g_wk ok [(1, (16, 0, a1)), (2, (0, v4, 0))] ⟨rfl, rfl, trivial⟩ (tb_17_32 ok hX d  a1 v4 v8 s7)
-- X2_addRival
theorem t_25 {X : gX} (ok : gOK X) (hX : gHX X) (d : Nat) (a0 : Nat) (a1 : Int) (s : gS) : Go X em_25 25 d 0 [] [(0, (18, 0, a0)), (1, (0, a1, 0))] [] s 0 0 (f_25 a0 a1 s) some := by
  delta f_25
  refine g_rb gs_25 0 (cd' := gb_25_0) rfl rfl ?_
  refine g_aload_n ok rfl rfl ?_
  refine g_geti ok rfl rfl ?_
  refine g_bipush ok (v := 6) rfl ?_
  refine g_ic_ge ok rfl (fun _ => ?_) (fun _ => ?_)
  · refine g_rb gs_25 1 (cd' := gb_25_9) rfl rfl ?_
    refine g_aload_n ok rfl rfl ?_
    refine g_getr ok 164 rfl rfl rfl ?_
    refine g_aload_n ok rfl rfl ?_
    refine g_geti ok rfl rfl ?_
    refine g_iload_n ok rfl ?_
    refine g_iastore ok (n := 6) rfl rfl (fun _ _ => ?_)
    let s1 : gS := gw s (gR s a0 1) ((gI s a0 5) : Int).toNat a1
    refine g_aload_n ok rfl rfl ?_
    refine g_getr ok 164 rfl rfl rfl ?_
    refine g_aload_n ok rfl rfl ?_
    refine g_geti ok rfl rfl ?_
    refine g_iconst ok (v := 0) rfl ?_
    refine g_iastore ok (n := 6) rfl rfl (fun _ _ => ?_)
    let s2 : gS := gw s1 (gR s1 a0 2) ((gI s1 a0 5) : Int).toNat 0
    refine g_aload_n ok rfl rfl ?_
    refine g_dup ok rfl ?_
    refine g_geti ok rfl rfl ?_
    refine g_iconst ok (v := 1) rfl ?_
    refine g_iadd ok ?_
    refine g_puti ok rfl rfl rfl ?_
    let s3 : gS := gw s2 a0 5 (g32 ((gI s2 a0 5) + 1))
    refine g_rb gs_25 2 (cd' := gb_25_39) rfl rfl ?_
    exact g_return ok rfl rfl (rfl)
  · refine g_rb gs_25 2 (cd' := gb_25_39) rfl rfl ?_
    exact g_return ok rfl rfl (rfl)
-- X1_readsRival
theorem t_18 {X : gX} (ok : gOK X) (hX : gHX X) (d : Nat) (a0 : Nat) (a1 : Nat) (s : gS) : Go X em_18 18 (d + 7) 0 [] [(0, (17, 0, a0)), (1, (18, 0, a1))] [] s 0 0 (f_18 a0 a1 s) some := by
  delta f_18
  refine g_rb gs_18 0 (cd' := gb_18_0) rfl rfl ?_
  refine g_aload_n ok rfl rfl ?_
  refine g_ldcs ok rfl ?_
  refine g_iconst ok (v := 0) rfl ?_
  refine g_sipush ok (v := 999) rfl ?_
  refine g_cv1 ok (me_13 hX) rfl rfl rfl rfl (t_13 ok hX _ a0 16 0 999 s) (fun v2 s1 => ?_)
  refine g_istore_n ok rfl (L' := [(0, (17, 0, a0)), (1, (18, 0, a1)), (2, (0, v2, 0))]) rfl ?_
  refine g_iload_n ok rfl ?_
  refine g_iconst ok (v := (-1)) rfl ?_
  refine g_ic_ne ok rfl (fun _ => ?_) (fun _ => ?_)
  · refine g_rb gs_18 1 (cd' := gb_18_16) rfl rfl ?_
    refine g_iconst ok (v := 0) rfl ?_
    exact g_zreturn ok rfl (Or.inl rfl) rfl (rfl)
  · refine g_rb gs_18 2 (cd' := gb_18_18) rfl rfl ?_
    refine g_aload_n ok rfl rfl ?_
    refine g_iload_n ok rfl ?_
    refine g_cv0 ok (me_25 hX) rfl rfl rfl (t_25 ok hX _ a1 v2 s1) (fun s3 => ?_)
    refine g_iconst ok (v := 1) rfl ?_
    exact g_zreturn ok rfl (Or.inr rfl) rfl (rfl)
-- X1_readsChest
theorem t_19 {X : gX} (ok : gOK X) (hX : gHX X) (d : Nat) (a0 : Nat) (a1 : Nat) (s : gS) : Go X em_19 19 (d + 7) 0 [] [(0, (17, 0, a0)), (1, (18, 0, a1))] [] s 0 0 (f_19 a0 a1 s) some := by
  delta f_19
  refine g_rb gs_19 0 (cd' := gb_19_0) rfl rfl ?_
  refine g_aload_n ok rfl rfl ?_
  refine g_aload_n ok rfl rfl ?_
  refine g_ldcs ok rfl ?_
  refine g_iconst ok (v := 0) rfl ?_
  refine g_sipush ok (v := 999) rfl ?_
  refine g_cv1 ok (me_13 hX) rfl rfl rfl rfl (t_13 ok hX _ a0 17 0 999 s) (fun v2 s1 => ?_)
  refine g_puti ok rfl rfl rfl ?_
  let s3 : gS := gw s1 a1 6 v2
  refine g_aload_n ok rfl rfl ?_
  refine g_geti ok rfl rfl ?_
  refine g_iconst ok (v := (-1)) rfl ?_
  refine g_ic_eq ok rfl (fun _ => ?_) (fun _ => ?_)
  · refine g_rb gs_19 2 (cd' := gb_19_26) rfl rfl ?_
    refine g_iconst ok (v := 0) rfl ?_
    refine g_rb gs_19 3 (cd' := gb_19_27) rfl rfl ?_
    exact g_zreturn ok rfl (Or.inl rfl) rfl (rfl)
  · refine g_rb gs_19 1 (cd' := gb_19_22) rfl rfl ?_
    refine g_iconst ok (v := 1) rfl ?_
    refine g_goto ok rfl ?_
    refine g_rb gs_19 3 (cd' := gb_19_27) rfl rfl ?_
    exact g_zreturn ok rfl (Or.inr rfl) rfl (rfl)
-- X1_readsRule
theorem t_20 {X : gX} (ok : gOK X) (hX : gHX X) (d : Nat) (a0 : Nat) (a1 : Nat) (s : gS) : Go X em_20 20 (d + 7) 0 [] [(0, (17, 0, a0)), (1, (16, 0, a1))] [] s 0 0 (f_20 a0 a1 s) some := by
  delta f_20
  refine g_rb gs_20 0 (cd' := gb_20_0) rfl rfl ?_
  refine g_aload_n ok rfl rfl ?_
  refine g_getr ok 26 rfl rfl rfl ?_
  refine g_ldcs ok rfl ?_
  refine g_cvz ok (me_80 hX) rfl rfl rfl rfl (t_80 ok hX _ (gR s a0 0) 25 s) (fun v2 s1 hb3 => ?_)
  refine g_if_eq ok rfl (fun _ => ?_) (fun _ => ?_)
  · refine g_rb gs_20 5 (cd' := gb_20_39) rfl rfl ?_
    refine g_aload_n ok rfl rfl ?_
    refine g_getr ok 26 rfl rfl rfl ?_
    refine g_ldcs ok rfl ?_
    refine g_cvz ok (me_80 hX) rfl rfl rfl rfl (t_80 ok hX _ (gR s1 a0 0) 26 s1) (fun v5 s4 hb6 => ?_)
    refine g_if_eq ok rfl (fun _ => ?_) (fun _ => ?_)
    · refine g_rb gs_20 10 (cd' := gb_20_78) rfl rfl ?_
      refine g_aload_n ok rfl rfl ?_
      refine g_getr ok 26 rfl rfl rfl ?_
      refine g_ldcs ok rfl ?_
      refine g_cvz ok (me_80 hX) rfl rfl rfl rfl (t_80 ok hX _ (gR s4 a0 0) 27 s4) (fun v8 s7 hb9 => ?_)
      refine g_if_eq ok rfl (fun _ => ?_) (fun _ => ?_)
      · refine g_rb gs_20 15 (cd' := gb_20_117) rfl rfl ?_
        refine g_iconst ok (v := 0) rfl ?_
        exact g_zreturn ok rfl (Or.inl rfl) rfl (rfl)
      · refine g_rb gs_20 11 (cd' := gb_20_90) rfl rfl ?_
        refine g_aload_n ok rfl rfl ?_
        refine g_aload_n ok rfl rfl ?_
        refine g_ldcs ok rfl ?_
        refine g_iconst ok (v := 0) rfl ?_
        refine g_bipush ok (v := 50) rfl ?_
        refine g_cv1 ok (me_13 hX) rfl rfl rfl rfl (t_13 ok hX _ a0 27 0 50 s7) (fun v11 s10 => ?_)
        refine g_puti ok rfl rfl rfl ?_
        let s12 : gS := gw s10 a1 9 v11
        refine g_aload_n ok rfl rfl ?_
        refine g_geti ok rfl rfl ?_
        refine g_iconst ok (v := (-1)) rfl ?_
        refine g_ic_eq ok rfl (fun _ => ?_) (fun _ => ?_)
        · refine g_rb gs_20 13 (cd' := gb_20_115) rfl rfl ?_
          refine g_iconst ok (v := 0) rfl ?_
          refine g_rb gs_20 14 (cd' := gb_20_116) rfl rfl ?_
          exact g_zreturn ok rfl (Or.inl rfl) rfl (rfl)
        · refine g_rb gs_20 12 (cd' := gb_20_111) rfl rfl ?_
          refine g_iconst ok (v := 1) rfl ?_
          refine g_goto ok rfl ?_
          refine g_rb gs_20 14 (cd' := gb_20_116) rfl rfl ?_
          exact g_zreturn ok rfl (Or.inr rfl) rfl (rfl)
    · refine g_rb gs_20 6 (cd' := gb_20_51) rfl rfl ?_
      refine g_aload_n ok rfl rfl ?_
      refine g_aload_n ok rfl rfl ?_
      refine g_ldcs ok rfl ?_
      refine g_iconst ok (v := 0) rfl ?_
      refine g_bipush ok (v := 100) rfl ?_
      refine g_cv1 ok (me_13 hX) rfl rfl rfl rfl (t_13 ok hX _ a0 26 0 100 s4) (fun v14 s13 => ?_)
      refine g_puti ok rfl rfl rfl ?_
      let s15 : gS := gw s13 a1 8 v14
      refine g_aload_n ok rfl rfl ?_
      refine g_geti ok rfl rfl ?_
      refine g_iconst ok (v := (-1)) rfl ?_
      refine g_ic_eq ok rfl (fun _ => ?_) (fun _ => ?_)
      · refine g_rb gs_20 8 (cd' := gb_20_76) rfl rfl ?_
        refine g_iconst ok (v := 0) rfl ?_
        refine g_rb gs_20 9 (cd' := gb_20_77) rfl rfl ?_
        exact g_zreturn ok rfl (Or.inl rfl) rfl (rfl)
      · refine g_rb gs_20 7 (cd' := gb_20_72) rfl rfl ?_
        refine g_iconst ok (v := 1) rfl ?_
        refine g_goto ok rfl ?_
        refine g_rb gs_20 9 (cd' := gb_20_77) rfl rfl ?_
        exact g_zreturn ok rfl (Or.inr rfl) rfl (rfl)
  · refine g_rb gs_20 1 (cd' := gb_20_12) rfl rfl ?_
    refine g_aload_n ok rfl rfl ?_
    refine g_aload_n ok rfl rfl ?_
    refine g_ldcs ok rfl ?_
    refine g_iconst ok (v := 0) rfl ?_
    refine g_bipush ok (v := 99) rfl ?_
    refine g_cv1 ok (me_13 hX) rfl rfl rfl rfl (t_13 ok hX _ a0 25 0 99 s1) (fun v17 s16 => ?_)
    refine g_puti ok rfl rfl rfl ?_
    let s18 : gS := gw s16 a1 7 v17
    refine g_aload_n ok rfl rfl ?_
    refine g_geti ok rfl rfl ?_
    refine g_iconst ok (v := (-1)) rfl ?_
    refine g_ic_eq ok rfl (fun _ => ?_) (fun _ => ?_)
    · refine g_rb gs_20 3 (cd' := gb_20_37) rfl rfl ?_
      refine g_iconst ok (v := 0) rfl ?_
      refine g_rb gs_20 4 (cd' := gb_20_38) rfl rfl ?_
      exact g_zreturn ok rfl (Or.inl rfl) rfl (rfl)
    · refine g_rb gs_20 2 (cd' := gb_20_33) rfl rfl ?_
      refine g_iconst ok (v := 1) rfl ?_
      refine g_goto ok rfl ?_
      refine g_rb gs_20 4 (cd' := gb_20_38) rfl rfl ?_
      exact g_zreturn ok rfl (Or.inr rfl) rfl (rfl)
-- X1_readsLine
theorem tb_12_138 {X : gX} (ok : gOK X) (hX : gHX X) (d : Nat)   (s : gS) : Go X em_12 12 (d + 8) 138 [] [] [] s 0 0 (fb_12_138  s) some := by
  delta fb_12_138
  refine g_rb gs_12 22 (cd' := gb_12_138) rfl rfl ?_
  refine g_iconst ok (v := 0) rfl ?_
  refine g_rb gs_12 23 (cd' := gb_12_139) rfl rfl ?_
  exact g_zreturn ok rfl (Or.inl rfl) rfl (rfl)
theorem tb_12_103 {X : gX} (ok : gOK X) (hX : gHX X) (d : Nat)   (s : gS) : Go X em_12 12 (d + 8) 103 [] [] [] s 0 0 (fb_12_103  s) some := by
  delta fb_12_103
  refine g_rb gs_12 16 (cd' := gb_12_103) rfl rfl ?_
  refine g_iconst ok (v := 0) rfl ?_
  refine g_rb gs_12 17 (cd' := gb_12_104) rfl rfl ?_
  exact g_zreturn ok rfl (Or.inl rfl) rfl (rfl)
theorem tb_12_68 {X : gX} (ok : gOK X) (hX : gHX X) (d : Nat)   (s : gS) : Go X em_12 12 (d + 8) 68 [] [] [] s 0 0 (fb_12_68  s) some := by
  delta fb_12_68
  refine g_rb gs_12 10 (cd' := gb_12_68) rfl rfl ?_
  refine g_iconst ok (v := 0) rfl ?_
  refine g_rb gs_12 11 (cd' := gb_12_69) rfl rfl ?_
  exact g_zreturn ok rfl (Or.inl rfl) rfl (rfl)
theorem tb_12_33 {X : gX} (ok : gOK X) (hX : gHX X) (d : Nat)   (s : gS) : Go X em_12 12 (d + 8) 33 [] [] [] s 0 0 (fb_12_33  s) some := by
  delta fb_12_33
  refine g_rb gs_12 4 (cd' := gb_12_33) rfl rfl ?_
  refine g_iconst ok (v := 0) rfl ?_
  refine g_rb gs_12 5 (cd' := gb_12_34) rfl rfl ?_
  exact g_zreturn ok rfl (Or.inl rfl) rfl (rfl)
theorem t_12 {X : gX} (ok : gOK X) (hX : gHX X) (d : Nat) (a0 : Nat) (a1 : Nat) (a2 : Nat) (s : gS) : Go X em_12 12 (d + 8) 0 [] [(0, (17, 0, a0)), (1, (16, 0, a1)), (2, (18, 0, a2))] [] s 0 0 (f_12 a0 a1 a2 s) some := by
  delta f_12
  refine g_rb gs_12 0 (cd' := gb_12_0) rfl rfl ?_
  refine g_aload_n ok rfl rfl ?_
  refine g_getr ok 26 rfl rfl rfl ?_
  refine g_ldcs ok rfl ?_
  refine g_cvz ok (me_80 hX) rfl rfl rfl rfl (t_80 ok hX _ (gR s a0 0) 13 s) (fun v2 s1 hb3 => ?_)
  refine g_if_eq ok rfl (fun _ => ?_) (fun _ => ?_)
  · refine g_rb gs_12 6 (cd' := gb_12_35) rfl rfl ?_
    refine g_aload_n ok rfl rfl ?_
    refine g_getr ok 26 rfl rfl rfl ?_
    refine g_ldcs ok rfl ?_
    refine g_cvz ok (me_80 hX) rfl rfl rfl rfl (t_80 ok hX _ (gR s1 a0 0) 14 s1) (fun v5 s4 hb6 => ?_)
    refine g_if_eq ok rfl (fun _ => ?_) (fun _ => ?_)
    · refine g_rb gs_12 12 (cd' := gb_12_70) rfl rfl ?_
      refine g_aload_n ok rfl rfl ?_
      refine g_getr ok 26 rfl rfl rfl ?_
      refine g_ldcs ok rfl ?_
      refine g_cvz ok (me_80 hX) rfl rfl rfl rfl (t_80 ok hX _ (gR s4 a0 0) 15 s4) (fun v8 s7 hb9 => ?_)
      refine g_if_eq ok rfl (fun _ => ?_) (fun _ => ?_)
      · refine g_rb gs_12 18 (cd' := gb_12_105) rfl rfl ?_
        refine g_aload_n ok rfl rfl ?_
        refine g_getr ok 26 rfl rfl rfl ?_
        refine g_ldcs ok rfl ?_
        refine g_cvz ok (me_80 hX) rfl rfl rfl rfl (t_80 ok hX _ (gR s7 a0 0) 16 s7) (fun v11 s10 hb12 => ?_)
        refine g_if_eq ok rfl (fun _ => ?_) (fun _ => ?_)
        · refine g_rb gs_12 24 (cd' := gb_12_140) rfl rfl ?_
          refine g_aload_n ok rfl rfl ?_
          refine g_getr ok 26 rfl rfl rfl ?_
          refine g_ldcs ok rfl ?_
          refine g_cvz ok (me_80 hX) rfl rfl rfl rfl (t_80 ok hX _ (gR s10 a0 0) 17 s10) (fun v14 s13 hb15 => ?_)
          refine g_if_eq ok rfl (fun _ => ?_) (fun _ => ?_)
          · refine g_rb gs_12 26 (cd' := gb_12_158) rfl rfl ?_
            refine g_aload_n ok rfl rfl ?_
            refine g_aload_n ok rfl rfl ?_
            refine g_cvz ok (me_20 hX) rfl rfl rfl rfl (t_20 ok hX _ a0 a1 s13) (fun v17 s16 hb18 => ?_)
            exact g_zreturn ok rfl hb18 rfl (rfl)
          · refine g_rb gs_12 25 (cd' := gb_12_152) rfl rfl ?_
            refine g_aload_n ok rfl rfl ?_
            refine g_aload_n ok rfl rfl ?_
            refine g_cvz ok (me_19 hX) rfl rfl rfl rfl (t_19 ok hX _ a0 a2 s13) (fun v20 s19 hb21 => ?_)
            exact g_zreturn ok rfl hb21 rfl (rfl)
        · refine g_rb gs_12 19 (cd' := gb_12_117) rfl rfl ?_
          refine g_aload_n ok rfl rfl ?_
          refine g_geti ok rfl rfl ?_
          refine g_bipush ok (v := 6) rfl ?_
          refine g_ic_ge ok rfl (fun _ => ?_) (fun _ => ?_)
          · refine g_rb gs_12 20 (cd' := gb_12_126) rfl rfl ?_
            refine g_aload_n ok rfl rfl ?_
            refine g_aload_n ok rfl rfl ?_
            refine g_cvz ok (me_18 hX) rfl rfl rfl rfl (t_18 ok hX _ a0 a2 s10) (fun v23 s22 hb24 => ?_)
            refine g_if_eq ok rfl (fun _ => ?_) (fun _ => ?_)
            · exact g_wk ok [] trivial (tb_12_138 ok hX d   s22)
            · refine g_rb gs_12 21 (cd' := gb_12_134) rfl rfl ?_
              refine g_iconst ok (v := 1) rfl ?_
              refine g_goto ok rfl ?_
              refine g_rb gs_12 23 (cd' := gb_12_139) rfl rfl ?_
              exact g_zreturn ok rfl (Or.inr rfl) rfl (rfl)
          · exact g_wk ok [] trivial (tb_12_138 ok hX d   s10)
      · refine g_rb gs_12 13 (cd' := gb_12_82) rfl rfl ?_
        refine g_aload_n ok rfl rfl ?_
        refine g_geti ok rfl rfl ?_
        refine g_bipush ok (v := 6) rfl ?_
        refine g_ic_ge ok rfl (fun _ => ?_) (fun _ => ?_)
        · refine g_rb gs_12 14 (cd' := gb_12_91) rfl rfl ?_
          refine g_aload_n ok rfl rfl ?_
          refine g_aload_n ok rfl rfl ?_
          refine g_cvz ok (me_17 hX) rfl rfl rfl rfl (t_17 ok hX _ a0 a1 s7) (fun v26 s25 hb27 => ?_)
          refine g_if_eq ok rfl (fun _ => ?_) (fun _ => ?_)
          · exact g_wk ok [] trivial (tb_12_103 ok hX d   s25)
          · refine g_rb gs_12 15 (cd' := gb_12_99) rfl rfl ?_
            refine g_iconst ok (v := 1) rfl ?_
            refine g_goto ok rfl ?_
            refine g_rb gs_12 17 (cd' := gb_12_104) rfl rfl ?_
            exact g_zreturn ok rfl (Or.inr rfl) rfl (rfl)
        · exact g_wk ok [] trivial (tb_12_103 ok hX d   s7)
    · refine g_rb gs_12 7 (cd' := gb_12_47) rfl rfl ?_
      refine g_aload_n ok rfl rfl ?_
      refine g_geti ok rfl rfl ?_
      refine g_bipush ok (v := 6) rfl ?_
      refine g_ic_ge ok rfl (fun _ => ?_) (fun _ => ?_)
      · refine g_rb gs_12 8 (cd' := gb_12_56) rfl rfl ?_
        refine g_aload_n ok rfl rfl ?_
        refine g_aload_n ok rfl rfl ?_
        refine g_cvz ok (me_16 hX) rfl rfl rfl rfl (t_16 ok hX _ a0 a2 s4) (fun v29 s28 hb30 => ?_)
        refine g_if_eq ok rfl (fun _ => ?_) (fun _ => ?_)
        · exact g_wk ok [] trivial (tb_12_68 ok hX d   s28)
        · refine g_rb gs_12 9 (cd' := gb_12_64) rfl rfl ?_
          refine g_iconst ok (v := 1) rfl ?_
          refine g_goto ok rfl ?_
          refine g_rb gs_12 11 (cd' := gb_12_69) rfl rfl ?_
          exact g_zreturn ok rfl (Or.inr rfl) rfl (rfl)
      · exact g_wk ok [] trivial (tb_12_68 ok hX d   s4)
  · refine g_rb gs_12 1 (cd' := gb_12_12) rfl rfl ?_
    refine g_aload_n ok rfl rfl ?_
    refine g_geti ok rfl rfl ?_
    refine g_bipush ok (v := 8) rfl ?_
    refine g_ic_ge ok rfl (fun _ => ?_) (fun _ => ?_)
    · refine g_rb gs_12 2 (cd' := gb_12_21) rfl rfl ?_
      refine g_aload_n ok rfl rfl ?_
      refine g_aload_n ok rfl rfl ?_
      refine g_cvz ok (me_15 hX) rfl rfl rfl rfl (t_15 ok hX _ a0 a1 s1) (fun v32 s31 hb33 => ?_)
      refine g_if_eq ok rfl (fun _ => ?_) (fun _ => ?_)
      · exact g_wk ok [] trivial (tb_12_33 ok hX d   s31)
      · refine g_rb gs_12 3 (cd' := gb_12_29) rfl rfl ?_
        refine g_iconst ok (v := 1) rfl ?_
        refine g_goto ok rfl ?_
        refine g_rb gs_12 5 (cd' := gb_12_34) rfl rfl ?_
        exact g_zreturn ok rfl (Or.inr rfl) rfl (rfl)
    · exact g_wk ok [] trivial (tb_12_33 ok hX d   s1)
-- X10_isSign
theorem tb_81_25 {X : gX} (ok : gOK X) (hX : gHX X) (d : Nat)   (s : gS) : Go X em_81 81 d 25 [] [] [] s 0 0 (fb_81_25  s) some := by
  delta fb_81_25
  refine g_rb gs_81 3 (cd' := gb_81_25) rfl rfl ?_
  refine g_iconst ok (v := 0) rfl ?_
  refine g_rb gs_81 4 (cd' := gb_81_26) rfl rfl ?_
  exact g_zreturn ok rfl (Or.inl rfl) rfl (rfl)
theorem t_81 {X : gX} (ok : gOK X) (hX : gHX X) (d : Nat) (a0 : Nat) (a1 : Int) (s : gS) : Go X em_81 81 d 0 [] [(0, (26, 0, a0)), (1, (0, a1, 0))] [] s 0 0 (f_81 a0 a1 s) some := by
  delta f_81
  refine g_rb gs_81 0 (cd' := gb_81_0) rfl rfl ?_
  refine g_aload_n ok rfl rfl ?_
  refine g_geti ok rfl rfl ?_
  refine g_iconst ok (v := 3) rfl ?_
  refine g_ic_ne ok rfl (fun _ => ?_) (fun _ => ?_)
  · refine g_rb gs_81 1 (cd' := gb_81_8) rfl rfl ?_
    refine g_aload_n ok rfl rfl ?_
    refine g_getr ok 3316 rfl rfl rfl ?_
    refine g_aload_n ok rfl rfl ?_
    refine g_geti ok rfl rfl ?_
    refine g_iaload ok (n := 400) rfl rfl (fun _ _ => ?_)
    refine g_iload_n ok rfl ?_
    refine g_ic_ne ok rfl (fun _ => ?_) (fun _ => ?_)
    · refine g_rb gs_81 2 (cd' := gb_81_21) rfl rfl ?_
      refine g_iconst ok (v := 1) rfl ?_
      refine g_goto ok rfl ?_
      refine g_rb gs_81 4 (cd' := gb_81_26) rfl rfl ?_
      exact g_zreturn ok rfl (Or.inr rfl) rfl (rfl)
    · exact g_wk ok [] trivial (tb_81_25 ok hX d   s)
  · exact g_wk ok [] trivial (tb_81_25 ok hX d   s)
-- X10_takeSign
theorem t_83 {X : gX} (ok : gOK X) (hX : gHX X) (d : Nat) (a0 : Nat) (a1 : Int) (s : gS) : Go X em_83 83 (d + 1) 0 [] [(0, (26, 0, a0)), (1, (0, a1, 0))] [] s 0 0 (f_83 a0 a1 s) some := by
  delta f_83
  refine g_rb gs_83 0 (cd' := gb_83_0) rfl rfl ?_
  refine g_aload_n ok rfl rfl ?_
  refine g_iload_n ok rfl ?_
  refine g_cvz ok (me_81 hX) rfl rfl rfl rfl (t_81 ok hX _ a0 a1 s) (fun v2 s1 hb3 => ?_)
  refine g_istore_n ok rfl (L' := [(0, (26, 0, a0)), (1, (0, a1, 0)), (2, (0, v2, 0))]) rfl ?_
  refine g_iload_n ok rfl ?_
  refine g_if_eq ok rfl (fun _ => ?_) (fun _ => ?_)
  · refine g_rb gs_83 2 (cd' := gb_83_14) rfl rfl ?_
    refine g_iload_n ok rfl ?_
    exact g_zreturn ok rfl hb3 rfl (rfl)
  · refine g_rb gs_83 1 (cd' := gb_83_10) rfl rfl ?_
    refine g_aload_n ok rfl rfl ?_
    refine g_cv0 ok (me_78 hX) rfl rfl rfl (t_78 ok hX _ a0 s1) (fun s4 => ?_)
    refine g_rb gs_83 2 (cd' := gb_83_14) rfl rfl ?_
    refine g_iload_n ok rfl ?_
    exact g_zreturn ok rfl hb3 rfl (rfl)
-- X1_reads
theorem ts_11_21 {X : gX} (ok : gOK X) (hX : gHX X) (d : Nat) {k21 : (Nat × Nat × Nat × Int × gS) ⊕ gO → Option gO} (hl21 : ∀ y : (Nat × Nat × Nat × Int × gS), Go X em_11 11 (d + 9) 21 [] [(0, (17, 0, y.1)), (1, (16, 0, y.2.1)), (2, (18, 0, y.2.2.1)), (3, (0, y.2.2.2.1, 0))] [] y.2.2.2.2 0 0 (some (Sum.inl y)) k21) (hr21 : ∀ q, k21 (Sum.inr q) = some q) (x0 : Nat) (x1 : Nat) (x2 : Nat) (x3 : Int) (s : gS) : Go X em_11 11 (d + 9) 21 [] [(0, (17, 0, x0)), (1, (16, 0, x1)), (2, (18, 0, x2)), (3, (0, x3, 0))] [] s 0 0 (sb_11_21 x0 x1 x2 x3 s) k21 := by
  delta sb_11_21
  refine g_rb gs_11 3 (cd' := gb_11_21) rfl rfl ?_
  refine g_iload_n ok rfl ?_
  refine g_bipush ok (v := 14) rfl ?_
  refine g_ic_ge ok rfl (fun _ => ?_) (fun _ => ?_)
  · refine g_rb gs_11 4 (cd' := gb_11_27) rfl rfl ?_
    refine g_aload_n ok rfl rfl ?_
    refine g_aload_n ok rfl rfl ?_
    refine g_aload_n ok rfl rfl ?_
    refine g_cvz ok (me_12 hX) rfl rfl rfl rfl (t_12 ok hX _ x0 x1 x2 s) (fun v7 s6 hb8 => ?_)
    refine g_if_ne ok rfl (fun _ => ?_) (fun _ => ?_)
    · refine g_map hr21 ?_
      refine g_rb gs_11 5 (cd' := gb_11_36) rfl rfl ?_
      refine g_iconst ok (v := 0) rfl ?_
      exact g_zreturn ok rfl (Or.inl rfl) rfl (rfl)
    · refine g_rb gs_11 6 (cd' := gb_11_38) rfl rfl ?_
      refine g_aload_n ok rfl rfl ?_
      refine g_getr ok 26 rfl rfl rfl ?_
      refine g_cvz ok (me_79 hX) rfl rfl rfl rfl (t_79 ok hX _ (gR s6 x0 0) s6) (fun v10 s9 hb11 => ?_)
      refine g_if_eq ok rfl (fun _ => ?_) (fun _ => ?_)
      · refine g_rb gs_11 8 (cd' := gb_11_50) rfl rfl ?_
        refine g_aload_n ok rfl rfl ?_
        refine g_getr ok 26 rfl rfl rfl ?_
        refine g_bipush ok (v := 59) rfl ?_
        refine g_cvz ok (me_83 hX) rfl rfl rfl rfl (t_83 ok hX _ (gR s9 x0 0) 59 s9) (fun v13 s12 hb14 => ?_)
        refine g_if_ne ok rfl (fun _ => ?_) (fun _ => ?_)
        · refine g_map hr21 ?_
          refine g_rb gs_11 9 (cd' := gb_11_62) rfl rfl ?_
          refine g_iconst ok (v := 0) rfl ?_
          exact g_zreturn ok rfl (Or.inl rfl) rfl (rfl)
        · refine g_rb gs_11 10 (cd' := gb_11_64) rfl rfl ?_
          refine g_iinc ok rfl rfl (L' := [(0, (17, 0, x0)), (1, (16, 0, x1)), (2, (18, 0, x2)), (3, (0, (g32 (x3 + 1)), 0))]) rfl ?_
          refine g_goto ok rfl ?_
          exact g_wk ok [(0, (17, 0, x0)), (1, (16, 0, x1)), (2, (18, 0, x2)), (3, (0, (g32 (x3 + 1)), 0))] ⟨rfl, rfl, rfl, rfl, trivial⟩ (hl21 (x0, x1, x2, (g32 (x3 + 1)), s12))
      · refine g_map hr21 ?_
        refine g_rb gs_11 7 (cd' := gb_11_48) rfl rfl ?_
        refine g_iconst ok (v := 1) rfl ?_
        exact g_zreturn ok rfl (Or.inr rfl) rfl (rfl)
  · refine g_map hr21 ?_
    refine g_rb gs_11 11 (cd' := gb_11_70) rfl rfl ?_
    refine g_iconst ok (v := 0) rfl ?_
    exact g_zreturn ok rfl (Or.inl rfl) rfl (rfl)
theorem tl_11_21 {X : gX} (ok : gOK X) (hX : gHX X) (d : Nat)  (y : (Nat × Nat × Nat × Int × gS)) : Go X em_11 11 (d + 9) 21 [] [(0, (17, 0, y.1)), (1, (16, 0, y.2.1)), (2, (18, 0, y.2.2.1)), (3, (0, y.2.2.2.1, 0))] [] y.2.2.2.2 0 0 (gloop (st_11_21) y) some :=
  g_loop (Lh := fun y => [(0, (17, 0, y.1)), (1, (16, 0, y.2.1)), (2, (18, 0, y.2.2.1)), (3, (0, y.2.2.2.1, 0))]) (sh := fun y => y.2.2.2.2) (fun k21 hl21 hr21 y => ts_11_21 ok hX d  hl21 hr21 y.1 y.2.1 y.2.2.1 y.2.2.2.1 y.2.2.2.2) y
theorem t_11 {X : gX} (ok : gOK X) (hX : gHX X) (d : Nat) (a0 : Nat) (a1 : Nat) (a2 : Nat) (s : gS) : Go X em_11 11 (d + 9) 0 [] [(0, (17, 0, a0)), (1, (16, 0, a1)), (2, (18, 0, a2))] [] s 0 0 (f_11 a0 a1 a2 s) some := by
  delta f_11
  refine g_rb gs_11 0 (cd' := gb_11_0) rfl rfl ?_
  refine g_aload_n ok rfl rfl ?_
  refine g_getr ok 26 rfl rfl rfl ?_
  refine g_cv0 ok (me_77 hX) rfl rfl rfl (t_77 ok hX _ (gR s a0 0) s) (fun s1 => ?_)
  refine g_aload_n ok rfl rfl ?_
  refine g_getr ok 26 rfl rfl rfl ?_
  refine g_cvz ok (me_79 hX) rfl rfl rfl rfl (t_79 ok hX _ (gR s1 a0 0) s1) (fun v4 s3 hb5 => ?_)
  refine g_if_eq ok rfl (fun _ => ?_) (fun _ => ?_)
  · refine g_rb gs_11 2 (cd' := gb_11_19) rfl rfl ?_
    refine g_iconst ok (v := 0) rfl ?_
    refine g_istore_n ok rfl (L' := [(0, (17, 0, a0)), (1, (16, 0, a1)), (2, (18, 0, a2)), (3, (0, 0, 0))]) rfl ?_
    exact g_wk ok [(0, (17, 0, a0)), (1, (16, 0, a1)), (2, (18, 0, a2)), (3, (0, 0, 0))] ⟨rfl, rfl, rfl, rfl, trivial⟩ (tl_11_21 ok hX d  (a0, a1, a2, 0, s3))
  · refine g_rb gs_11 1 (cd' := gb_11_17) rfl rfl ?_
    refine g_iconst ok (v := 1) rfl ?_
    exact g_zreturn ok rfl (Or.inr rfl) rfl (rfl)
-- X7_copyFrom
theorem t_59 {X : gX} (ok : gOK X) (hX : gHX X) (d : Nat) (a0 : Nat) (a1 : Nat) (s : gS) : Go X em_59 59 d 0 [] [(0, (23, 0, a0)), (1, (23, 0, a1))] [] s 0 0 (f_59 a0 a1 s) some := by
  delta f_59
  refine g_rb gs_59 0 (cd' := gb_59_0) rfl rfl ?_
  refine g_aload_n ok rfl rfl ?_
  refine g_aload_n ok rfl rfl ?_
  refine g_geti ok rfl rfl ?_
  refine g_puti ok rfl rfl rfl ?_
  let s1 : gS := gw s a0 0 (gI s a1 0)
  refine g_aload_n ok rfl rfl ?_
  refine g_aload_n ok rfl rfl ?_
  refine g_geti ok rfl rfl ?_
  refine g_puti ok rfl rfl rfl ?_
  let s2 : gS := gw s1 a0 1 (gI s1 a1 1)
  refine g_aload_n ok rfl rfl ?_
  refine g_aload_n ok rfl rfl ?_
  refine g_geti ok rfl rfl ?_
  refine g_puti ok rfl rfl rfl ?_
  let s3 : gS := gw s2 a0 2 (gI s2 a1 2)
  refine g_aload_n ok rfl rfl ?_
  refine g_aload_n ok rfl rfl ?_
  refine g_geti ok rfl rfl ?_
  refine g_puti ok rfl rfl rfl ?_
  let s4 : gS := gw s3 a0 3 (gI s3 a1 3)
  refine g_aload_n ok rfl rfl ?_
  refine g_aload_n ok rfl rfl ?_
  refine g_geti ok rfl rfl ?_
  refine g_puti ok rfl rfl rfl ?_
  let s5 : gS := gw s4 a0 4 (gI s4 a1 4)
  refine g_aload_n ok rfl rfl ?_
  refine g_aload_n ok rfl rfl ?_
  refine g_geti ok rfl rfl ?_
  refine g_puti ok rfl rfl rfl ?_
  let s6 : gS := gw s5 a0 5 (gI s5 a1 5)
  exact g_return ok rfl rfl (rfl)
-- X2_copyCourse
theorem ts_23_2 {X : gX} (ok : gOK X) (hX : gHX X) (d : Nat) {k2 : (Nat × Nat × Int × gS) ⊕ gO → Option gO} (hl2 : ∀ y : (Nat × Nat × Int × gS), Go X em_23 23 (d + 1) 2 [] [(0, (18, 0, y.1)), (1, (18, 0, y.2.1)), (2, (0, y.2.2.1, 0))] [] y.2.2.2 0 0 (some (Sum.inl y)) k2) (hr2 : ∀ q, k2 (Sum.inr q) = some q) (x0 : Nat) (x1 : Nat) (x2 : Int) (s : gS) : Go X em_23 23 (d + 1) 2 [] [(0, (18, 0, x0)), (1, (18, 0, x1)), (2, (0, x2, 0))] [] s 0 0 (sb_23_2 x0 x1 x2 s) k2 := by
  delta sb_23_2
  refine g_rb gs_23 1 (cd' := gb_23_2) rfl rfl ?_
  refine g_iload_n ok rfl ?_
  refine g_bipush ok (v := 6) rfl ?_
  refine g_ic_ge ok rfl (fun _ => ?_) (fun _ => ?_)
  · refine g_rb gs_23 2 (cd' := gb_23_8) rfl rfl ?_
    refine g_aload_n ok rfl rfl ?_
    refine g_getr ok 168 rfl rfl rfl ?_
    refine g_iload_n ok rfl ?_
    refine g_aaload4 ok (n := 6) rfl rfl (fun _ _ => ?_)
    refine g_aload_n ok rfl rfl ?_
    refine g_getr ok 168 rfl rfl rfl ?_
    refine g_iload_n ok rfl ?_
    refine g_aaload4 ok (n := 6) rfl rfl (fun _ _ => ?_)
    refine g_cv0 ok (me_59 hX) rfl rfl rfl (t_59 ok hX _ (gR s (gR s x0 0) (x2 : Int).toNat) (gR s (gR s x1 0) (x2 : Int).toNat) s) (fun s1 => ?_)
    refine g_iinc ok rfl rfl (L' := [(0, (18, 0, x0)), (1, (18, 0, x1)), (2, (0, (g32 (x2 + 1)), 0))]) rfl ?_
    refine g_goto ok rfl ?_
    exact g_wk ok [(0, (18, 0, x0)), (1, (18, 0, x1)), (2, (0, (g32 (x2 + 1)), 0))] ⟨rfl, rfl, rfl, trivial⟩ (hl2 (x0, x1, (g32 (x2 + 1)), s1))
  · refine g_map hr2 ?_
    refine g_rb gs_23 3 (cd' := gb_23_29) rfl rfl ?_
    refine g_aload_n ok rfl rfl ?_
    refine g_getr ok 164 rfl rfl rfl ?_
    refine g_iconst ok (v := 0) rfl ?_
    refine g_aload_n ok rfl rfl ?_
    refine g_getr ok 164 rfl rfl rfl ?_
    refine g_iconst ok (v := 0) rfl ?_
    refine g_bipush ok (v := 6) rfl ?_
    refine g_acopy ok (n1 := 6) (n2 := 6) rfl rfl (by decide) (by decide) (by decide) (by decide) (by decide) rfl ?_
    let s3 : gS := gcpy s (gR s x1 1) 0 (gR s x0 1) 0 6
    refine g_aload_n ok rfl rfl ?_
    refine g_getr ok 164 rfl rfl rfl ?_
    refine g_iconst ok (v := 0) rfl ?_
    refine g_aload_n ok rfl rfl ?_
    refine g_getr ok 164 rfl rfl rfl ?_
    refine g_iconst ok (v := 0) rfl ?_
    refine g_bipush ok (v := 6) rfl ?_
    refine g_acopy ok (n1 := 6) (n2 := 6) rfl rfl (by decide) (by decide) (by decide) (by decide) (by decide) rfl ?_
    let s4 : gS := gcpy s3 (gR s3 x1 2) 0 (gR s3 x0 2) 0 6
    refine g_aload_n ok rfl rfl ?_
    refine g_aload_n ok rfl rfl ?_
    refine g_geti ok rfl rfl ?_
    refine g_puti ok rfl rfl rfl ?_
    let s5 : gS := gw s4 x0 4 (gI s4 x1 4)
    refine g_aload_n ok rfl rfl ?_
    refine g_aload_n ok rfl rfl ?_
    refine g_geti ok rfl rfl ?_
    refine g_puti ok rfl rfl rfl ?_
    let s6 : gS := gw s5 x0 5 (gI s5 x1 5)
    refine g_aload_n ok rfl rfl ?_
    refine g_aload_n ok rfl rfl ?_
    refine g_geti ok rfl rfl ?_
    refine g_puti ok rfl rfl rfl ?_
    let s7 : gS := gw s6 x0 6 (gI s6 x1 6)
    refine g_aload_n ok rfl rfl ?_
    refine g_aload_n ok rfl rfl ?_
    refine g_geti ok rfl rfl ?_
    refine g_puti ok rfl rfl rfl ?_
    let s8 : gS := gw s7 x0 7 (gI s7 x1 7)
    refine g_aload_n ok rfl rfl ?_
    refine g_aload_n ok rfl rfl ?_
    refine g_geti ok rfl rfl ?_
    refine g_puti ok rfl rfl rfl ?_
    let s9 : gS := gw s8 x0 8 (gI s8 x1 8)
    refine g_aload_n ok rfl rfl ?_
    refine g_aload_n ok rfl rfl ?_
    refine g_geti ok rfl rfl ?_
    refine g_puti ok rfl rfl rfl ?_
    let s10 : gS := gw s9 x0 9 (gI s9 x1 9)
    exact g_return ok rfl rfl (rfl)
theorem tl_23_2 {X : gX} (ok : gOK X) (hX : gHX X) (d : Nat)  (y : (Nat × Nat × Int × gS)) : Go X em_23 23 (d + 1) 2 [] [(0, (18, 0, y.1)), (1, (18, 0, y.2.1)), (2, (0, y.2.2.1, 0))] [] y.2.2.2 0 0 (gloop (st_23_2) y) some :=
  g_loop (Lh := fun y => [(0, (18, 0, y.1)), (1, (18, 0, y.2.1)), (2, (0, y.2.2.1, 0))]) (sh := fun y => y.2.2.2) (fun k2 hl2 hr2 y => ts_23_2 ok hX d  hl2 hr2 y.1 y.2.1 y.2.2.1 y.2.2.2) y
theorem t_23 {X : gX} (ok : gOK X) (hX : gHX X) (d : Nat) (a0 : Nat) (a1 : Nat) (s : gS) : Go X em_23 23 (d + 1) 0 [] [(0, (18, 0, a0)), (1, (18, 0, a1))] [] s 0 0 (f_23 a0 a1 s) some := by
  delta f_23
  refine g_rb gs_23 0 (cd' := gb_23_0) rfl rfl ?_
  refine g_iconst ok (v := 0) rfl ?_
  refine g_istore_n ok rfl (L' := [(0, (18, 0, a0)), (1, (18, 0, a1)), (2, (0, 0, 0))]) rfl ?_
  exact g_wk ok [(0, (18, 0, a0)), (1, (18, 0, a1)), (2, (0, 0, 0))] ⟨rfl, rfl, rfl, trivial⟩ (tl_23_2 ok hX d  (a0, a1, 0, s))
-- X6_copyFrom
theorem t_54 {X : gX} (ok : gOK X) (hX : gHX X) (d : Nat) (a0 : Nat) (a1 : Nat) (s : gS) : Go X em_54 54 d 0 [] [(0, (22, 0, a0)), (1, (22, 0, a1))] [] s 0 0 (f_54 a0 a1 s) some := by
  delta f_54
  refine g_rb gs_54 0 (cd' := gb_54_0) rfl rfl ?_
  refine g_aload_n ok rfl rfl ?_
  refine g_getr ok 2036 rfl rfl rfl ?_
  refine g_iconst ok (v := 0) rfl ?_
  refine g_aload_n ok rfl rfl ?_
  refine g_getr ok 2036 rfl rfl rfl ?_
  refine g_iconst ok (v := 0) rfl ?_
  refine g_aload_n ok rfl rfl ?_
  refine g_getr ok 2036 rfl rfl rfl ?_
  refine g_alen ok (n := 240) (t := 0) (by decide) rfl (N := 240) rfl ?_
  refine g_acopy ok (n1 := 240) (n2 := 240) rfl rfl (by decide) (by decide) (by decide) (by decide) (by decide) rfl ?_
  let s1 : gS := gcpy s (gR s a1 0) 0 (gR s a0 0) 0 240
  refine g_aload_n ok rfl rfl ?_
  refine g_aload_n ok rfl rfl ?_
  refine g_geti ok rfl rfl ?_
  refine g_puti ok rfl rfl rfl ?_
  let s2 : gS := gw s1 a0 1 (gI s1 a1 1)
  exact g_return ok rfl rfl (rfl)
-- X2_copyFrom
theorem t_22 {X : gX} (ok : gOK X) (hX : gHX X) (d : Nat) (a0 : Nat) (a1 : Nat) (s : gS) : Go X em_22 22 (d + 2) 0 [] [(0, (18, 0, a0)), (1, (18, 0, a1))] [] s 0 0 (f_22 a0 a1 s) some := by
  delta f_22
  refine g_rb gs_22 0 (cd' := gb_22_0) rfl rfl ?_
  refine g_aload_n ok rfl rfl ?_
  refine g_aload_n ok rfl rfl ?_
  refine g_cv0 ok (me_23 hX) rfl rfl rfl (t_23 ok hX _ a0 a1 s) (fun s1 => ?_)
  refine g_aload_n ok rfl rfl ?_
  refine g_getr ok 22 rfl rfl rfl ?_
  refine g_aload_n ok rfl rfl ?_
  refine g_getr ok 22 rfl rfl rfl ?_
  refine g_cv0 ok (me_54 hX) rfl rfl rfl (t_54 ok hX _ (gR s1 a0 3) (gR s1 a1 3) s1) (fun s3 => ?_)
  exact g_return ok rfl rfl (rfl)
-- X2_spend
theorem t_26 {X : gX} (ok : gOK X) (hX : gHX X) (d : Nat) (a0 : Nat) (a1 : Int) (s : gS) : Go X em_26 26 d 0 [] [(0, (18, 0, a0)), (1, (0, a1, 0))] [] s 0 0 (f_26 a0 a1 s) some := by
  delta f_26
  refine g_rb gs_26 0 (cd' := gb_26_0) rfl rfl ?_
  refine g_aload_n ok rfl rfl ?_
  refine g_geti ok rfl rfl ?_
  refine g_iload_n ok rfl ?_
  refine g_min ok rfl ?_
  let v1 : Int := (min (gI s a0 6) a1)
  refine g_istore_n ok rfl (L' := [(0, (18, 0, a0)), (1, (0, a1, 0)), (2, (0, v1, 0))]) rfl ?_
  refine g_aload_n ok rfl rfl ?_
  refine g_dup ok rfl ?_
  refine g_geti ok rfl rfl ?_
  refine g_iload_n ok rfl ?_
  refine g_isub ok ?_
  refine g_puti ok rfl rfl rfl ?_
  let s2 : gS := gw s a0 6 (g32 ((gI s a0 6) - v1))
  refine g_aload_n ok rfl rfl ?_
  refine g_sipush ok (v := 9999) rfl ?_
  refine g_aload_n ok rfl rfl ?_
  refine g_geti ok rfl rfl ?_
  refine g_iload_n ok rfl ?_
  refine g_iadd ok ?_
  refine g_iload_n ok rfl ?_
  refine g_isub ok ?_
  refine g_min ok rfl ?_
  refine g_puti ok rfl rfl rfl ?_
  let s3 : gS := gw s2 a0 7 (min 9999 (g32 ((g32 ((gI s2 a0 7) + a1)) - v1)))
  exact g_return ok rfl rfl (rfl)
-- X7_heat
theorem t_61 {X : gX} (ok : gOK X) (hX : gHX X) (d : Nat) (a0 : Nat) (a1 : Nat) (s : gS) : Go X em_61 61 d 0 [] [(0, (23, 0, a0)), (1, (16, 0, a1))] [] s 0 0 (f_61 a0 a1 s) some := by
  delta f_61
  refine g_rb gs_61 0 (cd' := gb_61_0) rfl rfl ?_
  refine g_aload_n ok rfl rfl ?_
  refine g_geti ok rfl rfl ?_
  refine g_aload_n ok rfl rfl ?_
  refine g_geti ok rfl rfl ?_
  refine g_ic_lt ok rfl (fun _ => ?_) (fun _ => ?_)
  · refine g_rb gs_61 2 (cd' := gb_61_13) rfl rfl ?_
    refine g_aload_n ok rfl rfl ?_
    refine g_dup ok rfl ?_
    refine g_geti ok rfl rfl ?_
    refine g_iconst ok (v := 1) rfl ?_
    refine g_iadd ok ?_
    refine g_puti ok rfl rfl rfl ?_
    let s1 : gS := gw s a0 4 (g32 ((gI s a0 4) + 1))
    refine g_aload_n ok rfl rfl ?_
    refine g_geti ok rfl rfl ?_
    refine g_aload_n ok rfl rfl ?_
    refine g_getr ok 180 rfl rfl rfl ?_
    refine g_aload_n ok rfl rfl ?_
    refine g_geti ok rfl rfl ?_
    refine g_iaload ok (n := 8) rfl rfl (fun _ _ => ?_)
    refine g_ic_ge ok rfl (fun _ => ?_) (fun _ => ?_)
    · refine g_rb gs_61 3 (cd' := gb_61_39) rfl rfl ?_
      refine g_iconst ok (v := 0) rfl ?_
      exact g_ireturn ok rfl rfl (rfl)
    · refine g_rb gs_61 4 (cd' := gb_61_41) rfl rfl ?_
      refine g_aload_n ok rfl rfl ?_
      refine g_iconst ok (v := 0) rfl ?_
      refine g_puti ok rfl rfl rfl ?_
      let s2 : gS := gw s1 a0 4 0
      refine g_aload_n ok rfl rfl ?_
      refine g_dup ok rfl ?_
      refine g_geti ok rfl rfl ?_
      refine g_iconst ok (v := 1) rfl ?_
      refine g_iadd ok ?_
      refine g_puti ok rfl rfl rfl ?_
      let s3 : gS := gw s2 a0 3 (g32 ((gI s2 a0 3) + 1))
      refine g_aload_n ok rfl rfl ?_
      refine g_getr ok 180 rfl rfl rfl ?_
      refine g_aload_n ok rfl rfl ?_
      refine g_geti ok rfl rfl ?_
      refine g_iconst ok (v := 1) rfl ?_
      refine g_isub ok ?_
      refine g_iaload ok (n := 8) rfl rfl (fun _ _ => ?_)
      exact g_ireturn ok rfl rfl (rfl)
  · refine g_rb gs_61 1 (cd' := gb_61_11) rfl rfl ?_
    refine g_iconst ok (v := 0) rfl ?_
    exact g_ireturn ok rfl rfl (rfl)
-- X7_trustMore
theorem t_60 {X : gX} (ok : gOK X) (hX : gHX X) (d : Nat) (a0 : Nat) (a1 : Int) (s : gS) : Go X em_60 60 d 0 [] [(0, (23, 0, a0)), (1, (0, a1, 0))] [] s 0 0 (f_60 a0 a1 s) some := by
  delta f_60
  refine g_rb gs_60 0 (cd' := gb_60_0) rfl rfl ?_
  refine g_aload_n ok rfl rfl ?_
  refine g_iconst ok (v := 0) rfl ?_
  refine g_bipush ok (v := 99) rfl ?_
  refine g_aload_n ok rfl rfl ?_
  refine g_geti ok rfl rfl ?_
  refine g_iload_n ok rfl ?_
  refine g_iadd ok ?_
  refine g_min ok rfl ?_
  refine g_max ok rfl ?_
  refine g_puti ok rfl rfl rfl ?_
  let s1 : gS := gw s a0 0 (max 0 (min 99 (g32 ((gI s a0 0) + a1))))
  exact g_return ok rfl rfl (rfl)
-- X3_see
theorem tb_35_65 {X : gX} (ok : gOK X) (hX : gHX X) (d : Nat)  (x0 : Nat) (x2 : Nat) (x3 : Int) (w0 : Int) (w1 : Int) (w2 : Nat) (s : gS) : Go X em_35 35 d 65 [] [(0, (19, 0, x0)), (2, (23, 0, x2)), (3, (0, x3, 0))] [(0, w0, 0), (0, w1, 0), (188, 0, w2)] s 0 0 (fb_35_65 x0 x2 x3 w0 w1 w2 s) some := by
  delta fb_35_65
  refine g_rb gs_35 3 (cd' := gb_35_65) rfl rfl ?_
  refine g_iastore ok (n := 9) rfl rfl (fun _ _ => ?_)
  let s6 : gS := gw s w2 (w1 : Int).toNat w0
  refine g_aload_n ok rfl rfl ?_
  refine g_getr ok 188 rfl rfl rfl ?_
  refine g_bipush ok (v := 8) rfl ?_
  refine g_aload_n ok rfl rfl ?_
  refine g_geti ok rfl rfl ?_
  refine g_iload_n ok rfl ?_
  refine g_ic_lt ok rfl (fun _ => ?_) (fun _ => ?_)
  · refine g_rb gs_35 5 (cd' := gb_35_84) rfl rfl ?_
    refine g_iconst ok (v := 0) rfl ?_
    refine g_rb gs_35 6 (cd' := gb_35_85) rfl rfl ?_
    refine g_iastorec ok (n := 9) 8 rfl rfl rfl ?_
    let s7 : gS := gw s6 (gR s6 x0 0) 8 0
    exact g_return ok rfl rfl (rfl)
  · refine g_rb gs_35 4 (cd' := gb_35_80) rfl rfl ?_
    refine g_iconst ok (v := 1) rfl ?_
    refine g_goto ok rfl ?_
    refine g_rb gs_35 6 (cd' := gb_35_85) rfl rfl ?_
    refine g_iastorec ok (n := 9) 8 rfl rfl rfl ?_
    let s8 : gS := gw s6 (gR s6 x0 0) 8 1
    exact g_return ok rfl rfl (rfl)
theorem t_35 {X : gX} (ok : gOK X) (hX : gHX X) (d : Nat) (a0 : Nat) (a1 : Int) (a2 : Nat) (a3 : Int) (s : gS) : Go X em_35 35 d 0 [] [(0, (19, 0, a0)), (1, (0, a1, 0)), (2, (23, 0, a2)), (3, (0, a3, 0))] [] s 0 0 (f_35 a0 a1 a2 a3 s) some := by
  delta f_35
  refine g_rb gs_35 0 (cd' := gb_35_0) rfl rfl ?_
  refine g_aload_n ok rfl rfl ?_
  refine g_getr ok 188 rfl rfl rfl ?_
  refine g_iconst ok (v := 0) rfl ?_
  refine g_iload_n ok rfl ?_
  refine g_iastorec ok (n := 9) 0 rfl rfl rfl ?_
  let s1 : gS := gw s (gR s a0 0) 0 a1
  refine g_aload_n ok rfl rfl ?_
  refine g_getr ok 188 rfl rfl rfl ?_
  refine g_iconst ok (v := 1) rfl ?_
  refine g_aload_n ok rfl rfl ?_
  refine g_geti ok rfl rfl ?_
  refine g_iastorec ok (n := 9) 1 rfl rfl rfl ?_
  let s2 : gS := gw s1 (gR s1 a0 0) 1 (gI s1 a2 0)
  refine g_aload_n ok rfl rfl ?_
  refine g_getr ok 188 rfl rfl rfl ?_
  refine g_iconst ok (v := 2) rfl ?_
  refine g_aload_n ok rfl rfl ?_
  refine g_geti ok rfl rfl ?_
  refine g_iastorec ok (n := 9) 2 rfl rfl rfl ?_
  let s3 : gS := gw s2 (gR s2 a0 0) 2 (gI s2 a2 1)
  refine g_aload_n ok rfl rfl ?_
  refine g_getr ok 188 rfl rfl rfl ?_
  refine g_iconst ok (v := 3) rfl ?_
  refine g_aload_n ok rfl rfl ?_
  refine g_geti ok rfl rfl ?_
  refine g_iastorec ok (n := 9) 3 rfl rfl rfl ?_
  let s4 : gS := gw s3 (gR s3 a0 0) 3 (gI s3 a2 3)
  refine g_aload_n ok rfl rfl ?_
  refine g_getr ok 188 rfl rfl rfl ?_
  refine g_iconst ok (v := 4) rfl ?_
  refine g_aload_n ok rfl rfl ?_
  refine g_geti ok rfl rfl ?_
  refine g_iastorec ok (n := 9) 4 rfl rfl rfl ?_
  let s5 : gS := gw s4 (gR s4 a0 0) 4 (gI s4 a2 4)
  refine g_aload_n ok rfl rfl ?_
  refine g_getr ok 188 rfl rfl rfl ?_
  refine g_bipush ok (v := 7) rfl ?_
  refine g_aload_n ok rfl rfl ?_
  refine g_geti ok rfl rfl ?_
  refine g_if_le ok rfl (fun _ => ?_) (fun _ => ?_)
  · refine g_rb gs_35 1 (cd' := gb_35_60) rfl rfl ?_
    refine g_iconst ok (v := 1) rfl ?_
    refine g_goto ok rfl ?_
    exact g_wk ok [(0, (19, 0, a0)), (2, (23, 0, a2)), (3, (0, a3, 0))] ⟨rfl, rfl, rfl, trivial⟩ (tb_35_65 ok hX d  a0 a2 a3 1 7 (gR s5 a0 0) s5)
  · refine g_rb gs_35 2 (cd' := gb_35_64) rfl rfl ?_
    refine g_iconst ok (v := 0) rfl ?_
    exact g_wk ok [(0, (19, 0, a0)), (2, (23, 0, a2)), (3, (0, a3, 0))] ⟨rfl, rfl, rfl, trivial⟩ (tb_35_65 ok hX d  a0 a2 a3 0 7 (gR s5 a0 0) s5)
-- X3_seeTime
theorem t_36 {X : gX} (ok : gOK X) (hX : gHX X) (d : Nat) (a0 : Nat) (a1 : Int) (a2 : Int) (s : gS) : Go X em_36 36 d 0 [] [(0, (19, 0, a0)), (1, (0, a1, 0)), (2, (0, a2, 0))] [] s 0 0 (f_36 a0 a1 a2 s) some := by
  delta f_36
  refine g_rb gs_36 0 (cd' := gb_36_0) rfl rfl ?_
  refine g_aload_n ok rfl rfl ?_
  refine g_getr ok 188 rfl rfl rfl ?_
  refine g_iconst ok (v := 5) rfl ?_
  refine g_iload_n ok rfl ?_
  refine g_bipush ok (v := 10) rfl ?_
  refine g_idiv ok (by decide) ?_
  refine g_iastorec ok (n := 9) 5 rfl rfl rfl ?_
  let s1 : gS := gw s (gR s a0 0) 5 (gdiv a1 10)
  refine g_aload_n ok rfl rfl ?_
  refine g_getr ok 188 rfl rfl rfl ?_
  refine g_bipush ok (v := 6) rfl ?_
  refine g_iload_n ok rfl ?_
  refine g_iastorec ok (n := 9) 6 rfl rfl rfl ?_
  let s2 : gS := gw s1 (gR s1 a0 0) 6 a2
  exact g_return ok rfl rfl (rfl)
-- X3_pop
theorem t_41 {X : gX} (ok : gOK X) (hX : gHX X) (d : Nat) (a0 : Nat) (s : gS) : Go X em_41 41 d 0 [] [(0, (19, 0, a0))] [] s 0 0 (f_41 a0 s) some := by
  delta f_41
  refine g_rb gs_41 0 (cd' := gb_41_0) rfl rfl ?_
  refine g_aload_n ok rfl rfl ?_
  refine g_geti ok rfl rfl ?_
  refine g_iconst ok (v := 1) rfl ?_
  refine g_ic_ge ok rfl (fun _ => ?_) (fun _ => ?_)
  · refine g_rb gs_41 1 (cd' := gb_41_8) rfl rfl ?_
    refine g_iconst ok (v := 0) rfl ?_
    exact g_ireturn ok rfl rfl (rfl)
  · refine g_rb gs_41 2 (cd' := gb_41_10) rfl rfl ?_
    refine g_aload_n ok rfl rfl ?_
    refine g_dup ok rfl ?_
    refine g_geti ok rfl rfl ?_
    refine g_iconst ok (v := 1) rfl ?_
    refine g_isub ok ?_
    refine g_puti ok rfl rfl rfl ?_
    let s1 : gS := gw s a0 2 (g32 ((gI s a0 2) - 1))
    refine g_aload_n ok rfl rfl ?_
    refine g_getr ok 372 rfl rfl rfl ?_
    refine g_aload_n ok rfl rfl ?_
    refine g_geti ok rfl rfl ?_
    refine g_iaload ok (n := 32) rfl rfl (fun _ _ => ?_)
    exact g_ireturn ok rfl rfl (rfl)
-- X3_push
theorem t_40 {X : gX} (ok : gOK X) (hX : gHX X) (d : Nat) (a0 : Nat) (a1 : Int) (s : gS) : Go X em_40 40 d 0 [] [(0, (19, 0, a0)), (1, (0, a1, 0))] [] s 0 0 (f_40 a0 a1 s) some := by
  delta f_40
  refine g_rb gs_40 0 (cd' := gb_40_0) rfl rfl ?_
  refine g_aload_n ok rfl rfl ?_
  refine g_geti ok rfl rfl ?_
  refine g_aload_n ok rfl rfl ?_
  refine g_getr ok 372 rfl rfl rfl ?_
  refine g_alen ok (n := 32) (t := 0) (by decide) rfl (N := 32) rfl ?_
  refine g_ic_ge ok rfl (fun _ => ?_) (fun _ => ?_)
  · refine g_rb gs_40 1 (cd' := gb_40_12) rfl rfl ?_
    refine g_aload_n ok rfl rfl ?_
    refine g_getr ok 372 rfl rfl rfl ?_
    refine g_aload_n ok rfl rfl ?_
    refine g_geti ok rfl rfl ?_
    refine g_iload_n ok rfl ?_
    refine g_iastore ok (n := 32) rfl rfl (fun _ _ => ?_)
    let s1 : gS := gw s (gR s a0 1) ((gI s a0 2) : Int).toNat a1
    refine g_aload_n ok rfl rfl ?_
    refine g_dup ok rfl ?_
    refine g_geti ok rfl rfl ?_
    refine g_iconst ok (v := 1) rfl ?_
    refine g_iadd ok ?_
    refine g_puti ok rfl rfl rfl ?_
    let s2 : gS := gw s1 a0 2 (g32 ((gI s1 a0 2) + 1))
    refine g_rb gs_40 2 (cd' := gb_40_32) rfl rfl ?_
    exact g_return ok rfl rfl (rfl)
  · refine g_rb gs_40 2 (cd' := gb_40_32) rfl rfl ?_
    exact g_return ok rfl rfl (rfl)
-- X3_combine
theorem tb_38_114 {X : gX} (ok : gOK X) (hX : gHX X) (d : Nat)  (x0 : Nat) (x2 : Int) (x3 : Int) (s : gS) : Go X em_38 38 (d + 1) 114 [] [(0, (19, 0, x0)), (2, (0, x2, 0)), (3, (0, x3, 0))] [] s 0 0 (fb_38_114 x0 x2 x3 s) some := by
  delta fb_38_114
  refine g_rb gs_38 13 (cd' := gb_38_114) rfl rfl ?_
  refine g_aload_n ok rfl rfl ?_
  refine g_iload_n ok rfl ?_
  refine g_iload_n ok rfl ?_
  refine g_ior ok ?_
  refine g_cv0 ok (me_40 hX) rfl rfl rfl (t_40 ok hX _ x0 (gor x3 x2) s) (fun s7 => ?_)
  refine g_rb gs_38 14 (cd' := gb_38_121) rfl rfl ?_
  exact g_return ok rfl rfl (rfl)
theorem tb_38_81 {X : gX} (ok : gOK X) (hX : gHX X) (d : Nat)  (w0 : Int) (w1 : Nat) (s : gS) : Go X em_38 38 (d + 1) 81 [] [] [(0, w0, 0), (19, 0, w1)] s 0 0 (fb_38_81 w0 w1 s) some := by
  delta fb_38_81
  refine g_rb gs_38 7 (cd' := gb_38_81) rfl rfl ?_
  refine g_cv0 ok (me_40 hX) rfl rfl rfl (t_40 ok hX _ w1 w0 s) (fun s11 => ?_)
  refine g_goto ok rfl ?_
  refine g_rb gs_38 14 (cd' := gb_38_121) rfl rfl ?_
  exact g_return ok rfl rfl (rfl)
theorem tb_38_98 {X : gX} (ok : gOK X) (hX : gHX X) (d : Nat)  (w0 : Int) (w1 : Nat) (s : gS) : Go X em_38 38 (d + 1) 98 [] [] [(0, w0, 0), (19, 0, w1)] s 0 0 (fb_38_98 w0 w1 s) some := by
  delta fb_38_98
  refine g_rb gs_38 11 (cd' := gb_38_98) rfl rfl ?_
  refine g_cv0 ok (me_40 hX) rfl rfl rfl (t_40 ok hX _ w1 w0 s) (fun s13 => ?_)
  refine g_goto ok rfl ?_
  refine g_rb gs_38 14 (cd' := gb_38_121) rfl rfl ?_
  exact g_return ok rfl rfl (rfl)
theorem t_38 {X : gX} (ok : gOK X) (hX : gHX X) (d : Nat) (a0 : Nat) (a1 : Int) (s : gS) : Go X em_38 38 (d + 1) 0 [] [(0, (19, 0, a0)), (1, (0, a1, 0))] [] s 0 0 (f_38 a0 a1 s) some := by
  delta f_38
  refine g_rb gs_38 0 (cd' := gb_38_0) rfl rfl ?_
  refine g_aload_n ok rfl rfl ?_
  refine g_cv1 ok (me_41 hX) rfl rfl rfl rfl (t_41 ok hX _ a0 s) (fun v2 s1 => ?_)
  refine g_istore_n ok rfl (L' := [(0, (19, 0, a0)), (1, (0, a1, 0)), (2, (0, v2, 0))]) rfl ?_
  refine g_iload_n ok rfl ?_
  refine g_sipush ok (v := 2003) rfl ?_
  refine g_ic_ne ok rfl (fun _ => ?_) (fun _ => ?_)
  · refine g_rb gs_38 1 (cd' := gb_38_12) rfl rfl ?_
    refine g_aload_n ok rfl rfl ?_
    refine g_iconst ok (v := 1) rfl ?_
    refine g_iload_n ok rfl ?_
    refine g_isub ok ?_
    refine g_cv0 ok (me_40 hX) rfl rfl rfl (t_40 ok hX _ a0 (g32 (1 - v2)) s1) (fun s3 => ?_)
    exact g_return ok rfl rfl (rfl)
  · refine g_rb gs_38 2 (cd' := gb_38_20) rfl rfl ?_
    refine g_aload_n ok rfl rfl ?_
    refine g_cv1 ok (me_41 hX) rfl rfl rfl rfl (t_41 ok hX _ a0 s1) (fun v6 s5 => ?_)
    refine g_istore_n ok rfl (L' := [(0, (19, 0, a0)), (1, (0, a1, 0)), (2, (0, v2, 0)), (3, (0, v6, 0))]) rfl ?_
    refine g_iload_n ok rfl ?_
    refine g_ite (fun hq => g_tswo ok (Or.inl hq) rfl ?_) (fun hq2000 => ?_)
    · exact g_wk ok [(0, (19, 0, a0)), (2, (0, v2, 0)), (3, (0, v6, 0))] ⟨rfl, rfl, rfl, trivial⟩ (tb_38_114 ok hX d  a0 v2 v6 s5)
    refine g_ite (fun hq => g_tsw ok (c := 2000) (by omega) rfl rfl ?_) (fun hq2001 => ?_)
    · refine g_rb gs_38 3 (cd' := gb_38_60) rfl rfl ?_
      refine g_aload_n ok rfl rfl ?_
      refine g_iload_n ok rfl ?_
      refine g_iload_n ok rfl ?_
      refine g_iadd ok ?_
      refine g_cv0 ok (me_40 hX) rfl rfl rfl (t_40 ok hX _ a0 (g32 (v6 + v2)) s5) (fun s9 => ?_)
      refine g_goto ok rfl ?_
      refine g_rb gs_38 14 (cd' := gb_38_121) rfl rfl ?_
      exact g_return ok rfl rfl (rfl)
    refine g_ite (fun hq => g_tsw ok (c := 2001) (by omega) rfl rfl ?_) (fun hq2002 => ?_)
    · refine g_rb gs_38 4 (cd' := gb_38_70) rfl rfl ?_
      refine g_aload_n ok rfl rfl ?_
      refine g_iload_n ok rfl ?_
      refine g_iload_n ok rfl ?_
      refine g_ic_ge ok rfl (fun _ => ?_) (fun _ => ?_)
      · refine g_rb gs_38 5 (cd' := gb_38_76) rfl rfl ?_
        refine g_iconst ok (v := 1) rfl ?_
        refine g_goto ok rfl ?_
        exact g_wk ok [] trivial (tb_38_81 ok hX d  1 a0 s5)
      · refine g_rb gs_38 6 (cd' := gb_38_80) rfl rfl ?_
        refine g_iconst ok (v := 0) rfl ?_
        exact g_wk ok [] trivial (tb_38_81 ok hX d  0 a0 s5)
    refine g_ite (fun hq => g_tsw ok (c := 2002) (by omega) rfl rfl ?_) (fun hq2003 => ?_)
    · refine g_rb gs_38 8 (cd' := gb_38_87) rfl rfl ?_
      refine g_aload_n ok rfl rfl ?_
      refine g_iload_n ok rfl ?_
      refine g_iload_n ok rfl ?_
      refine g_ic_le ok rfl (fun _ => ?_) (fun _ => ?_)
      · refine g_rb gs_38 9 (cd' := gb_38_93) rfl rfl ?_
        refine g_iconst ok (v := 1) rfl ?_
        refine g_goto ok rfl ?_
        exact g_wk ok [] trivial (tb_38_98 ok hX d  1 a0 s5)
      · refine g_rb gs_38 10 (cd' := gb_38_97) rfl rfl ?_
        refine g_iconst ok (v := 0) rfl ?_
        exact g_wk ok [] trivial (tb_38_98 ok hX d  0 a0 s5)
    refine g_ite (fun hq => g_tsw ok (c := 2003) (by omega) rfl rfl ?_) (fun hq2004 => ?_)
    · exact g_wk ok [(0, (19, 0, a0)), (2, (0, v2, 0)), (3, (0, v6, 0))] ⟨rfl, rfl, rfl, trivial⟩ (tb_38_114 ok hX d  a0 v2 v6 s5)
    refine g_ite (fun hq => g_tsw ok (c := 2004) (by omega) rfl rfl ?_) (fun hq2005 => ?_)
    · refine g_rb gs_38 12 (cd' := gb_38_104) rfl rfl ?_
      refine g_aload_n ok rfl rfl ?_
      refine g_iload_n ok rfl ?_
      refine g_iload_n ok rfl ?_
      refine g_iand ok ?_
      refine g_cv0 ok (me_40 hX) rfl rfl rfl (t_40 ok hX _ a0 (gand v6 v2) s5) (fun s15 => ?_)
      refine g_goto ok rfl ?_
      refine g_rb gs_38 14 (cd' := gb_38_121) rfl rfl ?_
      exact g_return ok rfl rfl (rfl)
    refine g_tswo ok (Or.inr (by omega)) rfl ?_
    exact g_wk ok [(0, (19, 0, a0)), (2, (0, v2, 0)), (3, (0, v6, 0))] ⟨rfl, rfl, rfl, trivial⟩ (tb_38_114 ok hX d  a0 v2 v6 s5)
