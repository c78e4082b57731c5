-- X12_secret
theorem tb_248_107 {X : gX} (ok : gOK X) (hX : gHX X) (d : Nat) {k20 : (Nat × Int × Int × Int × gS) ⊕ gO → Option gO} (hl20 : ∀ y : (Nat × Int × Int × Int × gS), Go X em_248 248 (d + 1) 20 [] [(0, (28, 0, y.1)), (1, (0, y.2.1, 0)), (2, (0, y.2.2.1, 0)), (3, (0, y.2.2.2.1, 0))] [] y.2.2.2.2 0 0 (some (Sum.inl y)) k20) (hr20 : ∀ q, k20 (Sum.inr q) = some q) (x0 : Nat) (x1 : Int) (x3 : Int) (s : gS) : Go X em_248 248 (d + 1) 107 [] [(0, (28, 0, x0)), (1, (0, x1, 0)), (3, (0, x3, 0))] [] s 0 0 (fb_248_107 x0 x1 x3 s) k20 := by
  delta fb_248_107
  refine g_rb gs_248 11 (cd' := gb_248_107) rfl rfl ?_
  refine g_iload_n ok rfl ?_
  refine g_istore_n ok rfl (L' := [(0, (28, 0, x0)), (1, (0, x1, 0)), (3, (0, x3, 0)), (2, (0, x3, 0))]) rfl ?_
  refine g_rb gs_248 12 (cd' := gb_248_109) rfl rfl ?_
  refine g_iinc ok rfl rfl (L' := [(0, (28, 0, x0)), (1, (0, x1, 0)), (3, (0, (g32 (x3 + 1)), 0)), (2, (0, x3, 0))]) rfl ?_
  refine g_goto ok rfl ?_
  exact g_wk ok [(0, (28, 0, x0)), (1, (0, x1, 0)), (2, (0, x3, 0)), (3, (0, (g32 (x3 + 1)), 0))] ⟨rfl, rfl, rfl, rfl, trivial⟩ (hl20 (x0, x1, x3, (g32 (x3 + 1)), s))
theorem ts_248_39 {X : gX} (ok : gOK X) (hX : gHX X) (d : Nat) {k20 : (Nat × Int × Int × Int × gS) ⊕ gO → Option gO} (hl20 : ∀ y : (Nat × Int × Int × Int × gS), Go X em_248 248 (d + 1) 20 [] [(0, (28, 0, y.1)), (1, (0, y.2.1, 0)), (2, (0, y.2.2.1, 0)), (3, (0, y.2.2.2.1, 0))] [] y.2.2.2.2 0 0 (some (Sum.inl y)) k20) (hr20 : ∀ q, k20 (Sum.inr q) = some q) {k39 : (Nat × Int × Int × Int × Int × Int × gS) ⊕ ((Nat × Int × Int × Int × gS) ⊕ gO) → Option gO} (hl39 : ∀ y : (Nat × Int × Int × Int × Int × Int × gS), Go X em_248 248 (d + 1) 39 [] [(0, (28, 0, y.1)), (1, (0, y.2.1, 0)), (2, (0, y.2.2.1, 0)), (3, (0, y.2.2.2.1, 0)), (4, (0, y.2.2.2.2.1, 0)), (5, (0, y.2.2.2.2.2.1, 0))] [] y.2.2.2.2.2.2 0 0 (some (Sum.inl y)) k39) (hr39 : ∀ q, k39 (Sum.inr q) = k20 q) (x0 : Nat) (x1 : Int) (x2 : Int) (x3 : Int) (x4 : Int) (x5 : Int) (s : gS) : Go X em_248 248 (d + 1) 39 [] [(0, (28, 0, x0)), (1, (0, x1, 0)), (2, (0, x2, 0)), (3, (0, x3, 0)), (4, (0, x4, 0)), (5, (0, x5, 0))] [] s 0 0 (sb_248_39 x0 x1 x2 x3 x4 x5 s) k39 := by
  delta sb_248_39
  refine g_rb gs_248 3 (cd' := gb_248_39) rfl rfl ?_
  refine g_iload ok rfl ?_
  refine g_aload_n ok rfl rfl ?_
  refine g_getr ok 6036 rfl rfl rfl ?_
  refine g_bipush ok (v := 6) rfl ?_
  refine g_ialoadc ok (n := 740) 6 rfl rfl rfl ?_
  refine g_ic_ge ok rfl (fun _ => ?_) (fun _ => ?_)
  · refine g_rb gs_248 4 (cd' := gb_248_51) rfl rfl ?_
    refine g_iload ok rfl ?_
    refine g_iload_n ok rfl ?_
    refine g_iload ok rfl ?_
    refine g_csz ok (me_153 hX) rfl rfl rfl (t_153 ok hX _ x3 x5 s) (fun v4 s3 hb5 => ?_)
    refine g_if_eq ok rfl (fun _ => ?_) (fun _ => ?_)
    · refine g_rb gs_248 6 (cd' := gb_248_72) rfl rfl ?_
      refine g_iconst ok (v := 0) rfl ?_
      refine g_rb gs_248 7 (cd' := gb_248_73) rfl rfl ?_
      refine g_ior ok ?_
      refine g_istore ok rfl (L' := [(0, (28, 0, x0)), (1, (0, x1, 0)), (2, (0, x2, 0)), (3, (0, x3, 0)), (4, (0, (gor x4 0), 0)), (5, (0, x5, 0))]) rfl ?_
      refine g_iinc ok rfl rfl (L' := [(0, (28, 0, x0)), (1, (0, x1, 0)), (2, (0, x2, 0)), (3, (0, x3, 0)), (4, (0, (gor x4 0), 0)), (5, (0, (g32 (x5 + 1)), 0))]) rfl ?_
      refine g_goto ok rfl ?_
      exact g_wk ok [(0, (28, 0, x0)), (1, (0, x1, 0)), (2, (0, x2, 0)), (3, (0, x3, 0)), (4, (0, (gor x4 0), 0)), (5, (0, (g32 (x5 + 1)), 0))] ⟨rfl, rfl, rfl, rfl, rfl, rfl, trivial⟩ (hl39 (x0, x1, x2, x3, (gor x4 0), (g32 (x5 + 1)), s3))
    · refine g_rb gs_248 5 (cd' := gb_248_62) rfl rfl ?_
      refine g_aload_n ok rfl rfl ?_
      refine g_iload ok rfl ?_
      refine g_iconst ok (v := 1) rfl ?_
      refine g_cv1 ok (me_160 hX) rfl rfl rfl rfl (t_160 ok hX _ x0 x5 1 s3) (fun v7 s6 => ?_)
      refine g_goto ok rfl ?_
      refine g_rb gs_248 7 (cd' := gb_248_73) rfl rfl ?_
      refine g_ior ok ?_
      refine g_istore ok rfl (L' := [(0, (28, 0, x0)), (1, (0, x1, 0)), (2, (0, x2, 0)), (3, (0, x3, 0)), (4, (0, (gor x4 v7), 0)), (5, (0, x5, 0))]) rfl ?_
      refine g_iinc ok rfl rfl (L' := [(0, (28, 0, x0)), (1, (0, x1, 0)), (2, (0, x2, 0)), (3, (0, x3, 0)), (4, (0, (gor x4 v7), 0)), (5, (0, (g32 (x5 + 1)), 0))]) rfl ?_
      refine g_goto ok rfl ?_
      exact g_wk ok [(0, (28, 0, x0)), (1, (0, x1, 0)), (2, (0, x2, 0)), (3, (0, x3, 0)), (4, (0, (gor x4 v7), 0)), (5, (0, (g32 (x5 + 1)), 0))] ⟨rfl, rfl, rfl, rfl, rfl, rfl, trivial⟩ (hl39 (x0, x1, x2, x3, (gor x4 v7), (g32 (x5 + 1)), s6))
  · refine g_map hr39 ?_
    refine g_rb gs_248 8 (cd' := gb_248_82) rfl rfl ?_
    refine g_iload_n ok rfl ?_
    refine g_iload ok rfl ?_
    refine g_iconst ok (v := (-1)) rfl ?_
    refine g_ixor ok ?_
    refine g_iand ok ?_
    refine g_if_ne ok rfl (fun _ => ?_) (fun _ => ?_)
    · refine g_rb gs_248 9 (cd' := gb_248_91) rfl rfl ?_
      refine g_iload_n ok rfl ?_
      refine g_iconst ok (v := (-1)) rfl ?_
      refine g_ic_eq ok rfl (fun _ => ?_) (fun _ => ?_)
      · exact g_wk ok [(0, (28, 0, x0)), (1, (0, x1, 0)), (3, (0, x3, 0))] ⟨rfl, rfl, rfl, trivial⟩ (tb_248_107 ok hX d hl20 hr20 x0 x1 x3 s)
      · refine g_rb gs_248 10 (cd' := gb_248_96) rfl rfl ?_
        refine g_iload_n ok rfl ?_
        refine g_cs1 ok (me_154 hX) rfl rfl rfl (t_154 ok hX _ x3 s) (fun v9 s8 => ?_)
        refine g_iload_n ok rfl ?_
        refine g_cs1 ok (me_154 hX) rfl rfl rfl (t_154 ok hX _ x2 s8) (fun v11 s10 => ?_)
        refine g_ic_ge ok rfl (fun _ => ?_) (fun _ => ?_)
        · exact g_wk ok [(0, (28, 0, x0)), (1, (0, x1, 0)), (3, (0, x3, 0))] ⟨rfl, rfl, rfl, trivial⟩ (tb_248_107 ok hX d hl20 hr20 x0 x1 x3 s10)
        · refine g_rb gs_248 12 (cd' := gb_248_109) rfl rfl ?_
          refine g_iinc ok rfl rfl (L' := [(0, (28, 0, x0)), (1, (0, x1, 0)), (2, (0, x2, 0)), (3, (0, (g32 (x3 + 1)), 0)), (4, (0, x4, 0)), (5, (0, x5, 0))]) rfl ?_
          refine g_goto ok rfl ?_
          exact g_wk ok [(0, (28, 0, x0)), (1, (0, x1, 0)), (2, (0, x2, 0)), (3, (0, (g32 (x3 + 1)), 0))] ⟨rfl, rfl, rfl, rfl, trivial⟩ (hl20 (x0, x1, x2, (g32 (x3 + 1)), s10))
    · refine g_rb gs_248 12 (cd' := gb_248_109) rfl rfl ?_
      refine g_iinc ok rfl rfl (L' := [(0, (28, 0, x0)), (1, (0, x1, 0)), (2, (0, x2, 0)), (3, (0, (g32 (x3 + 1)), 0)), (4, (0, x4, 0)), (5, (0, x5, 0))]) rfl ?_
      refine g_goto ok rfl ?_
      exact g_wk ok [(0, (28, 0, x0)), (1, (0, x1, 0)), (2, (0, x2, 0)), (3, (0, (g32 (x3 + 1)), 0))] ⟨rfl, rfl, rfl, rfl, trivial⟩ (hl20 (x0, x1, x2, (g32 (x3 + 1)), s))
theorem tl_248_39 {X : gX} (ok : gOK X) (hX : gHX X) (d : Nat) {k20 : (Nat × Int × Int × Int × gS) ⊕ gO → Option gO} (hl20 : ∀ y : (Nat × Int × Int × Int × gS), Go X em_248 248 (d + 1) 20 [] [(0, (28, 0, y.1)), (1, (0, y.2.1, 0)), (2, (0, y.2.2.1, 0)), (3, (0, y.2.2.2.1, 0))] [] y.2.2.2.2 0 0 (some (Sum.inl y)) k20) (hr20 : ∀ q, k20 (Sum.inr q) = some q) (y : (Nat × Int × Int × Int × Int × Int × gS)) : Go X em_248 248 (d + 1) 39 [] [(0, (28, 0, y.1)), (1, (0, y.2.1, 0)), (2, (0, y.2.2.1, 0)), (3, (0, y.2.2.2.1, 0)), (4, (0, y.2.2.2.2.1, 0)), (5, (0, y.2.2.2.2.2.1, 0))] [] y.2.2.2.2.2.2 0 0 (gloop (st_248_39) y) k20 :=
  g_loop (Lh := fun y => [(0, (28, 0, y.1)), (1, (0, y.2.1, 0)), (2, (0, y.2.2.1, 0)), (3, (0, y.2.2.2.1, 0)), (4, (0, y.2.2.2.2.1, 0)), (5, (0, y.2.2.2.2.2.1, 0))]) (sh := fun y => y.2.2.2.2.2.2) (fun k39 hl39 hr39 y => ts_248_39 ok hX d hl20 hr20 hl39 hr39 y.1 y.2.1 y.2.2.1 y.2.2.2.1 y.2.2.2.2.1 y.2.2.2.2.2.1 y.2.2.2.2.2.2) y
theorem ts_248_20 {X : gX} (ok : gOK X) (hX : gHX X) (d : Nat) {k20 : (Nat × Int × Int × Int × gS) ⊕ gO → Option gO} (hl20 : ∀ y : (Nat × Int × Int × Int × gS), Go X em_248 248 (d + 1) 20 [] [(0, (28, 0, y.1)), (1, (0, y.2.1, 0)), (2, (0, y.2.2.1, 0)), (3, (0, y.2.2.2.1, 0))] [] y.2.2.2.2 0 0 (some (Sum.inl y)) k20) (hr20 : ∀ q, k20 (Sum.inr q) = some q) (x0 : Nat) (x1 : Int) (x2 : Int) (x3 : Int) (s : gS) : Go X em_248 248 (d + 1) 20 [] [(0, (28, 0, x0)), (1, (0, x1, 0)), (2, (0, x2, 0)), (3, (0, x3, 0))] [] s 0 0 (sb_248_20 x0 x1 x2 x3 s) k20 := by
  delta sb_248_20
  refine g_rb gs_248 1 (cd' := gb_248_20) rfl rfl ?_
  refine g_iload_n ok rfl ?_
  refine g_iconst ok (v := 1) rfl ?_
  refine g_aload_n ok rfl rfl ?_
  refine g_getr ok 6036 rfl rfl rfl ?_
  refine g_bipush ok (v := 6) rfl ?_
  refine g_ialoadc ok (n := 740) 6 rfl rfl rfl ?_
  refine g_ishl ok ?_
  refine g_ic_ge ok rfl (fun _ => ?_) (fun _ => ?_)
  · refine g_rb gs_248 2 (cd' := gb_248_33) rfl rfl ?_
    refine g_iconst ok (v := 0) rfl ?_
    refine g_istore ok rfl (L' := [(0, (28, 0, x0)), (1, (0, x1, 0)), (2, (0, x2, 0)), (3, (0, x3, 0)), (4, (0, 0, 0))]) rfl ?_
    refine g_iconst ok (v := 0) rfl ?_
    refine g_istore ok rfl (L' := [(0, (28, 0, x0)), (1, (0, x1, 0)), (2, (0, x2, 0)), (3, (0, x3, 0)), (4, (0, 0, 0)), (5, (0, 0, 0))]) rfl ?_
    exact g_wk ok [(0, (28, 0, x0)), (1, (0, x1, 0)), (2, (0, x2, 0)), (3, (0, x3, 0)), (4, (0, 0, 0)), (5, (0, 0, 0))] ⟨rfl, rfl, rfl, rfl, rfl, rfl, trivial⟩ (tl_248_39 ok hX d hl20 hr20 (x0, x1, x2, x3, 0, 0, s))
  · refine g_map hr20 ?_
    refine g_rb gs_248 13 (cd' := gb_248_115) rfl rfl ?_
    refine g_iload_n ok rfl ?_
    exact g_ireturn ok rfl rfl (rfl)
theorem tl_248_20 {X : gX} (ok : gOK X) (hX : gHX X) (d : Nat)  (y : (Nat × Int × Int × Int × gS)) : Go X em_248 248 (d + 1) 20 [] [(0, (28, 0, y.1)), (1, (0, y.2.1, 0)), (2, (0, y.2.2.1, 0)), (3, (0, y.2.2.2.1, 0))] [] y.2.2.2.2 0 0 (gloop (st_248_20) y) some :=
  g_loop (Lh := fun y => [(0, (28, 0, y.1)), (1, (0, y.2.1, 0)), (2, (0, y.2.2.1, 0)), (3, (0, y.2.2.2.1, 0))]) (sh := fun y => y.2.2.2.2) (fun k20 hl20 hr20 y => ts_248_20 ok hX d  hl20 hr20 y.1 y.2.1 y.2.2.1 y.2.2.2.1 y.2.2.2.2) y
theorem t_248 {X : gX} (ok : gOK X) (hX : gHX X) (d : Nat) (a0 : Nat) (s : gS) : Go X em_248 248 (d + 1) 0 [] [(0, (28, 0, a0))] [] s 0 0 (f_248 a0 s) some := by
  delta f_248
  refine g_rb gs_248 0 (cd' := gb_248_0) rfl rfl ?_
  refine g_aload_n ok rfl rfl ?_
  refine g_iconst ok (v := 0) rfl ?_
  refine g_puti ok rfl rfl rfl ?_
  let s1 : gS := gw s a0 0 0
  refine g_iconst ok (v := 1) rfl ?_
  refine g_aload_n ok rfl rfl ?_
  refine g_getr ok 6036 rfl rfl rfl ?_
  refine g_iconst ok (v := 3) rfl ?_
  refine g_ialoadc ok (n := 740) 3 rfl rfl rfl ?_
  refine g_ishl ok ?_
  refine g_iconst ok (v := 1) rfl ?_
  refine g_isub ok ?_
  let v2 : Int := (g32 ((gshl 1 (gI s1 (gR s1 a0 1) 3)) - 1))
  refine g_istore_n ok rfl (L' := [(0, (28, 0, a0)), (1, (0, v2, 0))]) rfl ?_
  refine g_iconst ok (v := (-1)) rfl ?_
  refine g_istore_n ok rfl (L' := [(0, (28, 0, a0)), (1, (0, v2, 0)), (2, (0, (-1), 0))]) rfl ?_
  refine g_iconst ok (v := 0) rfl ?_
  refine g_istore_n ok rfl (L' := [(0, (28, 0, a0)), (1, (0, v2, 0)), (2, (0, (-1), 0)), (3, (0, 0, 0))]) rfl ?_
  exact g_wk ok [(0, (28, 0, a0)), (1, (0, v2, 0)), (2, (0, (-1), 0)), (3, (0, 0, 0))] ⟨rfl, rfl, rfl, rfl, trivial⟩ (tl_248_20 ok hX d  (a0, v2, (-1), 0, s1))
-- X12_mates
theorem ts_249_23 {X : gX} (ok : gOK X) (hX : gHX X) (d : Nat) {k9 : (Nat × Int × Int × gS) ⊕ gO → Option gO} (hl9 : ∀ y : (Nat × Int × Int × gS), Go X em_249 249 (d + 1) 9 [] [(0, (28, 0, y.1)), (1, (0, y.2.1, 0)), (2, (0, y.2.2.1, 0))] [] y.2.2.2 0 0 (some (Sum.inl y)) k9) (hr9 : ∀ q, k9 (Sum.inr q) = some q) {k23 : (Nat × Int × Int × Int × gS) ⊕ ((Nat × Int × Int × gS) ⊕ gO) → Option gO} (hl23 : ∀ y : (Nat × Int × Int × Int × gS), Go X em_249 249 (d + 1) 23 [] [(0, (28, 0, y.1)), (1, (0, y.2.1, 0)), (2, (0, y.2.2.1, 0)), (3, (0, y.2.2.2.1, 0))] [] y.2.2.2.2 0 0 (some (Sum.inl y)) k23) (hr23 : ∀ q, k23 (Sum.inr q) = k9 q) (x0 : Nat) (x1 : Int) (x2 : Int) (x3 : Int) (s : gS) : Go X em_249 249 (d + 1) 23 [] [(0, (28, 0, x0)), (1, (0, x1, 0)), (2, (0, x2, 0)), (3, (0, x3, 0))] [] s 0 0 (sb_249_23 x0 x1 x2 x3 s) k23 := by
  delta sb_249_23
  refine g_rb gs_249 3 (cd' := gb_249_23) rfl rfl ?_
  refine g_iload_n ok rfl ?_
  refine g_aload_n ok rfl rfl ?_
  refine g_getr ok 6036 rfl rfl rfl ?_
  refine g_iconst ok (v := 4) rfl ?_
  refine g_ialoadc ok (n := 740) 4 rfl rfl rfl ?_
  refine g_ic_ge ok rfl (fun _ => ?_) (fun _ => ?_)
  · refine g_rb gs_249 4 (cd' := gb_249_33) rfl rfl ?_
    refine g_iload_n ok rfl ?_
    refine g_aload_n ok rfl rfl ?_
    refine g_iload_n ok rfl ?_
    refine g_iconst ok (v := 2) rfl ?_
    refine g_cv1 ok (me_156 hX) rfl rfl rfl rfl (t_156 ok hX _ x0 x2 2 s) (fun v3 s2 => ?_)
    refine g_aload_n ok rfl rfl ?_
    refine g_iload_n ok rfl ?_
    refine g_iconst ok (v := 2) rfl ?_
    refine g_cv1 ok (me_156 hX) rfl rfl rfl rfl (t_156 ok hX _ x0 x3 2 s2) (fun v5 s4 => ?_)
    refine g_ic_ne ok rfl (fun _ => ?_) (fun _ => ?_)
    · refine g_rb gs_249 5 (cd' := gb_249_49) rfl rfl ?_
      refine g_iconst ok (v := 1) rfl ?_
      refine g_goto ok rfl ?_
      refine g_rb gs_249 7 (cd' := gb_249_54) rfl rfl ?_
      refine g_iadd ok ?_
      refine g_istore_n ok rfl (L' := [(0, (28, 0, x0)), (1, (0, (g32 (x1 + 1)), 0)), (2, (0, x2, 0)), (3, (0, x3, 0))]) rfl ?_
      refine g_iinc ok rfl rfl (L' := [(0, (28, 0, x0)), (1, (0, (g32 (x1 + 1)), 0)), (2, (0, x2, 0)), (3, (0, (g32 (x3 + 1)), 0))]) rfl ?_
      refine g_goto ok rfl ?_
      exact g_wk ok [(0, (28, 0, x0)), (1, (0, (g32 (x1 + 1)), 0)), (2, (0, x2, 0)), (3, (0, (g32 (x3 + 1)), 0))] ⟨rfl, rfl, rfl, rfl, trivial⟩ (hl23 (x0, (g32 (x1 + 1)), x2, (g32 (x3 + 1)), s4))
    · refine g_rb gs_249 6 (cd' := gb_249_53) rfl rfl ?_
      refine g_iconst ok (v := 0) rfl ?_
      refine g_rb gs_249 7 (cd' := gb_249_54) rfl rfl ?_
      refine g_iadd ok ?_
      refine g_istore_n ok rfl (L' := [(0, (28, 0, x0)), (1, (0, (g32 (x1 + 0)), 0)), (2, (0, x2, 0)), (3, (0, x3, 0))]) rfl ?_
      refine g_iinc ok rfl rfl (L' := [(0, (28, 0, x0)), (1, (0, (g32 (x1 + 0)), 0)), (2, (0, x2, 0)), (3, (0, (g32 (x3 + 1)), 0))]) rfl ?_
      refine g_goto ok rfl ?_
      exact g_wk ok [(0, (28, 0, x0)), (1, (0, (g32 (x1 + 0)), 0)), (2, (0, x2, 0)), (3, (0, (g32 (x3 + 1)), 0))] ⟨rfl, rfl, rfl, rfl, trivial⟩ (hl23 (x0, (g32 (x1 + 0)), x2, (g32 (x3 + 1)), s4))
  · refine g_map hr23 ?_
    refine g_rb gs_249 8 (cd' := gb_249_62) rfl rfl ?_
    refine g_iinc ok rfl rfl (L' := [(0, (28, 0, x0)), (1, (0, x1, 0)), (2, (0, (g32 (x2 + 1)), 0)), (3, (0, x3, 0))]) rfl ?_
    refine g_goto ok rfl ?_
    exact g_wk ok [(0, (28, 0, x0)), (1, (0, x1, 0)), (2, (0, (g32 (x2 + 1)), 0))] ⟨rfl, rfl, rfl, trivial⟩ (hl9 (x0, x1, (g32 (x2 + 1)), s))
theorem tl_249_23 {X : gX} (ok : gOK X) (hX : gHX X) (d : Nat) {k9 : (Nat × Int × Int × gS) ⊕ gO → Option gO} (hl9 : ∀ y : (Nat × Int × Int × gS), Go X em_249 249 (d + 1) 9 [] [(0, (28, 0, y.1)), (1, (0, y.2.1, 0)), (2, (0, y.2.2.1, 0))] [] y.2.2.2 0 0 (some (Sum.inl y)) k9) (hr9 : ∀ q, k9 (Sum.inr q) = some q) (y : (Nat × Int × Int × Int × gS)) : Go X em_249 249 (d + 1) 23 [] [(0, (28, 0, y.1)), (1, (0, y.2.1, 0)), (2, (0, y.2.2.1, 0)), (3, (0, y.2.2.2.1, 0))] [] y.2.2.2.2 0 0 (gloop (st_249_23) y) k9 :=
  g_loop (Lh := fun y => [(0, (28, 0, y.1)), (1, (0, y.2.1, 0)), (2, (0, y.2.2.1, 0)), (3, (0, y.2.2.2.1, 0))]) (sh := fun y => y.2.2.2.2) (fun k23 hl23 hr23 y => ts_249_23 ok hX d hl9 hr9 hl23 hr23 y.1 y.2.1 y.2.2.1 y.2.2.2.1 y.2.2.2.2) y
theorem ts_249_9 {X : gX} (ok : gOK X) (hX : gHX X) (d : Nat) {k9 : (Nat × Int × Int × gS) ⊕ gO → Option gO} (hl9 : ∀ y : (Nat × Int × Int × gS), Go X em_249 249 (d + 1) 9 [] [(0, (28, 0, y.1)), (1, (0, y.2.1, 0)), (2, (0, y.2.2.1, 0))] [] y.2.2.2 0 0 (some (Sum.inl y)) k9) (hr9 : ∀ q, k9 (Sum.inr q) = some q) (x0 : Nat) (x1 : Int) (x2 : Int) (s : gS) : Go X em_249 249 (d + 1) 9 [] [(0, (28, 0, x0)), (1, (0, x1, 0)), (2, (0, x2, 0))] [] s 0 0 (sb_249_9 x0 x1 x2 s) k9 := by
  delta sb_249_9
  refine g_rb gs_249 1 (cd' := gb_249_9) rfl rfl ?_
  refine g_iload_n ok rfl ?_
  refine g_aload_n ok rfl rfl ?_
  refine g_getr ok 6036 rfl rfl rfl ?_
  refine g_iconst ok (v := 4) rfl ?_
  refine g_ialoadc ok (n := 740) 4 rfl rfl rfl ?_
  refine g_ic_ge ok rfl (fun _ => ?_) (fun _ => ?_)
  · refine g_rb gs_249 2 (cd' := gb_249_19) rfl rfl ?_
    refine g_iload_n ok rfl ?_
    refine g_iconst ok (v := 1) rfl ?_
    refine g_iadd ok ?_
    refine g_istore_n ok rfl (L' := [(0, (28, 0, x0)), (1, (0, x1, 0)), (2, (0, x2, 0)), (3, (0, (g32 (x2 + 1)), 0))]) rfl ?_
    exact g_wk ok [(0, (28, 0, x0)), (1, (0, x1, 0)), (2, (0, x2, 0)), (3, (0, (g32 (x2 + 1)), 0))] ⟨rfl, rfl, rfl, rfl, trivial⟩ (tl_249_23 ok hX d hl9 hr9 (x0, x1, x2, (g32 (x2 + 1)), s))
  · refine g_map hr9 ?_
    refine g_rb gs_249 9 (cd' := gb_249_68) rfl rfl ?_
    refine g_iload_n ok rfl ?_
    exact g_ireturn ok rfl rfl (rfl)
theorem tl_249_9 {X : gX} (ok : gOK X) (hX : gHX X) (d : Nat)  (y : (Nat × Int × Int × gS)) : Go X em_249 249 (d + 1) 9 [] [(0, (28, 0, y.1)), (1, (0, y.2.1, 0)), (2, (0, y.2.2.1, 0))] [] y.2.2.2 0 0 (gloop (st_249_9) y) some :=
  g_loop (Lh := fun y => [(0, (28, 0, y.1)), (1, (0, y.2.1, 0)), (2, (0, y.2.2.1, 0))]) (sh := fun y => y.2.2.2) (fun k9 hl9 hr9 y => ts_249_9 ok hX d  hl9 hr9 y.1 y.2.1 y.2.2.1 y.2.2.2) y
theorem t_249 {X : gX} (ok : gOK X) (hX : gHX X) (d : Nat) (a0 : Nat) (s : gS) : Go X em_249 249 (d + 1) 0 [] [(0, (28, 0, a0))] [] s 0 0 (f_249 a0 s) some := by
  delta f_249
  refine g_rb gs_249 0 (cd' := gb_249_0) rfl rfl ?_
  refine g_aload_n ok rfl rfl ?_
  refine g_iconst ok (v := 0) rfl ?_
  refine g_puti ok rfl rfl rfl ?_
  let s1 : gS := gw s a0 0 0
  refine g_iconst ok (v := 0) rfl ?_
  refine g_istore_n ok rfl (L' := [(0, (28, 0, a0)), (1, (0, 0, 0))]) rfl ?_
  refine g_iconst ok (v := 0) rfl ?_
  refine g_istore_n ok rfl (L' := [(0, (28, 0, a0)), (1, (0, 0, 0)), (2, (0, 0, 0))]) rfl ?_
  exact g_wk ok [(0, (28, 0, a0)), (1, (0, 0, 0)), (2, (0, 0, 0))] ⟨rfl, rfl, rfl, trivial⟩ (tl_249_9 ok hX d  (a0, 0, 0, s1))
-- X12_knows
theorem ts_250_22 {X : gX} (ok : gOK X) (hX : gHX X) (d : Nat) {k22 : (Nat × Int × Int × Int × gS) ⊕ gO → Option gO} (hl22 : ∀ y : (Nat × Int × Int × Int × gS), Go X em_250 250 (d + 1) 22 [] [(0, (28, 0, y.1)), (1, (0, y.2.1, 0)), (2, (0, y.2.2.1, 0)), (3, (0, y.2.2.2.1, 0))] [] y.2.2.2.2 0 0 (some (Sum.inl y)) k22) (hr22 : ∀ q, k22 (Sum.inr q) = some q) (x0 : Nat) (x1 : Int) (x2 : Int) (x3 : Int) (s : gS) : Go X em_250 250 (d + 1) 22 [] [(0, (28, 0, x0)), (1, (0, x1, 0)), (2, (0, x2, 0)), (3, (0, x3, 0))] [] s 0 0 (sb_250_22 x0 x1 x2 x3 s) k22 := by
  delta sb_250_22
  refine g_rb gs_250 4 (cd' := gb_250_22) rfl rfl ?_
  refine g_iload_n ok rfl ?_
  refine g_aload_n ok rfl rfl ?_
  refine g_getr ok 6036 rfl rfl rfl ?_
  refine g_iconst ok (v := 4) rfl ?_
  refine g_ialoadc ok (n := 740) 4 rfl rfl rfl ?_
  refine g_ic_ge ok rfl (fun _ => ?_) (fun _ => ?_)
  · refine g_rb gs_250 5 (cd' := gb_250_32) rfl rfl ?_
    refine g_aload_n ok rfl rfl ?_
    refine g_geti ok rfl rfl ?_
    refine g_if_ne ok rfl (fun _ => ?_) (fun _ => ?_)
    · refine g_rb gs_250 6 (cd' := gb_250_39) rfl rfl ?_
      refine g_iload_n ok rfl ?_
      refine g_aload_n ok rfl rfl ?_
      refine g_iload_n ok rfl ?_
      refine g_iconst ok (v := 2) rfl ?_
      refine g_cv1 ok (me_156 hX) rfl rfl rfl rfl (t_156 ok hX _ x0 x3 2 s) (fun v6 s5 => ?_)
      refine g_iload_n ok rfl ?_
      refine g_csz ok (me_153 hX) rfl rfl rfl (t_153 ok hX _ v6 x1 s5) (fun v8 s7 hb9 => ?_)
      refine g_if_eq ok rfl (fun _ => ?_) (fun _ => ?_)
      · refine g_rb gs_250 8 (cd' := gb_250_59) rfl rfl ?_
        refine g_iconst ok (v := 0) rfl ?_
        refine g_rb gs_250 9 (cd' := gb_250_60) rfl rfl ?_
        refine g_ior ok ?_
        refine g_istore_n ok rfl (L' := [(0, (28, 0, x0)), (1, (0, x1, 0)), (2, (0, (gor x2 0), 0)), (3, (0, x3, 0))]) rfl ?_
        refine g_iinc ok rfl rfl (L' := [(0, (28, 0, x0)), (1, (0, x1, 0)), (2, (0, (gor x2 0), 0)), (3, (0, (g32 (x3 + 1)), 0))]) rfl ?_
        refine g_goto ok rfl ?_
        exact g_wk ok [(0, (28, 0, x0)), (1, (0, x1, 0)), (2, (0, (gor x2 0), 0)), (3, (0, (g32 (x3 + 1)), 0))] ⟨rfl, rfl, rfl, rfl, trivial⟩ (hl22 (x0, x1, (gor x2 0), (g32 (x3 + 1)), s7))
      · refine g_rb gs_250 7 (cd' := gb_250_53) rfl rfl ?_
        refine g_iconst ok (v := 1) rfl ?_
        refine g_iload_n ok rfl ?_
        refine g_ishl ok ?_
        refine g_goto ok rfl ?_
        refine g_rb gs_250 9 (cd' := gb_250_60) rfl rfl ?_
        refine g_ior ok ?_
        let v10 : Int := (gor x2 (gshl 1 x3))
        refine g_istore_n ok rfl (L' := [(0, (28, 0, x0)), (1, (0, x1, 0)), (2, (0, v10, 0)), (3, (0, x3, 0))]) rfl ?_
        refine g_iinc ok rfl rfl (L' := [(0, (28, 0, x0)), (1, (0, x1, 0)), (2, (0, v10, 0)), (3, (0, (g32 (x3 + 1)), 0))]) rfl ?_
        refine g_goto ok rfl ?_
        exact g_wk ok [(0, (28, 0, x0)), (1, (0, x1, 0)), (2, (0, v10, 0)), (3, (0, (g32 (x3 + 1)), 0))] ⟨rfl, rfl, rfl, rfl, trivial⟩ (hl22 (x0, x1, v10, (g32 (x3 + 1)), s7))
    · refine g_map hr22 ?_
      refine g_rb gs_250 10 (cd' := gb_250_68) rfl rfl ?_
      refine g_iload_n ok rfl ?_
      exact g_ireturn ok rfl rfl (rfl)
  · refine g_map hr22 ?_
    refine g_rb gs_250 10 (cd' := gb_250_68) rfl rfl ?_
    refine g_iload_n ok rfl ?_
    exact g_ireturn ok rfl rfl (rfl)
theorem tl_250_22 {X : gX} (ok : gOK X) (hX : gHX X) (d : Nat)  (y : (Nat × Int × Int × Int × gS)) : Go X em_250 250 (d + 1) 22 [] [(0, (28, 0, y.1)), (1, (0, y.2.1, 0)), (2, (0, y.2.2.1, 0)), (3, (0, y.2.2.2.1, 0))] [] y.2.2.2.2 0 0 (gloop (st_250_22) y) some :=
  g_loop (Lh := fun y => [(0, (28, 0, y.1)), (1, (0, y.2.1, 0)), (2, (0, y.2.2.1, 0)), (3, (0, y.2.2.2.1, 0))]) (sh := fun y => y.2.2.2.2) (fun k22 hl22 hr22 y => ts_250_22 ok hX d  hl22 hr22 y.1 y.2.1 y.2.2.1 y.2.2.2.1 y.2.2.2.2) y
theorem tb_250_15 {X : gX} (ok : gOK X) (hX : gHX X) (d : Nat)  (x0 : Nat) (x1 : Int) (w0 : Int) (w1 : Nat) (s : gS) : Go X em_250 250 (d + 1) 15 [] [(0, (28, 0, x0)), (1, (0, x1, 0))] [(0, w0, 0), (28, 0, w1)] s 0 0 (fb_250_15 x0 x1 w0 w1 s) some := by
  delta fb_250_15
  refine g_rb gs_250 3 (cd' := gb_250_15) rfl rfl ?_
  refine g_puti ok rfl rfl rfl ?_
  let s4 : gS := gw s w1 0 w0
  refine g_iconst ok (v := 0) rfl ?_
  refine g_istore_n ok rfl (L' := [(0, (28, 0, x0)), (1, (0, x1, 0)), (2, (0, 0, 0))]) rfl ?_
  refine g_iconst ok (v := 0) rfl ?_
  refine g_istore_n ok rfl (L' := [(0, (28, 0, x0)), (1, (0, x1, 0)), (2, (0, 0, 0)), (3, (0, 0, 0))]) rfl ?_
  exact g_wk ok [(0, (28, 0, x0)), (1, (0, x1, 0)), (2, (0, 0, 0)), (3, (0, 0, 0))] ⟨rfl, rfl, rfl, rfl, trivial⟩ (tl_250_22 ok hX d  (x0, x1, 0, 0, s4))
theorem t_250 {X : gX} (ok : gOK X) (hX : gHX X) (d : Nat) (a0 : Nat) (a1 : Int) (s : gS) : Go X em_250 250 (d + 1) 0 [] [(0, (28, 0, a0)), (1, (0, a1, 0))] [] s 0 0 (f_250 a0 a1 s) some := by
  delta f_250
  refine g_rb gs_250 0 (cd' := gb_250_0) rfl rfl ?_
  refine g_aload_n ok rfl rfl ?_
  refine g_iload_n ok rfl ?_
  refine g_iconst ok (v := 0) rfl ?_
  refine g_iconst ok (v := 5) rfl ?_
  refine g_csz ok (me_150 hX) rfl rfl rfl (t_150 ok hX _ a1 0 5 s) (fun v2 s1 hb3 => ?_)
  refine g_if_ne ok rfl (fun _ => ?_) (fun _ => ?_)
  · refine g_rb gs_250 1 (cd' := gb_250_10) rfl rfl ?_
    refine g_iconst ok (v := 1) rfl ?_
    refine g_goto ok rfl ?_
    exact g_wk ok [(0, (28, 0, a0)), (1, (0, a1, 0))] ⟨rfl, rfl, trivial⟩ (tb_250_15 ok hX d  a0 a1 1 a0 s1)
  · refine g_rb gs_250 2 (cd' := gb_250_14) rfl rfl ?_
    refine g_iconst ok (v := 0) rfl ?_
    exact g_wk ok [(0, (28, 0, a0)), (1, (0, a1, 0))] ⟨rfl, rfl, trivial⟩ (tb_250_15 ok hX d  a0 a1 0 a0 s1)
-- X12_dearest
theorem tb_251_39 {X : gX} (ok : gOK X) (hX : gHX X) (d : Nat) {k9 : (Nat × Int × Int × gS) ⊕ gO → Option gO} (hl9 : ∀ y : (Nat × Int × Int × gS), Go X em_251 251 (d + 1) 9 [] [(0, (28, 0, y.1)), (1, (0, y.2.1, 0)), (2, (0, y.2.2.1, 0))] [] y.2.2.2 0 0 (some (Sum.inl y)) k9) (hr9 : ∀ q, k9 (Sum.inr q) = some q) (x0 : Nat) (x2 : Int) (s : gS) : Go X em_251 251 (d + 1) 39 [] [(0, (28, 0, x0)), (2, (0, x2, 0))] [] s 0 0 (fb_251_39 x0 x2 s) k9 := by
  delta fb_251_39
  refine g_rb gs_251 4 (cd' := gb_251_39) rfl rfl ?_
  refine g_iload_n ok rfl ?_
  refine g_istore_n ok rfl (L' := [(0, (28, 0, x0)), (2, (0, x2, 0)), (1, (0, x2, 0))]) rfl ?_
  refine g_rb gs_251 5 (cd' := gb_251_41) rfl rfl ?_
  refine g_iinc ok rfl rfl (L' := [(0, (28, 0, x0)), (2, (0, (g32 (x2 + 1)), 0)), (1, (0, x2, 0))]) rfl ?_
  refine g_goto ok rfl ?_
  exact g_wk ok [(0, (28, 0, x0)), (1, (0, x2, 0)), (2, (0, (g32 (x2 + 1)), 0))] ⟨rfl, rfl, rfl, trivial⟩ (hl9 (x0, x2, (g32 (x2 + 1)), s))
theorem ts_251_9 {X : gX} (ok : gOK X) (hX : gHX X) (d : Nat) {k9 : (Nat × Int × Int × gS) ⊕ gO → Option gO} (hl9 : ∀ y : (Nat × Int × Int × gS), Go X em_251 251 (d + 1) 9 [] [(0, (28, 0, y.1)), (1, (0, y.2.1, 0)), (2, (0, y.2.2.1, 0))] [] y.2.2.2 0 0 (some (Sum.inl y)) k9) (hr9 : ∀ q, k9 (Sum.inr q) = some q) (x0 : Nat) (x1 : Int) (x2 : Int) (s : gS) : Go X em_251 251 (d + 1) 9 [] [(0, (28, 0, x0)), (1, (0, x1, 0)), (2, (0, x2, 0))] [] s 0 0 (sb_251_9 x0 x1 x2 s) k9 := by
  delta sb_251_9
  refine g_rb gs_251 1 (cd' := gb_251_9) rfl rfl ?_
  refine g_iload_n ok rfl ?_
  refine g_aload_n ok rfl rfl ?_
  refine g_getr ok 6036 rfl rfl rfl ?_
  refine g_iconst ok (v := 3) rfl ?_
  refine g_ialoadc ok (n := 740) 3 rfl rfl rfl ?_
  refine g_ic_ge ok rfl (fun _ => ?_) (fun _ => ?_)
  · refine g_rb gs_251 2 (cd' := gb_251_19) rfl rfl ?_
    refine g_iload_n ok rfl ?_
    refine g_iconst ok (v := (-1)) rfl ?_
    refine g_ic_eq ok rfl (fun _ => ?_) (fun _ => ?_)
    · exact g_wk ok [(0, (28, 0, x0)), (2, (0, x2, 0))] ⟨rfl, rfl, trivial⟩ (tb_251_39 ok hX d hl9 hr9 x0 x2 s)
    · refine g_rb gs_251 3 (cd' := gb_251_24) rfl rfl ?_
      refine g_aload_n ok rfl rfl ?_
      refine g_iload_n ok rfl ?_
      refine g_iconst ok (v := 1) rfl ?_
      refine g_cv1 ok (me_155 hX) rfl rfl rfl rfl (t_155 ok hX _ x0 x2 1 s) (fun v3 s2 => ?_)
      refine g_aload_n ok rfl rfl ?_
      refine g_iload_n ok rfl ?_
      refine g_iconst ok (v := 1) rfl ?_
      refine g_cv1 ok (me_155 hX) rfl rfl rfl rfl (t_155 ok hX _ x0 x1 1 s2) (fun v5 s4 => ?_)
      refine g_ic_le ok rfl (fun _ => ?_) (fun _ => ?_)
      · exact g_wk ok [(0, (28, 0, x0)), (2, (0, x2, 0))] ⟨rfl, rfl, trivial⟩ (tb_251_39 ok hX d hl9 hr9 x0 x2 s4)
      · refine g_rb gs_251 5 (cd' := gb_251_41) rfl rfl ?_
        refine g_iinc ok rfl rfl (L' := [(0, (28, 0, x0)), (1, (0, x1, 0)), (2, (0, (g32 (x2 + 1)), 0))]) rfl ?_
        refine g_goto ok rfl ?_
        exact g_wk ok [(0, (28, 0, x0)), (1, (0, x1, 0)), (2, (0, (g32 (x2 + 1)), 0))] ⟨rfl, rfl, rfl, trivial⟩ (hl9 (x0, x1, (g32 (x2 + 1)), s4))
  · refine g_map hr9 ?_
    refine g_rb gs_251 6 (cd' := gb_251_47) rfl rfl ?_
    refine g_iload_n ok rfl ?_
    exact g_ireturn ok rfl rfl (rfl)
theorem tl_251_9 {X : gX} (ok : gOK X) (hX : gHX X) (d : Nat)  (y : (Nat × Int × Int × gS)) : Go X em_251 251 (d + 1) 9 [] [(0, (28, 0, y.1)), (1, (0, y.2.1, 0)), (2, (0, y.2.2.1, 0))] [] y.2.2.2 0 0 (gloop (st_251_9) y) some :=
  g_loop (Lh := fun y => [(0, (28, 0, y.1)), (1, (0, y.2.1, 0)), (2, (0, y.2.2.1, 0))]) (sh := fun y => y.2.2.2) (fun k9 hl9 hr9 y => ts_251_9 ok hX d  hl9 hr9 y.1 y.2.1 y.2.2.1 y.2.2.2) y
theorem t_251 {X : gX} (ok : gOK X) (hX : gHX X) (d : Nat) (a0 : Nat) (s : gS) : Go X em_251 251 (d + 1) 0 [] [(0, (28, 0, a0))] [] s 0 0 (f_251 a0 s) some := by
  delta f_251
  refine g_rb gs_251 0 (cd' := gb_251_0) rfl rfl ?_
  refine g_aload_n ok rfl rfl ?_
  refine g_iconst ok (v := 0) rfl ?_
  refine g_puti ok rfl rfl rfl ?_
  let s1 : gS := gw s a0 0 0
  refine g_iconst ok (v := (-1)) rfl ?_
  refine g_istore_n ok rfl (L' := [(0, (28, 0, a0)), (1, (0, (-1), 0))]) rfl ?_
  refine g_iconst ok (v := 0) rfl ?_
  refine g_istore_n ok rfl (L' := [(0, (28, 0, a0)), (1, (0, (-1), 0)), (2, (0, 0, 0))]) rfl ?_
  exact g_wk ok [(0, (28, 0, a0)), (1, (0, (-1), 0)), (2, (0, 0, 0))] ⟨rfl, rfl, rfl, trivial⟩ (tl_251_9 ok hX d  (a0, (-1), 0, s1))
-- X12_kept
theorem tb_253_15 {X : gX} (ok : gOK X) (hX : gHX X) (d : Nat)  (w0 : Int) (w1 : Nat) (s : gS) : Go X em_253 253 (d + 2) 15 [] [] [(0, w0, 0), (28, 0, w1)] s 0 0 (fb_253_15 w0 w1 s) some := by
  delta fb_253_15
  refine g_rb gs_253 3 (cd' := gb_253_15) rfl rfl ?_
  refine g_cv1 ok (me_252 hX) rfl rfl rfl rfl (t_252 ok hX _ w1 w0 s) (fun v3 s2 => ?_)
  exact g_ireturn ok rfl rfl (rfl)
theorem t_253 {X : gX} (ok : gOK X) (hX : gHX X) (d : Nat) (a0 : Nat) (a1 : Int) (s : gS) : Go X em_253 253 (d + 2) 0 [] [(0, (28, 0, a0)), (1, (0, a1, 0))] [] s 0 0 (f_253 a0 a1 s) some := by
  delta f_253
  refine g_rb gs_253 0 (cd' := gb_253_0) rfl rfl ?_
  refine g_aload_n ok rfl rfl ?_
  refine g_iconst ok (v := 0) rfl ?_
  refine g_puti ok rfl rfl rfl ?_
  let s1 : gS := gw s a0 0 0
  refine g_aload_n ok rfl rfl ?_
  refine g_iload_n ok rfl ?_
  refine g_if_eq ok rfl (fun _ => ?_) (fun _ => ?_)
  · refine g_rb gs_253 2 (cd' := gb_253_14) rfl rfl ?_
    refine g_iconst ok (v := 0) rfl ?_
    exact g_wk ok [] trivial (tb_253_15 ok hX d  0 a0 s1)
  · refine g_rb gs_253 1 (cd' := gb_253_10) rfl rfl ?_
    refine g_iconst ok (v := 1) rfl ?_
    refine g_goto ok rfl ?_
    exact g_wk ok [] trivial (tb_253_15 ok hX d  1 a0 s1)
-- X12_trial
theorem tb_254_62 {X : gX} (ok : gOK X) (hX : gHX X) (d : Nat)  (x0 : Nat) (w0 : Int) (s : gS) : Go X em_254 254 (d + 38) 62 [] [(0, (28, 0, x0))] [(0, w0, 0)] s 0 0 (fb_254_62 x0 w0 s) some := by
  delta fb_254_62
  refine g_rb gs_254 8 (cd' := gb_254_62) rfl rfl ?_
  refine g_istore ok rfl (L' := [(0, (28, 0, x0)), (4, (0, w0, 0))]) rfl ?_
  refine g_aload_n ok rfl rfl ?_
  refine g_cv0 ok (me_186 hX) rfl rfl rfl (t_186 ok hX _ x0 s) (fun s9 => ?_)
  refine g_iload ok rfl ?_
  exact g_ireturn ok rfl rfl (rfl)
theorem tb_254_17 {X : gX} (ok : gOK X) (hX : gHX X) (d : Nat)  (x0 : Nat) (x1 : Int) (x2 : Int) (w0 : Int) (w1 : Nat) (s : gS) : Go X em_254 254 (d + 38) 17 [] [(0, (28, 0, x0)), (1, (0, x1, 0)), (2, (0, x2, 0))] [(0, w0, 0), (28, 0, w1)] s 0 0 (fb_254_17 x0 x1 x2 w0 w1 s) some := by
  delta fb_254_17
  refine g_rb gs_254 3 (cd' := gb_254_17) rfl rfl ?_
  refine g_puti ok rfl rfl rfl ?_
  let s4 : gS := gw s w1 0 w0
  refine g_aload_n ok rfl rfl ?_
  refine g_geti ok rfl rfl ?_
  refine g_if_le ok rfl (fun _ => ?_) (fun _ => ?_)
  · refine g_rb gs_254 4 (cd' := gb_254_27) rfl rfl ?_
    refine g_iconst ok (v := 0) rfl ?_
    exact g_ireturn ok rfl rfl (rfl)
  · refine g_rb gs_254 5 (cd' := gb_254_29) rfl rfl ?_
    refine g_aload_n ok rfl rfl ?_
    refine g_cv0 ok (me_185 hX) rfl rfl rfl (t_185 ok hX _ x0 s4) (fun s5 => ?_)
    refine g_aload_n ok rfl rfl ?_
    refine g_iload_n ok rfl ?_
    refine g_iconst ok (v := 1) rfl ?_
    refine g_cv1 ok (me_202 hX) rfl rfl rfl rfl (t_202 ok hX _ x0 x1 1 s5) (fun v8 s7 => ?_)
    refine g_istore_n ok rfl (L' := [(0, (28, 0, x0)), (1, (0, x1, 0)), (2, (0, x2, 0)), (3, (0, v8, 0))]) rfl ?_
    refine g_iload_n ok rfl ?_
    refine g_if_eq ok rfl (fun _ => ?_) (fun _ => ?_)
    · refine g_rb gs_254 7 (cd' := gb_254_55) rfl rfl ?_
      refine g_aload_n ok rfl rfl ?_
      refine g_getr ok 6036 rfl rfl rfl ?_
      refine g_bipush ok (v := 8) rfl ?_
      refine g_ialoadc ok (n := 740) 8 rfl rfl rfl ?_
      exact g_wk ok [(0, (28, 0, x0))] ⟨rfl, trivial⟩ (tb_254_62 ok hX d  x0 (gI s7 (gR s7 x0 1) 8) s7)
    · refine g_rb gs_254 6 (cd' := gb_254_44) rfl rfl ?_
      refine g_aload_n ok rfl rfl ?_
      refine g_iconst ok (v := 0) rfl ?_
      refine g_cv1 ok (me_252 hX) rfl rfl rfl rfl (t_252 ok hX _ x0 0 s7) (fun v12 s11 => ?_)
      refine g_cs1 ok (me_154 hX) rfl rfl rfl (t_154 ok hX _ v12 s11) (fun v14 s13 => ?_)
      refine g_goto ok rfl ?_
      exact g_wk ok [(0, (28, 0, x0))] ⟨rfl, trivial⟩ (tb_254_62 ok hX d  x0 v14 s13)
theorem t_254 {X : gX} (ok : gOK X) (hX : gHX X) (d : Nat) (a0 : Nat) (a1 : Int) (a2 : Int) (s : gS) : Go X em_254 254 (d + 38) 0 [] [(0, (28, 0, a0)), (1, (0, a1, 0)), (2, (0, a2, 0))] [] s 0 0 (f_254 a0 a1 a2 s) some := by
  delta f_254
  refine g_rb gs_254 0 (cd' := gb_254_0) rfl rfl ?_
  refine g_aload_n ok rfl rfl ?_
  refine g_iload_n ok rfl ?_
  refine g_iconst ok (v := 0) rfl ?_
  refine g_sipush ok (v := 200) rfl ?_
  refine g_csz ok (me_150 hX) rfl rfl rfl (t_150 ok hX _ a1 0 200 s) (fun v2 s1 hb3 => ?_)
  refine g_if_ne ok rfl (fun _ => ?_) (fun _ => ?_)
  · refine g_rb gs_254 1 (cd' := gb_254_12) rfl rfl ?_
    refine g_iconst ok (v := 1) rfl ?_
    refine g_goto ok rfl ?_
    exact g_wk ok [(0, (28, 0, a0)), (1, (0, a1, 0)), (2, (0, a2, 0))] ⟨rfl, rfl, rfl, trivial⟩ (tb_254_17 ok hX d  a0 a1 a2 1 a0 s1)
  · refine g_rb gs_254 2 (cd' := gb_254_16) rfl rfl ?_
    refine g_iconst ok (v := 0) rfl ?_
    exact g_wk ok [(0, (28, 0, a0)), (1, (0, a1, 0)), (2, (0, a2, 0))] ⟨rfl, rfl, rfl, trivial⟩ (tb_254_17 ok hX d  a0 a1 a2 0 a0 s1)
-- X12_span
theorem ts_255_38 {X : gX} (ok : gOK X) (hX : gHX X) (d : Nat) {k38 : (Nat × Int × Int × Int × Int × gS) ⊕ gO → Option gO} (hl38 : ∀ y : (Nat × Int × Int × Int × Int × gS), Go X em_255 255 (d + 38) 38 [] [(0, (28, 0, y.1)), (1, (0, y.2.1, 0)), (2, (0, y.2.2.1, 0)), (3, (0, y.2.2.2.1, 0)), (4, (0, y.2.2.2.2.1, 0))] [] y.2.2.2.2.2 0 0 (some (Sum.inl y)) k38) (hr38 : ∀ q, k38 (Sum.inr q) = some q) (x0 : Nat) (x1 : Int) (x2 : Int) (x3 : Int) (x4 : Int) (s : gS) : Go X em_255 255 (d + 38) 38 [] [(0, (28, 0, x0)), (1, (0, x1, 0)), (2, (0, x2, 0)), (3, (0, x3, 0)), (4, (0, x4, 0))] [] s 0 0 (sb_255_38 x0 x1 x2 x3 x4 s) k38 := by
  delta sb_255_38
  refine g_rb gs_255 6 (cd' := gb_255_38) rfl rfl ?_
  refine g_iload ok rfl ?_
  refine g_bipush ok (v := 6) rfl ?_
  refine g_ic_gt ok rfl (fun _ => ?_) (fun _ => ?_)
  · refine g_map hr38 ?_
    refine g_rb gs_255 13 (cd' := gb_255_111) rfl rfl ?_
    refine g_iload_n ok rfl ?_
    exact g_ireturn ok rfl rfl (rfl)
  · refine g_rb gs_255 7 (cd' := gb_255_45) rfl rfl ?_
    refine g_aload_n ok rfl rfl ?_
    refine g_getr ok 6036 rfl rfl rfl ?_
    refine g_bipush ok (v := 14) rfl ?_
    refine g_iload ok rfl ?_
    refine g_iastorec ok (n := 740) 14 rfl rfl rfl ?_
    let s7 : gS := gw s (gR s x0 1) 14 x4
    refine g_aload_n ok rfl rfl ?_
    refine g_iload_n ok rfl ?_
    refine g_iconst ok (v := 1) rfl ?_
    refine g_cv1 ok (me_202 hX) rfl rfl rfl rfl (t_202 ok hX _ x0 x1 1 s7) (fun v9 s8 => ?_)
    refine g_istore ok rfl (L' := [(0, (28, 0, x0)), (1, (0, x1, 0)), (2, (0, x2, 0)), (3, (0, x3, 0)), (4, (0, x4, 0)), (5, (0, v9, 0))]) rfl ?_
    refine g_aload_n ok rfl rfl ?_
    refine g_getr ok 6036 rfl rfl rfl ?_
    refine g_bipush ok (v := 8) rfl ?_
    refine g_ialoadc ok (n := 740) 8 rfl rfl rfl ?_
    let v10 : Int := (gI s8 (gR s8 x0 1) 8)
    refine g_istore ok rfl (L' := [(0, (28, 0, x0)), (1, (0, x1, 0)), (2, (0, x2, 0)), (3, (0, x3, 0)), (4, (0, x4, 0)), (5, (0, v9, 0)), (6, (0, v10, 0))]) rfl ?_
    refine g_aload_n ok rfl rfl ?_
    refine g_cv0 ok (me_186 hX) rfl rfl rfl (t_186 ok hX _ x0 s8) (fun s11 => ?_)
    refine g_iload_n ok rfl ?_
    refine g_iconst ok (v := (-1)) rfl ?_
    refine g_ic_ne ok rfl (fun _ => ?_) (fun _ => ?_)
    · refine g_rb gs_255 8 (cd' := gb_255_80) rfl rfl ?_
      refine g_iload ok rfl ?_
      refine g_goto ok rfl ?_
      refine g_rb gs_255 12 (cd' := gb_255_104) rfl rfl ?_
      refine g_istore_n ok rfl (L' := [(0, (28, 0, x0)), (1, (0, x1, 0)), (2, (0, x2, 0)), (3, (0, v10, 0)), (4, (0, x4, 0)), (5, (0, v9, 0)), (6, (0, v10, 0))]) rfl ?_
      refine g_iinc ok rfl rfl (L' := [(0, (28, 0, x0)), (1, (0, x1, 0)), (2, (0, x2, 0)), (3, (0, v10, 0)), (4, (0, (g32 (x4 + 1)), 0)), (5, (0, v9, 0)), (6, (0, v10, 0))]) rfl ?_
      refine g_goto ok rfl ?_
      exact g_wk ok [(0, (28, 0, x0)), (1, (0, x1, 0)), (2, (0, x2, 0)), (3, (0, v10, 0)), (4, (0, (g32 (x4 + 1)), 0))] ⟨rfl, rfl, rfl, rfl, rfl, trivial⟩ (hl38 (x0, x1, x2, v10, (g32 (x4 + 1)), s11))
    · refine g_rb gs_255 9 (cd' := gb_255_85) rfl rfl ?_
      refine g_iload_n ok rfl ?_
      refine g_if_eq ok rfl (fun _ => ?_) (fun _ => ?_)
      · refine g_rb gs_255 11 (cd' := gb_255_98) rfl rfl ?_
        refine g_iload_n ok rfl ?_
        refine g_iload ok rfl ?_
        refine g_cs1 ok (me_151 hX) rfl rfl rfl (t_151 ok hX _ x3 v10 s11) (fun v14 s13 => ?_)
        refine g_rb gs_255 12 (cd' := gb_255_104) rfl rfl ?_
        refine g_istore_n ok rfl (L' := [(0, (28, 0, x0)), (1, (0, x1, 0)), (2, (0, x2, 0)), (3, (0, v14, 0)), (4, (0, x4, 0)), (5, (0, v9, 0)), (6, (0, v10, 0))]) rfl ?_
        refine g_iinc ok rfl rfl (L' := [(0, (28, 0, x0)), (1, (0, x1, 0)), (2, (0, x2, 0)), (3, (0, v14, 0)), (4, (0, (g32 (x4 + 1)), 0)), (5, (0, v9, 0)), (6, (0, v10, 0))]) rfl ?_
        refine g_goto ok rfl ?_
        exact g_wk ok [(0, (28, 0, x0)), (1, (0, x1, 0)), (2, (0, x2, 0)), (3, (0, v14, 0)), (4, (0, (g32 (x4 + 1)), 0))] ⟨rfl, rfl, rfl, rfl, rfl, trivial⟩ (hl38 (x0, x1, x2, v14, (g32 (x4 + 1)), s13))
      · refine g_rb gs_255 10 (cd' := gb_255_89) rfl rfl ?_
        refine g_iload_n ok rfl ?_
        refine g_iload ok rfl ?_
        refine g_cs1 ok (me_152 hX) rfl rfl rfl (t_152 ok hX _ x3 v10 s11) (fun v16 s15 => ?_)
        refine g_goto ok rfl ?_
        refine g_rb gs_255 12 (cd' := gb_255_104) rfl rfl ?_
        refine g_istore_n ok rfl (L' := [(0, (28, 0, x0)), (1, (0, x1, 0)), (2, (0, x2, 0)), (3, (0, v16, 0)), (4, (0, x4, 0)), (5, (0, v9, 0)), (6, (0, v10, 0))]) rfl ?_
        refine g_iinc ok rfl rfl (L' := [(0, (28, 0, x0)), (1, (0, x1, 0)), (2, (0, x2, 0)), (3, (0, v16, 0)), (4, (0, (g32 (x4 + 1)), 0)), (5, (0, v9, 0)), (6, (0, v10, 0))]) rfl ?_
        refine g_goto ok rfl ?_
        exact g_wk ok [(0, (28, 0, x0)), (1, (0, x1, 0)), (2, (0, x2, 0)), (3, (0, v16, 0)), (4, (0, (g32 (x4 + 1)), 0))] ⟨rfl, rfl, rfl, rfl, rfl, trivial⟩ (hl38 (x0, x1, x2, v16, (g32 (x4 + 1)), s15))
theorem tl_255_38 {X : gX} (ok : gOK X) (hX : gHX X) (d : Nat)  (y : (Nat × Int × Int × Int × Int × gS)) : Go X em_255 255 (d + 38) 38 [] [(0, (28, 0, y.1)), (1, (0, y.2.1, 0)), (2, (0, y.2.2.1, 0)), (3, (0, y.2.2.2.1, 0)), (4, (0, y.2.2.2.2.1, 0))] [] y.2.2.2.2.2 0 0 (gloop (st_255_38) y) some :=
  g_loop (Lh := fun y => [(0, (28, 0, y.1)), (1, (0, y.2.1, 0)), (2, (0, y.2.2.1, 0)), (3, (0, y.2.2.2.1, 0)), (4, (0, y.2.2.2.2.1, 0))]) (sh := fun y => y.2.2.2.2.2) (fun k38 hl38 hr38 y => ts_255_38 ok hX d  hl38 hr38 y.1 y.2.1 y.2.2.1 y.2.2.2.1 y.2.2.2.2.1 y.2.2.2.2.2) y
theorem tb_255_17 {X : gX} (ok : gOK X) (hX : gHX X) (d : Nat)  (x0 : Nat) (x1 : Int) (x2 : Int) (w0 : Int) (w1 : Nat) (s : gS) : Go X em_255 255 (d + 38) 17 [] [(0, (28, 0, x0)), (1, (0, x1, 0)), (2, (0, x2, 0))] [(0, w0, 0), (28, 0, w1)] s 0 0 (fb_255_17 x0 x1 x2 w0 w1 s) some := by
  delta fb_255_17
  refine g_rb gs_255 3 (cd' := gb_255_17) rfl rfl ?_
  refine g_puti ok rfl rfl rfl ?_
  let s4 : gS := gw s w1 0 w0
  refine g_aload_n ok rfl rfl ?_
  refine g_geti ok rfl rfl ?_
  refine g_if_le ok rfl (fun _ => ?_) (fun _ => ?_)
  · refine g_rb gs_255 4 (cd' := gb_255_27) rfl rfl ?_
    refine g_iconst ok (v := 0) rfl ?_
    exact g_ireturn ok rfl rfl (rfl)
  · refine g_rb gs_255 5 (cd' := gb_255_29) rfl rfl ?_
    refine g_aload_n ok rfl rfl ?_
    refine g_cv0 ok (me_185 hX) rfl rfl rfl (t_185 ok hX _ x0 s4) (fun s5 => ?_)
    refine g_iconst ok (v := (-1)) rfl ?_
    refine g_istore_n ok rfl (L' := [(0, (28, 0, x0)), (1, (0, x1, 0)), (2, (0, x2, 0)), (3, (0, (-1), 0))]) rfl ?_
    refine g_iconst ok (v := 1) rfl ?_
    refine g_istore ok rfl (L' := [(0, (28, 0, x0)), (1, (0, x1, 0)), (2, (0, x2, 0)), (3, (0, (-1), 0)), (4, (0, 1, 0))]) rfl ?_
    exact g_wk ok [(0, (28, 0, x0)), (1, (0, x1, 0)), (2, (0, x2, 0)), (3, (0, (-1), 0)), (4, (0, 1, 0))] ⟨rfl, rfl, rfl, rfl, rfl, trivial⟩ (tl_255_38 ok hX d  (x0, x1, x2, (-1), 1, s5))
theorem t_255 {X : gX} (ok : gOK X) (hX : gHX X) (d : Nat) (a0 : Nat) (a1 : Int) (a2 : Int) (s : gS) : Go X em_255 255 (d + 38) 0 [] [(0, (28, 0, a0)), (1, (0, a1, 0)), (2, (0, a2, 0))] [] s 0 0 (f_255 a0 a1 a2 s) some := by
  delta f_255
  refine g_rb gs_255 0 (cd' := gb_255_0) rfl rfl ?_
  refine g_aload_n ok rfl rfl ?_
  refine g_iload_n ok rfl ?_
  refine g_iconst ok (v := 0) rfl ?_
  refine g_sipush ok (v := 200) rfl ?_
  refine g_csz ok (me_150 hX) rfl rfl rfl (t_150 ok hX _ a1 0 200 s) (fun v2 s1 hb3 => ?_)
  refine g_if_ne ok rfl (fun _ => ?_) (fun _ => ?_)
  · refine g_rb gs_255 1 (cd' := gb_255_12) rfl rfl ?_
    refine g_iconst ok (v := 1) rfl ?_
    refine g_goto ok rfl ?_
    exact g_wk ok [(0, (28, 0, a0)), (1, (0, a1, 0)), (2, (0, a2, 0))] ⟨rfl, rfl, rfl, trivial⟩ (tb_255_17 ok hX d  a0 a1 a2 1 a0 s1)
  · refine g_rb gs_255 2 (cd' := gb_255_16) rfl rfl ?_
    refine g_iconst ok (v := 0) rfl ?_
    exact g_wk ok [(0, (28, 0, a0)), (1, (0, a1, 0)), (2, (0, a2, 0))] ⟨rfl, rfl, rfl, trivial⟩ (tb_255_17 ok hX d  a0 a1 a2 0 a0 s1)
-- X12_logged
theorem t_256 {X : gX} (ok : gOK X) (hX : gHX X) (d : Nat) (a0 : Nat) (a1 : Int) (a2 : Int) (s : gS) : Go X em_256 256 d 0 [] [(0, (28, 0, a0)), (1, (0, a1, 0)), (2, (0, a2, 0))] [] s 0 0 (f_256 a0 a1 a2 s) some := by
  delta f_256
  refine g_rb gs_256 0 (cd' := gb_256_0) rfl rfl ?_
  refine g_aload_n ok rfl rfl ?_
  refine g_getr ok 6036 rfl rfl rfl ?_
  refine g_bipush ok (v := 100) rfl ?_
  refine g_iconst ok (v := 4) rfl ?_
  refine g_iload_n ok rfl ?_
  refine g_imul ok ?_
  refine g_iadd ok ?_
  refine g_iload_n ok rfl ?_
  refine g_iadd ok ?_
  refine g_iaload ok (n := 740) rfl rfl (fun _ _ => ?_)
  exact g_ireturn ok rfl rfl (rfl)
-- X12_led
theorem tb_257_72 {X : gX} (ok : gOK X) (hX : gHX X) (d : Nat) {k22 : (Nat × Int × Int × Int × Int × gS) ⊕ gO → Option gO} (hl22 : ∀ y : (Nat × Int × Int × Int × Int × gS), Go X em_257 257 (d + 2) 22 [] [(0, (28, 0, y.1)), (1, (0, y.2.1, 0)), (2, (0, y.2.2.1, 0)), (3, (0, y.2.2.2.1, 0)), (4, (0, y.2.2.2.2.1, 0))] [] y.2.2.2.2.2 0 0 (some (Sum.inl y)) k22) (hr22 : ∀ q, k22 (Sum.inr q) = some q) (x0 : Nat) (x1 : Int) (x2 : Int) (x4 : Int) (w0 : Int) (s : gS) : Go X em_257 257 (d + 2) 72 [] [(0, (28, 0, x0)), (1, (0, x1, 0)), (2, (0, x2, 0)), (4, (0, x4, 0))] [(0, w0, 0)] s 0 0 (fb_257_72 x0 x1 x2 x4 w0 s) k22 := by
  delta fb_257_72
  refine g_rb gs_257 10 (cd' := gb_257_72) rfl rfl ?_
  refine g_iconst ok (v := 0) rfl ?_
  refine g_rb gs_257 11 (cd' := gb_257_73) rfl rfl ?_
  refine g_iadd ok ?_
  refine g_istore_n ok rfl (L' := [(0, (28, 0, x0)), (1, (0, x1, 0)), (2, (0, x2, 0)), (4, (0, x4, 0)), (3, (0, (g32 (w0 + 0)), 0))]) rfl ?_
  refine g_iinc ok rfl rfl (L' := [(0, (28, 0, x0)), (1, (0, x1, 0)), (2, (0, x2, 0)), (4, (0, (g32 (x4 + 1)), 0)), (3, (0, (g32 (w0 + 0)), 0))]) rfl ?_
  refine g_goto ok rfl ?_
  exact g_wk ok [(0, (28, 0, x0)), (1, (0, x1, 0)), (2, (0, x2, 0)), (3, (0, (g32 (w0 + 0)), 0)), (4, (0, (g32 (x4 + 1)), 0))] ⟨rfl, rfl, rfl, rfl, rfl, trivial⟩ (hl22 (x0, x1, x2, (g32 (w0 + 0)), (g32 (x4 + 1)), s))
theorem ts_257_22 {X : gX} (ok : gOK X) (hX : gHX X) (d : Nat) {k22 : (Nat × Int × Int × Int × Int × gS) ⊕ gO → Option gO} (hl22 : ∀ y : (Nat × Int × Int × Int × Int × gS), Go X em_257 257 (d + 2) 22 [] [(0, (28, 0, y.1)), (1, (0, y.2.1, 0)), (2, (0, y.2.2.1, 0)), (3, (0, y.2.2.2.1, 0)), (4, (0, y.2.2.2.2.1, 0))] [] y.2.2.2.2.2 0 0 (some (Sum.inl y)) k22) (hr22 : ∀ q, k22 (Sum.inr q) = some q) (x0 : Nat) (x1 : Int) (x2 : Int) (x3 : Int) (x4 : Int) (s : gS) : Go X em_257 257 (d + 2) 22 [] [(0, (28, 0, x0)), (1, (0, x1, 0)), (2, (0, x2, 0)), (3, (0, x3, 0)), (4, (0, x4, 0))] [] s 0 0 (sb_257_22 x0 x1 x2 x3 x4 s) k22 := by
  delta sb_257_22
  refine g_rb gs_257 4 (cd' := gb_257_22) rfl rfl ?_
  refine g_iload ok rfl ?_
  refine g_aload_n ok rfl rfl ?_
  refine g_getr ok 6036 rfl rfl rfl ?_
  refine g_bipush ok (v := 13) rfl ?_
  refine g_ialoadc ok (n := 740) 13 rfl rfl rfl ?_
  refine g_ic_ge ok rfl (fun _ => ?_) (fun _ => ?_)
  · refine g_rb gs_257 5 (cd' := gb_257_34) rfl rfl ?_
    refine g_aload_n ok rfl rfl ?_
    refine g_geti ok rfl rfl ?_
    refine g_if_ne ok rfl (fun _ => ?_) (fun _ => ?_)
    · refine g_rb gs_257 6 (cd' := gb_257_41) rfl rfl ?_
      refine g_iload_n ok rfl ?_
      refine g_aload_n ok rfl rfl ?_
      refine g_iload ok rfl ?_
      refine g_iconst ok (v := 1) rfl ?_
      refine g_cv1 ok (me_256 hX) rfl rfl rfl rfl (t_256 ok hX _ x0 x4 1 s) (fun v6 s5 => ?_)
      refine g_iload_n ok rfl ?_
      refine g_ic_ne ok rfl (fun _ => ?_) (fun _ => ?_)
      · refine g_rb gs_257 7 (cd' := gb_257_53) rfl rfl ?_
        refine g_iload_n ok rfl ?_
        refine g_if_eq ok rfl (fun _ => ?_) (fun _ => ?_)
        · refine g_rb gs_257 9 (cd' := gb_257_68) rfl rfl ?_
          refine g_iconst ok (v := 1) rfl ?_
          refine g_goto ok rfl ?_
          refine g_rb gs_257 11 (cd' := gb_257_73) rfl rfl ?_
          refine g_iadd ok ?_
          refine g_istore_n ok rfl (L' := [(0, (28, 0, x0)), (1, (0, x1, 0)), (2, (0, x2, 0)), (3, (0, (g32 (x3 + 1)), 0)), (4, (0, x4, 0))]) rfl ?_
          refine g_iinc ok rfl rfl (L' := [(0, (28, 0, x0)), (1, (0, x1, 0)), (2, (0, x2, 0)), (3, (0, (g32 (x3 + 1)), 0)), (4, (0, (g32 (x4 + 1)), 0))]) rfl ?_
          refine g_goto ok rfl ?_
          exact g_wk ok [(0, (28, 0, x0)), (1, (0, x1, 0)), (2, (0, x2, 0)), (3, (0, (g32 (x3 + 1)), 0)), (4, (0, (g32 (x4 + 1)), 0))] ⟨rfl, rfl, rfl, rfl, rfl, trivial⟩ (hl22 (x0, x1, x2, (g32 (x3 + 1)), (g32 (x4 + 1)), s5))
        · refine g_rb gs_257 8 (cd' := gb_257_57) rfl rfl ?_
          refine g_aload_n ok rfl rfl ?_
          refine g_iload ok rfl ?_
          refine g_iconst ok (v := 2) rfl ?_
          refine g_cv1 ok (me_256 hX) rfl rfl rfl rfl (t_256 ok hX _ x0 x4 2 s5) (fun v8 s7 => ?_)
          refine g_iconst ok (v := 2) rfl ?_
          refine g_ic_ne ok rfl (fun _ => ?_) (fun _ => ?_)
          · refine g_rb gs_257 9 (cd' := gb_257_68) rfl rfl ?_
            refine g_iconst ok (v := 1) rfl ?_
            refine g_goto ok rfl ?_
            refine g_rb gs_257 11 (cd' := gb_257_73) rfl rfl ?_
            refine g_iadd ok ?_
            refine g_istore_n ok rfl (L' := [(0, (28, 0, x0)), (1, (0, x1, 0)), (2, (0, x2, 0)), (3, (0, (g32 (x3 + 1)), 0)), (4, (0, x4, 0))]) rfl ?_
            refine g_iinc ok rfl rfl (L' := [(0, (28, 0, x0)), (1, (0, x1, 0)), (2, (0, x2, 0)), (3, (0, (g32 (x3 + 1)), 0)), (4, (0, (g32 (x4 + 1)), 0))]) rfl ?_
            refine g_goto ok rfl ?_
            exact g_wk ok [(0, (28, 0, x0)), (1, (0, x1, 0)), (2, (0, x2, 0)), (3, (0, (g32 (x3 + 1)), 0)), (4, (0, (g32 (x4 + 1)), 0))] ⟨rfl, rfl, rfl, rfl, rfl, trivial⟩ (hl22 (x0, x1, x2, (g32 (x3 + 1)), (g32 (x4 + 1)), s7))
          · exact g_wk ok [(0, (28, 0, x0)), (1, (0, x1, 0)), (2, (0, x2, 0)), (4, (0, x4, 0))] ⟨rfl, rfl, rfl, rfl, trivial⟩ (tb_257_72 ok hX d hl22 hr22 x0 x1 x2 x4 x3 s7)
      · exact g_wk ok [(0, (28, 0, x0)), (1, (0, x1, 0)), (2, (0, x2, 0)), (4, (0, x4, 0))] ⟨rfl, rfl, rfl, rfl, trivial⟩ (tb_257_72 ok hX d hl22 hr22 x0 x1 x2 x4 x3 s5)
    · refine g_map hr22 ?_
      refine g_rb gs_257 12 (cd' := gb_257_81) rfl rfl ?_
      refine g_iload_n ok rfl ?_
      exact g_ireturn ok rfl rfl (rfl)
  · refine g_map hr22 ?_
    refine g_rb gs_257 12 (cd' := gb_257_81) rfl rfl ?_
    refine g_iload_n ok rfl ?_
    exact g_ireturn ok rfl rfl (rfl)
theorem tl_257_22 {X : gX} (ok : gOK X) (hX : gHX X) (d : Nat)  (y : (Nat × Int × Int × Int × Int × gS)) : Go X em_257 257 (d + 2) 22 [] [(0, (28, 0, y.1)), (1, (0, y.2.1, 0)), (2, (0, y.2.2.1, 0)), (3, (0, y.2.2.2.1, 0)), (4, (0, y.2.2.2.2.1, 0))] [] y.2.2.2.2.2 0 0 (gloop (st_257_22) y) some :=
  g_loop (Lh := fun y => [(0, (28, 0, y.1)), (1, (0, y.2.1, 0)), (2, (0, y.2.2.1, 0)), (3, (0, y.2.2.2.1, 0)), (4, (0, y.2.2.2.2.1, 0))]) (sh := fun y => y.2.2.2.2.2) (fun k22 hl22 hr22 y => ts_257_22 ok hX d  hl22 hr22 y.1 y.2.1 y.2.2.1 y.2.2.2.1 y.2.2.2.2.1 y.2.2.2.2.2) y
theorem tb_257_14 {X : gX} (ok : gOK X) (hX : gHX X) (d : Nat)  (x0 : Nat) (x1 : Int) (x2 : Int) (w0 : Int) (w1 : Nat) (s : gS) : Go X em_257 257 (d + 2) 14 [] [(0, (28, 0, x0)), (1, (0, x1, 0)), (2, (0, x2, 0))] [(0, w0, 0), (28, 0, w1)] s 0 0 (fb_257_14 x0 x1 x2 w0 w1 s) some := by
  delta fb_257_14
  refine g_rb gs_257 3 (cd' := gb_257_14) rfl rfl ?_
  refine g_puti ok rfl rfl rfl ?_
  let s4 : gS := gw s w1 0 w0
  refine g_iconst ok (v := 0) rfl ?_
  refine g_istore_n ok rfl (L' := [(0, (28, 0, x0)), (1, (0, x1, 0)), (2, (0, x2, 0)), (3, (0, 0, 0))]) rfl ?_
  refine g_iconst ok (v := 0) rfl ?_
  refine g_istore ok rfl (L' := [(0, (28, 0, x0)), (1, (0, x1, 0)), (2, (0, x2, 0)), (3, (0, 0, 0)), (4, (0, 0, 0))]) rfl ?_
  exact g_wk ok [(0, (28, 0, x0)), (1, (0, x1, 0)), (2, (0, x2, 0)), (3, (0, 0, 0)), (4, (0, 0, 0))] ⟨rfl, rfl, rfl, rfl, rfl, trivial⟩ (tl_257_22 ok hX d  (x0, x1, x2, 0, 0, s4))
theorem t_257 {X : gX} (ok : gOK X) (hX : gHX X) (d : Nat) (a0 : Nat) (a1 : Int) (a2 : Int) (s : gS) : Go X em_257 257 (d + 2) 0 [] [(0, (28, 0, a0)), (1, (0, a1, 0)), (2, (0, a2, 0))] [] s 0 0 (f_257 a0 a1 a2 s) some := by
  delta f_257
  refine g_rb gs_257 0 (cd' := gb_257_0) rfl rfl ?_
  refine g_aload_n ok rfl rfl ?_
  refine g_aload_n ok rfl rfl ?_
  refine g_iload_n ok rfl ?_
  refine g_cvz ok (me_162 hX) rfl rfl rfl rfl (t_162 ok hX _ a0 a1 s) (fun v2 s1 hb3 => ?_)
  refine g_if_ne ok rfl (fun _ => ?_) (fun _ => ?_)
  · refine g_rb gs_257 1 (cd' := gb_257_9) rfl rfl ?_
    refine g_iconst ok (v := 1) rfl ?_
    refine g_goto ok rfl ?_
    exact g_wk ok [(0, (28, 0, a0)), (1, (0, a1, 0)), (2, (0, a2, 0))] ⟨rfl, rfl, rfl, trivial⟩ (tb_257_14 ok hX d  a0 a1 a2 1 a0 s1)
  · refine g_rb gs_257 2 (cd' := gb_257_13) rfl rfl ?_
    refine g_iconst ok (v := 0) rfl ?_
    exact g_wk ok [(0, (28, 0, a0)), (1, (0, a1, 0)), (2, (0, a2, 0))] ⟨rfl, rfl, rfl, trivial⟩ (tb_257_14 ok hX d  a0 a1 a2 0 a0 s1)
-- X12_log
theorem tb_258_15 {X : gX} (ok : gOK X) (hX : gHX X) (d : Nat)  (x0 : Nat) (x1 : Int) (x2 : Int) (w0 : Int) (w1 : Nat) (s : gS) : Go X em_258 258 (d + 1) 15 [] [(0, (28, 0, x0)), (1, (0, x1, 0)), (2, (0, x2, 0))] [(0, w0, 0), (28, 0, w1)] s 0 0 (fb_258_15 x0 x1 x2 w0 w1 s) some := by
  delta fb_258_15
  refine g_rb gs_258 3 (cd' := gb_258_15) rfl rfl ?_
  refine g_puti ok rfl rfl rfl ?_
  let s4 : gS := gw s w1 0 w0
  refine g_aload_n ok rfl rfl ?_
  refine g_geti ok rfl rfl ?_
  refine g_if_le ok rfl (fun _ => ?_) (fun _ => ?_)
  · refine g_rb gs_258 4 (cd' := gb_258_25) rfl rfl ?_
    refine g_iconst ok (v := 0) rfl ?_
    exact g_ireturn ok rfl rfl (rfl)
  · refine g_rb gs_258 5 (cd' := gb_258_27) rfl rfl ?_
    refine g_iload_n ok rfl ?_
    refine g_iconst ok (v := 0) rfl ?_
    refine g_aload_n ok rfl rfl ?_
    refine g_getr ok 6036 rfl rfl rfl ?_
    refine g_bipush ok (v := 13) rfl ?_
    refine g_ialoadc ok (n := 740) 13 rfl rfl rfl ?_
    refine g_iconst ok (v := 1) rfl ?_
    refine g_isub ok ?_
    refine g_csz ok (me_150 hX) rfl rfl rfl (t_150 ok hX _ x1 0 (g32 ((gI s4 (gR s4 x0 1) 13) - 1)) s4) (fun v6 s5 hb7 => ?_)
    refine g_if_eq ok rfl (fun _ => ?_) (fun _ => ?_)
    · refine g_rb gs_258 7 (cd' := gb_258_53) rfl rfl ?_
      refine g_iconst ok (v := (-1)) rfl ?_
      refine g_rb gs_258 8 (cd' := gb_258_54) rfl rfl ?_
      exact g_ireturn ok rfl rfl (rfl)
    · refine g_rb gs_258 6 (cd' := gb_258_44) rfl rfl ?_
      refine g_aload_n ok rfl rfl ?_
      refine g_iload_n ok rfl ?_
      refine g_iload_n ok rfl ?_
      refine g_cv1 ok (me_256 hX) rfl rfl rfl rfl (t_256 ok hX _ x0 x1 x2 s5) (fun v9 s8 => ?_)
      refine g_goto ok rfl ?_
      refine g_rb gs_258 8 (cd' := gb_258_54) rfl rfl ?_
      exact g_ireturn ok rfl rfl (rfl)
theorem t_258 {X : gX} (ok : gOK X) (hX : gHX X) (d : Nat) (a0 : Nat) (a1 : Int) (a2 : Int) (s : gS) : Go X em_258 258 (d + 1) 0 [] [(0, (28, 0, a0)), (1, (0, a1, 0)), (2, (0, a2, 0))] [] s 0 0 (f_258 a0 a1 a2 s) some := by
  delta f_258
  refine g_rb gs_258 0 (cd' := gb_258_0) rfl rfl ?_
  refine g_aload_n ok rfl rfl ?_
  refine g_iload_n ok rfl ?_
  refine g_iconst ok (v := 0) rfl ?_
  refine g_iconst ok (v := 3) rfl ?_
  refine g_csz ok (me_150 hX) rfl rfl rfl (t_150 ok hX _ a2 0 3 s) (fun v2 s1 hb3 => ?_)
  refine g_if_ne ok rfl (fun _ => ?_) (fun _ => ?_)
  · refine g_rb gs_258 1 (cd' := gb_258_10) rfl rfl ?_
    refine g_iconst ok (v := 1) rfl ?_
    refine g_goto ok rfl ?_
    exact g_wk ok [(0, (28, 0, a0)), (1, (0, a1, 0)), (2, (0, a2, 0))] ⟨rfl, rfl, rfl, trivial⟩ (tb_258_15 ok hX d  a0 a1 a2 1 a0 s1)
  · refine g_rb gs_258 2 (cd' := gb_258_14) rfl rfl ?_
    refine g_iconst ok (v := 0) rfl ?_
    exact g_wk ok [(0, (28, 0, a0)), (1, (0, a1, 0)), (2, (0, a2, 0))] ⟨rfl, rfl, rfl, trivial⟩ (tb_258_15 ok hX d  a0 a1 a2 0 a0 s1)
-- X12_seed
theorem t_259 {X : gX} (ok : gOK X) (hX : gHX X) (d : Nat) (a0 : Nat) (a1 : Int) (s : gS) : Go X em_259 259 d 0 [] [(0, (28, 0, a0)), (1, (0, a1, 0))] [] s 0 0 (f_259 a0 a1 s) some := by
  delta f_259
  refine g_rb gs_259 0 (cd' := gb_259_0) rfl rfl ?_
  refine g_aload_n ok rfl rfl ?_
  refine g_iconst ok (v := 0) rfl ?_
  refine g_puti ok rfl rfl rfl ?_
  let s1 : gS := gw s a0 0 0
  refine g_aload_n ok rfl rfl ?_
  refine g_getr ok 6036 rfl rfl rfl ?_
  refine g_bipush ok (v := 14) rfl ?_
  refine g_ialoadc ok (n := 740) 14 rfl rfl rfl ?_
  let v2 : Int := (gI s1 (gR s1 a0 1) 14)
  refine g_istore_n ok rfl (L' := [(0, (28, 0, a0)), (1, (0, a1, 0)), (2, (0, v2, 0))]) rfl ?_
  refine g_aload_n ok rfl rfl ?_
  refine g_getr ok 6036 rfl rfl rfl ?_
  refine g_bipush ok (v := 14) rfl ?_
  refine g_iload_n ok rfl ?_
  refine g_iastorec ok (n := 740) 14 rfl rfl rfl ?_
  let s3 : gS := gw s1 (gR s1 a0 1) 14 a1
  refine g_iload_n ok rfl ?_
  exact g_ireturn ok rfl rfl (rfl)
-- X12_undo
theorem ts_260_26 {X : gX} (ok : gOK X) (hX : gHX X) (d : Nat) {k26 : (Nat × Int × gS) ⊕ gO → Option gO} (hl26 : ∀ y : (Nat × Int × gS), Go X em_260 260 d 26 [] [(0, (28, 0, y.1)), (1, (0, y.2.1, 0))] [] y.2.2 0 0 (some (Sum.inl y)) k26) (hr26 : ∀ q, k26 (Sum.inr q) = some q) (x0 : Nat) (x1 : Int) (s : gS) : Go X em_260 260 d 26 [] [(0, (28, 0, x0)), (1, (0, x1, 0))] [] s 0 0 (sb_260_26 x0 x1 s) k26 := by
  delta sb_260_26
  refine g_rb gs_260 3 (cd' := gb_260_26) rfl rfl ?_
  refine g_iload_n ok rfl ?_
  refine g_sipush ok (v := 340) rfl ?_
  refine g_ic_ge ok rfl (fun _ => ?_) (fun _ => ?_)
  · refine g_rb gs_260 4 (cd' := gb_260_33) rfl rfl ?_
    refine g_aload_n ok rfl rfl ?_
    refine g_getr ok 6036 rfl rfl rfl ?_
    refine g_iload_n ok rfl ?_
    refine g_aload_n ok rfl rfl ?_
    refine g_getr ok 32756 rfl rfl rfl ?_
    refine g_sipush ok (v := 340) rfl ?_
    refine g_aload_n ok rfl rfl ?_
    refine g_geti ok rfl rfl ?_
    refine g_imul ok ?_
    refine g_iload_n ok rfl ?_
    refine g_iadd ok ?_
    refine g_iaload ok (n := 4080) rfl rfl (fun _ _ => ?_)
    refine g_iastore ok (n := 740) rfl rfl (fun _ _ => ?_)
    let s3 : gS := gw s (gR s x0 1) (x1 : Int).toNat (gI s (gR s x0 5) ((g32 ((g32 (340 * (gI s x0 6))) + x1)) : Int).toNat)
    refine g_iinc ok rfl rfl (L' := [(0, (28, 0, x0)), (1, (0, (g32 (x1 + 1)), 0))]) rfl ?_
    refine g_goto ok rfl ?_
    exact g_wk ok [(0, (28, 0, x0)), (1, (0, (g32 (x1 + 1)), 0))] ⟨rfl, rfl, trivial⟩ (hl26 (x0, (g32 (x1 + 1)), s3))
  · refine g_map hr26 ?_
    refine g_rb gs_260 5 (cd' := gb_260_60) rfl rfl ?_
    refine g_iconst ok (v := 1) rfl ?_
    exact g_zreturn ok rfl (Or.inr rfl) rfl (rfl)
theorem tl_260_26 {X : gX} (ok : gOK X) (hX : gHX X) (d : Nat)  (y : (Nat × Int × gS)) : Go X em_260 260 d 26 [] [(0, (28, 0, y.1)), (1, (0, y.2.1, 0))] [] y.2.2 0 0 (gloop (st_260_26) y) some :=
  g_loop (Lh := fun y => [(0, (28, 0, y.1)), (1, (0, y.2.1, 0))]) (sh := fun y => y.2.2) (fun k26 hl26 hr26 y => ts_260_26 ok hX d  hl26 hr26 y.1 y.2.1 y.2.2) y
theorem t_260 {X : gX} (ok : gOK X) (hX : gHX X) (d : Nat) (a0 : Nat) (s : gS) : Go X em_260 260 d 0 [] [(0, (28, 0, a0))] [] s 0 0 (f_260 a0 s) some := by
  delta f_260
  refine g_rb gs_260 0 (cd' := gb_260_0) rfl rfl ?_
  refine g_aload_n ok rfl rfl ?_
  refine g_iconst ok (v := 0) rfl ?_
  refine g_puti ok rfl rfl rfl ?_
  let s1 : gS := gw s a0 0 0
  refine g_aload_n ok rfl rfl ?_
  refine g_geti ok rfl rfl ?_
  refine g_if_ne ok rfl (fun _ => ?_) (fun _ => ?_)
  · refine g_rb gs_260 1 (cd' := gb_260_12) rfl rfl ?_
    refine g_iconst ok (v := 0) rfl ?_
    exact g_zreturn ok rfl (Or.inl rfl) rfl (rfl)
  · refine g_rb gs_260 2 (cd' := gb_260_14) rfl rfl ?_
    refine g_aload_n ok rfl rfl ?_
    refine g_dup ok rfl ?_
    refine g_geti ok rfl rfl ?_
    refine g_iconst ok (v := 1) rfl ?_
    refine g_isub ok ?_
    refine g_puti ok rfl rfl rfl ?_
    let s2 : gS := gw s1 a0 6 (g32 ((gI s1 a0 6) - 1))
    refine g_iconst ok (v := 0) rfl ?_
    refine g_istore_n ok rfl (L' := [(0, (28, 0, a0)), (1, (0, 0, 0))]) rfl ?_
    exact g_wk ok [(0, (28, 0, a0)), (1, (0, 0, 0))] ⟨rfl, rfl, trivial⟩ (tl_260_26 ok hX d  (a0, 0, s2))
-- X12_image
theorem ts_261_7 {X : gX} (ok : gOK X) (hX : gHX X) (d : Nat) {k7 : (Nat × Int × gS) ⊕ gO → Option gO} (hl7 : ∀ y : (Nat × Int × gS), Go X em_261 261 d 7 [] [(0, (28, 0, y.1)), (1, (0, y.2.1, 0))] [] y.2.2 0 0 (some (Sum.inl y)) k7) (hr7 : ∀ q, k7 (Sum.inr q) = some q) (x0 : Nat) (x1 : Int) (s : gS) : Go X em_261 261 d 7 [] [(0, (28, 0, x0)), (1, (0, x1, 0))] [] s 0 0 (sb_261_7 x0 x1 s) k7 := by
  delta sb_261_7
  refine g_rb gs_261 1 (cd' := gb_261_7) rfl rfl ?_
  refine g_iload_n ok rfl ?_
  refine g_sipush ok (v := 740) rfl ?_
  refine g_ic_ge ok rfl (fun _ => ?_) (fun _ => ?_)
  · refine g_rb gs_261 2 (cd' := gb_261_14) rfl rfl ?_
    refine g_aload_n ok rfl rfl ?_
    refine g_getr ok 6036 rfl rfl rfl ?_
    refine g_iload_n ok rfl ?_
    refine g_aload_n ok rfl rfl ?_
    refine g_getr ok 6036 rfl rfl rfl ?_
    refine g_iload_n ok rfl ?_
    refine g_iaload ok (n := 740) rfl rfl (fun _ _ => ?_)
    refine g_iastore ok (n := 740) rfl rfl (fun _ _ => ?_)
    let s2 : gS := gw s (gR s x0 2) (x1 : Int).toNat (gI s (gR s x0 1) (x1 : Int).toNat)
    refine g_iinc ok rfl rfl (L' := [(0, (28, 0, x0)), (1, (0, (g32 (x1 + 1)), 0))]) rfl ?_
    refine g_goto ok rfl ?_
    exact g_wk ok [(0, (28, 0, x0)), (1, (0, (g32 (x1 + 1)), 0))] ⟨rfl, rfl, trivial⟩ (hl7 (x0, (g32 (x1 + 1)), s2))
  · refine g_map hr7 ?_
    refine g_rb gs_261 3 (cd' := gb_261_32) rfl rfl ?_
    refine g_aload_n ok rfl rfl ?_
    refine g_iconst ok (v := 1) rfl ?_
    refine g_putz ok rfl rfl rfl (fun _ => ?_)
    let s3 : gS := gw s x0 3 1
    exact g_return ok rfl rfl (rfl)
theorem tl_261_7 {X : gX} (ok : gOK X) (hX : gHX X) (d : Nat)  (y : (Nat × Int × gS)) : Go X em_261 261 d 7 [] [(0, (28, 0, y.1)), (1, (0, y.2.1, 0))] [] y.2.2 0 0 (gloop (st_261_7) y) some :=
  g_loop (Lh := fun y => [(0, (28, 0, y.1)), (1, (0, y.2.1, 0))]) (sh := fun y => y.2.2) (fun k7 hl7 hr7 y => ts_261_7 ok hX d  hl7 hr7 y.1 y.2.1 y.2.2) y
theorem t_261 {X : gX} (ok : gOK X) (hX : gHX X) (d : Nat) (a0 : Nat) (s : gS) : Go X em_261 261 d 0 [] [(0, (28, 0, a0))] [] s 0 0 (f_261 a0 s) some := by
  delta f_261
  refine g_rb gs_261 0 (cd' := gb_261_0) rfl rfl ?_
  refine g_aload_n ok rfl rfl ?_
  refine g_iconst ok (v := 0) rfl ?_
  refine g_puti ok rfl rfl rfl ?_
  let s1 : gS := gw s a0 0 0
  refine g_iconst ok (v := 0) rfl ?_
  refine g_istore_n ok rfl (L' := [(0, (28, 0, a0)), (1, (0, 0, 0))]) rfl ?_
  exact g_wk ok [(0, (28, 0, a0)), (1, (0, 0, 0))] ⟨rfl, rfl, trivial⟩ (tl_261_7 ok hX d  (a0, 0, s1))
-- X12_back
theorem ts_262_16 {X : gX} (ok : gOK X) (hX : gHX X) (d : Nat) {k16 : (Nat × Int × gS) ⊕ gO → Option gO} (hl16 : ∀ y : (Nat × Int × gS), Go X em_262 262 d 16 [] [(0, (28, 0, y.1)), (1, (0, y.2.1, 0))] [] y.2.2 0 0 (some (Sum.inl y)) k16) (hr16 : ∀ q, k16 (Sum.inr q) = some q) (x0 : Nat) (x1 : Int) (s : gS) : Go X em_262 262 d 16 [] [(0, (28, 0, x0)), (1, (0, x1, 0))] [] s 0 0 (sb_262_16 x0 x1 s) k16 := by
  delta sb_262_16
  refine g_rb gs_262 3 (cd' := gb_262_16) rfl rfl ?_
  refine g_iload_n ok rfl ?_
  refine g_sipush ok (v := 740) rfl ?_
  refine g_ic_ge ok rfl (fun _ => ?_) (fun _ => ?_)
  · refine g_rb gs_262 4 (cd' := gb_262_23) rfl rfl ?_
    refine g_aload_n ok rfl rfl ?_
    refine g_getr ok 6036 rfl rfl rfl ?_
    refine g_iload_n ok rfl ?_
    refine g_aload_n ok rfl rfl ?_
    refine g_getr ok 6036 rfl rfl rfl ?_
    refine g_iload_n ok rfl ?_
    refine g_iaload ok (n := 740) rfl rfl (fun _ _ => ?_)
    refine g_iastore ok (n := 740) rfl rfl (fun _ _ => ?_)
    let s2 : gS := gw s (gR s x0 1) (x1 : Int).toNat (gI s (gR s x0 2) (x1 : Int).toNat)
    refine g_iinc ok rfl rfl (L' := [(0, (28, 0, x0)), (1, (0, (g32 (x1 + 1)), 0))]) rfl ?_
    refine g_goto ok rfl ?_
    exact g_wk ok [(0, (28, 0, x0)), (1, (0, (g32 (x1 + 1)), 0))] ⟨rfl, rfl, trivial⟩ (hl16 (x0, (g32 (x1 + 1)), s2))
  · refine g_map hr16 ?_
    refine g_rb gs_262 5 (cd' := gb_262_41) rfl rfl ?_
    refine g_aload_n ok rfl rfl ?_
    refine g_iconst ok (v := 0) rfl ?_
    refine g_puti ok rfl rfl rfl ?_
    let s3 : gS := gw s x0 6 0
    refine g_iconst ok (v := 1) rfl ?_
    exact g_zreturn ok rfl (Or.inr rfl) rfl (rfl)
theorem tl_262_16 {X : gX} (ok : gOK X) (hX : gHX X) (d : Nat)  (y : (Nat × Int × gS)) : Go X em_262 262 d 16 [] [(0, (28, 0, y.1)), (1, (0, y.2.1, 0))] [] y.2.2 0 0 (gloop (st_262_16) y) some :=
  g_loop (Lh := fun y => [(0, (28, 0, y.1)), (1, (0, y.2.1, 0))]) (sh := fun y => y.2.2) (fun k16 hl16 hr16 y => ts_262_16 ok hX d  hl16 hr16 y.1 y.2.1 y.2.2) y
theorem t_262 {X : gX} (ok : gOK X) (hX : gHX X) (d : Nat) (a0 : Nat) (s : gS) : Go X em_262 262 d 0 [] [(0, (28, 0, a0))] [] s 0 0 (f_262 a0 s) some := by
  delta f_262
  refine g_rb gs_262 0 (cd' := gb_262_0) rfl rfl ?_
  refine g_aload_n ok rfl rfl ?_
  refine g_iconst ok (v := 0) rfl ?_
  refine g_puti ok rfl rfl rfl ?_
  let s1 : gS := gw s a0 0 0
  refine g_aload_n ok rfl rfl ?_
  refine g_geti ok rfl rfl ?_
  refine g_if_ne ok rfl (fun _ => ?_) (fun _ => ?_)
  · refine g_rb gs_262 1 (cd' := gb_262_12) rfl rfl ?_
    refine g_iconst ok (v := 0) rfl ?_
    exact g_zreturn ok rfl (Or.inl rfl) rfl (rfl)
  · refine g_rb gs_262 2 (cd' := gb_262_14) rfl rfl ?_
    refine g_iconst ok (v := 0) rfl ?_
    refine g_istore_n ok rfl (L' := [(0, (28, 0, a0)), (1, (0, 0, 0))]) rfl ?_
    exact g_wk ok [(0, (28, 0, a0)), (1, (0, 0, 0))] ⟨rfl, rfl, trivial⟩ (tl_262_16 ok hX d  (a0, 0, s1))
-- X12_count
theorem ts_263_95 {X : gX} (ok : gOK X) (hX : gHX X) (d : Nat) {k95 : (Nat × Int × Int × gS) ⊕ gO → Option gO} (hl95 : ∀ y : (Nat × Int × Int × gS), Go X em_263 263 (d + 2) 95 [] [(0, (28, 0, y.1)), (2, (0, y.2.1, 0)), (3, (0, y.2.2.1, 0))] [] y.2.2.2 0 0 (some (Sum.inl y)) k95) (hr95 : ∀ q, k95 (Sum.inr q) = some q) (x0 : Nat) (x2 : Int) (x3 : Int) (s : gS) : Go X em_263 263 (d + 2) 95 [] [(0, (28, 0, x0)), (2, (0, x2, 0)), (3, (0, x3, 0))] [] s 0 0 (sb_263_95 x0 x2 x3 s) k95 := by
  delta sb_263_95
  refine g_rb gs_263 12 (cd' := gb_263_95) rfl rfl ?_
  refine g_iload_n ok rfl ?_
  refine g_aload_n ok rfl rfl ?_
  refine g_getr ok 6036 rfl rfl rfl ?_
  refine g_iconst ok (v := 4) rfl ?_
  refine g_ialoadc ok (n := 740) 4 rfl rfl rfl ?_
  refine g_ic_ge ok rfl (fun _ => ?_) (fun _ => ?_)
  · refine g_rb gs_263 13 (cd' := gb_263_105) rfl rfl ?_
    refine g_iload_n ok rfl ?_
    refine g_aload_n ok rfl rfl ?_
    refine g_iload_n ok rfl ?_
    refine g_cvz ok (me_165 hX) rfl rfl rfl rfl (t_165 ok hX _ x0 x3 s) (fun v9 s8 hb10 => ?_)
    refine g_if_eq ok rfl (fun _ => ?_) (fun _ => ?_)
    · refine g_rb gs_263 15 (cd' := gb_263_123) rfl rfl ?_
      refine g_iconst ok (v := 0) rfl ?_
      refine g_rb gs_263 16 (cd' := gb_263_124) rfl rfl ?_
      refine g_iadd ok ?_
      refine g_istore_n ok rfl (L' := [(0, (28, 0, x0)), (2, (0, (g32 (x2 + 0)), 0)), (3, (0, x3, 0))]) rfl ?_
      refine g_iinc ok rfl rfl (L' := [(0, (28, 0, x0)), (2, (0, (g32 (x2 + 0)), 0)), (3, (0, (g32 (x3 + 1)), 0))]) rfl ?_
      refine g_goto ok rfl ?_
      exact g_wk ok [(0, (28, 0, x0)), (2, (0, (g32 (x2 + 0)), 0)), (3, (0, (g32 (x3 + 1)), 0))] ⟨rfl, rfl, rfl, trivial⟩ (hl95 (x0, (g32 (x2 + 0)), (g32 (x3 + 1)), s8))
    · refine g_rb gs_263 14 (cd' := gb_263_114) rfl rfl ?_
      refine g_aload_n ok rfl rfl ?_
      refine g_iload_n ok rfl ?_
      refine g_iconst ok (v := 0) rfl ?_
      refine g_cv1 ok (me_156 hX) rfl rfl rfl rfl (t_156 ok hX _ x0 x3 0 s8) (fun v12 s11 => ?_)
      refine g_goto ok rfl ?_
      refine g_rb gs_263 16 (cd' := gb_263_124) rfl rfl ?_
      refine g_iadd ok ?_
      refine g_istore_n ok rfl (L' := [(0, (28, 0, x0)), (2, (0, (g32 (x2 + v12)), 0)), (3, (0, x3, 0))]) rfl ?_
      refine g_iinc ok rfl rfl (L' := [(0, (28, 0, x0)), (2, (0, (g32 (x2 + v12)), 0)), (3, (0, (g32 (x3 + 1)), 0))]) rfl ?_
      refine g_goto ok rfl ?_
      exact g_wk ok [(0, (28, 0, x0)), (2, (0, (g32 (x2 + v12)), 0)), (3, (0, (g32 (x3 + 1)), 0))] ⟨rfl, rfl, rfl, trivial⟩ (hl95 (x0, (g32 (x2 + v12)), (g32 (x3 + 1)), s11))
  · refine g_map hr95 ?_
    refine g_rb gs_263 17 (cd' := gb_263_132) rfl rfl ?_
    refine g_iload_n ok rfl ?_
    exact g_ireturn ok rfl rfl (rfl)
theorem tl_263_95 {X : gX} (ok : gOK X) (hX : gHX X) (d : Nat)  (y : (Nat × Int × Int × gS)) : Go X em_263 263 (d + 2) 95 [] [(0, (28, 0, y.1)), (2, (0, y.2.1, 0)), (3, (0, y.2.2.1, 0))] [] y.2.2.2 0 0 (gloop (st_263_95) y) some :=
  g_loop (Lh := fun y => [(0, (28, 0, y.1)), (2, (0, y.2.1, 0)), (3, (0, y.2.2.1, 0))]) (sh := fun y => y.2.2.2) (fun k95 hl95 hr95 y => ts_263_95 ok hX d  hl95 hr95 y.1 y.2.1 y.2.2.1 y.2.2.2) y
theorem t_263 {X : gX} (ok : gOK X) (hX : gHX X) (d : Nat) (a0 : Nat) (a1 : Int) (s : gS) : Go X em_263 263 (d + 2) 0 [] [(0, (28, 0, a0)), (1, (0, a1, 0))] [] s 0 0 (f_263 a0 a1 s) some := by
  delta f_263
  refine g_rb gs_263 0 (cd' := gb_263_0) rfl rfl ?_
  refine g_aload_n ok rfl rfl ?_
  refine g_iconst ok (v := 0) rfl ?_
  refine g_puti ok rfl rfl rfl ?_
  let s1 : gS := gw s a0 0 0
  refine g_iload_n ok rfl ?_
  refine g_iconst ok (v := 0) rfl ?_
  refine g_iconst ok (v := 3) rfl ?_
  refine g_csz ok (me_150 hX) rfl rfl rfl (t_150 ok hX _ a1 0 3 s1) (fun v3 s2 hb4 => ?_)
  refine g_if_eq ok rfl (fun _ => ?_) (fun _ => ?_)
  · refine g_rb gs_263 2 (cd' := gb_263_23) rfl rfl ?_
    refine g_iload_n ok rfl ?_
    refine g_iconst ok (v := 4) rfl ?_
    refine g_ic_ne ok rfl (fun _ => ?_) (fun _ => ?_)
    · refine g_rb gs_263 3 (cd' := gb_263_28) rfl rfl ?_
      refine g_aload_n ok rfl rfl ?_
      refine g_getr ok 6036 rfl rfl rfl ?_
      refine g_iconst ok (v := 0) rfl ?_
      refine g_ialoadc ok (n := 740) 0 rfl rfl rfl ?_
      exact g_ireturn ok rfl rfl (rfl)
    · refine g_rb gs_263 4 (cd' := gb_263_35) rfl rfl ?_
      refine g_iload_n ok rfl ?_
      refine g_iconst ok (v := 5) rfl ?_
      refine g_ic_ne ok rfl (fun _ => ?_) (fun _ => ?_)
      · refine g_rb gs_263 5 (cd' := gb_263_40) rfl rfl ?_
        refine g_aload_n ok rfl rfl ?_
        refine g_getr ok 6036 rfl rfl rfl ?_
        refine g_iconst ok (v := 1) rfl ?_
        refine g_ialoadc ok (n := 740) 1 rfl rfl rfl ?_
        exact g_ireturn ok rfl rfl (rfl)
      · refine g_rb gs_263 6 (cd' := gb_263_47) rfl rfl ?_
        refine g_iload_n ok rfl ?_
        refine g_bipush ok (v := 6) rfl ?_
        refine g_ic_ne ok rfl (fun _ => ?_) (fun _ => ?_)
        · refine g_rb gs_263 7 (cd' := gb_263_53) rfl rfl ?_
          refine g_aload_n ok rfl rfl ?_
          refine g_getr ok 6036 rfl rfl rfl ?_
          refine g_bipush ok (v := 7) rfl ?_
          refine g_ialoadc ok (n := 740) 7 rfl rfl rfl ?_
          exact g_ireturn ok rfl rfl (rfl)
        · refine g_rb gs_263 8 (cd' := gb_263_61) rfl rfl ?_
          refine g_iload_n ok rfl ?_
          refine g_bipush ok (v := 7) rfl ?_
          refine g_bipush ok (v := 11) rfl ?_
          refine g_csz ok (me_150 hX) rfl rfl rfl (t_150 ok hX _ a1 7 11 s2) (fun v6 s5 hb7 => ?_)
          refine g_if_eq ok rfl (fun _ => ?_) (fun _ => ?_)
          · refine g_rb gs_263 10 (cd' := gb_263_85) rfl rfl ?_
            refine g_iload_n ok rfl ?_
            refine g_bipush ok (v := 12) rfl ?_
            refine g_ic_ne ok rfl (fun _ => ?_) (fun _ => ?_)
            · refine g_rb gs_263 11 (cd' := gb_263_91) rfl rfl ?_
              refine g_iconst ok (v := 0) rfl ?_
              refine g_istore_n ok rfl (L' := [(0, (28, 0, a0)), (1, (0, a1, 0)), (2, (0, 0, 0))]) rfl ?_
              refine g_iconst ok (v := 0) rfl ?_
              refine g_istore_n ok rfl (L' := [(0, (28, 0, a0)), (1, (0, a1, 0)), (2, (0, 0, 0)), (3, (0, 0, 0))]) rfl ?_
              exact g_wk ok [(0, (28, 0, a0)), (2, (0, 0, 0)), (3, (0, 0, 0))] ⟨rfl, rfl, rfl, trivial⟩ (tl_263_95 ok hX d  (a0, 0, 0, s5))
            · refine g_rb gs_263 18 (cd' := gb_263_134) rfl rfl ?_
              refine g_iload_n ok rfl ?_
              refine g_bipush ok (v := 13) rfl ?_
              refine g_ic_ne ok rfl (fun _ => ?_) (fun _ => ?_)
              · refine g_rb gs_263 19 (cd' := gb_263_140) rfl rfl ?_
                refine g_aload_n ok rfl rfl ?_
                refine g_getr ok 6036 rfl rfl rfl ?_
                refine g_bipush ok (v := 13) rfl ?_
                refine g_ialoadc ok (n := 740) 13 rfl rfl rfl ?_
                exact g_ireturn ok rfl rfl (rfl)
              · refine g_rb gs_263 20 (cd' := gb_263_148) rfl rfl ?_
                refine g_iload_n ok rfl ?_
                refine g_bipush ok (v := 14) rfl ?_
                refine g_ic_ne ok rfl (fun _ => ?_) (fun _ => ?_)
                · refine g_rb gs_263 21 (cd' := gb_263_154) rfl rfl ?_
                  refine g_aload_n ok rfl rfl ?_
                  refine g_geti ok rfl rfl ?_
                  refine g_goto ok rfl ?_
                  refine g_rb gs_263 23 (cd' := gb_263_162) rfl rfl ?_
                  exact g_ireturn ok rfl rfl (rfl)
                · refine g_rb gs_263 22 (cd' := gb_263_161) rfl rfl ?_
                  refine g_iconst ok (v := (-1)) rfl ?_
                  refine g_rb gs_263 23 (cd' := gb_263_162) rfl rfl ?_
                  exact g_ireturn ok rfl rfl (rfl)
          · refine g_rb gs_263 9 (cd' := gb_263_72) rfl rfl ?_
            refine g_aload_n ok rfl rfl ?_
            refine g_getr ok 6036 rfl rfl rfl ?_
            refine g_bipush ok (v := 8) rfl ?_
            refine g_iload_n ok rfl ?_
            refine g_iadd ok ?_
            refine g_bipush ok (v := 7) rfl ?_
            refine g_isub ok ?_
            refine g_iaload ok (n := 740) rfl rfl (fun _ _ => ?_)
            exact g_ireturn ok rfl rfl (rfl)
  · refine g_rb gs_263 1 (cd' := gb_263_14) rfl rfl ?_
    refine g_aload_n ok rfl rfl ?_
    refine g_getr ok 6036 rfl rfl rfl ?_
    refine g_iconst ok (v := 3) rfl ?_
    refine g_iload_n ok rfl ?_
    refine g_iadd ok ?_
    refine g_iaload ok (n := 740) rfl rfl (fun _ _ => ?_)
    exact g_ireturn ok rfl rfl (rfl)
-- X12_thrown
theorem t_310 {X : gX} (ok : gOK X) (hX : gHX X) (d : Nat) (a0 : Nat) (s : gS) : Go X em_310 310 d 0 [] [(0, (28, 0, a0))] [] s 0 0 (f_310 a0 s) some := by
  delta f_310
  refine g_rb gs_310 0 (cd' := gb_310_0) rfl rfl ?_
  refine g_aload_n ok rfl rfl ?_
  refine g_geti ok rfl rfl ?_
  exact g_ireturn ok rfl rfl (rfl)
