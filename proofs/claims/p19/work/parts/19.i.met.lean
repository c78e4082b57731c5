-- X12_bestSet
theorem tb_234_77 {X : gX} (ok : gOK X) (hX : gHX X) (d : Nat) {k5 : (Nat × Int × Int × Int × Int × gS) ⊕ gO → Option gO} (hl5 : ∀ y : (Nat × Int × Int × Int × Int × gS), Go X em_234 234 (d + 2) 5 [] [(0, (28, 0, y.1)), (1, (0, y.2.1, 0)), (2, (0, y.2.2.1, 0)), (3, (0, y.2.2.2.1, 0)), (4, (0, y.2.2.2.2.1, 0))] [] y.2.2.2.2.2 0 0 (some (Sum.inl y)) k5) (hr5 : ∀ q, k5 (Sum.inr q) = some q) (x0 : Nat) (x1 : Int) (x2 : Int) (x4 : Int) (s : gS) : Go X em_234 234 (d + 2) 77 [] [(0, (28, 0, x0)), (1, (0, x1, 0)), (2, (0, x2, 0)), (4, (0, x4, 0))] [] s 0 0 (fb_234_77 x0 x1 x2 x4 s) k5 := by
  delta fb_234_77
  refine g_rb gs_234 9 (cd' := gb_234_77) rfl rfl ?_
  refine g_iload ok rfl ?_
  refine g_istore_n ok rfl (L' := [(0, (28, 0, x0)), (1, (0, x1, 0)), (2, (0, x2, 0)), (4, (0, x4, 0)), (3, (0, x4, 0))]) rfl ?_
  refine g_rb gs_234 10 (cd' := gb_234_80) rfl rfl ?_
  refine g_iinc ok rfl rfl (L' := [(0, (28, 0, x0)), (1, (0, x1, 0)), (2, (0, x2, 0)), (4, (0, (g32 (x4 + 1)), 0)), (3, (0, x4, 0))]) rfl ?_
  refine g_goto ok rfl ?_
  exact g_wk ok [(0, (28, 0, x0)), (1, (0, x1, 0)), (2, (0, x2, 0)), (3, (0, x4, 0)), (4, (0, (g32 (x4 + 1)), 0))] ⟨rfl, rfl, rfl, rfl, rfl, trivial⟩ (hl5 (x0, x1, x2, x4, (g32 (x4 + 1)), s))
theorem ts_234_5 {X : gX} (ok : gOK X) (hX : gHX X) (d : Nat) {k5 : (Nat × Int × Int × Int × Int × gS) ⊕ gO → Option gO} (hl5 : ∀ y : (Nat × Int × Int × Int × Int × gS), Go X em_234 234 (d + 2) 5 [] [(0, (28, 0, y.1)), (1, (0, y.2.1, 0)), (2, (0, y.2.2.1, 0)), (3, (0, y.2.2.2.1, 0)), (4, (0, y.2.2.2.2.1, 0))] [] y.2.2.2.2.2 0 0 (some (Sum.inl y)) k5) (hr5 : ∀ q, k5 (Sum.inr q) = some q) (x0 : Nat) (x1 : Int) (x2 : Int) (x3 : Int) (x4 : Int) (s : gS) : Go X em_234 234 (d + 2) 5 [] [(0, (28, 0, x0)), (1, (0, x1, 0)), (2, (0, x2, 0)), (3, (0, x3, 0)), (4, (0, x4, 0))] [] s 0 0 (sb_234_5 x0 x1 x2 x3 x4 s) k5 := by
  delta sb_234_5
  refine g_rb gs_234 1 (cd' := gb_234_5) rfl rfl ?_
  refine g_iload ok rfl ?_
  refine g_iconst ok (v := 1) rfl ?_
  refine g_aload_n ok rfl rfl ?_
  refine g_getr ok 6036 rfl rfl rfl ?_
  refine g_iconst ok (v := 5) rfl ?_
  refine g_ialoadc ok (n := 740) 5 rfl rfl rfl ?_
  refine g_ishl ok ?_
  refine g_ic_ge ok rfl (fun _ => ?_) (fun _ => ?_)
  · refine g_rb gs_234 2 (cd' := gb_234_18) rfl rfl ?_
    refine g_aload_n ok rfl rfl ?_
    refine g_iload_n ok rfl ?_
    refine g_iconst ok (v := 2) rfl ?_
    refine g_cv1 ok (me_156 hX) rfl rfl rfl rfl (t_156 ok hX _ x0 x1 2 s) (fun v2 s1 => ?_)
    refine g_aload_n ok rfl rfl ?_
    refine g_iload ok rfl ?_
    refine g_cv1 ok (me_231 hX) rfl rfl rfl rfl (t_231 ok hX _ x0 x4 s1) (fun v4 s3 => ?_)
    refine g_iconst ok (v := (-1)) rfl ?_
    refine g_ixor ok ?_
    refine g_iand ok ?_
    refine g_if_eq ok rfl (fun _ => ?_) (fun _ => ?_)
    · refine g_rb gs_234 4 (cd' := gb_234_39) rfl rfl ?_
      refine g_iload_n ok rfl ?_
      refine g_iconst ok (v := (-1)) rfl ?_
      refine g_ic_eq ok rfl (fun _ => ?_) (fun _ => ?_)
      · exact g_wk ok [(0, (28, 0, x0)), (1, (0, x1, 0)), (2, (0, x2, 0)), (4, (0, x4, 0))] ⟨rfl, rfl, rfl, rfl, trivial⟩ (tb_234_77 ok hX d hl5 hr5 x0 x1 x2 x4 s3)
      · refine g_rb gs_234 5 (cd' := gb_234_44) rfl rfl ?_
        refine g_iload_n ok rfl ?_
        refine g_if_eq ok rfl (fun _ => ?_) (fun _ => ?_)
        · refine g_rb gs_234 8 (cd' := gb_234_63) rfl rfl ?_
          refine g_aload_n ok rfl rfl ?_
          refine g_iload ok rfl ?_
          refine g_cv1 ok (me_232 hX) rfl rfl rfl rfl (t_232 ok hX _ x0 x4 s3) (fun v6 s5 => ?_)
          refine g_aload_n ok rfl rfl ?_
          refine g_iload_n ok rfl ?_
          refine g_cv1 ok (me_232 hX) rfl rfl rfl rfl (t_232 ok hX _ x0 x3 s5) (fun v8 s7 => ?_)
          refine g_ic_ge ok rfl (fun _ => ?_) (fun _ => ?_)
          · exact g_wk ok [(0, (28, 0, x0)), (1, (0, x1, 0)), (2, (0, x2, 0)), (4, (0, x4, 0))] ⟨rfl, rfl, rfl, rfl, trivial⟩ (tb_234_77 ok hX d hl5 hr5 x0 x1 x2 x4 s7)
          · refine g_rb gs_234 10 (cd' := gb_234_80) rfl rfl ?_
            refine g_iinc ok rfl rfl (L' := [(0, (28, 0, x0)), (1, (0, x1, 0)), (2, (0, x2, 0)), (3, (0, x3, 0)), (4, (0, (g32 (x4 + 1)), 0))]) rfl ?_
            refine g_goto ok rfl ?_
            exact g_wk ok [(0, (28, 0, x0)), (1, (0, x1, 0)), (2, (0, x2, 0)), (3, (0, x3, 0)), (4, (0, (g32 (x4 + 1)), 0))] ⟨rfl, rfl, rfl, rfl, rfl, trivial⟩ (hl5 (x0, x1, x2, x3, (g32 (x4 + 1)), s7))
        · refine g_rb gs_234 6 (cd' := gb_234_48) rfl rfl ?_
          refine g_iload ok rfl ?_
          refine g_cs1 ok (me_154 hX) rfl rfl rfl (t_154 ok hX _ x4 s3) (fun v10 s9 => ?_)
          refine g_iload_n ok rfl ?_
          refine g_cs1 ok (me_154 hX) rfl rfl rfl (t_154 ok hX _ x3 s9) (fun v12 s11 => ?_)
          refine g_ic_ge ok rfl (fun _ => ?_) (fun _ => ?_)
          · refine g_rb gs_234 7 (cd' := gb_234_60) rfl rfl ?_
            refine g_goto ok rfl ?_
            exact g_wk ok [(0, (28, 0, x0)), (1, (0, x1, 0)), (2, (0, x2, 0)), (4, (0, x4, 0))] ⟨rfl, rfl, rfl, rfl, trivial⟩ (tb_234_77 ok hX d hl5 hr5 x0 x1 x2 x4 s11)
          · refine g_rb gs_234 10 (cd' := gb_234_80) rfl rfl ?_
            refine g_iinc ok rfl rfl (L' := [(0, (28, 0, x0)), (1, (0, x1, 0)), (2, (0, x2, 0)), (3, (0, x3, 0)), (4, (0, (g32 (x4 + 1)), 0))]) rfl ?_
            refine g_goto ok rfl ?_
            exact g_wk ok [(0, (28, 0, x0)), (1, (0, x1, 0)), (2, (0, x2, 0)), (3, (0, x3, 0)), (4, (0, (g32 (x4 + 1)), 0))] ⟨rfl, rfl, rfl, rfl, rfl, trivial⟩ (hl5 (x0, x1, x2, x3, (g32 (x4 + 1)), s11))
    · refine g_rb gs_234 3 (cd' := gb_234_36) rfl rfl ?_
      refine g_goto ok rfl ?_
      refine g_rb gs_234 10 (cd' := gb_234_80) rfl rfl ?_
      refine g_iinc ok rfl rfl (L' := [(0, (28, 0, x0)), (1, (0, x1, 0)), (2, (0, x2, 0)), (3, (0, x3, 0)), (4, (0, (g32 (x4 + 1)), 0))]) rfl ?_
      refine g_goto ok rfl ?_
      exact g_wk ok [(0, (28, 0, x0)), (1, (0, x1, 0)), (2, (0, x2, 0)), (3, (0, x3, 0)), (4, (0, (g32 (x4 + 1)), 0))] ⟨rfl, rfl, rfl, rfl, rfl, trivial⟩ (hl5 (x0, x1, x2, x3, (g32 (x4 + 1)), s3))
  · refine g_map hr5 ?_
    refine g_rb gs_234 11 (cd' := gb_234_86) rfl rfl ?_
    refine g_iload_n ok rfl ?_
    exact g_ireturn ok rfl rfl (rfl)
theorem tl_234_5 {X : gX} (ok : gOK X) (hX : gHX X) (d : Nat)  (y : (Nat × Int × Int × Int × Int × gS)) : Go X em_234 234 (d + 2) 5 [] [(0, (28, 0, y.1)), (1, (0, y.2.1, 0)), (2, (0, y.2.2.1, 0)), (3, (0, y.2.2.2.1, 0)), (4, (0, y.2.2.2.2.1, 0))] [] y.2.2.2.2.2 0 0 (gloop (st_234_5) y) some :=
  g_loop (Lh := fun y => [(0, (28, 0, y.1)), (1, (0, y.2.1, 0)), (2, (0, y.2.2.1, 0)), (3, (0, y.2.2.2.1, 0)), (4, (0, y.2.2.2.2.1, 0))]) (sh := fun y => y.2.2.2.2.2) (fun k5 hl5 hr5 y => ts_234_5 ok hX d  hl5 hr5 y.1 y.2.1 y.2.2.1 y.2.2.2.1 y.2.2.2.2.1 y.2.2.2.2.2) y
theorem t_234 {X : gX} (ok : gOK X) (hX : gHX X) (d : Nat) (a0 : Nat) (a1 : Int) (a2 : Int) (s : gS) : Go X em_234 234 (d + 2) 0 [] [(0, (28, 0, a0)), (1, (0, a1, 0)), (2, (0, a2, 0))] [] s 0 0 (f_234 a0 a1 a2 s) some := by
  delta f_234
  refine g_rb gs_234 0 (cd' := gb_234_0) rfl rfl ?_
  refine g_iconst ok (v := (-1)) rfl ?_
  refine g_istore_n ok rfl (L' := [(0, (28, 0, a0)), (1, (0, a1, 0)), (2, (0, a2, 0)), (3, (0, (-1), 0))]) rfl ?_
  refine g_iconst ok (v := 0) rfl ?_
  refine g_istore ok rfl (L' := [(0, (28, 0, a0)), (1, (0, a1, 0)), (2, (0, a2, 0)), (3, (0, (-1), 0)), (4, (0, 0, 0))]) rfl ?_
  exact g_wk ok [(0, (28, 0, a0)), (1, (0, a1, 0)), (2, (0, a2, 0)), (3, (0, (-1), 0)), (4, (0, 0, 0))] ⟨rfl, rfl, rfl, rfl, rfl, trivial⟩ (tl_234_5 ok hX d  (a0, a1, a2, (-1), 0, s))
-- X12_fewest
theorem tb_235_14 {X : gX} (ok : gOK X) (hX : gHX X) (d : Nat)  (x0 : Nat) (x1 : Int) (w0 : Int) (w1 : Nat) (s : gS) : Go X em_235 235 (d + 3) 14 [] [(0, (28, 0, x0)), (1, (0, x1, 0))] [(0, w0, 0), (28, 0, w1)] s 0 0 (fb_235_14 x0 x1 w0 w1 s) some := by
  delta fb_235_14
  refine g_rb gs_235 3 (cd' := gb_235_14) rfl rfl ?_
  refine g_puti ok rfl rfl rfl ?_
  let s4 : gS := gw s w1 0 w0
  refine g_aload_n ok rfl rfl ?_
  refine g_geti ok rfl rfl ?_
  refine g_if_le ok rfl (fun _ => ?_) (fun _ => ?_)
  · refine g_rb gs_235 4 (cd' := gb_235_24) rfl rfl ?_
    refine g_iconst ok (v := 0) rfl ?_
    refine g_goto ok rfl ?_
    refine g_rb gs_235 6 (cd' := gb_235_34) rfl rfl ?_
    exact g_ireturn ok rfl rfl (rfl)
  · refine g_rb gs_235 5 (cd' := gb_235_28) rfl rfl ?_
    refine g_aload_n ok rfl rfl ?_
    refine g_iload_n ok rfl ?_
    refine g_iconst ok (v := 1) rfl ?_
    refine g_cv1 ok (me_234 hX) rfl rfl rfl rfl (t_234 ok hX _ x0 x1 1 s4) (fun v6 s5 => ?_)
    refine g_rb gs_235 6 (cd' := gb_235_34) rfl rfl ?_
    exact g_ireturn ok rfl rfl (rfl)
theorem t_235 {X : gX} (ok : gOK X) (hX : gHX X) (d : Nat) (a0 : Nat) (a1 : Int) (s : gS) : Go X em_235 235 (d + 3) 0 [] [(0, (28, 0, a0)), (1, (0, a1, 0))] [] s 0 0 (f_235 a0 a1 s) some := by
  delta f_235
  refine g_rb gs_235 0 (cd' := gb_235_0) rfl rfl ?_
  refine g_aload_n ok rfl rfl ?_
  refine g_aload_n ok rfl rfl ?_
  refine g_iload_n ok rfl ?_
  refine g_cvz ok (me_162 hX) rfl rfl rfl rfl (t_162 ok hX _ a0 a1 s) (fun v2 s1 hb3 => ?_)
  refine g_if_ne ok rfl (fun _ => ?_) (fun _ => ?_)
  · refine g_rb gs_235 1 (cd' := gb_235_9) rfl rfl ?_
    refine g_iconst ok (v := 1) rfl ?_
    refine g_goto ok rfl ?_
    exact g_wk ok [(0, (28, 0, a0)), (1, (0, a1, 0))] ⟨rfl, rfl, trivial⟩ (tb_235_14 ok hX d  a0 a1 1 a0 s1)
  · refine g_rb gs_235 2 (cd' := gb_235_13) rfl rfl ?_
    refine g_iconst ok (v := 0) rfl ?_
    exact g_wk ok [(0, (28, 0, a0)), (1, (0, a1, 0))] ⟨rfl, rfl, trivial⟩ (tb_235_14 ok hX d  a0 a1 0 a0 s1)
-- X12_cheapest
theorem tb_236_50 {X : gX} (ok : gOK X) (hX : gHX X) (d : Nat)  (x3 : Int) (s : gS) : Go X em_236 236 (d + 3) 50 [] [(3, (0, x3, 0))] [] s 0 0 (fb_236_50 x3 s) some := by
  delta fb_236_50
  refine g_rb gs_236 8 (cd' := gb_236_50) rfl rfl ?_
  refine g_iload_n ok rfl ?_
  refine g_rb gs_236 9 (cd' := gb_236_51) rfl rfl ?_
  exact g_ireturn ok rfl rfl (rfl)
theorem tb_236_14 {X : gX} (ok : gOK X) (hX : gHX X) (d : Nat)  (x0 : Nat) (x1 : Int) (x2 : Int) (w0 : Int) (w1 : Nat) (s : gS) : Go X em_236 236 (d + 3) 14 [] [(0, (28, 0, x0)), (1, (0, x1, 0)), (2, (0, x2, 0))] [(0, w0, 0), (28, 0, w1)] s 0 0 (fb_236_14 x0 x1 x2 w0 w1 s) some := by
  delta fb_236_14
  refine g_rb gs_236 3 (cd' := gb_236_14) rfl rfl ?_
  refine g_puti ok rfl rfl rfl ?_
  let s4 : gS := gw s w1 0 w0
  refine g_aload_n ok rfl rfl ?_
  refine g_geti ok rfl rfl ?_
  refine g_if_le ok rfl (fun _ => ?_) (fun _ => ?_)
  · refine g_rb gs_236 4 (cd' := gb_236_24) rfl rfl ?_
    refine g_iconst ok (v := 0) rfl ?_
    exact g_ireturn ok rfl rfl (rfl)
  · refine g_rb gs_236 5 (cd' := gb_236_26) rfl rfl ?_
    refine g_aload_n ok rfl rfl ?_
    refine g_iload_n ok rfl ?_
    refine g_iconst ok (v := 0) rfl ?_
    refine g_cv1 ok (me_234 hX) rfl rfl rfl rfl (t_234 ok hX _ x0 x1 0 s4) (fun v6 s5 => ?_)
    refine g_istore_n ok rfl (L' := [(0, (28, 0, x0)), (1, (0, x1, 0)), (2, (0, x2, 0)), (3, (0, v6, 0))]) rfl ?_
    refine g_iload_n ok rfl ?_
    refine g_if_eq ok rfl (fun _ => ?_) (fun _ => ?_)
    · exact g_wk ok [(3, (0, v6, 0))] ⟨rfl, trivial⟩ (tb_236_50 ok hX d  v6 s5)
    · refine g_rb gs_236 6 (cd' := gb_236_37) rfl rfl ?_
      refine g_iload_n ok rfl ?_
      refine g_iconst ok (v := (-1)) rfl ?_
      refine g_ic_eq ok rfl (fun _ => ?_) (fun _ => ?_)
      · exact g_wk ok [(3, (0, v6, 0))] ⟨rfl, trivial⟩ (tb_236_50 ok hX d  v6 s5)
      · refine g_rb gs_236 7 (cd' := gb_236_42) rfl rfl ?_
        refine g_aload_n ok rfl rfl ?_
        refine g_iload_n ok rfl ?_
        refine g_cv1 ok (me_232 hX) rfl rfl rfl rfl (t_232 ok hX _ x0 v6 s5) (fun v8 s7 => ?_)
        refine g_goto ok rfl ?_
        refine g_rb gs_236 9 (cd' := gb_236_51) rfl rfl ?_
        exact g_ireturn ok rfl rfl (rfl)
theorem t_236 {X : gX} (ok : gOK X) (hX : gHX X) (d : Nat) (a0 : Nat) (a1 : Int) (a2 : Int) (s : gS) : Go X em_236 236 (d + 3) 0 [] [(0, (28, 0, a0)), (1, (0, a1, 0)), (2, (0, a2, 0))] [] s 0 0 (f_236 a0 a1 a2 s) some := by
  delta f_236
  refine g_rb gs_236 0 (cd' := gb_236_0) rfl rfl ?_
  refine g_aload_n ok rfl rfl ?_
  refine g_aload_n ok rfl rfl ?_
  refine g_iload_n ok rfl ?_
  refine g_cvz ok (me_162 hX) rfl rfl rfl rfl (t_162 ok hX _ a0 a1 s) (fun v2 s1 hb3 => ?_)
  refine g_if_ne ok rfl (fun _ => ?_) (fun _ => ?_)
  · refine g_rb gs_236 1 (cd' := gb_236_9) rfl rfl ?_
    refine g_iconst ok (v := 1) rfl ?_
    refine g_goto ok rfl ?_
    exact g_wk ok [(0, (28, 0, a0)), (1, (0, a1, 0)), (2, (0, a2, 0))] ⟨rfl, rfl, rfl, trivial⟩ (tb_236_14 ok hX d  a0 a1 a2 1 a0 s1)
  · refine g_rb gs_236 2 (cd' := gb_236_13) rfl rfl ?_
    refine g_iconst ok (v := 0) rfl ?_
    exact g_wk ok [(0, (28, 0, a0)), (1, (0, a1, 0)), (2, (0, a2, 0))] ⟨rfl, rfl, rfl, trivial⟩ (tb_236_14 ok hX d  a0 a1 a2 0 a0 s1)
-- X12_slips
theorem ts_237_21 {X : gX} (ok : gOK X) (hX : gHX X) (d : Nat) {k21 : (Nat × Int × Int × Int × gS) ⊕ gO → Option gO} (hl21 : ∀ y : (Nat × Int × Int × Int × gS), Go X em_237 237 (d + 2) 21 [] [(0, (28, 0, y.1)), (1, (0, y.2.1, 0)), (2, (0, y.2.2.1, 0)), (3, (0, y.2.2.2.1, 0))] [] y.2.2.2.2 0 0 (some (Sum.inl y)) k21) (hr21 : ∀ q, k21 (Sum.inr q) = some q) (x0 : Nat) (x1 : Int) (x2 : Int) (x3 : Int) (s : gS) : Go X em_237 237 (d + 2) 21 [] [(0, (28, 0, x0)), (1, (0, x1, 0)), (2, (0, x2, 0)), (3, (0, x3, 0))] [] s 0 0 (sb_237_21 x0 x1 x2 x3 s) k21 := by
  delta sb_237_21
  refine g_rb gs_237 4 (cd' := gb_237_21) rfl rfl ?_
  refine g_iload_n ok rfl ?_
  refine g_aload_n ok rfl rfl ?_
  refine g_getr ok 6036 rfl rfl rfl ?_
  refine g_iconst ok (v := 5) rfl ?_
  refine g_ialoadc ok (n := 740) 5 rfl rfl rfl ?_
  refine g_ic_ge ok rfl (fun _ => ?_) (fun _ => ?_)
  · refine g_rb gs_237 5 (cd' := gb_237_31) rfl rfl ?_
    refine g_aload_n ok rfl rfl ?_
    refine g_geti ok rfl rfl ?_
    refine g_if_ne ok rfl (fun _ => ?_) (fun _ => ?_)
    · refine g_rb gs_237 6 (cd' := gb_237_38) rfl rfl ?_
      refine g_iload_n ok rfl ?_
      refine g_aload_n ok rfl rfl ?_
      refine g_iload_n ok rfl ?_
      refine g_aload_n ok rfl rfl ?_
      refine g_iload_n ok rfl ?_
      refine g_iconst ok (v := 2) rfl ?_
      refine g_cv1 ok (me_156 hX) rfl rfl rfl rfl (t_156 ok hX _ x0 x1 2 s) (fun v6 s5 => ?_)
      refine g_cvz ok (me_212 hX) rfl rfl rfl rfl (t_212 ok hX _ x0 x3 v6 s5) (fun v8 s7 hb9 => ?_)
      refine g_if_eq ok rfl (fun _ => ?_) (fun _ => ?_)
      · refine g_rb gs_237 8 (cd' := gb_237_57) rfl rfl ?_
        refine g_iconst ok (v := 1) rfl ?_
        refine g_iload_n ok rfl ?_
        refine g_ishl ok ?_
        refine g_rb gs_237 9 (cd' := gb_237_60) rfl rfl ?_
        refine g_ior ok ?_
        let v10 : Int := (gor x2 (gshl 1 x3))
        refine g_istore_n ok rfl (L' := [(0, (28, 0, x0)), (1, (0, x1, 0)), (2, (0, v10, 0)), (3, (0, x3, 0))]) rfl ?_
        refine g_iinc ok rfl rfl (L' := [(0, (28, 0, x0)), (1, (0, x1, 0)), (2, (0, v10, 0)), (3, (0, (g32 (x3 + 1)), 0))]) rfl ?_
        refine g_goto ok rfl ?_
        exact g_wk ok [(0, (28, 0, x0)), (1, (0, x1, 0)), (2, (0, v10, 0)), (3, (0, (g32 (x3 + 1)), 0))] ⟨rfl, rfl, rfl, rfl, trivial⟩ (hl21 (x0, x1, v10, (g32 (x3 + 1)), s7))
      · refine g_rb gs_237 7 (cd' := gb_237_53) rfl rfl ?_
        refine g_iconst ok (v := 0) rfl ?_
        refine g_goto ok rfl ?_
        refine g_rb gs_237 9 (cd' := gb_237_60) rfl rfl ?_
        refine g_ior ok ?_
        refine g_istore_n ok rfl (L' := [(0, (28, 0, x0)), (1, (0, x1, 0)), (2, (0, (gor x2 0), 0)), (3, (0, x3, 0))]) rfl ?_
        refine g_iinc ok rfl rfl (L' := [(0, (28, 0, x0)), (1, (0, x1, 0)), (2, (0, (gor x2 0), 0)), (3, (0, (g32 (x3 + 1)), 0))]) rfl ?_
        refine g_goto ok rfl ?_
        exact g_wk ok [(0, (28, 0, x0)), (1, (0, x1, 0)), (2, (0, (gor x2 0), 0)), (3, (0, (g32 (x3 + 1)), 0))] ⟨rfl, rfl, rfl, rfl, trivial⟩ (hl21 (x0, x1, (gor x2 0), (g32 (x3 + 1)), s7))
    · refine g_map hr21 ?_
      refine g_rb gs_237 10 (cd' := gb_237_68) rfl rfl ?_
      refine g_iload_n ok rfl ?_
      exact g_ireturn ok rfl rfl (rfl)
  · refine g_map hr21 ?_
    refine g_rb gs_237 10 (cd' := gb_237_68) rfl rfl ?_
    refine g_iload_n ok rfl ?_
    exact g_ireturn ok rfl rfl (rfl)
theorem tl_237_21 {X : gX} (ok : gOK X) (hX : gHX X) (d : Nat)  (y : (Nat × Int × Int × Int × gS)) : Go X em_237 237 (d + 2) 21 [] [(0, (28, 0, y.1)), (1, (0, y.2.1, 0)), (2, (0, y.2.2.1, 0)), (3, (0, y.2.2.2.1, 0))] [] y.2.2.2.2 0 0 (gloop (st_237_21) y) some :=
  g_loop (Lh := fun y => [(0, (28, 0, y.1)), (1, (0, y.2.1, 0)), (2, (0, y.2.2.1, 0)), (3, (0, y.2.2.2.1, 0))]) (sh := fun y => y.2.2.2.2) (fun k21 hl21 hr21 y => ts_237_21 ok hX d  hl21 hr21 y.1 y.2.1 y.2.2.1 y.2.2.2.1 y.2.2.2.2) y
theorem tb_237_14 {X : gX} (ok : gOK X) (hX : gHX X) (d : Nat)  (x0 : Nat) (x1 : Int) (w0 : Int) (w1 : Nat) (s : gS) : Go X em_237 237 (d + 2) 14 [] [(0, (28, 0, x0)), (1, (0, x1, 0))] [(0, w0, 0), (28, 0, w1)] s 0 0 (fb_237_14 x0 x1 w0 w1 s) some := by
  delta fb_237_14
  refine g_rb gs_237 3 (cd' := gb_237_14) rfl rfl ?_
  refine g_puti ok rfl rfl rfl ?_
  let s4 : gS := gw s w1 0 w0
  refine g_iconst ok (v := 0) rfl ?_
  refine g_istore_n ok rfl (L' := [(0, (28, 0, x0)), (1, (0, x1, 0)), (2, (0, 0, 0))]) rfl ?_
  refine g_iconst ok (v := 0) rfl ?_
  refine g_istore_n ok rfl (L' := [(0, (28, 0, x0)), (1, (0, x1, 0)), (2, (0, 0, 0)), (3, (0, 0, 0))]) rfl ?_
  exact g_wk ok [(0, (28, 0, x0)), (1, (0, x1, 0)), (2, (0, 0, 0)), (3, (0, 0, 0))] ⟨rfl, rfl, rfl, rfl, trivial⟩ (tl_237_21 ok hX d  (x0, x1, 0, 0, s4))
theorem t_237 {X : gX} (ok : gOK X) (hX : gHX X) (d : Nat) (a0 : Nat) (a1 : Int) (s : gS) : Go X em_237 237 (d + 2) 0 [] [(0, (28, 0, a0)), (1, (0, a1, 0))] [] s 0 0 (f_237 a0 a1 s) some := by
  delta f_237
  refine g_rb gs_237 0 (cd' := gb_237_0) rfl rfl ?_
  refine g_aload_n ok rfl rfl ?_
  refine g_aload_n ok rfl rfl ?_
  refine g_iload_n ok rfl ?_
  refine g_cvz ok (me_162 hX) rfl rfl rfl rfl (t_162 ok hX _ a0 a1 s) (fun v2 s1 hb3 => ?_)
  refine g_if_ne ok rfl (fun _ => ?_) (fun _ => ?_)
  · refine g_rb gs_237 1 (cd' := gb_237_9) rfl rfl ?_
    refine g_iconst ok (v := 1) rfl ?_
    refine g_goto ok rfl ?_
    exact g_wk ok [(0, (28, 0, a0)), (1, (0, a1, 0))] ⟨rfl, rfl, trivial⟩ (tb_237_14 ok hX d  a0 a1 1 a0 s1)
  · refine g_rb gs_237 2 (cd' := gb_237_13) rfl rfl ?_
    refine g_iconst ok (v := 0) rfl ?_
    exact g_wk ok [(0, (28, 0, a0)), (1, (0, a1, 0))] ⟨rfl, rfl, trivial⟩ (tb_237_14 ok hX d  a0 a1 0 a0 s1)
-- X12_told
theorem tb_238_173 {X : gX} (ok : gOK X) (hX : gHX X) (d : Nat) {k87 : (Nat × Int × Int × Int × gS) ⊕ gO → Option gO} (hl87 : ∀ y : (Nat × Int × Int × Int × gS), Go X em_238 238 (d + 2) 87 [] [(0, (28, 0, y.1)), (1, (0, y.2.1, 0)), (3, (0, y.2.2.1, 0)), (4, (0, y.2.2.2.1, 0))] [] y.2.2.2.2 0 0 (some (Sum.inl y)) k87) (hr87 : ∀ q, k87 (Sum.inr q) = some q) (x0 : Nat) (x1 : Int) (x3 : Int) (x4 : Int) (s : gS) : Go X em_238 238 (d + 2) 173 [] [(0, (28, 0, x0)), (1, (0, x1, 0)), (3, (0, x3, 0)), (4, (0, x4, 0))] [] s 0 0 (fb_238_173 x0 x1 x3 x4 s) k87 := by
  delta fb_238_173
  refine g_rb gs_238 28 (cd' := gb_238_173) rfl rfl ?_
  refine g_iload_n ok rfl ?_
  refine g_aload_n ok rfl rfl ?_
  refine g_getr ok 630 rfl rfl rfl ?_
  refine g_iload ok rfl ?_
  refine g_baload ok (n := 64) rfl rfl (fun _ _ => ?_)
  refine g_if_eq ok rfl (fun _ => ?_) (fun _ => ?_)
  · refine g_rb gs_238 30 (cd' := gb_238_188) rfl rfl ?_
    refine g_iconst ok (v := 0) rfl ?_
    refine g_rb gs_238 31 (cd' := gb_238_189) rfl rfl ?_
    refine g_iadd ok ?_
    refine g_istore_n ok rfl (L' := [(0, (28, 0, x0)), (1, (0, x1, 0)), (3, (0, (g32 (x3 + 0)), 0)), (4, (0, x4, 0))]) rfl ?_
    refine g_iinc ok rfl rfl (L' := [(0, (28, 0, x0)), (1, (0, x1, 0)), (3, (0, (g32 (x3 + 0)), 0)), (4, (0, (g32 (x4 + 1)), 0))]) rfl ?_
    refine g_goto ok rfl ?_
    exact g_wk ok [(0, (28, 0, x0)), (1, (0, x1, 0)), (3, (0, (g32 (x3 + 0)), 0)), (4, (0, (g32 (x4 + 1)), 0))] ⟨rfl, rfl, rfl, rfl, trivial⟩ (hl87 (x0, x1, (g32 (x3 + 0)), (g32 (x4 + 1)), s))
  · refine g_rb gs_238 29 (cd' := gb_238_184) rfl rfl ?_
    refine g_iconst ok (v := 1) rfl ?_
    refine g_goto ok rfl ?_
    refine g_rb gs_238 31 (cd' := gb_238_189) rfl rfl ?_
    refine g_iadd ok ?_
    refine g_istore_n ok rfl (L' := [(0, (28, 0, x0)), (1, (0, x1, 0)), (3, (0, (g32 (x3 + 1)), 0)), (4, (0, x4, 0))]) rfl ?_
    refine g_iinc ok rfl rfl (L' := [(0, (28, 0, x0)), (1, (0, x1, 0)), (3, (0, (g32 (x3 + 1)), 0)), (4, (0, (g32 (x4 + 1)), 0))]) rfl ?_
    refine g_goto ok rfl ?_
    exact g_wk ok [(0, (28, 0, x0)), (1, (0, x1, 0)), (3, (0, (g32 (x3 + 1)), 0)), (4, (0, (g32 (x4 + 1)), 0))] ⟨rfl, rfl, rfl, rfl, trivial⟩ (hl87 (x0, x1, (g32 (x3 + 1)), (g32 (x4 + 1)), s))
theorem tb_238_158 {X : gX} (ok : gOK X) (hX : gHX X) (d : Nat) {k87 : (Nat × Int × Int × Int × gS) ⊕ gO → Option gO} (hl87 : ∀ y : (Nat × Int × Int × Int × gS), Go X em_238 238 (d + 2) 87 [] [(0, (28, 0, y.1)), (1, (0, y.2.1, 0)), (3, (0, y.2.2.1, 0)), (4, (0, y.2.2.2.1, 0))] [] y.2.2.2.2 0 0 (some (Sum.inl y)) k87) (hr87 : ∀ q, k87 (Sum.inr q) = some q) {k105 : (Nat × Int × Int × Int × Int × gS) ⊕ ((Nat × Int × Int × Int × gS) ⊕ gO) → Option gO} (hl105 : ∀ y : (Nat × Int × Int × Int × Int × gS), Go X em_238 238 (d + 2) 105 [] [(0, (28, 0, y.1)), (1, (0, y.2.1, 0)), (3, (0, y.2.2.1, 0)), (4, (0, y.2.2.2.1, 0)), (5, (0, y.2.2.2.2.1, 0))] [] y.2.2.2.2.2 0 0 (some (Sum.inl y)) k105) (hr105 : ∀ q, k105 (Sum.inr q) = k87 q) (x0 : Nat) (x1 : Int) (x3 : Int) (x4 : Int) (x5 : Int) (w0 : Int) (w1 : Int) (w2 : Int) (w3 : Nat) (s : gS) : Go X em_238 238 (d + 2) 158 [] [(0, (28, 0, x0)), (1, (0, x1, 0)), (3, (0, x3, 0)), (4, (0, x4, 0)), (5, (0, x5, 0))] [(0, w0, 0), (0, w1, 0), (0, w2, 0), (630, 0, w3)] s 0 0 (fb_238_158 x0 x1 x3 x4 x5 w0 w1 w2 w3 s) k105 := by
  delta fb_238_158
  refine g_rb gs_238 24 (cd' := gb_238_158) rfl rfl ?_
  refine g_ic_ne ok rfl (fun _ => ?_) (fun _ => ?_)
  · refine g_rb gs_238 25 (cd' := gb_238_161) rfl rfl ?_
    refine g_iconst ok (v := 1) rfl ?_
    refine g_goto ok rfl ?_
    refine g_rb gs_238 27 (cd' := gb_238_166) rfl rfl ?_
    refine g_bastore ok (n := 64) rfl rfl (fun _ _ _ => ?_)
    let s6 : gS := gw s w3 (w2 : Int).toNat 1
    refine g_iinc ok rfl rfl (L' := [(0, (28, 0, x0)), (1, (0, x1, 0)), (3, (0, x3, 0)), (4, (0, x4, 0)), (5, (0, (g32 (x5 + 2)), 0))]) rfl ?_
    refine g_goto ok rfl ?_
    exact g_wk ok [(0, (28, 0, x0)), (1, (0, x1, 0)), (3, (0, x3, 0)), (4, (0, x4, 0)), (5, (0, (g32 (x5 + 2)), 0))] ⟨rfl, rfl, rfl, rfl, rfl, trivial⟩ (hl105 (x0, x1, x3, x4, (g32 (x5 + 2)), s6))
  · refine g_rb gs_238 26 (cd' := gb_238_165) rfl rfl ?_
    refine g_iconst ok (v := 0) rfl ?_
    refine g_rb gs_238 27 (cd' := gb_238_166) rfl rfl ?_
    refine g_bastore ok (n := 64) rfl rfl (fun _ _ _ => ?_)
    let s7 : gS := gw s w3 (w2 : Int).toNat 0
    refine g_iinc ok rfl rfl (L' := [(0, (28, 0, x0)), (1, (0, x1, 0)), (3, (0, x3, 0)), (4, (0, x4, 0)), (5, (0, (g32 (x5 + 2)), 0))]) rfl ?_
    refine g_goto ok rfl ?_
    exact g_wk ok [(0, (28, 0, x0)), (1, (0, x1, 0)), (3, (0, x3, 0)), (4, (0, x4, 0)), (5, (0, (g32 (x5 + 2)), 0))] ⟨rfl, rfl, rfl, rfl, rfl, trivial⟩ (hl105 (x0, x1, x3, x4, (g32 (x5 + 2)), s7))
theorem ts_238_105 {X : gX} (ok : gOK X) (hX : gHX X) (d : Nat) {k87 : (Nat × Int × Int × Int × gS) ⊕ gO → Option gO} (hl87 : ∀ y : (Nat × Int × Int × Int × gS), Go X em_238 238 (d + 2) 87 [] [(0, (28, 0, y.1)), (1, (0, y.2.1, 0)), (3, (0, y.2.2.1, 0)), (4, (0, y.2.2.2.1, 0))] [] y.2.2.2.2 0 0 (some (Sum.inl y)) k87) (hr87 : ∀ q, k87 (Sum.inr q) = some q) {k105 : (Nat × Int × Int × Int × Int × gS) ⊕ ((Nat × Int × Int × Int × gS) ⊕ gO) → Option gO} (hl105 : ∀ y : (Nat × Int × Int × Int × Int × gS), Go X em_238 238 (d + 2) 105 [] [(0, (28, 0, y.1)), (1, (0, y.2.1, 0)), (3, (0, y.2.2.1, 0)), (4, (0, y.2.2.2.1, 0)), (5, (0, y.2.2.2.2.1, 0))] [] y.2.2.2.2.2 0 0 (some (Sum.inl y)) k105) (hr105 : ∀ q, k105 (Sum.inr q) = k87 q) (x0 : Nat) (x1 : Int) (x3 : Int) (x4 : Int) (x5 : Int) (s : gS) : Go X em_238 238 (d + 2) 105 [] [(0, (28, 0, x0)), (1, (0, x1, 0)), (3, (0, x3, 0)), (4, (0, x4, 0)), (5, (0, x5, 0))] [] s 0 0 (sb_238_105 x0 x1 x3 x4 x5 s) k105 := by
  delta sb_238_105
  refine g_rb gs_238 19 (cd' := gb_238_105) rfl rfl ?_
  refine g_iload ok rfl ?_
  refine g_iload_n ok rfl ?_
  refine g_ic_ge ok rfl (fun _ => ?_) (fun _ => ?_)
  · refine g_rb gs_238 20 (cd' := gb_238_111) rfl rfl ?_
    refine g_aload_n ok rfl rfl ?_
    refine g_getr ok 630 rfl rfl rfl ?_
    refine g_iload ok rfl ?_
    refine g_baload ok (n := 64) rfl rfl (fun _ _ => ?_)
    refine g_if_eq ok rfl (fun _ => ?_) (fun _ => ?_)
    · refine g_map hr105 ?_
      exact g_wk ok [(0, (28, 0, x0)), (1, (0, x1, 0)), (3, (0, x3, 0)), (4, (0, x4, 0))] ⟨rfl, rfl, rfl, rfl, trivial⟩ (tb_238_173 ok hX d hl87 hr87 x0 x1 x3 x4 s)
    · refine g_rb gs_238 21 (cd' := gb_238_121) rfl rfl ?_
      refine g_aload_n ok rfl rfl ?_
      refine g_getr ok 630 rfl rfl rfl ?_
      refine g_iload ok rfl ?_
      refine g_aload_n ok rfl rfl ?_
      refine g_aload_n ok rfl rfl ?_
      refine g_getr ok 3316 rfl rfl rfl ?_
      refine g_iload ok rfl ?_
      refine g_iaload ok (n := 400) rfl rfl (fun _ _ => ?_)
      refine g_iload ok rfl ?_
      refine g_cvz ok (me_212 hX) rfl rfl rfl rfl (t_212 ok hX _ x0 (gI s (gR s x0 7) (x5 : Int).toNat) x4 s) (fun v4 s3 hb5 => ?_)
      refine g_aload_n ok rfl rfl ?_
      refine g_getr ok 3316 rfl rfl rfl ?_
      refine g_iload ok rfl ?_
      refine g_iconst ok (v := 1) rfl ?_
      refine g_iadd ok ?_
      refine g_iaload ok (n := 400) rfl rfl (fun _ _ => ?_)
      refine g_iconst ok (v := 1) rfl ?_
      refine g_ic_ne ok rfl (fun _ => ?_) (fun _ => ?_)
      · refine g_rb gs_238 22 (cd' := gb_238_153) rfl rfl ?_
        refine g_iconst ok (v := 1) rfl ?_
        refine g_goto ok rfl ?_
        exact g_wk ok [(0, (28, 0, x0)), (1, (0, x1, 0)), (3, (0, x3, 0)), (4, (0, x4, 0)), (5, (0, x5, 0))] ⟨rfl, rfl, rfl, rfl, rfl, trivial⟩ (tb_238_158 ok hX d hl87 hr87 hl105 hr105 x0 x1 x3 x4 x5 1 v4 x4 (gR s x0 23) s3)
      · refine g_rb gs_238 23 (cd' := gb_238_157) rfl rfl ?_
        refine g_iconst ok (v := 0) rfl ?_
        exact g_wk ok [(0, (28, 0, x0)), (1, (0, x1, 0)), (3, (0, x3, 0)), (4, (0, x4, 0)), (5, (0, x5, 0))] ⟨rfl, rfl, rfl, rfl, rfl, trivial⟩ (tb_238_158 ok hX d hl87 hr87 hl105 hr105 x0 x1 x3 x4 x5 0 v4 x4 (gR s x0 23) s3)
  · refine g_map hr105 ?_
    exact g_wk ok [(0, (28, 0, x0)), (1, (0, x1, 0)), (3, (0, x3, 0)), (4, (0, x4, 0))] ⟨rfl, rfl, rfl, rfl, trivial⟩ (tb_238_173 ok hX d hl87 hr87 x0 x1 x3 x4 s)
theorem tl_238_105 {X : gX} (ok : gOK X) (hX : gHX X) (d : Nat) {k87 : (Nat × Int × Int × Int × gS) ⊕ gO → Option gO} (hl87 : ∀ y : (Nat × Int × Int × Int × gS), Go X em_238 238 (d + 2) 87 [] [(0, (28, 0, y.1)), (1, (0, y.2.1, 0)), (3, (0, y.2.2.1, 0)), (4, (0, y.2.2.2.1, 0))] [] y.2.2.2.2 0 0 (some (Sum.inl y)) k87) (hr87 : ∀ q, k87 (Sum.inr q) = some q) (y : (Nat × Int × Int × Int × Int × gS)) : Go X em_238 238 (d + 2) 105 [] [(0, (28, 0, y.1)), (1, (0, y.2.1, 0)), (3, (0, y.2.2.1, 0)), (4, (0, y.2.2.2.1, 0)), (5, (0, y.2.2.2.2.1, 0))] [] y.2.2.2.2.2 0 0 (gloop (st_238_105) y) k87 :=
  g_loop (Lh := fun y => [(0, (28, 0, y.1)), (1, (0, y.2.1, 0)), (3, (0, y.2.2.1, 0)), (4, (0, y.2.2.2.1, 0)), (5, (0, y.2.2.2.2.1, 0))]) (sh := fun y => y.2.2.2.2.2) (fun k105 hl105 hr105 y => ts_238_105 ok hX d hl87 hr87 hl105 hr105 y.1 y.2.1 y.2.2.1 y.2.2.2.1 y.2.2.2.2.1 y.2.2.2.2.2) y
theorem ts_238_87 {X : gX} (ok : gOK X) (hX : gHX X) (d : Nat) {k87 : (Nat × Int × Int × Int × gS) ⊕ gO → Option gO} (hl87 : ∀ y : (Nat × Int × Int × Int × gS), Go X em_238 238 (d + 2) 87 [] [(0, (28, 0, y.1)), (1, (0, y.2.1, 0)), (3, (0, y.2.2.1, 0)), (4, (0, y.2.2.2.1, 0))] [] y.2.2.2.2 0 0 (some (Sum.inl y)) k87) (hr87 : ∀ q, k87 (Sum.inr q) = some q) (x0 : Nat) (x1 : Int) (x3 : Int) (x4 : Int) (s : gS) : Go X em_238 238 (d + 2) 87 [] [(0, (28, 0, x0)), (1, (0, x1, 0)), (3, (0, x3, 0)), (4, (0, x4, 0))] [] s 0 0 (sb_238_87 x0 x1 x3 x4 s) k87 := by
  delta sb_238_87
  refine g_rb gs_238 17 (cd' := gb_238_87) rfl rfl ?_
  refine g_iload ok rfl ?_
  refine g_bipush ok (v := 64) rfl ?_
  refine g_ic_ge ok rfl (fun _ => ?_) (fun _ => ?_)
  · refine g_rb gs_238 18 (cd' := gb_238_94) rfl rfl ?_
    refine g_aload_n ok rfl rfl ?_
    refine g_getr ok 630 rfl rfl rfl ?_
    refine g_iload ok rfl ?_
    refine g_iconst ok (v := 1) rfl ?_
    refine g_bastore ok (n := 64) rfl rfl (fun _ _ _ => ?_)
    let s2 : gS := gw s (gR s x0 23) (x4 : Int).toNat 1
    refine g_iconst ok (v := 0) rfl ?_
    refine g_istore ok rfl (L' := [(0, (28, 0, x0)), (1, (0, x1, 0)), (3, (0, x3, 0)), (4, (0, x4, 0)), (5, (0, 0, 0))]) rfl ?_
    exact g_wk ok [(0, (28, 0, x0)), (1, (0, x1, 0)), (3, (0, x3, 0)), (4, (0, x4, 0)), (5, (0, 0, 0))] ⟨rfl, rfl, rfl, rfl, rfl, trivial⟩ (tl_238_105 ok hX d hl87 hr87 (x0, x1, x3, x4, 0, s2))
  · refine g_map hr87 ?_
    refine g_rb gs_238 32 (cd' := gb_238_197) rfl rfl ?_
    refine g_iload_n ok rfl ?_
    exact g_ireturn ok rfl rfl (rfl)
theorem tl_238_87 {X : gX} (ok : gOK X) (hX : gHX X) (d : Nat)  (y : (Nat × Int × Int × Int × gS)) : Go X em_238 238 (d + 2) 87 [] [(0, (28, 0, y.1)), (1, (0, y.2.1, 0)), (3, (0, y.2.2.1, 0)), (4, (0, y.2.2.2.1, 0))] [] y.2.2.2.2 0 0 (gloop (st_238_87) y) some :=
  g_loop (Lh := fun y => [(0, (28, 0, y.1)), (1, (0, y.2.1, 0)), (3, (0, y.2.2.1, 0)), (4, (0, y.2.2.2.1, 0))]) (sh := fun y => y.2.2.2.2) (fun k87 hl87 hr87 y => ts_238_87 ok hX d  hl87 hr87 y.1 y.2.1 y.2.2.1 y.2.2.2.1 y.2.2.2.2) y
theorem tb_238_76 {X : gX} (ok : gOK X) (hX : gHX X) (d : Nat)  (x0 : Nat) (x1 : Int) (x2 : Int) (s : gS) : Go X em_238 238 (d + 2) 76 [] [(0, (28, 0, x0)), (1, (0, x1, 0)), (2, (0, x2, 0))] [] s 0 0 (fb_238_76 x0 x1 x2 s) some := by
  delta fb_238_76
  refine g_rb gs_238 14 (cd' := gb_238_76) rfl rfl ?_
  refine g_iload_n ok rfl ?_
  refine g_if_ne ok rfl (fun _ => ?_) (fun _ => ?_)
  · refine g_rb gs_238 15 (cd' := gb_238_80) rfl rfl ?_
    refine g_iconst ok (v := (-1)) rfl ?_
    exact g_ireturn ok rfl rfl (rfl)
  · refine g_rb gs_238 16 (cd' := gb_238_82) rfl rfl ?_
    refine g_iconst ok (v := 0) rfl ?_
    refine g_istore_n ok rfl (L' := [(0, (28, 0, x0)), (1, (0, x1, 0)), (2, (0, x2, 0)), (3, (0, 0, 0))]) rfl ?_
    refine g_iconst ok (v := 1) rfl ?_
    refine g_istore ok rfl (L' := [(0, (28, 0, x0)), (1, (0, x1, 0)), (2, (0, x2, 0)), (3, (0, 0, 0)), (4, (0, 1, 0))]) rfl ?_
    exact g_wk ok [(0, (28, 0, x0)), (1, (0, x1, 0)), (3, (0, 0, 0)), (4, (0, 1, 0))] ⟨rfl, rfl, rfl, rfl, trivial⟩ (tl_238_87 ok hX d  (x0, x1, 0, 1, s))
theorem tb_238_61 {X : gX} (ok : gOK X) (hX : gHX X) (d : Nat) {k30 : (Nat × Int × Int × Int × gS) ⊕ gO → Option gO} (hl30 : ∀ y : (Nat × Int × Int × Int × gS), Go X em_238 238 (d + 2) 30 [] [(0, (28, 0, y.1)), (1, (0, y.2.1, 0)), (2, (0, y.2.2.1, 0)), (3, (0, y.2.2.2.1, 0))] [] y.2.2.2.2 0 0 (some (Sum.inl y)) k30) (hr30 : ∀ q, k30 (Sum.inr q) = some q) (x0 : Nat) (x1 : Int) (x3 : Int) (w0 : Int) (w1 : Int) (s : gS) : Go X em_238 238 (d + 2) 61 [] [(0, (28, 0, x0)), (1, (0, x1, 0)), (3, (0, x3, 0))] [(0, w0, 0), (0, w1, 0)] s 0 0 (fb_238_61 x0 x1 x3 w0 w1 s) k30 := by
  delta fb_238_61
  refine g_rb gs_238 10 (cd' := gb_238_61) rfl rfl ?_
  refine g_ic_ge ok rfl (fun _ => ?_) (fun _ => ?_)
  · refine g_rb gs_238 11 (cd' := gb_238_64) rfl rfl ?_
    refine g_iconst ok (v := 1) rfl ?_
    refine g_goto ok rfl ?_
    refine g_rb gs_238 13 (cd' := gb_238_69) rfl rfl ?_
    refine g_istore_n ok rfl (L' := [(0, (28, 0, x0)), (1, (0, x1, 0)), (3, (0, x3, 0)), (2, (0, 1, 0))]) rfl ?_
    refine g_iinc ok rfl rfl (L' := [(0, (28, 0, x0)), (1, (0, x1, 0)), (3, (0, (g32 (x3 + 1)), 0)), (2, (0, 1, 0))]) rfl ?_
    refine g_goto ok rfl ?_
    exact g_wk ok [(0, (28, 0, x0)), (1, (0, x1, 0)), (2, (0, 1, 0)), (3, (0, (g32 (x3 + 1)), 0))] ⟨rfl, rfl, rfl, rfl, trivial⟩ (hl30 (x0, x1, 1, (g32 (x3 + 1)), s))
  · refine g_rb gs_238 12 (cd' := gb_238_68) rfl rfl ?_
    refine g_iconst ok (v := 0) rfl ?_
    refine g_rb gs_238 13 (cd' := gb_238_69) rfl rfl ?_
    refine g_istore_n ok rfl (L' := [(0, (28, 0, x0)), (1, (0, x1, 0)), (3, (0, x3, 0)), (2, (0, 0, 0))]) rfl ?_
    refine g_iinc ok rfl rfl (L' := [(0, (28, 0, x0)), (1, (0, x1, 0)), (3, (0, (g32 (x3 + 1)), 0)), (2, (0, 0, 0))]) rfl ?_
    refine g_goto ok rfl ?_
    exact g_wk ok [(0, (28, 0, x0)), (1, (0, x1, 0)), (2, (0, 0, 0)), (3, (0, (g32 (x3 + 1)), 0))] ⟨rfl, rfl, rfl, rfl, trivial⟩ (hl30 (x0, x1, 0, (g32 (x3 + 1)), s))
theorem ts_238_30 {X : gX} (ok : gOK X) (hX : gHX X) (d : Nat) {k30 : (Nat × Int × Int × Int × gS) ⊕ gO → Option gO} (hl30 : ∀ y : (Nat × Int × Int × Int × gS), Go X em_238 238 (d + 2) 30 [] [(0, (28, 0, y.1)), (1, (0, y.2.1, 0)), (2, (0, y.2.2.1, 0)), (3, (0, y.2.2.2.1, 0))] [] y.2.2.2.2 0 0 (some (Sum.inl y)) k30) (hr30 : ∀ q, k30 (Sum.inr q) = some q) (x0 : Nat) (x1 : Int) (x2 : Int) (x3 : Int) (s : gS) : Go X em_238 238 (d + 2) 30 [] [(0, (28, 0, x0)), (1, (0, x1, 0)), (2, (0, x2, 0)), (3, (0, x3, 0))] [] s 0 0 (sb_238_30 x0 x1 x2 x3 s) k30 := by
  delta sb_238_30
  refine g_rb gs_238 5 (cd' := gb_238_30) rfl rfl ?_
  refine g_iload_n ok rfl ?_
  refine g_iload_n ok rfl ?_
  refine g_ic_ge ok rfl (fun _ => ?_) (fun _ => ?_)
  · refine g_rb gs_238 6 (cd' := gb_238_35) rfl rfl ?_
    refine g_iload_n ok rfl ?_
    refine g_if_eq ok rfl (fun _ => ?_) (fun _ => ?_)
    · refine g_map hr30 ?_
      exact g_wk ok [(0, (28, 0, x0)), (1, (0, x1, 0)), (2, (0, x2, 0))] ⟨rfl, rfl, rfl, trivial⟩ (tb_238_76 ok hX d  x0 x1 x2 s)
    · refine g_rb gs_238 7 (cd' := gb_238_39) rfl rfl ?_
      refine g_aload_n ok rfl rfl ?_
      refine g_getr ok 3316 rfl rfl rfl ?_
      refine g_iload_n ok rfl ?_
      refine g_iaload ok (n := 400) rfl rfl (fun _ _ => ?_)
      refine g_iload_n ok rfl ?_
      refine g_iconst ok (v := 2) rfl ?_
      refine g_irem ok (by decide) ?_
      refine g_if_ne ok rfl (fun _ => ?_) (fun _ => ?_)
      · refine g_rb gs_238 8 (cd' := gb_238_51) rfl rfl ?_
        refine g_aload_n ok rfl rfl ?_
        refine g_getr ok 6036 rfl rfl rfl ?_
        refine g_iconst ok (v := 5) rfl ?_
        refine g_ialoadc ok (n := 740) 5 rfl rfl rfl ?_
        refine g_goto ok rfl ?_
        exact g_wk ok [(0, (28, 0, x0)), (1, (0, x1, 0)), (3, (0, x3, 0))] ⟨rfl, rfl, rfl, trivial⟩ (tb_238_61 ok hX d hl30 hr30 x0 x1 x3 (gI s (gR s x0 1) 5) (gI s (gR s x0 7) (x3 : Int).toNat) s)
      · refine g_rb gs_238 9 (cd' := gb_238_60) rfl rfl ?_
        refine g_iconst ok (v := 2) rfl ?_
        exact g_wk ok [(0, (28, 0, x0)), (1, (0, x1, 0)), (3, (0, x3, 0))] ⟨rfl, rfl, rfl, trivial⟩ (tb_238_61 ok hX d hl30 hr30 x0 x1 x3 2 (gI s (gR s x0 7) (x3 : Int).toNat) s)
  · refine g_map hr30 ?_
    exact g_wk ok [(0, (28, 0, x0)), (1, (0, x1, 0)), (2, (0, x2, 0))] ⟨rfl, rfl, rfl, trivial⟩ (tb_238_76 ok hX d  x0 x1 x2 s)
theorem tl_238_30 {X : gX} (ok : gOK X) (hX : gHX X) (d : Nat)  (y : (Nat × Int × Int × Int × gS)) : Go X em_238 238 (d + 2) 30 [] [(0, (28, 0, y.1)), (1, (0, y.2.1, 0)), (2, (0, y.2.2.1, 0)), (3, (0, y.2.2.2.1, 0))] [] y.2.2.2.2 0 0 (gloop (st_238_30) y) some :=
  g_loop (Lh := fun y => [(0, (28, 0, y.1)), (1, (0, y.2.1, 0)), (2, (0, y.2.2.1, 0)), (3, (0, y.2.2.2.1, 0))]) (sh := fun y => y.2.2.2.2) (fun k30 hl30 hr30 y => ts_238_30 ok hX d  hl30 hr30 y.1 y.2.1 y.2.2.1 y.2.2.2.1 y.2.2.2.2) y
theorem tb_238_27 {X : gX} (ok : gOK X) (hX : gHX X) (d : Nat)  (x0 : Nat) (x1 : Int) (w0 : Int) (s : gS) : Go X em_238 238 (d + 2) 27 [] [(0, (28, 0, x0)), (1, (0, x1, 0))] [(0, w0, 0)] s 0 0 (fb_238_27 x0 x1 w0 s) some := by
  delta fb_238_27
  refine g_rb gs_238 4 (cd' := gb_238_27) rfl rfl ?_
  refine g_istore_n ok rfl (L' := [(0, (28, 0, x0)), (1, (0, x1, 0)), (2, (0, w0, 0))]) rfl ?_
  refine g_iconst ok (v := 0) rfl ?_
  refine g_istore_n ok rfl (L' := [(0, (28, 0, x0)), (1, (0, x1, 0)), (2, (0, w0, 0)), (3, (0, 0, 0))]) rfl ?_
  exact g_wk ok [(0, (28, 0, x0)), (1, (0, x1, 0)), (2, (0, w0, 0)), (3, (0, 0, 0))] ⟨rfl, rfl, rfl, rfl, trivial⟩ (tl_238_30 ok hX d  (x0, x1, w0, 0, s))
theorem tb_238_26 {X : gX} (ok : gOK X) (hX : gHX X) (d : Nat)  (x0 : Nat) (x1 : Int) (s : gS) : Go X em_238 238 (d + 2) 26 [] [(0, (28, 0, x0)), (1, (0, x1, 0))] [] s 0 0 (fb_238_26 x0 x1 s) some := by
  delta fb_238_26
  refine g_rb gs_238 3 (cd' := gb_238_26) rfl rfl ?_
  refine g_iconst ok (v := 0) rfl ?_
  exact g_wk ok [(0, (28, 0, x0)), (1, (0, x1, 0))] ⟨rfl, rfl, trivial⟩ (tb_238_27 ok hX d  x0 x1 0 s)
theorem t_238 {X : gX} (ok : gOK X) (hX : gHX X) (d : Nat) (a0 : Nat) (s : gS) : Go X em_238 238 (d + 2) 0 [] [(0, (28, 0, a0))] [] s 0 0 (f_238 a0 s) some := by
  delta f_238
  refine g_rb gs_238 0 (cd' := gb_238_0) rfl rfl ?_
  refine g_aload_n ok rfl rfl ?_
  refine g_geti ok rfl rfl ?_
  refine g_istore_n ok rfl (L' := [(0, (28, 0, a0)), (1, (0, (gI s a0 8), 0))]) rfl ?_
  refine g_aload_n ok rfl rfl ?_
  refine g_iconst ok (v := 0) rfl ?_
  refine g_puti ok rfl rfl rfl ?_
  let s1 : gS := gw s a0 8 0
  refine g_iload_n ok rfl ?_
  refine g_iconst ok (v := 2) rfl ?_
  refine g_irem ok (by decide) ?_
  refine g_if_ne ok rfl (fun _ => ?_) (fun _ => ?_)
  · refine g_rb gs_238 1 (cd' := gb_238_16) rfl rfl ?_
    refine g_iload_n ok rfl ?_
    refine g_bipush ok (v := 40) rfl ?_
    refine g_ic_gt ok rfl (fun _ => ?_) (fun _ => ?_)
    · exact g_wk ok [(0, (28, 0, a0)), (1, (0, (gI s a0 8), 0))] ⟨rfl, rfl, trivial⟩ (tb_238_26 ok hX d  a0 (gI s a0 8) s1)
    · refine g_rb gs_238 2 (cd' := gb_238_22) rfl rfl ?_
      refine g_iconst ok (v := 1) rfl ?_
      refine g_goto ok rfl ?_
      exact g_wk ok [(0, (28, 0, a0)), (1, (0, (gI s a0 8), 0))] ⟨rfl, rfl, trivial⟩ (tb_238_27 ok hX d  a0 (gI s a0 8) 1 s1)
  · exact g_wk ok [(0, (28, 0, a0)), (1, (0, (gI s a0 8), 0))] ⟨rfl, rfl, trivial⟩ (tb_238_26 ok hX d  a0 (gI s a0 8) s1)
-- X12_seen
theorem tb_239_30 {X : gX} (ok : gOK X) (hX : gHX X) (d : Nat)  (x0 : Nat) (x2 : Int) (s : gS) : Go X em_239 239 (d + 3) 30 [] [(0, (28, 0, x0)), (2, (0, x2, 0))] [] s 0 0 (fb_239_30 x0 x2 s) some := by
  delta fb_239_30
  refine g_rb gs_239 5 (cd' := gb_239_30) rfl rfl ?_
  refine g_aload_n ok rfl rfl ?_
  refine g_geti ok rfl rfl ?_
  refine g_if_le ok rfl (fun _ => ?_) (fun _ => ?_)
  · refine g_rb gs_239 6 (cd' := gb_239_37) rfl rfl ?_
    refine g_iconst ok (v := 0) rfl ?_
    refine g_goto ok rfl ?_
    refine g_rb gs_239 8 (cd' := gb_239_42) rfl rfl ?_
    exact g_ireturn ok rfl rfl (rfl)
  · refine g_rb gs_239 7 (cd' := gb_239_41) rfl rfl ?_
    refine g_iload_n ok rfl ?_
    refine g_rb gs_239 8 (cd' := gb_239_42) rfl rfl ?_
    exact g_ireturn ok rfl rfl (rfl)
theorem ts_239_57 {X : gX} (ok : gOK X) (hX : gHX X) (d : Nat) {k57 : (Nat × Int × Int × gS) ⊕ gO → Option gO} (hl57 : ∀ y : (Nat × Int × Int × gS), Go X em_239 239 (d + 3) 57 [] [(0, (28, 0, y.1)), (3, (0, y.2.1, 0)), (4, (0, y.2.2.1, 0))] [] y.2.2.2 0 0 (some (Sum.inl y)) k57) (hr57 : ∀ q, k57 (Sum.inr q) = some q) (x0 : Nat) (x3 : Int) (x4 : Int) (s : gS) : Go X em_239 239 (d + 3) 57 [] [(0, (28, 0, x0)), (3, (0, x3, 0)), (4, (0, x4, 0))] [] s 0 0 (sb_239_57 x0 x3 x4 s) k57 := by
  delta sb_239_57
  refine g_rb gs_239 13 (cd' := gb_239_57) rfl rfl ?_
  refine g_iload ok rfl ?_
  refine g_bipush ok (v := 64) rfl ?_
  refine g_ic_ge ok rfl (fun _ => ?_) (fun _ => ?_)
  · refine g_rb gs_239 14 (cd' := gb_239_64) rfl rfl ?_
    refine g_aload_n ok rfl rfl ?_
    refine g_getr ok 630 rfl rfl rfl ?_
    refine g_iload ok rfl ?_
    refine g_baload ok (n := 64) rfl rfl (fun _ _ => ?_)
    refine g_if_eq ok rfl (fun _ => ?_) (fun _ => ?_)
    · refine g_rb gs_239 16 (cd' := gb_239_79) rfl rfl ?_
      refine g_iinc ok rfl rfl (L' := [(0, (28, 0, x0)), (3, (0, x3, 0)), (4, (0, (g32 (x4 + 1)), 0))]) rfl ?_
      refine g_goto ok rfl ?_
      exact g_wk ok [(0, (28, 0, x0)), (3, (0, x3, 0)), (4, (0, (g32 (x4 + 1)), 0))] ⟨rfl, rfl, rfl, trivial⟩ (hl57 (x0, x3, (g32 (x4 + 1)), s))
    · refine g_rb gs_239 15 (cd' := gb_239_74) rfl rfl ?_
      refine g_iload_n ok rfl ?_
      refine g_iload ok rfl ?_
      refine g_iand ok ?_
      refine g_istore_n ok rfl (L' := [(0, (28, 0, x0)), (3, (0, (gand x3 x4), 0)), (4, (0, x4, 0))]) rfl ?_
      refine g_rb gs_239 16 (cd' := gb_239_79) rfl rfl ?_
      refine g_iinc ok rfl rfl (L' := [(0, (28, 0, x0)), (3, (0, (gand x3 x4), 0)), (4, (0, (g32 (x4 + 1)), 0))]) rfl ?_
      refine g_goto ok rfl ?_
      exact g_wk ok [(0, (28, 0, x0)), (3, (0, (gand x3 x4), 0)), (4, (0, (g32 (x4 + 1)), 0))] ⟨rfl, rfl, rfl, trivial⟩ (hl57 (x0, (gand x3 x4), (g32 (x4 + 1)), s))
  · refine g_map hr57 ?_
    refine g_rb gs_239 17 (cd' := gb_239_85) rfl rfl ?_
    refine g_iload_n ok rfl ?_
    exact g_ireturn ok rfl rfl (rfl)
theorem tl_239_57 {X : gX} (ok : gOK X) (hX : gHX X) (d : Nat)  (y : (Nat × Int × Int × gS)) : Go X em_239 239 (d + 3) 57 [] [(0, (28, 0, y.1)), (3, (0, y.2.1, 0)), (4, (0, y.2.2.1, 0))] [] y.2.2.2 0 0 (gloop (st_239_57) y) some :=
  g_loop (Lh := fun y => [(0, (28, 0, y.1)), (3, (0, y.2.1, 0)), (4, (0, y.2.2.1, 0))]) (sh := fun y => y.2.2.2) (fun k57 hl57 hr57 y => ts_239_57 ok hX d  hl57 hr57 y.1 y.2.1 y.2.2.1 y.2.2.2) y
theorem tb_239_53 {X : gX} (ok : gOK X) (hX : gHX X) (d : Nat)  (x0 : Nat) (w0 : Int) (s : gS) : Go X em_239 239 (d + 3) 53 [] [(0, (28, 0, x0))] [(0, w0, 0)] s 0 0 (fb_239_53 x0 w0 s) some := by
  delta fb_239_53
  refine g_rb gs_239 12 (cd' := gb_239_53) rfl rfl ?_
  refine g_istore_n ok rfl (L' := [(0, (28, 0, x0)), (3, (0, w0, 0))]) rfl ?_
  refine g_iconst ok (v := 1) rfl ?_
  refine g_istore ok rfl (L' := [(0, (28, 0, x0)), (3, (0, w0, 0)), (4, (0, 1, 0))]) rfl ?_
  exact g_wk ok [(0, (28, 0, x0)), (3, (0, w0, 0)), (4, (0, 1, 0))] ⟨rfl, rfl, rfl, trivial⟩ (tl_239_57 ok hX d  (x0, w0, 1, s))
theorem tb_239_16 {X : gX} (ok : gOK X) (hX : gHX X) (d : Nat)  (x0 : Nat) (x1 : Int) (x2 : Int) (w0 : Int) (w1 : Nat) (s : gS) : Go X em_239 239 (d + 3) 16 [] [(0, (28, 0, x0)), (1, (0, x1, 0)), (2, (0, x2, 0))] [(0, w0, 0), (28, 0, w1)] s 0 0 (fb_239_16 x0 x1 x2 w0 w1 s) some := by
  delta fb_239_16
  refine g_rb gs_239 3 (cd' := gb_239_16) rfl rfl ?_
  refine g_puti ok rfl rfl rfl ?_
  let s3 : gS := gw s w1 0 w0
  refine g_aload_n ok rfl rfl ?_
  refine g_geti ok rfl rfl ?_
  refine g_if_gt ok rfl (fun _ => ?_) (fun _ => ?_)
  · exact g_wk ok [(0, (28, 0, x0)), (2, (0, x2, 0))] ⟨rfl, rfl, trivial⟩ (tb_239_30 ok hX d  x0 x2 s3)
  · refine g_rb gs_239 4 (cd' := gb_239_26) rfl rfl ?_
    refine g_iload_n ok rfl ?_
    refine g_if_ne ok rfl (fun _ => ?_) (fun _ => ?_)
    · exact g_wk ok [(0, (28, 0, x0)), (2, (0, x2, 0))] ⟨rfl, rfl, trivial⟩ (tb_239_30 ok hX d  x0 x2 s3)
    · refine g_rb gs_239 9 (cd' := gb_239_43) rfl rfl ?_
      refine g_iload_n ok rfl ?_
      refine g_if_ne ok rfl (fun _ => ?_) (fun _ => ?_)
      · refine g_rb gs_239 10 (cd' := gb_239_47) rfl rfl ?_
        refine g_iconst ok (v := 0) rfl ?_
        refine g_goto ok rfl ?_
        exact g_wk ok [(0, (28, 0, x0))] ⟨rfl, trivial⟩ (tb_239_53 ok hX d  x0 0 s3)
      · refine g_rb gs_239 11 (cd' := gb_239_51) rfl rfl ?_
        refine g_bipush ok (v := 63) rfl ?_
        exact g_wk ok [(0, (28, 0, x0))] ⟨rfl, trivial⟩ (tb_239_53 ok hX d  x0 63 s3)
theorem t_239 {X : gX} (ok : gOK X) (hX : gHX X) (d : Nat) (a0 : Nat) (a1 : Int) (s : gS) : Go X em_239 239 (d + 3) 0 [] [(0, (28, 0, a0)), (1, (0, a1, 0))] [] s 0 0 (f_239 a0 a1 s) some := by
  delta f_239
  refine g_rb gs_239 0 (cd' := gb_239_0) rfl rfl ?_
  refine g_aload_n ok rfl rfl ?_
  refine g_cv1 ok (me_238 hX) rfl rfl rfl rfl (t_238 ok hX _ a0 s) (fun v2 s1 => ?_)
  refine g_istore_n ok rfl (L' := [(0, (28, 0, a0)), (1, (0, a1, 0)), (2, (0, v2, 0))]) rfl ?_
  refine g_aload_n ok rfl rfl ?_
  refine g_iload_n ok rfl ?_
  refine g_iconst ok (v := (-1)) rfl ?_
  refine g_ic_ne ok rfl (fun _ => ?_) (fun _ => ?_)
  · refine g_rb gs_239 1 (cd' := gb_239_11) rfl rfl ?_
    refine g_iconst ok (v := 1) rfl ?_
    refine g_goto ok rfl ?_
    exact g_wk ok [(0, (28, 0, a0)), (1, (0, a1, 0)), (2, (0, v2, 0))] ⟨rfl, rfl, rfl, trivial⟩ (tb_239_16 ok hX d  a0 a1 v2 1 a0 s1)
  · refine g_rb gs_239 2 (cd' := gb_239_15) rfl rfl ?_
    refine g_iconst ok (v := 0) rfl ?_
    exact g_wk ok [(0, (28, 0, a0)), (1, (0, a1, 0)), (2, (0, v2, 0))] ⟨rfl, rfl, rfl, trivial⟩ (tb_239_16 ok hX d  a0 a1 v2 0 a0 s1)
-- X12_ask
theorem tb_240_93 {X : gX} (ok : gOK X) (hX : gHX X) (d : Nat) {k37 : (Nat × Int × Int × Int × Int × gS) ⊕ gO → Option gO} (hl37 : ∀ y : (Nat × Int × Int × Int × Int × gS), Go X em_240 240 (d + 3) 37 [] [(0, (28, 0, y.1)), (1, (0, y.2.1, 0)), (2, (0, y.2.2.1, 0)), (3, (0, y.2.2.2.1, 0)), (4, (0, y.2.2.2.2.1, 0))] [] y.2.2.2.2.2 0 0 (some (Sum.inl y)) k37) (hr37 : ∀ q, k37 (Sum.inr q) = some q) {k59 : (Nat × Int × Int × Int × Int × Int × Int × gS) ⊕ ((Nat × Int × Int × Int × Int × gS) ⊕ gO) → Option gO} (hl59 : ∀ y : (Nat × Int × Int × Int × Int × Int × Int × gS), Go X em_240 240 (d + 3) 59 [] [(0, (28, 0, y.1)), (1, (0, y.2.1, 0)), (2, (0, y.2.2.1, 0)), (3, (0, y.2.2.2.1, 0)), (4, (0, y.2.2.2.2.1, 0)), (5, (0, y.2.2.2.2.2.1, 0)), (6, (0, y.2.2.2.2.2.2.1, 0))] [] y.2.2.2.2.2.2.2 0 0 (some (Sum.inl y)) k59) (hr59 : ∀ q, k59 (Sum.inr q) = k37 q) (x0 : Nat) (x1 : Int) (x2 : Int) (x3 : Int) (x4 : Int) (x6 : Int) (w0 : Int) (s : gS) : Go X em_240 240 (d + 3) 93 [] [(0, (28, 0, x0)), (1, (0, x1, 0)), (2, (0, x2, 0)), (3, (0, x3, 0)), (4, (0, x4, 0)), (6, (0, x6, 0))] [(0, w0, 0)] s 0 0 (fb_240_93 x0 x1 x2 x3 x4 x6 w0 s) k59 := by
  delta fb_240_93
  refine g_rb gs_240 13 (cd' := gb_240_93) rfl rfl ?_
  refine g_iconst ok (v := 0) rfl ?_
  refine g_rb gs_240 14 (cd' := gb_240_94) rfl rfl ?_
  refine g_iadd ok ?_
  refine g_istore ok rfl (L' := [(0, (28, 0, x0)), (1, (0, x1, 0)), (2, (0, x2, 0)), (3, (0, x3, 0)), (4, (0, x4, 0)), (6, (0, x6, 0)), (5, (0, (g32 (w0 + 0)), 0))]) rfl ?_
  refine g_iinc ok rfl rfl (L' := [(0, (28, 0, x0)), (1, (0, x1, 0)), (2, (0, x2, 0)), (3, (0, x3, 0)), (4, (0, x4, 0)), (6, (0, (g32 (x6 + 1)), 0)), (5, (0, (g32 (w0 + 0)), 0))]) rfl ?_
  refine g_goto ok rfl ?_
  exact g_wk ok [(0, (28, 0, x0)), (1, (0, x1, 0)), (2, (0, x2, 0)), (3, (0, x3, 0)), (4, (0, x4, 0)), (5, (0, (g32 (w0 + 0)), 0)), (6, (0, (g32 (x6 + 1)), 0))] ⟨rfl, rfl, rfl, rfl, rfl, rfl, rfl, trivial⟩ (hl59 (x0, x1, x2, x3, x4, (g32 (w0 + 0)), (g32 (x6 + 1)), s))
theorem ts_240_59 {X : gX} (ok : gOK X) (hX : gHX X) (d : Nat) {k37 : (Nat × Int × Int × Int × Int × gS) ⊕ gO → Option gO} (hl37 : ∀ y : (Nat × Int × Int × Int × Int × gS), Go X em_240 240 (d + 3) 37 [] [(0, (28, 0, y.1)), (1, (0, y.2.1, 0)), (2, (0, y.2.2.1, 0)), (3, (0, y.2.2.2.1, 0)), (4, (0, y.2.2.2.2.1, 0))] [] y.2.2.2.2.2 0 0 (some (Sum.inl y)) k37) (hr37 : ∀ q, k37 (Sum.inr q) = some q) {k59 : (Nat × Int × Int × Int × Int × Int × Int × gS) ⊕ ((Nat × Int × Int × Int × Int × gS) ⊕ gO) → Option gO} (hl59 : ∀ y : (Nat × Int × Int × Int × Int × Int × Int × gS), Go X em_240 240 (d + 3) 59 [] [(0, (28, 0, y.1)), (1, (0, y.2.1, 0)), (2, (0, y.2.2.1, 0)), (3, (0, y.2.2.2.1, 0)), (4, (0, y.2.2.2.2.1, 0)), (5, (0, y.2.2.2.2.2.1, 0)), (6, (0, y.2.2.2.2.2.2.1, 0))] [] y.2.2.2.2.2.2.2 0 0 (some (Sum.inl y)) k59) (hr59 : ∀ q, k59 (Sum.inr q) = k37 q) (x0 : Nat) (x1 : Int) (x2 : Int) (x3 : Int) (x4 : Int) (x5 : Int) (x6 : Int) (s : gS) : Go X em_240 240 (d + 3) 59 [] [(0, (28, 0, x0)), (1, (0, x1, 0)), (2, (0, x2, 0)), (3, (0, x3, 0)), (4, (0, x4, 0)), (5, (0, x5, 0)), (6, (0, x6, 0))] [] s 0 0 (sb_240_59 x0 x1 x2 x3 x4 x5 x6 s) k59 := by
  delta sb_240_59
  refine g_rb gs_240 9 (cd' := gb_240_59) rfl rfl ?_
  refine g_iload ok rfl ?_
  refine g_bipush ok (v := 64) rfl ?_
  refine g_ic_ge ok rfl (fun _ => ?_) (fun _ => ?_)
  · refine g_rb gs_240 10 (cd' := gb_240_66) rfl rfl ?_
    refine g_iload ok rfl ?_
    refine g_aload_n ok rfl rfl ?_
    refine g_getr ok 630 rfl rfl rfl ?_
    refine g_iload ok rfl ?_
    refine g_baload ok (n := 64) rfl rfl (fun _ _ => ?_)
    refine g_if_eq ok rfl (fun _ => ?_) (fun _ => ?_)
    · exact g_wk ok [(0, (28, 0, x0)), (1, (0, x1, 0)), (2, (0, x2, 0)), (3, (0, x3, 0)), (4, (0, x4, 0)), (6, (0, x6, 0))] ⟨rfl, rfl, rfl, rfl, rfl, rfl, trivial⟩ (tb_240_93 ok hX d hl37 hr37 hl59 hr59 x0 x1 x2 x3 x4 x6 x5 s)
    · refine g_rb gs_240 11 (cd' := gb_240_78) rfl rfl ?_
      refine g_aload_n ok rfl rfl ?_
      refine g_iload ok rfl ?_
      refine g_iload ok rfl ?_
      refine g_cvz ok (me_212 hX) rfl rfl rfl rfl (t_212 ok hX _ x0 x4 x6 s) (fun v5 s4 hb6 => ?_)
      refine g_if_eq ok rfl (fun _ => ?_) (fun _ => ?_)
      · exact g_wk ok [(0, (28, 0, x0)), (1, (0, x1, 0)), (2, (0, x2, 0)), (3, (0, x3, 0)), (4, (0, x4, 0)), (6, (0, x6, 0))] ⟨rfl, rfl, rfl, rfl, rfl, rfl, trivial⟩ (tb_240_93 ok hX d hl37 hr37 hl59 hr59 x0 x1 x2 x3 x4 x6 x5 s4)
      · refine g_rb gs_240 12 (cd' := gb_240_89) rfl rfl ?_
        refine g_iconst ok (v := 1) rfl ?_
        refine g_goto ok rfl ?_
        refine g_rb gs_240 14 (cd' := gb_240_94) rfl rfl ?_
        refine g_iadd ok ?_
        refine g_istore ok rfl (L' := [(0, (28, 0, x0)), (1, (0, x1, 0)), (2, (0, x2, 0)), (3, (0, x3, 0)), (4, (0, x4, 0)), (5, (0, (g32 (x5 + 1)), 0)), (6, (0, x6, 0))]) rfl ?_
        refine g_iinc ok rfl rfl (L' := [(0, (28, 0, x0)), (1, (0, x1, 0)), (2, (0, x2, 0)), (3, (0, x3, 0)), (4, (0, x4, 0)), (5, (0, (g32 (x5 + 1)), 0)), (6, (0, (g32 (x6 + 1)), 0))]) rfl ?_
        refine g_goto ok rfl ?_
        exact g_wk ok [(0, (28, 0, x0)), (1, (0, x1, 0)), (2, (0, x2, 0)), (3, (0, x3, 0)), (4, (0, x4, 0)), (5, (0, (g32 (x5 + 1)), 0)), (6, (0, (g32 (x6 + 1)), 0))] ⟨rfl, rfl, rfl, rfl, rfl, rfl, rfl, trivial⟩ (hl59 (x0, x1, x2, x3, x4, (g32 (x5 + 1)), (g32 (x6 + 1)), s4))
  · refine g_map hr59 ?_
    refine g_rb gs_240 15 (cd' := gb_240_103) rfl rfl ?_
    refine g_iload ok rfl ?_
    refine g_iload_n ok rfl ?_
    refine g_iload ok rfl ?_
    refine g_isub ok ?_
    refine g_cs1 ok (me_152 hX) rfl rfl rfl (t_152 ok hX _ x5 (g32 (x1 - x5)) s) (fun v8 s7 => ?_)
    refine g_iload_n ok rfl ?_
    refine g_ic_lt ok rfl (fun _ => ?_) (fun _ => ?_)
    · refine g_rb gs_240 17 (cd' := gb_240_119) rfl rfl ?_
      refine g_iload ok rfl ?_
      refine g_iload_n ok rfl ?_
      refine g_iload ok rfl ?_
      refine g_isub ok ?_
      refine g_cs1 ok (me_152 hX) rfl rfl rfl (t_152 ok hX _ x5 (g32 (x1 - x5)) s7) (fun v10 s9 => ?_)
      refine g_istore_n ok rfl (L' := [(0, (28, 0, x0)), (1, (0, x1, 0)), (2, (0, x2, 0)), (3, (0, v10, 0)), (4, (0, x4, 0)), (5, (0, x5, 0)), (6, (0, x6, 0))]) rfl ?_
      refine g_iload ok rfl ?_
      refine g_istore_n ok rfl (L' := [(0, (28, 0, x0)), (1, (0, x1, 0)), (2, (0, x4, 0)), (3, (0, v10, 0)), (4, (0, x4, 0)), (5, (0, x5, 0)), (6, (0, x6, 0))]) rfl ?_
      refine g_rb gs_240 18 (cd' := gb_240_132) rfl rfl ?_
      refine g_iinc ok rfl rfl (L' := [(0, (28, 0, x0)), (1, (0, x1, 0)), (2, (0, x4, 0)), (3, (0, v10, 0)), (4, (0, (g32 (x4 + 1)), 0)), (5, (0, x5, 0)), (6, (0, x6, 0))]) rfl ?_
      refine g_goto ok rfl ?_
      exact g_wk ok [(0, (28, 0, x0)), (1, (0, x1, 0)), (2, (0, x4, 0)), (3, (0, v10, 0)), (4, (0, (g32 (x4 + 1)), 0))] ⟨rfl, rfl, rfl, rfl, rfl, trivial⟩ (hl37 (x0, x1, x4, v10, (g32 (x4 + 1)), s9))
    · refine g_rb gs_240 16 (cd' := gb_240_116) rfl rfl ?_
      refine g_goto ok rfl ?_
      refine g_rb gs_240 18 (cd' := gb_240_132) rfl rfl ?_
      refine g_iinc ok rfl rfl (L' := [(0, (28, 0, x0)), (1, (0, x1, 0)), (2, (0, x2, 0)), (3, (0, x3, 0)), (4, (0, (g32 (x4 + 1)), 0)), (5, (0, x5, 0)), (6, (0, x6, 0))]) rfl ?_
      refine g_goto ok rfl ?_
      exact g_wk ok [(0, (28, 0, x0)), (1, (0, x1, 0)), (2, (0, x2, 0)), (3, (0, x3, 0)), (4, (0, (g32 (x4 + 1)), 0))] ⟨rfl, rfl, rfl, rfl, rfl, trivial⟩ (hl37 (x0, x1, x2, x3, (g32 (x4 + 1)), s7))
theorem tl_240_59 {X : gX} (ok : gOK X) (hX : gHX X) (d : Nat) {k37 : (Nat × Int × Int × Int × Int × gS) ⊕ gO → Option gO} (hl37 : ∀ y : (Nat × Int × Int × Int × Int × gS), Go X em_240 240 (d + 3) 37 [] [(0, (28, 0, y.1)), (1, (0, y.2.1, 0)), (2, (0, y.2.2.1, 0)), (3, (0, y.2.2.2.1, 0)), (4, (0, y.2.2.2.2.1, 0))] [] y.2.2.2.2.2 0 0 (some (Sum.inl y)) k37) (hr37 : ∀ q, k37 (Sum.inr q) = some q) (y : (Nat × Int × Int × Int × Int × Int × Int × gS)) : Go X em_240 240 (d + 3) 59 [] [(0, (28, 0, y.1)), (1, (0, y.2.1, 0)), (2, (0, y.2.2.1, 0)), (3, (0, y.2.2.2.1, 0)), (4, (0, y.2.2.2.2.1, 0)), (5, (0, y.2.2.2.2.2.1, 0)), (6, (0, y.2.2.2.2.2.2.1, 0))] [] y.2.2.2.2.2.2.2 0 0 (gloop (st_240_59) y) k37 :=
  g_loop (Lh := fun y => [(0, (28, 0, y.1)), (1, (0, y.2.1, 0)), (2, (0, y.2.2.1, 0)), (3, (0, y.2.2.2.1, 0)), (4, (0, y.2.2.2.2.1, 0)), (5, (0, y.2.2.2.2.2.1, 0)), (6, (0, y.2.2.2.2.2.2.1, 0))]) (sh := fun y => y.2.2.2.2.2.2.2) (fun k59 hl59 hr59 y => ts_240_59 ok hX d hl37 hr37 hl59 hr59 y.1 y.2.1 y.2.2.1 y.2.2.2.1 y.2.2.2.2.1 y.2.2.2.2.2.1 y.2.2.2.2.2.2.1 y.2.2.2.2.2.2.2) y
theorem ts_240_37 {X : gX} (ok : gOK X) (hX : gHX X) (d : Nat) {k37 : (Nat × Int × Int × Int × Int × gS) ⊕ gO → Option gO} (hl37 : ∀ y : (Nat × Int × Int × Int × Int × gS), Go X em_240 240 (d + 3) 37 [] [(0, (28, 0, y.1)), (1, (0, y.2.1, 0)), (2, (0, y.2.2.1, 0)), (3, (0, y.2.2.2.1, 0)), (4, (0, y.2.2.2.2.1, 0))] [] y.2.2.2.2.2 0 0 (some (Sum.inl y)) k37) (hr37 : ∀ q, k37 (Sum.inr q) = some q) (x0 : Nat) (x1 : Int) (x2 : Int) (x3 : Int) (x4 : Int) (s : gS) : Go X em_240 240 (d + 3) 37 [] [(0, (28, 0, x0)), (1, (0, x1, 0)), (2, (0, x2, 0)), (3, (0, x3, 0)), (4, (0, x4, 0))] [] s 0 0 (sb_240_37 x0 x1 x2 x3 x4 s) k37 := by
  delta sb_240_37
  refine g_rb gs_240 6 (cd' := gb_240_37) rfl rfl ?_
  refine g_iload ok rfl ?_
  refine g_aload_n ok rfl rfl ?_
  refine g_getr ok 6036 rfl rfl rfl ?_
  refine g_iconst ok (v := 5) rfl ?_
  refine g_ialoadc ok (n := 740) 5 rfl rfl rfl ?_
  refine g_ic_ge ok rfl (fun _ => ?_) (fun _ => ?_)
  · refine g_rb gs_240 7 (cd' := gb_240_48) rfl rfl ?_
    refine g_iload_n ok rfl ?_
    refine g_iconst ok (v := 1) rfl ?_
    refine g_ic_le ok rfl (fun _ => ?_) (fun _ => ?_)
    · refine g_rb gs_240 8 (cd' := gb_240_53) rfl rfl ?_
      refine g_iconst ok (v := 0) rfl ?_
      refine g_istore ok rfl (L' := [(0, (28, 0, x0)), (1, (0, x1, 0)), (2, (0, x2, 0)), (3, (0, x3, 0)), (4, (0, x4, 0)), (5, (0, 0, 0))]) rfl ?_
      refine g_iconst ok (v := 1) rfl ?_
      refine g_istore ok rfl (L' := [(0, (28, 0, x0)), (1, (0, x1, 0)), (2, (0, x2, 0)), (3, (0, x3, 0)), (4, (0, x4, 0)), (5, (0, 0, 0)), (6, (0, 1, 0))]) rfl ?_
      exact g_wk ok [(0, (28, 0, x0)), (1, (0, x1, 0)), (2, (0, x2, 0)), (3, (0, x3, 0)), (4, (0, x4, 0)), (5, (0, 0, 0)), (6, (0, 1, 0))] ⟨rfl, rfl, rfl, rfl, rfl, rfl, rfl, trivial⟩ (tl_240_59 ok hX d hl37 hr37 (x0, x1, x2, x3, x4, 0, 1, s))
    · refine g_map hr37 ?_
      refine g_rb gs_240 19 (cd' := gb_240_138) rfl rfl ?_
      refine g_iload_n ok rfl ?_
      exact g_ireturn ok rfl rfl (rfl)
  · refine g_map hr37 ?_
    refine g_rb gs_240 19 (cd' := gb_240_138) rfl rfl ?_
    refine g_iload_n ok rfl ?_
    exact g_ireturn ok rfl rfl (rfl)
theorem tl_240_37 {X : gX} (ok : gOK X) (hX : gHX X) (d : Nat)  (y : (Nat × Int × Int × Int × Int × gS)) : Go X em_240 240 (d + 3) 37 [] [(0, (28, 0, y.1)), (1, (0, y.2.1, 0)), (2, (0, y.2.2.1, 0)), (3, (0, y.2.2.2.1, 0)), (4, (0, y.2.2.2.2.1, 0))] [] y.2.2.2.2.2 0 0 (gloop (st_240_37) y) some :=
  g_loop (Lh := fun y => [(0, (28, 0, y.1)), (1, (0, y.2.1, 0)), (2, (0, y.2.2.1, 0)), (3, (0, y.2.2.2.1, 0)), (4, (0, y.2.2.2.2.1, 0))]) (sh := fun y => y.2.2.2.2.2) (fun k37 hl37 hr37 y => ts_240_37 ok hX d  hl37 hr37 y.1 y.2.1 y.2.2.1 y.2.2.2.1 y.2.2.2.2.1 y.2.2.2.2.2) y
theorem tb_240_16 {X : gX} (ok : gOK X) (hX : gHX X) (d : Nat)  (x0 : Nat) (x1 : Int) (w0 : Int) (w1 : Nat) (s : gS) : Go X em_240 240 (d + 3) 16 [] [(0, (28, 0, x0)), (1, (0, x1, 0))] [(0, w0, 0), (28, 0, w1)] s 0 0 (fb_240_16 x0 x1 w0 w1 s) some := by
  delta fb_240_16
  refine g_rb gs_240 3 (cd' := gb_240_16) rfl rfl ?_
  refine g_puti ok rfl rfl rfl ?_
  let s3 : gS := gw s w1 0 w0
  refine g_aload_n ok rfl rfl ?_
  refine g_geti ok rfl rfl ?_
  refine g_if_le ok rfl (fun _ => ?_) (fun _ => ?_)
  · refine g_rb gs_240 4 (cd' := gb_240_26) rfl rfl ?_
    refine g_iconst ok (v := 0) rfl ?_
    exact g_ireturn ok rfl rfl (rfl)
  · refine g_rb gs_240 5 (cd' := gb_240_28) rfl rfl ?_
    refine g_iconst ok (v := (-1)) rfl ?_
    refine g_istore_n ok rfl (L' := [(0, (28, 0, x0)), (1, (0, x1, 0)), (2, (0, (-1), 0))]) rfl ?_
    refine g_ldcw ok (v := 2000000000) rfl ?_ (by decide) (by decide)
    refine g_istore_n ok rfl (L' := [(0, (28, 0, x0)), (1, (0, x1, 0)), (2, (0, (-1), 0)), (3, (0, 2000000000, 0))]) rfl ?_
    refine g_iconst ok (v := 0) rfl ?_
    refine g_istore ok rfl (L' := [(0, (28, 0, x0)), (1, (0, x1, 0)), (2, (0, (-1), 0)), (3, (0, 2000000000, 0)), (4, (0, 0, 0))]) rfl ?_
    exact g_wk ok [(0, (28, 0, x0)), (1, (0, x1, 0)), (2, (0, (-1), 0)), (3, (0, 2000000000, 0)), (4, (0, 0, 0))] ⟨rfl, rfl, rfl, rfl, rfl, trivial⟩ (tl_240_37 ok hX d  (x0, x1, (-1), 2000000000, 0, s3))
theorem t_240 {X : gX} (ok : gOK X) (hX : gHX X) (d : Nat) (a0 : Nat) (s : gS) : Go X em_240 240 (d + 3) 0 [] [(0, (28, 0, a0))] [] s 0 0 (f_240 a0 s) some := by
  delta f_240
  refine g_rb gs_240 0 (cd' := gb_240_0) rfl rfl ?_
  refine g_aload_n ok rfl rfl ?_
  refine g_cv1 ok (me_238 hX) rfl rfl rfl rfl (t_238 ok hX _ a0 s) (fun v2 s1 => ?_)
  refine g_istore_n ok rfl (L' := [(0, (28, 0, a0)), (1, (0, v2, 0))]) rfl ?_
  refine g_aload_n ok rfl rfl ?_
  refine g_iload_n ok rfl ?_
  refine g_iconst ok (v := (-1)) rfl ?_
  refine g_ic_ne ok rfl (fun _ => ?_) (fun _ => ?_)
  · refine g_rb gs_240 1 (cd' := gb_240_11) rfl rfl ?_
    refine g_iconst ok (v := 1) rfl ?_
    refine g_goto ok rfl ?_
    exact g_wk ok [(0, (28, 0, a0)), (1, (0, v2, 0))] ⟨rfl, rfl, trivial⟩ (tb_240_16 ok hX d  a0 v2 1 a0 s1)
  · refine g_rb gs_240 2 (cd' := gb_240_15) rfl rfl ?_
    refine g_iconst ok (v := 0) rfl ?_
    exact g_wk ok [(0, (28, 0, a0)), (1, (0, v2, 0))] ⟨rfl, rfl, trivial⟩ (tb_240_16 ok hX d  a0 v2 0 a0 s1)
-- X12_princePays
theorem tb_241_44 {X : gX} (ok : gOK X) (hX : gHX X) (d : Nat)  (x5 : Int) (w0 : Int) (s : gS) : Go X em_241 241 (d + 2) 44 [] [(5, (0, x5, 0))] [(0, w0, 0)] s 0 0 (fb_241_44 x5 w0 s) some := by
  delta fb_241_44
  refine g_rb gs_241 8 (cd' := gb_241_44) rfl rfl ?_
  refine g_istore ok rfl (L' := [(5, (0, x5, 0)), (6, (0, w0, 0))]) rfl ?_
  refine g_iload ok rfl ?_
  refine g_iload ok rfl ?_
  refine g_if_eq ok rfl (fun _ => ?_) (fun _ => ?_)
  · refine g_rb gs_241 10 (cd' := gb_241_58) rfl rfl ?_
    refine g_iconst ok (v := 0) rfl ?_
    refine g_rb gs_241 11 (cd' := gb_241_59) rfl rfl ?_
    refine g_iadd ok ?_
    exact g_ireturn ok rfl rfl (rfl)
  · refine g_rb gs_241 9 (cd' := gb_241_53) rfl rfl ?_
    refine g_bipush ok (v := 50) rfl ?_
    refine g_goto ok rfl ?_
    refine g_rb gs_241 11 (cd' := gb_241_59) rfl rfl ?_
    refine g_iadd ok ?_
    exact g_ireturn ok rfl rfl (rfl)
theorem tb_241_43 {X : gX} (ok : gOK X) (hX : gHX X) (d : Nat)  (x5 : Int) (s : gS) : Go X em_241 241 (d + 2) 43 [] [(5, (0, x5, 0))] [] s 0 0 (fb_241_43 x5 s) some := by
  delta fb_241_43
  refine g_rb gs_241 7 (cd' := gb_241_43) rfl rfl ?_
  refine g_iconst ok (v := 0) rfl ?_
  exact g_wk ok [(5, (0, x5, 0))] ⟨rfl, trivial⟩ (tb_241_44 ok hX d  x5 0 s)
theorem tb_241_13 {X : gX} (ok : gOK X) (hX : gHX X) (d : Nat)  (x0 : Nat) (x1 : Int) (x2 : Int) (x3 : Int) (x4 : Int) (w0 : Int) (s : gS) : Go X em_241 241 (d + 2) 13 [] [(0, (28, 0, x0)), (1, (0, x1, 0)), (2, (0, x2, 0)), (3, (0, x3, 0)), (4, (0, x4, 0))] [(0, w0, 0)] s 0 0 (fb_241_13 x0 x1 x2 x3 x4 w0 s) some := by
  delta fb_241_13
  refine g_rb gs_241 3 (cd' := gb_241_13) rfl rfl ?_
  refine g_istore ok rfl (L' := [(0, (28, 0, x0)), (1, (0, x1, 0)), (2, (0, x2, 0)), (3, (0, x3, 0)), (4, (0, x4, 0)), (5, (0, w0, 0))]) rfl ?_
  refine g_iload ok rfl ?_
  refine g_if_ne ok rfl (fun _ => ?_) (fun _ => ?_)
  · refine g_rb gs_241 4 (cd' := gb_241_20) rfl rfl ?_
    refine g_iload_n ok rfl ?_
    refine g_iconst ok (v := 1) rfl ?_
    refine g_ic_eq ok rfl (fun _ => ?_) (fun _ => ?_)
    · refine g_rb gs_241 6 (cd' := gb_241_39) rfl rfl ?_
      refine g_iconst ok (v := 1) rfl ?_
      refine g_goto ok rfl ?_
      exact g_wk ok [(5, (0, w0, 0))] ⟨rfl, trivial⟩ (tb_241_44 ok hX d  w0 1 s)
    · refine g_rb gs_241 5 (cd' := gb_241_25) rfl rfl ?_
      refine g_aload_n ok rfl rfl ?_
      refine g_iload_n ok rfl ?_
      refine g_aload_n ok rfl rfl ?_
      refine g_iload_n ok rfl ?_
      refine g_iconst ok (v := 2) rfl ?_
      refine g_cv1 ok (me_156 hX) rfl rfl rfl rfl (t_156 ok hX _ x0 x1 2 s) (fun v4 s3 => ?_)
      refine g_cvz ok (me_212 hX) rfl rfl rfl rfl (t_212 ok hX _ x0 x2 v4 s3) (fun v6 s5 hb7 => ?_)
      refine g_if_ne ok rfl (fun _ => ?_) (fun _ => ?_)
      · refine g_rb gs_241 6 (cd' := gb_241_39) rfl rfl ?_
        refine g_iconst ok (v := 1) rfl ?_
        refine g_goto ok rfl ?_
        exact g_wk ok [(5, (0, w0, 0))] ⟨rfl, trivial⟩ (tb_241_44 ok hX d  w0 1 s5)
      · exact g_wk ok [(5, (0, w0, 0))] ⟨rfl, trivial⟩ (tb_241_43 ok hX d  w0 s5)
  · exact g_wk ok [(5, (0, w0, 0))] ⟨rfl, trivial⟩ (tb_241_43 ok hX d  w0 s)
theorem t_241 {X : gX} (ok : gOK X) (hX : gHX X) (d : Nat) (a0 : Nat) (a1 : Int) (a2 : Int) (a3 : Int) (a4 : Int) (s : gS) : Go X em_241 241 (d + 2) 0 [] [(0, (28, 0, a0)), (1, (0, a1, 0)), (2, (0, a2, 0)), (3, (0, a3, 0)), (4, (0, a4, 0))] [] s 0 0 (f_241 a0 a1 a2 a3 a4 s) some := by
  delta f_241
  refine g_rb gs_241 0 (cd' := gb_241_0) rfl rfl ?_
  refine g_iload_n ok rfl ?_
  refine g_if_ne ok rfl (fun _ => ?_) (fun _ => ?_)
  · refine g_rb gs_241 1 (cd' := gb_241_4) rfl rfl ?_
    refine g_aload_n ok rfl rfl ?_
    refine g_iload_n ok rfl ?_
    refine g_cv1 ok (me_158 hX) rfl rfl rfl rfl (t_158 ok hX _ a0 a2 s) (fun v2 s1 => ?_)
    refine g_goto ok rfl ?_
    exact g_wk ok [(0, (28, 0, a0)), (1, (0, a1, 0)), (2, (0, a2, 0)), (3, (0, a3, 0)), (4, (0, a4, 0))] ⟨rfl, rfl, rfl, rfl, rfl, trivial⟩ (tb_241_13 ok hX d  a0 a1 a2 a3 a4 v2 s1)
  · refine g_rb gs_241 2 (cd' := gb_241_12) rfl rfl ?_
    refine g_iconst ok (v := 0) rfl ?_
    exact g_wk ok [(0, (28, 0, a0)), (1, (0, a1, 0)), (2, (0, a2, 0)), (3, (0, a3, 0)), (4, (0, a4, 0))] ⟨rfl, rfl, rfl, rfl, rfl, trivial⟩ (tb_241_13 ok hX d  a0 a1 a2 a3 a4 0 s)
-- X12_manHas
theorem tb_242_37 {X : gX} (ok : gOK X) (hX : gHX X) (d : Nat)   (s : gS) : Go X em_242 242 (d + 2) 37 [] [] [] s 0 0 (fb_242_37  s) some := by
  delta fb_242_37
  refine g_rb gs_242 5 (cd' := gb_242_37) rfl rfl ?_
  refine g_bipush ok (v := 30) rfl ?_
  refine g_rb gs_242 6 (cd' := gb_242_39) rfl rfl ?_
  exact g_ireturn ok rfl rfl (rfl)
theorem t_242 {X : gX} (ok : gOK X) (hX : gHX X) (d : Nat) (a0 : Nat) (a1 : Int) (a2 : Int) (a3 : Int) (a4 : Int) (s : gS) : Go X em_242 242 (d + 2) 0 [] [(0, (28, 0, a0)), (1, (0, a1, 0)), (2, (0, a2, 0)), (3, (0, a3, 0)), (4, (0, a4, 0))] [] s 0 0 (f_242 a0 a1 a2 a3 a4 s) some := by
  delta f_242
  refine g_rb gs_242 0 (cd' := gb_242_0) rfl rfl ?_
  refine g_iload ok rfl ?_
  refine g_iconst ok (v := 1) rfl ?_
  refine g_ic_ne ok rfl (fun _ => ?_) (fun _ => ?_)
  · refine g_rb gs_242 1 (cd' := gb_242_6) rfl rfl ?_
    refine g_bipush ok (v := 10) rfl ?_
    exact g_ireturn ok rfl rfl (rfl)
  · refine g_rb gs_242 2 (cd' := gb_242_9) rfl rfl ?_
    refine g_iload_n ok rfl ?_
    refine g_if_ne ok rfl (fun _ => ?_) (fun _ => ?_)
    · refine g_rb gs_242 3 (cd' := gb_242_13) rfl rfl ?_
      refine g_aload_n ok rfl rfl ?_
      refine g_iload_n ok rfl ?_
      refine g_aload_n ok rfl rfl ?_
      refine g_iload_n ok rfl ?_
      refine g_iconst ok (v := 2) rfl ?_
      refine g_cv1 ok (me_156 hX) rfl rfl rfl rfl (t_156 ok hX _ a0 a1 2 s) (fun v2 s1 => ?_)
      refine g_cvz ok (me_212 hX) rfl rfl rfl rfl (t_212 ok hX _ a0 a2 v2 s1) (fun v4 s3 hb5 => ?_)
      refine g_if_eq ok rfl (fun _ => ?_) (fun _ => ?_)
      · exact g_wk ok [] trivial (tb_242_37 ok hX d   s3)
      · refine g_rb gs_242 4 (cd' := gb_242_27) rfl rfl ?_
        refine g_aload_n ok rfl rfl ?_
        refine g_iload_n ok rfl ?_
        refine g_iconst ok (v := 0) rfl ?_
        refine g_cv1 ok (me_156 hX) rfl rfl rfl rfl (t_156 ok hX _ a0 a1 0 s3) (fun v7 s6 => ?_)
        refine g_ineg ok ?_
        refine g_goto ok rfl ?_
        refine g_rb gs_242 6 (cd' := gb_242_39) rfl rfl ?_
        exact g_ireturn ok rfl rfl (rfl)
    · exact g_wk ok [] trivial (tb_242_37 ok hX d   s)
-- X12_rests
theorem ts_243_30 {X : gX} (ok : gOK X) (hX : gHX X) (d : Nat) {k30 : (Nat × Int × Int × Int × Int × gS) ⊕ gO → Option gO} (hl30 : ∀ y : (Nat × Int × Int × Int × Int × gS), Go X em_243 243 (d + 3) 30 [] [(0, (28, 0, y.1)), (1, (0, y.2.1, 0)), (2, (0, y.2.2.1, 0)), (3, (0, y.2.2.2.1, 0)), (4, (0, y.2.2.2.2.1, 0))] [] y.2.2.2.2.2 0 0 (some (Sum.inl y)) k30) (hr30 : ∀ q, k30 (Sum.inr q) = some q) (x0 : Nat) (x1 : Int) (x2 : Int) (x3 : Int) (x4 : Int) (s : gS) : Go X em_243 243 (d + 3) 30 [] [(0, (28, 0, x0)), (1, (0, x1, 0)), (2, (0, x2, 0)), (3, (0, x3, 0)), (4, (0, x4, 0))] [] s 0 0 (sb_243_30 x0 x1 x2 x3 x4 s) k30 := by
  delta sb_243_30
  refine g_rb gs_243 5 (cd' := gb_243_30) rfl rfl ?_
  refine g_iload ok rfl ?_
  refine g_iconst ok (v := 4) rfl ?_
  refine g_ic_ge ok rfl (fun _ => ?_) (fun _ => ?_)
  · refine g_rb gs_243 6 (cd' := gb_243_36) rfl rfl ?_
    refine g_aload_n ok rfl rfl ?_
    refine g_geti ok rfl rfl ?_
    refine g_if_ne ok rfl (fun _ => ?_) (fun _ => ?_)
    · refine g_rb gs_243 7 (cd' := gb_243_43) rfl rfl ?_
      refine g_iload ok rfl ?_
      refine g_iconst ok (v := 2) rfl ?_
      refine g_idiv ok (by decide) ?_
      refine g_istore ok rfl (L' := [(0, (28, 0, x0)), (1, (0, x1, 0)), (2, (0, x2, 0)), (3, (0, x3, 0)), (4, (0, x4, 0)), (5, (0, (gdiv x4 2), 0))]) rfl ?_
      refine g_iload ok rfl ?_
      refine g_iconst ok (v := 2) rfl ?_
      refine g_irem ok (by decide) ?_
      refine g_istore ok rfl (L' := [(0, (28, 0, x0)), (1, (0, x1, 0)), (2, (0, x2, 0)), (3, (0, x3, 0)), (4, (0, x4, 0)), (5, (0, (gdiv x4 2), 0)), (6, (0, (grem x4 2), 0))]) rfl ?_
      refine g_aload_n ok rfl rfl ?_
      refine g_iload_n ok rfl ?_
      refine g_iload_n ok rfl ?_
      refine g_iconst ok (v := 1) rfl ?_
      refine g_iload ok rfl ?_
      refine g_isub ok ?_
      refine g_iload ok rfl ?_
      refine g_cv1 ok (me_241 hX) rfl rfl rfl rfl (t_241 ok hX _ x0 x1 x2 (g32 (1 - (gdiv x4 2))) (grem x4 2) s) (fun v6 s5 => ?_)
      refine g_aload_n ok rfl rfl ?_
      refine g_iload_n ok rfl ?_
      refine g_iload_n ok rfl ?_
      refine g_iload ok rfl ?_
      refine g_iload ok rfl ?_
      refine g_cv1 ok (me_241 hX) rfl rfl rfl rfl (t_241 ok hX _ x0 x1 x2 (gdiv x4 2) (grem x4 2) s5) (fun v8 s7 => ?_)
      refine g_ic_lt ok rfl (fun _ => ?_) (fun _ => ?_)
      · refine g_rb gs_243 10 (cd' := gb_243_112) rfl rfl ?_
        refine g_iinc ok rfl rfl (L' := [(0, (28, 0, x0)), (1, (0, x1, 0)), (2, (0, x2, 0)), (3, (0, x3, 0)), (4, (0, (g32 (x4 + 1)), 0)), (5, (0, (gdiv x4 2), 0)), (6, (0, (grem x4 2), 0))]) rfl ?_
        refine g_goto ok rfl ?_
        exact g_wk ok [(0, (28, 0, x0)), (1, (0, x1, 0)), (2, (0, x2, 0)), (3, (0, x3, 0)), (4, (0, (g32 (x4 + 1)), 0))] ⟨rfl, rfl, rfl, rfl, rfl, trivial⟩ (hl30 (x0, x1, x2, x3, (g32 (x4 + 1)), s7))
      · refine g_rb gs_243 8 (cd' := gb_243_80) rfl rfl ?_
        refine g_aload_n ok rfl rfl ?_
        refine g_iload_n ok rfl ?_
        refine g_iload_n ok rfl ?_
        refine g_iload ok rfl ?_
        refine g_iconst ok (v := 1) rfl ?_
        refine g_iload ok rfl ?_
        refine g_isub ok ?_
        refine g_cv1 ok (me_242 hX) rfl rfl rfl rfl (t_242 ok hX _ x0 x1 x2 (gdiv x4 2) (g32 (1 - (grem x4 2))) s7) (fun v10 s9 => ?_)
        refine g_aload_n ok rfl rfl ?_
        refine g_iload_n ok rfl ?_
        refine g_iload_n ok rfl ?_
        refine g_iload ok rfl ?_
        refine g_iload ok rfl ?_
        refine g_cv1 ok (me_242 hX) rfl rfl rfl rfl (t_242 ok hX _ x0 x1 x2 (gdiv x4 2) (grem x4 2) s9) (fun v12 s11 => ?_)
        refine g_ic_gt ok rfl (fun _ => ?_) (fun _ => ?_)
        · refine g_rb gs_243 10 (cd' := gb_243_112) rfl rfl ?_
          refine g_iinc ok rfl rfl (L' := [(0, (28, 0, x0)), (1, (0, x1, 0)), (2, (0, x2, 0)), (3, (0, x3, 0)), (4, (0, (g32 (x4 + 1)), 0)), (5, (0, (gdiv x4 2), 0)), (6, (0, (grem x4 2), 0))]) rfl ?_
          refine g_goto ok rfl ?_
          exact g_wk ok [(0, (28, 0, x0)), (1, (0, x1, 0)), (2, (0, x2, 0)), (3, (0, x3, 0)), (4, (0, (g32 (x4 + 1)), 0))] ⟨rfl, rfl, rfl, rfl, rfl, trivial⟩ (hl30 (x0, x1, x2, x3, (g32 (x4 + 1)), s11))
        · refine g_rb gs_243 9 (cd' := gb_243_105) rfl rfl ?_
          refine g_iload_n ok rfl ?_
          refine g_iconst ok (v := 1) rfl ?_
          refine g_iload ok rfl ?_
          refine g_ishl ok ?_
          refine g_ior ok ?_
          let v13 : Int := (gor x3 (gshl 1 x4))
          refine g_istore_n ok rfl (L' := [(0, (28, 0, x0)), (1, (0, x1, 0)), (2, (0, x2, 0)), (3, (0, v13, 0)), (4, (0, x4, 0)), (5, (0, (gdiv x4 2), 0)), (6, (0, (grem x4 2), 0))]) rfl ?_
          refine g_rb gs_243 10 (cd' := gb_243_112) rfl rfl ?_
          refine g_iinc ok rfl rfl (L' := [(0, (28, 0, x0)), (1, (0, x1, 0)), (2, (0, x2, 0)), (3, (0, v13, 0)), (4, (0, (g32 (x4 + 1)), 0)), (5, (0, (gdiv x4 2), 0)), (6, (0, (grem x4 2), 0))]) rfl ?_
          refine g_goto ok rfl ?_
          exact g_wk ok [(0, (28, 0, x0)), (1, (0, x1, 0)), (2, (0, x2, 0)), (3, (0, v13, 0)), (4, (0, (g32 (x4 + 1)), 0))] ⟨rfl, rfl, rfl, rfl, rfl, trivial⟩ (hl30 (x0, x1, x2, v13, (g32 (x4 + 1)), s11))
    · refine g_map hr30 ?_
      refine g_rb gs_243 11 (cd' := gb_243_118) rfl rfl ?_
      refine g_iload_n ok rfl ?_
      exact g_ireturn ok rfl rfl (rfl)
  · refine g_map hr30 ?_
    refine g_rb gs_243 11 (cd' := gb_243_118) rfl rfl ?_
    refine g_iload_n ok rfl ?_
    exact g_ireturn ok rfl rfl (rfl)
theorem tl_243_30 {X : gX} (ok : gOK X) (hX : gHX X) (d : Nat)  (y : (Nat × Int × Int × Int × Int × gS)) : Go X em_243 243 (d + 3) 30 [] [(0, (28, 0, y.1)), (1, (0, y.2.1, 0)), (2, (0, y.2.2.1, 0)), (3, (0, y.2.2.2.1, 0)), (4, (0, y.2.2.2.2.1, 0))] [] y.2.2.2.2.2 0 0 (gloop (st_243_30) y) some :=
  g_loop (Lh := fun y => [(0, (28, 0, y.1)), (1, (0, y.2.1, 0)), (2, (0, y.2.2.1, 0)), (3, (0, y.2.2.2.1, 0)), (4, (0, y.2.2.2.2.1, 0))]) (sh := fun y => y.2.2.2.2.2) (fun k30 hl30 hr30 y => ts_243_30 ok hX d  hl30 hr30 y.1 y.2.1 y.2.2.1 y.2.2.2.1 y.2.2.2.2.1 y.2.2.2.2.2) y
theorem tb_243_22 {X : gX} (ok : gOK X) (hX : gHX X) (d : Nat)  (x0 : Nat) (x1 : Int) (x2 : Int) (w0 : Int) (w1 : Nat) (s : gS) : Go X em_243 243 (d + 3) 22 [] [(0, (28, 0, x0)), (1, (0, x1, 0)), (2, (0, x2, 0))] [(0, w0, 0), (28, 0, w1)] s 0 0 (fb_243_22 x0 x1 x2 w0 w1 s) some := by
  delta fb_243_22
  refine g_rb gs_243 4 (cd' := gb_243_22) rfl rfl ?_
  refine g_puti ok rfl rfl rfl ?_
  let s4 : gS := gw s w1 0 w0
  refine g_iconst ok (v := 0) rfl ?_
  refine g_istore_n ok rfl (L' := [(0, (28, 0, x0)), (1, (0, x1, 0)), (2, (0, x2, 0)), (3, (0, 0, 0))]) rfl ?_
  refine g_iconst ok (v := 0) rfl ?_
  refine g_istore ok rfl (L' := [(0, (28, 0, x0)), (1, (0, x1, 0)), (2, (0, x2, 0)), (3, (0, 0, 0)), (4, (0, 0, 0))]) rfl ?_
  exact g_wk ok [(0, (28, 0, x0)), (1, (0, x1, 0)), (2, (0, x2, 0)), (3, (0, 0, 0)), (4, (0, 0, 0))] ⟨rfl, rfl, rfl, rfl, rfl, trivial⟩ (tl_243_30 ok hX d  (x0, x1, x2, 0, 0, s4))
theorem t_243 {X : gX} (ok : gOK X) (hX : gHX X) (d : Nat) (a0 : Nat) (a1 : Int) (a2 : Int) (s : gS) : Go X em_243 243 (d + 3) 0 [] [(0, (28, 0, a0)), (1, (0, a1, 0)), (2, (0, a2, 0))] [] s 0 0 (f_243 a0 a1 a2 s) some := by
  delta f_243
  refine g_rb gs_243 0 (cd' := gb_243_0) rfl rfl ?_
  refine g_aload_n ok rfl rfl ?_
  refine g_aload_n ok rfl rfl ?_
  refine g_iload_n ok rfl ?_
  refine g_cvz ok (me_162 hX) rfl rfl rfl rfl (t_162 ok hX _ a0 a1 s) (fun v2 s1 hb3 => ?_)
  refine g_if_eq ok rfl (fun _ => ?_) (fun _ => ?_)
  · refine g_rb gs_243 2 (cd' := gb_243_17) rfl rfl ?_
    refine g_iconst ok (v := 1) rfl ?_
    refine g_goto ok rfl ?_
    exact g_wk ok [(0, (28, 0, a0)), (1, (0, a1, 0)), (2, (0, a2, 0))] ⟨rfl, rfl, rfl, trivial⟩ (tb_243_22 ok hX d  a0 a1 a2 1 a0 s1)
  · refine g_rb gs_243 1 (cd' := gb_243_9) rfl rfl ?_
    refine g_aload_n ok rfl rfl ?_
    refine g_iload_n ok rfl ?_
    refine g_cvz ok (me_163 hX) rfl rfl rfl rfl (t_163 ok hX _ a0 a2 s1) (fun v15 s14 hb16 => ?_)
    refine g_if_ne ok rfl (fun _ => ?_) (fun _ => ?_)
    · refine g_rb gs_243 2 (cd' := gb_243_17) rfl rfl ?_
      refine g_iconst ok (v := 1) rfl ?_
      refine g_goto ok rfl ?_
      exact g_wk ok [(0, (28, 0, a0)), (1, (0, a1, 0)), (2, (0, a2, 0))] ⟨rfl, rfl, rfl, trivial⟩ (tb_243_22 ok hX d  a0 a1 a2 1 a0 s14)
    · refine g_rb gs_243 3 (cd' := gb_243_21) rfl rfl ?_
      refine g_iconst ok (v := 0) rfl ?_
      exact g_wk ok [(0, (28, 0, a0)), (1, (0, a1, 0)), (2, (0, a2, 0))] ⟨rfl, rfl, rfl, trivial⟩ (tb_243_22 ok hX d  a0 a1 a2 0 a0 s14)
-- X12_odds
theorem ts_244_92 {X : gX} (ok : gOK X) (hX : gHX X) (d : Nat) {k65 : (Nat × Int × Int × Int × Int × Int × gS) ⊕ gO → Option gO} (hl65 : ∀ y : (Nat × Int × Int × Int × Int × Int × gS), Go X em_244 244 (d + 1) 65 [] [(0, (28, 0, y.1)), (1, (0, y.2.1, 0)), (2, (0, y.2.2.1, 0)), (3, (2, y.2.2.2.1, 0)), (5, (2, y.2.2.2.2.1, 0)), (7, (0, y.2.2.2.2.2.1, 0))] [] y.2.2.2.2.2.2 0 0 (some (Sum.inl y)) k65) (hr65 : ∀ q, k65 (Sum.inr q) = some q) {k92 : (Nat × Int × Int × Int × Int × Int × Int × Int × gS) ⊕ ((Nat × Int × Int × Int × Int × Int × gS) ⊕ gO) → Option gO} (hl92 : ∀ y : (Nat × Int × Int × Int × Int × Int × Int × Int × gS), Go X em_244 244 (d + 1) 92 [] [(0, (28, 0, y.1)), (1, (0, y.2.1, 0)), (2, (0, y.2.2.1, 0)), (3, (2, y.2.2.2.1, 0)), (5, (2, y.2.2.2.2.1, 0)), (7, (0, y.2.2.2.2.2.1, 0)), (8, (2, y.2.2.2.2.2.2.1, 0)), (10, (0, y.2.2.2.2.2.2.2.1, 0))] [] y.2.2.2.2.2.2.2.2 0 0 (some (Sum.inl y)) k92) (hr92 : ∀ q, k92 (Sum.inr q) = k65 q) (x0 : Nat) (x1 : Int) (x2 : Int) (x3 : Int) (x5 : Int) (x7 : Int) (x8 : Int) (x10 : Int) (s : gS) : Go X em_244 244 (d + 1) 92 [] [(0, (28, 0, x0)), (1, (0, x1, 0)), (2, (0, x2, 0)), (3, (2, x3, 0)), (5, (2, x5, 0)), (7, (0, x7, 0)), (8, (2, x8, 0)), (10, (0, x10, 0))] [] s 0 0 (sb_244_92 x0 x1 x2 x3 x5 x7 x8 x10 s) k92 := by
  delta sb_244_92
  refine g_rb gs_244 15 (cd' := gb_244_92) rfl rfl ?_
  refine g_iload ok rfl ?_
  refine g_iload_n ok rfl ?_
  refine g_ic_ge ok rfl (fun _ => ?_) (fun _ => ?_)
  · refine g_rb gs_244 16 (cd' := gb_244_98) rfl rfl ?_
    refine g_lload ok rfl ?_
    refine g_iload ok rfl ?_
    refine g_iload ok rfl ?_
    refine g_csz ok (me_153 hX) rfl rfl rfl (t_153 ok hX _ x7 x10 s) (fun v8 s7 hb9 => ?_)
    refine g_if_eq ok rfl (fun _ => ?_) (fun _ => ?_)
    · refine g_rb gs_244 18 (cd' := gb_244_121) rfl rfl ?_
      refine g_bipush ok (v := 100) rfl ?_
      refine g_aload_n ok rfl rfl ?_
      refine g_getr ok 6036 rfl rfl rfl ?_
      refine g_bipush ok (v := 11) rfl ?_
      refine g_ialoadc ok (n := 740) 11 rfl rfl rfl ?_
      refine g_isub ok ?_
      refine g_i2l ok ?_
      refine g_rb gs_244 19 (cd' := gb_244_132) rfl rfl ?_
      refine g_lmul ok ?_
      let v10 : Int := (g64 (x8 * (g32 (100 - (gI s7 (gR s7 x0 1) 11)))))
      refine g_lstore ok rfl (L' := [(0, (28, 0, x0)), (1, (0, x1, 0)), (2, (0, x2, 0)), (3, (2, x3, 0)), (5, (2, x5, 0)), (7, (0, x7, 0)), (8, (2, v10, 0)), (10, (0, x10, 0))]) rfl ?_
      refine g_iinc ok rfl rfl (L' := [(0, (28, 0, x0)), (1, (0, x1, 0)), (2, (0, x2, 0)), (3, (2, x3, 0)), (5, (2, x5, 0)), (7, (0, x7, 0)), (8, (2, v10, 0)), (10, (0, (g32 (x10 + 1)), 0))]) rfl ?_
      refine g_goto ok rfl ?_
      exact g_wk ok [(0, (28, 0, x0)), (1, (0, x1, 0)), (2, (0, x2, 0)), (3, (2, x3, 0)), (5, (2, x5, 0)), (7, (0, x7, 0)), (8, (2, v10, 0)), (10, (0, (g32 (x10 + 1)), 0))] ⟨rfl, rfl, rfl, rfl, rfl, rfl, rfl, rfl, trivial⟩ (hl92 (x0, x1, x2, x3, x5, x7, v10, (g32 (x10 + 1)), s7))
    · refine g_rb gs_244 17 (cd' := gb_244_110) rfl rfl ?_
      refine g_aload_n ok rfl rfl ?_
      refine g_getr ok 6036 rfl rfl rfl ?_
      refine g_bipush ok (v := 11) rfl ?_
      refine g_ialoadc ok (n := 740) 11 rfl rfl rfl ?_
      refine g_i2l ok ?_
      refine g_goto ok rfl ?_
      refine g_rb gs_244 19 (cd' := gb_244_132) rfl rfl ?_
      refine g_lmul ok ?_
      let v11 : Int := (g64 (x8 * (gI s7 (gR s7 x0 1) 11)))
      refine g_lstore ok rfl (L' := [(0, (28, 0, x0)), (1, (0, x1, 0)), (2, (0, x2, 0)), (3, (2, x3, 0)), (5, (2, x5, 0)), (7, (0, x7, 0)), (8, (2, v11, 0)), (10, (0, x10, 0))]) rfl ?_
      refine g_iinc ok rfl rfl (L' := [(0, (28, 0, x0)), (1, (0, x1, 0)), (2, (0, x2, 0)), (3, (2, x3, 0)), (5, (2, x5, 0)), (7, (0, x7, 0)), (8, (2, v11, 0)), (10, (0, (g32 (x10 + 1)), 0))]) rfl ?_
      refine g_goto ok rfl ?_
      exact g_wk ok [(0, (28, 0, x0)), (1, (0, x1, 0)), (2, (0, x2, 0)), (3, (2, x3, 0)), (5, (2, x5, 0)), (7, (0, x7, 0)), (8, (2, v11, 0)), (10, (0, (g32 (x10 + 1)), 0))] ⟨rfl, rfl, rfl, rfl, rfl, rfl, rfl, rfl, trivial⟩ (hl92 (x0, x1, x2, x3, x5, x7, v11, (g32 (x10 + 1)), s7))
  · refine g_map hr92 ?_
    refine g_rb gs_244 20 (cd' := gb_244_141) rfl rfl ?_
    refine g_lload ok rfl ?_
    refine g_lload ok rfl ?_
    refine g_ladd ok ?_
    refine g_lstore ok rfl (L' := [(0, (28, 0, x0)), (1, (0, x1, 0)), (2, (0, x2, 0)), (3, (2, x3, 0)), (5, (2, (g64 (x5 + x8)), 0)), (7, (0, x7, 0)), (8, (2, x8, 0)), (10, (0, x10, 0))]) rfl ?_
    refine g_iinc ok rfl rfl (L' := [(0, (28, 0, x0)), (1, (0, x1, 0)), (2, (0, x2, 0)), (3, (2, x3, 0)), (5, (2, (g64 (x5 + x8)), 0)), (7, (0, (g32 (x7 + 1)), 0)), (8, (2, x8, 0)), (10, (0, x10, 0))]) rfl ?_
    refine g_goto ok rfl ?_
    exact g_wk ok [(0, (28, 0, x0)), (1, (0, x1, 0)), (2, (0, x2, 0)), (3, (2, x3, 0)), (5, (2, (g64 (x5 + x8)), 0)), (7, (0, (g32 (x7 + 1)), 0))] ⟨rfl, rfl, rfl, rfl, rfl, rfl, trivial⟩ (hl65 (x0, x1, x2, x3, (g64 (x5 + x8)), (g32 (x7 + 1)), s))
theorem tl_244_92 {X : gX} (ok : gOK X) (hX : gHX X) (d : Nat) {k65 : (Nat × Int × Int × Int × Int × Int × gS) ⊕ gO → Option gO} (hl65 : ∀ y : (Nat × Int × Int × Int × Int × Int × gS), Go X em_244 244 (d + 1) 65 [] [(0, (28, 0, y.1)), (1, (0, y.2.1, 0)), (2, (0, y.2.2.1, 0)), (3, (2, y.2.2.2.1, 0)), (5, (2, y.2.2.2.2.1, 0)), (7, (0, y.2.2.2.2.2.1, 0))] [] y.2.2.2.2.2.2 0 0 (some (Sum.inl y)) k65) (hr65 : ∀ q, k65 (Sum.inr q) = some q) (y : (Nat × Int × Int × Int × Int × Int × Int × Int × gS)) : Go X em_244 244 (d + 1) 92 [] [(0, (28, 0, y.1)), (1, (0, y.2.1, 0)), (2, (0, y.2.2.1, 0)), (3, (2, y.2.2.2.1, 0)), (5, (2, y.2.2.2.2.1, 0)), (7, (0, y.2.2.2.2.2.1, 0)), (8, (2, y.2.2.2.2.2.2.1, 0)), (10, (0, y.2.2.2.2.2.2.2.1, 0))] [] y.2.2.2.2.2.2.2.2 0 0 (gloop (st_244_92) y) k65 :=
  g_loop (Lh := fun y => [(0, (28, 0, y.1)), (1, (0, y.2.1, 0)), (2, (0, y.2.2.1, 0)), (3, (2, y.2.2.2.1, 0)), (5, (2, y.2.2.2.2.1, 0)), (7, (0, y.2.2.2.2.2.1, 0)), (8, (2, y.2.2.2.2.2.2.1, 0)), (10, (0, y.2.2.2.2.2.2.2.1, 0))]) (sh := fun y => y.2.2.2.2.2.2.2.2) (fun k92 hl92 hr92 y => ts_244_92 ok hX d hl65 hr65 hl92 hr92 y.1 y.2.1 y.2.2.1 y.2.2.2.1 y.2.2.2.2.1 y.2.2.2.2.2.1 y.2.2.2.2.2.2.1 y.2.2.2.2.2.2.2.1 y.2.2.2.2.2.2.2.2) y
theorem tb_244_87 {X : gX} (ok : gOK X) (hX : gHX X) (d : Nat) {k65 : (Nat × Int × Int × Int × Int × Int × gS) ⊕ gO → Option gO} (hl65 : ∀ y : (Nat × Int × Int × Int × Int × Int × gS), Go X em_244 244 (d + 1) 65 [] [(0, (28, 0, y.1)), (1, (0, y.2.1, 0)), (2, (0, y.2.2.1, 0)), (3, (2, y.2.2.2.1, 0)), (5, (2, y.2.2.2.2.1, 0)), (7, (0, y.2.2.2.2.2.1, 0))] [] y.2.2.2.2.2.2 0 0 (some (Sum.inl y)) k65) (hr65 : ∀ q, k65 (Sum.inr q) = some q) (x0 : Nat) (x1 : Int) (x2 : Int) (x3 : Int) (x5 : Int) (x7 : Int) (w0 : Int) (s : gS) : Go X em_244 244 (d + 1) 87 [] [(0, (28, 0, x0)), (1, (0, x1, 0)), (2, (0, x2, 0)), (3, (2, x3, 0)), (5, (2, x5, 0)), (7, (0, x7, 0))] [(2, w0, 0)] s 0 0 (fb_244_87 x0 x1 x2 x3 x5 x7 w0 s) k65 := by
  delta fb_244_87
  refine g_rb gs_244 14 (cd' := gb_244_87) rfl rfl ?_
  refine g_lstore ok rfl (L' := [(0, (28, 0, x0)), (1, (0, x1, 0)), (2, (0, x2, 0)), (3, (2, x3, 0)), (5, (2, x5, 0)), (7, (0, x7, 0)), (8, (2, w0, 0))]) rfl ?_
  refine g_iconst ok (v := 0) rfl ?_
  refine g_istore ok rfl (L' := [(0, (28, 0, x0)), (1, (0, x1, 0)), (2, (0, x2, 0)), (3, (2, x3, 0)), (5, (2, x5, 0)), (7, (0, x7, 0)), (8, (2, w0, 0)), (10, (0, 0, 0))]) rfl ?_
  exact g_wk ok [(0, (28, 0, x0)), (1, (0, x1, 0)), (2, (0, x2, 0)), (3, (2, x3, 0)), (5, (2, x5, 0)), (7, (0, x7, 0)), (8, (2, w0, 0)), (10, (0, 0, 0))] ⟨rfl, rfl, rfl, rfl, rfl, rfl, rfl, rfl, trivial⟩ (tl_244_92 ok hX d hl65 hr65 (x0, x1, x2, x3, x5, x7, w0, 0, s))
theorem ts_244_65 {X : gX} (ok : gOK X) (hX : gHX X) (d : Nat) {k65 : (Nat × Int × Int × Int × Int × Int × gS) ⊕ gO → Option gO} (hl65 : ∀ y : (Nat × Int × Int × Int × Int × Int × gS), Go X em_244 244 (d + 1) 65 [] [(0, (28, 0, y.1)), (1, (0, y.2.1, 0)), (2, (0, y.2.2.1, 0)), (3, (2, y.2.2.2.1, 0)), (5, (2, y.2.2.2.2.1, 0)), (7, (0, y.2.2.2.2.2.1, 0))] [] y.2.2.2.2.2.2 0 0 (some (Sum.inl y)) k65) (hr65 : ∀ q, k65 (Sum.inr q) = some q) (x0 : Nat) (x1 : Int) (x2 : Int) (x3 : Int) (x5 : Int) (x7 : Int) (s : gS) : Go X em_244 244 (d + 1) 65 [] [(0, (28, 0, x0)), (1, (0, x1, 0)), (2, (0, x2, 0)), (3, (2, x3, 0)), (5, (2, x5, 0)), (7, (0, x7, 0))] [] s 0 0 (sb_244_65 x0 x1 x2 x3 x5 x7 s) k65 := by
  delta sb_244_65
  refine g_rb gs_244 10 (cd' := gb_244_65) rfl rfl ?_
  refine g_iload ok rfl ?_
  refine g_iconst ok (v := 1) rfl ?_
  refine g_iload_n ok rfl ?_
  refine g_ishl ok ?_
  refine g_ic_ge ok rfl (fun _ => ?_) (fun _ => ?_)
  · refine g_rb gs_244 11 (cd' := gb_244_73) rfl rfl ?_
    refine g_iload ok rfl ?_
    refine g_cs1 ok (me_154 hX) rfl rfl rfl (t_154 ok hX _ x7 s) (fun v6 s5 => ?_)
    refine g_iload_n ok rfl ?_
    refine g_ic_ge ok rfl (fun _ => ?_) (fun _ => ?_)
    · refine g_rb gs_244 12 (cd' := gb_244_82) rfl rfl ?_
      refine g_lconst ok (v := 0) rfl ?_
      refine g_goto ok rfl ?_
      exact g_wk ok [(0, (28, 0, x0)), (1, (0, x1, 0)), (2, (0, x2, 0)), (3, (2, x3, 0)), (5, (2, x5, 0)), (7, (0, x7, 0))] ⟨rfl, rfl, rfl, rfl, rfl, rfl, trivial⟩ (tb_244_87 ok hX d hl65 hr65 x0 x1 x2 x3 x5 x7 0 s5)
    · refine g_rb gs_244 13 (cd' := gb_244_86) rfl rfl ?_
      refine g_lconst ok (v := 1) rfl ?_
      exact g_wk ok [(0, (28, 0, x0)), (1, (0, x1, 0)), (2, (0, x2, 0)), (3, (2, x3, 0)), (5, (2, x5, 0)), (7, (0, x7, 0))] ⟨rfl, rfl, rfl, rfl, rfl, rfl, trivial⟩ (tb_244_87 ok hX d hl65 hr65 x0 x1 x2 x3 x5 x7 1 s5)
  · refine g_map hr65 ?_
    refine g_rb gs_244 21 (cd' := gb_244_154) rfl rfl ?_
    refine g_ldc2 ok (v := 10000) (by decide) ?_ (by decide) (by decide)
    refine g_lload ok rfl ?_
    refine g_lmul ok ?_
    refine g_lload_n ok rfl ?_
    refine g_ite (fun _ => g_none) (fun hz => g_ldiv ok hz ?_)
    refine g_l2i ok ?_
    exact g_ireturn ok rfl rfl (rfl)
theorem tl_244_65 {X : gX} (ok : gOK X) (hX : gHX X) (d : Nat)  (y : (Nat × Int × Int × Int × Int × Int × gS)) : Go X em_244 244 (d + 1) 65 [] [(0, (28, 0, y.1)), (1, (0, y.2.1, 0)), (2, (0, y.2.2.1, 0)), (3, (2, y.2.2.2.1, 0)), (5, (2, y.2.2.2.2.1, 0)), (7, (0, y.2.2.2.2.2.1, 0))] [] y.2.2.2.2.2.2 0 0 (gloop (st_244_65) y) some :=
  g_loop (Lh := fun y => [(0, (28, 0, y.1)), (1, (0, y.2.1, 0)), (2, (0, y.2.2.1, 0)), (3, (2, y.2.2.2.1, 0)), (5, (2, y.2.2.2.2.1, 0)), (7, (0, y.2.2.2.2.2.1, 0))]) (sh := fun y => y.2.2.2.2.2.2) (fun k65 hl65 hr65 y => ts_244_65 ok hX d  hl65 hr65 y.1 y.2.1 y.2.2.1 y.2.2.2.1 y.2.2.2.2.1 y.2.2.2.2.2.1 y.2.2.2.2.2.2) y
theorem ts_244_41 {X : gX} (ok : gOK X) (hX : gHX X) (d : Nat) {k41 : (Nat × Int × Int × Int × Int × gS) ⊕ gO → Option gO} (hl41 : ∀ y : (Nat × Int × Int × Int × Int × gS), Go X em_244 244 (d + 1) 41 [] [(0, (28, 0, y.1)), (1, (0, y.2.1, 0)), (2, (0, y.2.2.1, 0)), (3, (2, y.2.2.2.1, 0)), (5, (0, y.2.2.2.2.1, 0))] [] y.2.2.2.2.2 0 0 (some (Sum.inl y)) k41) (hr41 : ∀ q, k41 (Sum.inr q) = some q) (x0 : Nat) (x1 : Int) (x2 : Int) (x3 : Int) (x5 : Int) (s : gS) : Go X em_244 244 (d + 1) 41 [] [(0, (28, 0, x0)), (1, (0, x1, 0)), (2, (0, x2, 0)), (3, (2, x3, 0)), (5, (0, x5, 0))] [] s 0 0 (sb_244_41 x0 x1 x2 x3 x5 s) k41 := by
  delta sb_244_41
  refine g_rb gs_244 7 (cd' := gb_244_41) rfl rfl ?_
  refine g_iload ok rfl ?_
  refine g_iload_n ok rfl ?_
  refine g_ic_ge ok rfl (fun _ => ?_) (fun _ => ?_)
  · refine g_rb gs_244 8 (cd' := gb_244_47) rfl rfl ?_
    refine g_lload_n ok rfl ?_
    refine g_ldc2 ok (v := 100) (by decide) ?_ (by decide) (by decide)
    refine g_lmul ok ?_
    refine g_lstore_n ok rfl (L' := [(0, (28, 0, x0)), (1, (0, x1, 0)), (2, (0, x2, 0)), (3, (2, (g64 (x3 * 100)), 0)), (5, (0, x5, 0))]) rfl ?_
    refine g_iinc ok rfl rfl (L' := [(0, (28, 0, x0)), (1, (0, x1, 0)), (2, (0, x2, 0)), (3, (2, (g64 (x3 * 100)), 0)), (5, (0, (g32 (x5 + 1)), 0))]) rfl ?_
    refine g_goto ok rfl ?_
    exact g_wk ok [(0, (28, 0, x0)), (1, (0, x1, 0)), (2, (0, x2, 0)), (3, (2, (g64 (x3 * 100)), 0)), (5, (0, (g32 (x5 + 1)), 0))] ⟨rfl, rfl, rfl, rfl, rfl, trivial⟩ (hl41 (x0, x1, x2, (g64 (x3 * 100)), (g32 (x5 + 1)), s))
  · refine g_map hr41 ?_
    refine g_rb gs_244 9 (cd' := gb_244_59) rfl rfl ?_
    refine g_lconst ok (v := 0) rfl ?_
    refine g_lstore ok rfl (L' := [(0, (28, 0, x0)), (1, (0, x1, 0)), (2, (0, x2, 0)), (3, (2, x3, 0)), (5, (2, 0, 0))]) rfl ?_
    refine g_iconst ok (v := 0) rfl ?_
    refine g_istore ok rfl (L' := [(0, (28, 0, x0)), (1, (0, x1, 0)), (2, (0, x2, 0)), (3, (2, x3, 0)), (5, (2, 0, 0)), (7, (0, 0, 0))]) rfl ?_
    exact g_wk ok [(0, (28, 0, x0)), (1, (0, x1, 0)), (2, (0, x2, 0)), (3, (2, x3, 0)), (5, (2, 0, 0)), (7, (0, 0, 0))] ⟨rfl, rfl, rfl, rfl, rfl, rfl, trivial⟩ (tl_244_65 ok hX d  (x0, x1, x2, x3, 0, 0, s))
theorem tl_244_41 {X : gX} (ok : gOK X) (hX : gHX X) (d : Nat)  (y : (Nat × Int × Int × Int × Int × gS)) : Go X em_244 244 (d + 1) 41 [] [(0, (28, 0, y.1)), (1, (0, y.2.1, 0)), (2, (0, y.2.2.1, 0)), (3, (2, y.2.2.2.1, 0)), (5, (0, y.2.2.2.2.1, 0))] [] y.2.2.2.2.2 0 0 (gloop (st_244_41) y) some :=
  g_loop (Lh := fun y => [(0, (28, 0, y.1)), (1, (0, y.2.1, 0)), (2, (0, y.2.2.1, 0)), (3, (2, y.2.2.2.1, 0)), (5, (0, y.2.2.2.2.1, 0))]) (sh := fun y => y.2.2.2.2.2) (fun k41 hl41 hr41 y => ts_244_41 ok hX d  hl41 hr41 y.1 y.2.1 y.2.2.1 y.2.2.2.1 y.2.2.2.2.1 y.2.2.2.2.2) y
theorem tb_244_24 {X : gX} (ok : gOK X) (hX : gHX X) (d : Nat)  (x0 : Nat) (x1 : Int) (x2 : Int) (w0 : Int) (w1 : Nat) (s : gS) : Go X em_244 244 (d + 1) 24 [] [(0, (28, 0, x0)), (1, (0, x1, 0)), (2, (0, x2, 0))] [(0, w0, 0), (28, 0, w1)] s 0 0 (fb_244_24 x0 x1 x2 w0 w1 s) some := by
  delta fb_244_24
  refine g_rb gs_244 4 (cd' := gb_244_24) rfl rfl ?_
  refine g_puti ok rfl rfl rfl ?_
  let s4 : gS := gw s w1 0 w0
  refine g_aload_n ok rfl rfl ?_
  refine g_geti ok rfl rfl ?_
  refine g_if_le ok rfl (fun _ => ?_) (fun _ => ?_)
  · refine g_rb gs_244 5 (cd' := gb_244_34) rfl rfl ?_
    refine g_iconst ok (v := 0) rfl ?_
    exact g_ireturn ok rfl rfl (rfl)
  · refine g_rb gs_244 6 (cd' := gb_244_36) rfl rfl ?_
    refine g_lconst ok (v := 1) rfl ?_
    refine g_lstore_n ok rfl (L' := [(0, (28, 0, x0)), (1, (0, x1, 0)), (2, (0, x2, 0)), (3, (2, 1, 0))]) rfl ?_
    refine g_iconst ok (v := 0) rfl ?_
    refine g_istore ok rfl (L' := [(0, (28, 0, x0)), (1, (0, x1, 0)), (2, (0, x2, 0)), (3, (2, 1, 0)), (5, (0, 0, 0))]) rfl ?_
    exact g_wk ok [(0, (28, 0, x0)), (1, (0, x1, 0)), (2, (0, x2, 0)), (3, (2, 1, 0)), (5, (0, 0, 0))] ⟨rfl, rfl, rfl, rfl, rfl, trivial⟩ (tl_244_41 ok hX d  (x0, x1, x2, 1, 0, s4))
theorem t_244 {X : gX} (ok : gOK X) (hX : gHX X) (d : Nat) (a0 : Nat) (a1 : Int) (a2 : Int) (s : gS) : Go X em_244 244 (d + 1) 0 [] [(0, (28, 0, a0)), (1, (0, a1, 0)), (2, (0, a2, 0))] [] s 0 0 (f_244 a0 a1 a2 s) some := by
  delta f_244
  refine g_rb gs_244 0 (cd' := gb_244_0) rfl rfl ?_
  refine g_aload_n ok rfl rfl ?_
  refine g_iload_n ok rfl ?_
  refine g_iconst ok (v := 0) rfl ?_
  refine g_iconst ok (v := 5) rfl ?_
  refine g_csz ok (me_150 hX) rfl rfl rfl (t_150 ok hX _ a1 0 5 s) (fun v2 s1 hb3 => ?_)
  refine g_if_eq ok rfl (fun _ => ?_) (fun _ => ?_)
  · refine g_rb gs_244 2 (cd' := gb_244_19) rfl rfl ?_
    refine g_iconst ok (v := 1) rfl ?_
    refine g_goto ok rfl ?_
    exact g_wk ok [(0, (28, 0, a0)), (1, (0, a1, 0)), (2, (0, a2, 0))] ⟨rfl, rfl, rfl, trivial⟩ (tb_244_24 ok hX d  a0 a1 a2 1 a0 s1)
  · refine g_rb gs_244 1 (cd' := gb_244_10) rfl rfl ?_
    refine g_iload_n ok rfl ?_
    refine g_iconst ok (v := 0) rfl ?_
    refine g_iconst ok (v := 5) rfl ?_
    refine g_csz ok (me_150 hX) rfl rfl rfl (t_150 ok hX _ a2 0 5 s1) (fun v13 s12 hb14 => ?_)
    refine g_if_ne ok rfl (fun _ => ?_) (fun _ => ?_)
    · refine g_rb gs_244 2 (cd' := gb_244_19) rfl rfl ?_
      refine g_iconst ok (v := 1) rfl ?_
      refine g_goto ok rfl ?_
      exact g_wk ok [(0, (28, 0, a0)), (1, (0, a1, 0)), (2, (0, a2, 0))] ⟨rfl, rfl, rfl, trivial⟩ (tb_244_24 ok hX d  a0 a1 a2 1 a0 s12)
    · refine g_rb gs_244 3 (cd' := gb_244_23) rfl rfl ?_
      refine g_iconst ok (v := 0) rfl ?_
      exact g_wk ok [(0, (28, 0, a0)), (1, (0, a1, 0)), (2, (0, a2, 0))] ⟨rfl, rfl, rfl, trivial⟩ (tb_244_24 ok hX d  a0 a1 a2 0 a0 s12)
-- X12_bids
theorem tb_245_40 {X : gX} (ok : gOK X) (hX : gHX X) (d : Nat) {k9 : (Nat × Int × Int × Int × gS) ⊕ gO → Option gO} (hl9 : ∀ y : (Nat × Int × Int × Int × gS), Go X em_245 245 (d + 1) 9 [] [(0, (28, 0, y.1)), (1, (0, y.2.1, 0)), (2, (0, y.2.2.1, 0)), (3, (0, y.2.2.2.1, 0))] [] y.2.2.2.2 0 0 (some (Sum.inl y)) k9) (hr9 : ∀ q, k9 (Sum.inr q) = some q) (x0 : Nat) (x1 : Int) (x3 : Int) (s : gS) : Go X em_245 245 (d + 1) 40 [] [(0, (28, 0, x0)), (1, (0, x1, 0)), (3, (0, x3, 0))] [] s 0 0 (fb_245_40 x0 x1 x3 s) k9 := by
  delta fb_245_40
  refine g_rb gs_245 4 (cd' := gb_245_40) rfl rfl ?_
  refine g_iload_n ok rfl ?_
  refine g_istore_n ok rfl (L' := [(0, (28, 0, x0)), (1, (0, x1, 0)), (3, (0, x3, 0)), (2, (0, x3, 0))]) rfl ?_
  refine g_rb gs_245 5 (cd' := gb_245_42) rfl rfl ?_
  refine g_iinc ok rfl rfl (L' := [(0, (28, 0, x0)), (1, (0, x1, 0)), (3, (0, (g32 (x3 + 1)), 0)), (2, (0, x3, 0))]) rfl ?_
  refine g_goto ok rfl ?_
  exact g_wk ok [(0, (28, 0, x0)), (1, (0, x1, 0)), (2, (0, x3, 0)), (3, (0, (g32 (x3 + 1)), 0))] ⟨rfl, rfl, rfl, rfl, trivial⟩ (hl9 (x0, x1, x3, (g32 (x3 + 1)), s))
theorem ts_245_59 {X : gX} (ok : gOK X) (hX : gHX X) (d : Nat) {k59 : (Nat × Int × Int × Int × gS) ⊕ gO → Option gO} (hl59 : ∀ y : (Nat × Int × Int × Int × gS), Go X em_245 245 (d + 1) 59 [] [(0, (28, 0, y.1)), (2, (0, y.2.1, 0)), (3, (0, y.2.2.1, 0)), (4, (0, y.2.2.2.1, 0))] [] y.2.2.2.2 0 0 (some (Sum.inl y)) k59) (hr59 : ∀ q, k59 (Sum.inr q) = some q) (x0 : Nat) (x2 : Int) (x3 : Int) (x4 : Int) (s : gS) : Go X em_245 245 (d + 1) 59 [] [(0, (28, 0, x0)), (2, (0, x2, 0)), (3, (0, x3, 0)), (4, (0, x4, 0))] [] s 0 0 (sb_245_59 x0 x2 x3 x4 s) k59 := by
  delta sb_245_59
  refine g_rb gs_245 9 (cd' := gb_245_59) rfl rfl ?_
  refine g_iload ok rfl ?_
  refine g_aload_n ok rfl rfl ?_
  refine g_getr ok 6036 rfl rfl rfl ?_
  refine g_bipush ok (v := 6) rfl ?_
  refine g_ialoadc ok (n := 740) 6 rfl rfl rfl ?_
  refine g_ic_ge ok rfl (fun _ => ?_) (fun _ => ?_)
  · refine g_rb gs_245 10 (cd' := gb_245_71) rfl rfl ?_
    refine g_iload ok rfl ?_
    refine g_iload_n ok rfl ?_
    refine g_ic_eq ok rfl (fun _ => ?_) (fun _ => ?_)
    · refine g_rb gs_245 12 (cd' := gb_245_89) rfl rfl ?_
      refine g_iinc ok rfl rfl (L' := [(0, (28, 0, x0)), (2, (0, x2, 0)), (3, (0, x3, 0)), (4, (0, (g32 (x4 + 1)), 0))]) rfl ?_
      refine g_goto ok rfl ?_
      exact g_wk ok [(0, (28, 0, x0)), (2, (0, x2, 0)), (3, (0, x3, 0)), (4, (0, (g32 (x4 + 1)), 0))] ⟨rfl, rfl, rfl, rfl, trivial⟩ (hl59 (x0, x2, x3, (g32 (x4 + 1)), s))
    · refine g_rb gs_245 11 (cd' := gb_245_77) rfl rfl ?_
      refine g_iload_n ok rfl ?_
      refine g_aload_n ok rfl rfl ?_
      refine g_iload ok rfl ?_
      refine g_iconst ok (v := 0) rfl ?_
      refine g_cv1 ok (me_160 hX) rfl rfl rfl rfl (t_160 ok hX _ x0 x4 0 s) (fun v7 s6 => ?_)
      refine g_cs1 ok (me_152 hX) rfl rfl rfl (t_152 ok hX _ x3 v7 s6) (fun v9 s8 => ?_)
      refine g_istore_n ok rfl (L' := [(0, (28, 0, x0)), (2, (0, x2, 0)), (3, (0, v9, 0)), (4, (0, x4, 0))]) rfl ?_
      refine g_rb gs_245 12 (cd' := gb_245_89) rfl rfl ?_
      refine g_iinc ok rfl rfl (L' := [(0, (28, 0, x0)), (2, (0, x2, 0)), (3, (0, v9, 0)), (4, (0, (g32 (x4 + 1)), 0))]) rfl ?_
      refine g_goto ok rfl ?_
      exact g_wk ok [(0, (28, 0, x0)), (2, (0, x2, 0)), (3, (0, v9, 0)), (4, (0, (g32 (x4 + 1)), 0))] ⟨rfl, rfl, rfl, rfl, trivial⟩ (hl59 (x0, x2, v9, (g32 (x4 + 1)), s8))
  · refine g_map hr59 ?_
    refine g_rb gs_245 13 (cd' := gb_245_95) rfl rfl ?_
    refine g_iload_n ok rfl ?_
    exact g_ireturn ok rfl rfl (rfl)
theorem tl_245_59 {X : gX} (ok : gOK X) (hX : gHX X) (d : Nat)  (y : (Nat × Int × Int × Int × gS)) : Go X em_245 245 (d + 1) 59 [] [(0, (28, 0, y.1)), (2, (0, y.2.1, 0)), (3, (0, y.2.2.1, 0)), (4, (0, y.2.2.2.1, 0))] [] y.2.2.2.2 0 0 (gloop (st_245_59) y) some :=
  g_loop (Lh := fun y => [(0, (28, 0, y.1)), (2, (0, y.2.1, 0)), (3, (0, y.2.2.1, 0)), (4, (0, y.2.2.2.1, 0))]) (sh := fun y => y.2.2.2.2) (fun k59 hl59 hr59 y => ts_245_59 ok hX d  hl59 hr59 y.1 y.2.1 y.2.2.1 y.2.2.2.1 y.2.2.2.2) y
theorem ts_245_9 {X : gX} (ok : gOK X) (hX : gHX X) (d : Nat) {k9 : (Nat × Int × Int × Int × gS) ⊕ gO → Option gO} (hl9 : ∀ y : (Nat × Int × Int × Int × gS), Go X em_245 245 (d + 1) 9 [] [(0, (28, 0, y.1)), (1, (0, y.2.1, 0)), (2, (0, y.2.2.1, 0)), (3, (0, y.2.2.2.1, 0))] [] y.2.2.2.2 0 0 (some (Sum.inl y)) k9) (hr9 : ∀ q, k9 (Sum.inr q) = some q) (x0 : Nat) (x1 : Int) (x2 : Int) (x3 : Int) (s : gS) : Go X em_245 245 (d + 1) 9 [] [(0, (28, 0, x0)), (1, (0, x1, 0)), (2, (0, x2, 0)), (3, (0, x3, 0))] [] s 0 0 (sb_245_9 x0 x1 x2 x3 s) k9 := by
  delta sb_245_9
  refine g_rb gs_245 1 (cd' := gb_245_9) rfl rfl ?_
  refine g_iload_n ok rfl ?_
  refine g_aload_n ok rfl rfl ?_
  refine g_getr ok 6036 rfl rfl rfl ?_
  refine g_bipush ok (v := 6) rfl ?_
  refine g_ialoadc ok (n := 740) 6 rfl rfl rfl ?_
  refine g_ic_ge ok rfl (fun _ => ?_) (fun _ => ?_)
  · refine g_rb gs_245 2 (cd' := gb_245_20) rfl rfl ?_
    refine g_iload_n ok rfl ?_
    refine g_iconst ok (v := (-1)) rfl ?_
    refine g_ic_eq ok rfl (fun _ => ?_) (fun _ => ?_)
    · exact g_wk ok [(0, (28, 0, x0)), (1, (0, x1, 0)), (3, (0, x3, 0))] ⟨rfl, rfl, rfl, trivial⟩ (tb_245_40 ok hX d hl9 hr9 x0 x1 x3 s)
    · refine g_rb gs_245 3 (cd' := gb_245_25) rfl rfl ?_
      refine g_aload_n ok rfl rfl ?_
      refine g_iload_n ok rfl ?_
      refine g_iconst ok (v := 0) rfl ?_
      refine g_cv1 ok (me_160 hX) rfl rfl rfl rfl (t_160 ok hX _ x0 x3 0 s) (fun v3 s2 => ?_)
      refine g_aload_n ok rfl rfl ?_
      refine g_iload_n ok rfl ?_
      refine g_iconst ok (v := 0) rfl ?_
      refine g_cv1 ok (me_160 hX) rfl rfl rfl rfl (t_160 ok hX _ x0 x2 0 s2) (fun v5 s4 => ?_)
      refine g_ic_le ok rfl (fun _ => ?_) (fun _ => ?_)
      · exact g_wk ok [(0, (28, 0, x0)), (1, (0, x1, 0)), (3, (0, x3, 0))] ⟨rfl, rfl, rfl, trivial⟩ (tb_245_40 ok hX d hl9 hr9 x0 x1 x3 s4)
      · refine g_rb gs_245 5 (cd' := gb_245_42) rfl rfl ?_
        refine g_iinc ok rfl rfl (L' := [(0, (28, 0, x0)), (1, (0, x1, 0)), (2, (0, x2, 0)), (3, (0, (g32 (x3 + 1)), 0))]) rfl ?_
        refine g_goto ok rfl ?_
        exact g_wk ok [(0, (28, 0, x0)), (1, (0, x1, 0)), (2, (0, x2, 0)), (3, (0, (g32 (x3 + 1)), 0))] ⟨rfl, rfl, rfl, rfl, trivial⟩ (hl9 (x0, x1, x2, (g32 (x3 + 1)), s4))
  · refine g_map hr9 ?_
    refine g_rb gs_245 6 (cd' := gb_245_48) rfl rfl ?_
    refine g_iload_n ok rfl ?_
    refine g_if_ne ok rfl (fun _ => ?_) (fun _ => ?_)
    · refine g_rb gs_245 7 (cd' := gb_245_52) rfl rfl ?_
      refine g_iload_n ok rfl ?_
      exact g_ireturn ok rfl rfl (rfl)
    · refine g_rb gs_245 8 (cd' := gb_245_54) rfl rfl ?_
      refine g_iconst ok (v := 0) rfl ?_
      refine g_istore_n ok rfl (L' := [(0, (28, 0, x0)), (1, (0, x1, 0)), (2, (0, x2, 0)), (3, (0, 0, 0))]) rfl ?_
      refine g_iconst ok (v := 0) rfl ?_
      refine g_istore ok rfl (L' := [(0, (28, 0, x0)), (1, (0, x1, 0)), (2, (0, x2, 0)), (3, (0, 0, 0)), (4, (0, 0, 0))]) rfl ?_
      exact g_wk ok [(0, (28, 0, x0)), (2, (0, x2, 0)), (3, (0, 0, 0)), (4, (0, 0, 0))] ⟨rfl, rfl, rfl, rfl, trivial⟩ (tl_245_59 ok hX d  (x0, x2, 0, 0, s))
theorem tl_245_9 {X : gX} (ok : gOK X) (hX : gHX X) (d : Nat)  (y : (Nat × Int × Int × Int × gS)) : Go X em_245 245 (d + 1) 9 [] [(0, (28, 0, y.1)), (1, (0, y.2.1, 0)), (2, (0, y.2.2.1, 0)), (3, (0, y.2.2.2.1, 0))] [] y.2.2.2.2 0 0 (gloop (st_245_9) y) some :=
  g_loop (Lh := fun y => [(0, (28, 0, y.1)), (1, (0, y.2.1, 0)), (2, (0, y.2.2.1, 0)), (3, (0, y.2.2.2.1, 0))]) (sh := fun y => y.2.2.2.2) (fun k9 hl9 hr9 y => ts_245_9 ok hX d  hl9 hr9 y.1 y.2.1 y.2.2.1 y.2.2.2.1 y.2.2.2.2) y
theorem t_245 {X : gX} (ok : gOK X) (hX : gHX X) (d : Nat) (a0 : Nat) (a1 : Int) (s : gS) : Go X em_245 245 (d + 1) 0 [] [(0, (28, 0, a0)), (1, (0, a1, 0))] [] s 0 0 (f_245 a0 a1 s) some := by
  delta f_245
  refine g_rb gs_245 0 (cd' := gb_245_0) rfl rfl ?_
  refine g_aload_n ok rfl rfl ?_
  refine g_iconst ok (v := 0) rfl ?_
  refine g_puti ok rfl rfl rfl ?_
  let s1 : gS := gw s a0 0 0
  refine g_iconst ok (v := (-1)) rfl ?_
  refine g_istore_n ok rfl (L' := [(0, (28, 0, a0)), (1, (0, a1, 0)), (2, (0, (-1), 0))]) rfl ?_
  refine g_iconst ok (v := 0) rfl ?_
  refine g_istore_n ok rfl (L' := [(0, (28, 0, a0)), (1, (0, a1, 0)), (2, (0, (-1), 0)), (3, (0, 0, 0))]) rfl ?_
  exact g_wk ok [(0, (28, 0, a0)), (1, (0, a1, 0)), (2, (0, (-1), 0)), (3, (0, 0, 0))] ⟨rfl, rfl, rfl, rfl, trivial⟩ (tl_245_9 ok hX d  (a0, a1, (-1), 0, s1))
-- X12_gives
theorem t_246 {X : gX} (ok : gOK X) (hX : gHX X) (d : Nat) (a0 : Nat) (a1 : Int) (a2 : Int) (a3 : Int) (s : gS) : Go X em_246 246 (d + 1) 0 [] [(0, (28, 0, a0)), (1, (0, a1, 0)), (2, (0, a2, 0)), (3, (0, a3, 0))] [] s 0 0 (f_246 a0 a1 a2 a3 s) some := by
  delta f_246
  refine g_rb gs_246 0 (cd' := gb_246_0) rfl rfl ?_
  refine g_iload_n ok rfl ?_
  refine g_iconst ok (v := (-1)) rfl ?_
  refine g_ic_ne ok rfl (fun _ => ?_) (fun _ => ?_)
  · refine g_rb gs_246 1 (cd' := gb_246_5) rfl rfl ?_
    refine g_aload_n ok rfl rfl ?_
    refine g_getr ok 3700 rfl rfl rfl ?_
    refine g_bipush ok (v := 64) rfl ?_
    refine g_iload_n ok rfl ?_
    refine g_iconst ok (v := 1) rfl ?_
    refine g_iadd ok ?_
    refine g_imul ok ?_
    refine g_iload_n ok rfl ?_
    refine g_iadd ok ?_
    refine g_iaload ok (n := 448) rfl rfl (fun _ _ => ?_)
    exact g_ireturn ok rfl rfl (rfl)
  · refine g_rb gs_246 2 (cd' := gb_246_19) rfl rfl ?_
    refine g_aload_n ok rfl rfl ?_
    refine g_iload_n ok rfl ?_
    refine g_iconst ok (v := 0) rfl ?_
    refine g_cv1 ok (me_160 hX) rfl rfl rfl rfl (t_160 ok hX _ a0 a1 0 s) (fun v2 s1 => ?_)
    refine g_iconst ok (v := 3) rfl ?_
    refine g_aload_n ok rfl rfl ?_
    refine g_iload_n ok rfl ?_
    refine g_iconst ok (v := 0) rfl ?_
    refine g_cv1 ok (me_156 hX) rfl rfl rfl rfl (t_156 ok hX _ a0 a2 0 s1) (fun v4 s3 => ?_)
    refine g_imul ok ?_
    refine g_cs1 ok (me_151 hX) rfl rfl rfl (t_151 ok hX _ v2 (g32 (3 * v4)) s3) (fun v6 s5 => ?_)
    refine g_aload_n ok rfl rfl ?_
    refine g_getr ok 3700 rfl rfl rfl ?_
    refine g_bipush ok (v := 64) rfl ?_
    refine g_iload_n ok rfl ?_
    refine g_iconst ok (v := 1) rfl ?_
    refine g_iadd ok ?_
    refine g_imul ok ?_
    refine g_iload_n ok rfl ?_
    refine g_iconst ok (v := 1) rfl ?_
    refine g_iload_n ok rfl ?_
    refine g_ishl ok ?_
    refine g_iconst ok (v := (-1)) rfl ?_
    refine g_ixor ok ?_
    refine g_iand ok ?_
    refine g_iadd ok ?_
    refine g_iaload ok (n := 448) rfl rfl (fun _ _ => ?_)
    refine g_iadd ok ?_
    exact g_ireturn ok rfl rfl (rfl)
-- X12_keptOnes
theorem ts_252_4 {X : gX} (ok : gOK X) (hX : gHX X) (d : Nat) {k4 : (Nat × Int × Int × Int × gS) ⊕ gO → Option gO} (hl4 : ∀ y : (Nat × Int × Int × Int × gS), Go X em_252 252 (d + 1) 4 [] [(0, (28, 0, y.1)), (1, (0, y.2.1, 0)), (2, (0, y.2.2.1, 0)), (3, (0, y.2.2.2.1, 0))] [] y.2.2.2.2 0 0 (some (Sum.inl y)) k4) (hr4 : ∀ q, k4 (Sum.inr q) = some q) (x0 : Nat) (x1 : Int) (x2 : Int) (x3 : Int) (s : gS) : Go X em_252 252 (d + 1) 4 [] [(0, (28, 0, x0)), (1, (0, x1, 0)), (2, (0, x2, 0)), (3, (0, x3, 0))] [] s 0 0 (sb_252_4 x0 x1 x2 x3 s) k4 := by
  delta sb_252_4
  refine g_rb gs_252 1 (cd' := gb_252_4) rfl rfl ?_
  refine g_iload_n ok rfl ?_
  refine g_aload_n ok rfl rfl ?_
  refine g_getr ok 6036 rfl rfl rfl ?_
  refine g_iconst ok (v := 4) rfl ?_
  refine g_ialoadc ok (n := 740) 4 rfl rfl rfl ?_
  refine g_ic_ge ok rfl (fun _ => ?_) (fun _ => ?_)
  · refine g_rb gs_252 2 (cd' := gb_252_14) rfl rfl ?_
    refine g_iload_n ok rfl ?_
    refine g_aload_n ok rfl rfl ?_
    refine g_iload_n ok rfl ?_
    refine g_iconst ok (v := 5) rfl ?_
    refine g_cv1 ok (me_156 hX) rfl rfl rfl rfl (t_156 ok hX _ x0 x3 5 s) (fun v2 s1 => ?_)
    refine g_iload_n ok rfl ?_
    refine g_ic_ne ok rfl (fun _ => ?_) (fun _ => ?_)
    · refine g_rb gs_252 3 (cd' := gb_252_25) rfl rfl ?_
      refine g_iconst ok (v := 1) rfl ?_
      refine g_iload_n ok rfl ?_
      refine g_ishl ok ?_
      refine g_goto ok rfl ?_
      refine g_rb gs_252 5 (cd' := gb_252_32) rfl rfl ?_
      refine g_ior ok ?_
      let v3 : Int := (gor x2 (gshl 1 x3))
      refine g_istore_n ok rfl (L' := [(0, (28, 0, x0)), (1, (0, x1, 0)), (2, (0, v3, 0)), (3, (0, x3, 0))]) rfl ?_
      refine g_iinc ok rfl rfl (L' := [(0, (28, 0, x0)), (1, (0, x1, 0)), (2, (0, v3, 0)), (3, (0, (g32 (x3 + 1)), 0))]) rfl ?_
      refine g_goto ok rfl ?_
      exact g_wk ok [(0, (28, 0, x0)), (1, (0, x1, 0)), (2, (0, v3, 0)), (3, (0, (g32 (x3 + 1)), 0))] ⟨rfl, rfl, rfl, rfl, trivial⟩ (hl4 (x0, x1, v3, (g32 (x3 + 1)), s1))
    · refine g_rb gs_252 4 (cd' := gb_252_31) rfl rfl ?_
      refine g_iconst ok (v := 0) rfl ?_
      refine g_rb gs_252 5 (cd' := gb_252_32) rfl rfl ?_
      refine g_ior ok ?_
      refine g_istore_n ok rfl (L' := [(0, (28, 0, x0)), (1, (0, x1, 0)), (2, (0, (gor x2 0), 0)), (3, (0, x3, 0))]) rfl ?_
      refine g_iinc ok rfl rfl (L' := [(0, (28, 0, x0)), (1, (0, x1, 0)), (2, (0, (gor x2 0), 0)), (3, (0, (g32 (x3 + 1)), 0))]) rfl ?_
      refine g_goto ok rfl ?_
      exact g_wk ok [(0, (28, 0, x0)), (1, (0, x1, 0)), (2, (0, (gor x2 0), 0)), (3, (0, (g32 (x3 + 1)), 0))] ⟨rfl, rfl, rfl, rfl, trivial⟩ (hl4 (x0, x1, (gor x2 0), (g32 (x3 + 1)), s1))
  · refine g_map hr4 ?_
    refine g_rb gs_252 6 (cd' := gb_252_40) rfl rfl ?_
    refine g_iload_n ok rfl ?_
    exact g_ireturn ok rfl rfl (rfl)
theorem tl_252_4 {X : gX} (ok : gOK X) (hX : gHX X) (d : Nat)  (y : (Nat × Int × Int × Int × gS)) : Go X em_252 252 (d + 1) 4 [] [(0, (28, 0, y.1)), (1, (0, y.2.1, 0)), (2, (0, y.2.2.1, 0)), (3, (0, y.2.2.2.1, 0))] [] y.2.2.2.2 0 0 (gloop (st_252_4) y) some :=
  g_loop (Lh := fun y => [(0, (28, 0, y.1)), (1, (0, y.2.1, 0)), (2, (0, y.2.2.1, 0)), (3, (0, y.2.2.2.1, 0))]) (sh := fun y => y.2.2.2.2) (fun k4 hl4 hr4 y => ts_252_4 ok hX d  hl4 hr4 y.1 y.2.1 y.2.2.1 y.2.2.2.1 y.2.2.2.2) y
theorem t_252 {X : gX} (ok : gOK X) (hX : gHX X) (d : Nat) (a0 : Nat) (a1 : Int) (s : gS) : Go X em_252 252 (d + 1) 0 [] [(0, (28, 0, a0)), (1, (0, a1, 0))] [] s 0 0 (f_252 a0 a1 s) some := by
  delta f_252
  refine g_rb gs_252 0 (cd' := gb_252_0) rfl rfl ?_
  refine g_iconst ok (v := 0) rfl ?_
  refine g_istore_n ok rfl (L' := [(0, (28, 0, a0)), (1, (0, a1, 0)), (2, (0, 0, 0))]) rfl ?_
  refine g_iconst ok (v := 0) rfl ?_
  refine g_istore_n ok rfl (L' := [(0, (28, 0, a0)), (1, (0, a1, 0)), (2, (0, 0, 0)), (3, (0, 0, 0))]) rfl ?_
  exact g_wk ok [(0, (28, 0, a0)), (1, (0, a1, 0)), (2, (0, 0, 0)), (3, (0, 0, 0))] ⟨rfl, rfl, rfl, rfl, trivial⟩ (tl_252_4 ok hX d  (a0, a1, 0, 0, s))
-- X12_sold
theorem tb_247_199 {X : gX} (ok : gOK X) (hX : gHX X) (d : Nat) {k175 : (Nat × Int × Int × Int × Int × gS) ⊕ gO → Option gO} (hl175 : ∀ y : (Nat × Int × Int × Int × Int × gS), Go X em_247 247 (d + 2) 175 [] [(0, (28, 0, y.1)), (1, (0, y.2.1, 0)), (3, (0, y.2.2.1, 0)), (4, (0, y.2.2.2.1, 0)), (5, (0, y.2.2.2.2.1, 0))] [] y.2.2.2.2.2 0 0 (some (Sum.inl y)) k175) (hr175 : ∀ q, k175 (Sum.inr q) = some q) {k184 : (Nat × Int × Int × Int × Int × gS) ⊕ ((Nat × Int × Int × Int × Int × gS) ⊕ gO) → Option gO} (hl184 : ∀ y : (Nat × Int × Int × Int × Int × gS), Go X em_247 247 (d + 2) 184 [] [(0, (28, 0, y.1)), (1, (0, y.2.1, 0)), (3, (0, y.2.2.1, 0)), (4, (0, y.2.2.2.1, 0)), (5, (0, y.2.2.2.2.1, 0))] [] y.2.2.2.2.2 0 0 (some (Sum.inl y)) k184) (hr184 : ∀ q, k184 (Sum.inr q) = k175 q) (x0 : Nat) (x1 : Int) (x3 : Int) (x4 : Int) (x5 : Int) (s : gS) : Go X em_247 247 (d + 2) 199 [] [(0, (28, 0, x0)), (1, (0, x1, 0)), (3, (0, x3, 0)), (4, (0, x4, 0)), (5, (0, x5, 0))] [] s 0 0 (fb_247_199 x0 x1 x3 x4 x5 s) k184 := by
  delta fb_247_199
  refine g_rb gs_247 28 (cd' := gb_247_199) rfl rfl ?_
  refine g_aload_n ok rfl rfl ?_
  refine g_iload ok rfl ?_
  refine g_iload ok rfl ?_
  refine g_iload_n ok rfl ?_
  refine g_cv1 ok (me_246 hX) rfl rfl rfl rfl (t_246 ok hX _ x0 x5 x4 x3 s) (fun v6 s5 => ?_)
  refine g_aload_n ok rfl rfl ?_
  refine g_getr ok 3700 rfl rfl rfl ?_
  refine g_bipush ok (v := 64) rfl ?_
  refine g_iload ok rfl ?_
  refine g_imul ok ?_
  refine g_iload_n ok rfl ?_
  refine g_iadd ok ?_
  refine g_iaload ok (n := 448) rfl rfl (fun _ _ => ?_)
  refine g_ic_eq ok rfl (fun _ => ?_) (fun _ => ?_)
  · refine g_map hr184 ?_
    refine g_rb gs_247 30 (cd' := gb_247_229) rfl rfl ?_
    refine g_iload_n ok rfl ?_
    refine g_iload ok rfl ?_
    refine g_iconst ok (v := (-1)) rfl ?_
    refine g_ic_ne ok rfl (fun _ => ?_) (fun _ => ?_)
    · refine g_rb gs_247 31 (cd' := gb_247_236) rfl rfl ?_
      refine g_bipush ok (v := 63) rfl ?_
      refine g_goto ok rfl ?_
      refine g_rb gs_247 33 (cd' := gb_247_247) rfl rfl ?_
      refine g_iand ok ?_
      refine g_istore_n ok rfl (L' := [(0, (28, 0, x0)), (1, (0, x1, 0)), (3, (0, (gand x3 63), 0)), (4, (0, x4, 0)), (5, (0, x5, 0))]) rfl ?_
      refine g_iinc ok rfl rfl (L' := [(0, (28, 0, x0)), (1, (0, x1, 0)), (3, (0, (gand x3 63), 0)), (4, (0, x4, 0)), (5, (0, (g32 (x5 + 1)), 0))]) rfl ?_
      refine g_goto ok rfl ?_
      exact g_wk ok [(0, (28, 0, x0)), (1, (0, x1, 0)), (3, (0, (gand x3 63), 0)), (4, (0, x4, 0)), (5, (0, (g32 (x5 + 1)), 0))] ⟨rfl, rfl, rfl, rfl, rfl, trivial⟩ (hl175 (x0, x1, (gand x3 63), x4, (g32 (x5 + 1)), s5))
    · refine g_rb gs_247 32 (cd' := gb_247_241) rfl rfl ?_
      refine g_iconst ok (v := 1) rfl ?_
      refine g_iload ok rfl ?_
      refine g_ishl ok ?_
      refine g_iconst ok (v := (-1)) rfl ?_
      refine g_ixor ok ?_
      refine g_rb gs_247 33 (cd' := gb_247_247) rfl rfl ?_
      refine g_iand ok ?_
      let v7 : Int := (gand x3 (gxor (gshl 1 x4) (-1)))
      refine g_istore_n ok rfl (L' := [(0, (28, 0, x0)), (1, (0, x1, 0)), (3, (0, v7, 0)), (4, (0, x4, 0)), (5, (0, x5, 0))]) rfl ?_
      refine g_iinc ok rfl rfl (L' := [(0, (28, 0, x0)), (1, (0, x1, 0)), (3, (0, v7, 0)), (4, (0, x4, 0)), (5, (0, (g32 (x5 + 1)), 0))]) rfl ?_
      refine g_goto ok rfl ?_
      exact g_wk ok [(0, (28, 0, x0)), (1, (0, x1, 0)), (3, (0, v7, 0)), (4, (0, x4, 0)), (5, (0, (g32 (x5 + 1)), 0))] ⟨rfl, rfl, rfl, rfl, rfl, trivial⟩ (hl175 (x0, x1, v7, x4, (g32 (x5 + 1)), s5))
  · refine g_rb gs_247 29 (cd' := gb_247_223) rfl rfl ?_
    refine g_iinc ok rfl rfl (L' := [(0, (28, 0, x0)), (1, (0, x1, 0)), (3, (0, x3, 0)), (4, (0, (g32 (x4 + 1)), 0)), (5, (0, x5, 0))]) rfl ?_
    refine g_goto ok rfl ?_
    exact g_wk ok [(0, (28, 0, x0)), (1, (0, x1, 0)), (3, (0, x3, 0)), (4, (0, (g32 (x4 + 1)), 0)), (5, (0, x5, 0))] ⟨rfl, rfl, rfl, rfl, rfl, trivial⟩ (hl184 (x0, x1, x3, (g32 (x4 + 1)), x5, s5))
theorem ts_247_184 {X : gX} (ok : gOK X) (hX : gHX X) (d : Nat) {k175 : (Nat × Int × Int × Int × Int × gS) ⊕ gO → Option gO} (hl175 : ∀ y : (Nat × Int × Int × Int × Int × gS), Go X em_247 247 (d + 2) 175 [] [(0, (28, 0, y.1)), (1, (0, y.2.1, 0)), (3, (0, y.2.2.1, 0)), (4, (0, y.2.2.2.1, 0)), (5, (0, y.2.2.2.2.1, 0))] [] y.2.2.2.2.2 0 0 (some (Sum.inl y)) k175) (hr175 : ∀ q, k175 (Sum.inr q) = some q) {k184 : (Nat × Int × Int × Int × Int × gS) ⊕ ((Nat × Int × Int × Int × Int × gS) ⊕ gO) → Option gO} (hl184 : ∀ y : (Nat × Int × Int × Int × Int × gS), Go X em_247 247 (d + 2) 184 [] [(0, (28, 0, y.1)), (1, (0, y.2.1, 0)), (3, (0, y.2.2.1, 0)), (4, (0, y.2.2.2.1, 0)), (5, (0, y.2.2.2.2.1, 0))] [] y.2.2.2.2.2 0 0 (some (Sum.inl y)) k184) (hr184 : ∀ q, k184 (Sum.inr q) = k175 q) (x0 : Nat) (x1 : Int) (x3 : Int) (x4 : Int) (x5 : Int) (s : gS) : Go X em_247 247 (d + 2) 184 [] [(0, (28, 0, x0)), (1, (0, x1, 0)), (3, (0, x3, 0)), (4, (0, x4, 0)), (5, (0, x5, 0))] [] s 0 0 (sb_247_184 x0 x1 x3 x4 x5 s) k184 := by
  delta sb_247_184
  refine g_rb gs_247 26 (cd' := gb_247_184) rfl rfl ?_
  refine g_iload ok rfl ?_
  refine g_iconst ok (v := (-1)) rfl ?_
  refine g_ic_eq ok rfl (fun _ => ?_) (fun _ => ?_)
  · exact g_wk ok [(0, (28, 0, x0)), (1, (0, x1, 0)), (3, (0, x3, 0)), (4, (0, x4, 0)), (5, (0, x5, 0))] ⟨rfl, rfl, rfl, rfl, rfl, trivial⟩ (tb_247_199 ok hX d hl175 hr175 hl184 hr184 x0 x1 x3 x4 x5 s)
  · refine g_rb gs_247 27 (cd' := gb_247_190) rfl rfl ?_
    refine g_iload_n ok rfl ?_
    refine g_iload ok rfl ?_
    refine g_csz ok (me_153 hX) rfl rfl rfl (t_153 ok hX _ x3 x4 s) (fun v9 s8 hb10 => ?_)
    refine g_if_eq ok rfl (fun _ => ?_) (fun _ => ?_)
    · refine g_rb gs_247 29 (cd' := gb_247_223) rfl rfl ?_
      refine g_iinc ok rfl rfl (L' := [(0, (28, 0, x0)), (1, (0, x1, 0)), (3, (0, x3, 0)), (4, (0, (g32 (x4 + 1)), 0)), (5, (0, x5, 0))]) rfl ?_
      refine g_goto ok rfl ?_
      exact g_wk ok [(0, (28, 0, x0)), (1, (0, x1, 0)), (3, (0, x3, 0)), (4, (0, (g32 (x4 + 1)), 0)), (5, (0, x5, 0))] ⟨rfl, rfl, rfl, rfl, rfl, trivial⟩ (hl184 (x0, x1, x3, (g32 (x4 + 1)), x5, s8))
    · exact g_wk ok [(0, (28, 0, x0)), (1, (0, x1, 0)), (3, (0, x3, 0)), (4, (0, x4, 0)), (5, (0, x5, 0))] ⟨rfl, rfl, rfl, rfl, rfl, trivial⟩ (tb_247_199 ok hX d hl175 hr175 hl184 hr184 x0 x1 x3 x4 x5 s8)
theorem tl_247_184 {X : gX} (ok : gOK X) (hX : gHX X) (d : Nat) {k175 : (Nat × Int × Int × Int × Int × gS) ⊕ gO → Option gO} (hl175 : ∀ y : (Nat × Int × Int × Int × Int × gS), Go X em_247 247 (d + 2) 175 [] [(0, (28, 0, y.1)), (1, (0, y.2.1, 0)), (3, (0, y.2.2.1, 0)), (4, (0, y.2.2.2.1, 0)), (5, (0, y.2.2.2.2.1, 0))] [] y.2.2.2.2.2 0 0 (some (Sum.inl y)) k175) (hr175 : ∀ q, k175 (Sum.inr q) = some q) (y : (Nat × Int × Int × Int × Int × gS)) : Go X em_247 247 (d + 2) 184 [] [(0, (28, 0, y.1)), (1, (0, y.2.1, 0)), (3, (0, y.2.2.1, 0)), (4, (0, y.2.2.2.1, 0)), (5, (0, y.2.2.2.2.1, 0))] [] y.2.2.2.2.2 0 0 (gloop (st_247_184) y) k175 :=
  g_loop (Lh := fun y => [(0, (28, 0, y.1)), (1, (0, y.2.1, 0)), (3, (0, y.2.2.1, 0)), (4, (0, y.2.2.2.1, 0)), (5, (0, y.2.2.2.2.1, 0))]) (sh := fun y => y.2.2.2.2.2) (fun k184 hl184 hr184 y => ts_247_184 ok hX d hl175 hr175 hl184 hr184 y.1 y.2.1 y.2.2.1 y.2.2.2.1 y.2.2.2.2.1 y.2.2.2.2.2) y
theorem ts_247_175 {X : gX} (ok : gOK X) (hX : gHX X) (d : Nat) {k175 : (Nat × Int × Int × Int × Int × gS) ⊕ gO → Option gO} (hl175 : ∀ y : (Nat × Int × Int × Int × Int × gS), Go X em_247 247 (d + 2) 175 [] [(0, (28, 0, y.1)), (1, (0, y.2.1, 0)), (3, (0, y.2.2.1, 0)), (4, (0, y.2.2.2.1, 0)), (5, (0, y.2.2.2.2.1, 0))] [] y.2.2.2.2.2 0 0 (some (Sum.inl y)) k175) (hr175 : ∀ q, k175 (Sum.inr q) = some q) (x0 : Nat) (x1 : Int) (x3 : Int) (x4 : Int) (x5 : Int) (s : gS) : Go X em_247 247 (d + 2) 175 [] [(0, (28, 0, x0)), (1, (0, x1, 0)), (3, (0, x3, 0)), (4, (0, x4, 0)), (5, (0, x5, 0))] [] s 0 0 (sb_247_175 x0 x1 x3 x4 x5 s) k175 := by
  delta sb_247_175
  refine g_rb gs_247 24 (cd' := gb_247_175) rfl rfl ?_
  refine g_iload ok rfl ?_
  refine g_iload_n ok rfl ?_
  refine g_ic_gt ok rfl (fun _ => ?_) (fun _ => ?_)
  · refine g_map hr175 ?_
    refine g_rb gs_247 34 (cd' := gb_247_255) rfl rfl ?_
    refine g_iload ok rfl ?_
    exact g_ireturn ok rfl rfl (rfl)
  · refine g_rb gs_247 25 (cd' := gb_247_181) rfl rfl ?_
    refine g_iconst ok (v := (-1)) rfl ?_
    refine g_istore ok rfl (L' := [(0, (28, 0, x0)), (1, (0, x1, 0)), (3, (0, x3, 0)), (4, (0, (-1), 0)), (5, (0, x5, 0))]) rfl ?_
    exact g_wk ok [(0, (28, 0, x0)), (1, (0, x1, 0)), (3, (0, x3, 0)), (4, (0, (-1), 0)), (5, (0, x5, 0))] ⟨rfl, rfl, rfl, rfl, rfl, trivial⟩ (tl_247_184 ok hX d hl175 hr175 (x0, x1, x3, (-1), x5, s))
theorem tl_247_175 {X : gX} (ok : gOK X) (hX : gHX X) (d : Nat)  (y : (Nat × Int × Int × Int × Int × gS)) : Go X em_247 247 (d + 2) 175 [] [(0, (28, 0, y.1)), (1, (0, y.2.1, 0)), (3, (0, y.2.2.1, 0)), (4, (0, y.2.2.2.1, 0)), (5, (0, y.2.2.2.2.1, 0))] [] y.2.2.2.2.2 0 0 (gloop (st_247_175) y) some :=
  g_loop (Lh := fun y => [(0, (28, 0, y.1)), (1, (0, y.2.1, 0)), (3, (0, y.2.2.1, 0)), (4, (0, y.2.2.2.1, 0)), (5, (0, y.2.2.2.2.1, 0))]) (sh := fun y => y.2.2.2.2.2) (fun k175 hl175 hr175 y => ts_247_175 ok hX d  hl175 hr175 y.1 y.2.1 y.2.2.1 y.2.2.2.1 y.2.2.2.2.1 y.2.2.2.2.2) y
theorem tb_247_125 {X : gX} (ok : gOK X) (hX : gHX X) (d : Nat) {k41 : (Nat × Int × Int × Int × gS) ⊕ gO → Option gO} (hl41 : ∀ y : (Nat × Int × Int × Int × gS), Go X em_247 247 (d + 2) 41 [] [(0, (28, 0, y.1)), (1, (0, y.2.1, 0)), (2, (0, y.2.2.1, 0)), (3, (0, y.2.2.2.1, 0))] [] y.2.2.2.2 0 0 (some (Sum.inl y)) k41) (hr41 : ∀ q, k41 (Sum.inr q) = some q) {k48 : (Nat × Int × Int × Int × Int × gS) ⊕ ((Nat × Int × Int × Int × gS) ⊕ gO) → Option gO} (hl48 : ∀ y : (Nat × Int × Int × Int × Int × gS), Go X em_247 247 (d + 2) 48 [] [(0, (28, 0, y.1)), (1, (0, y.2.1, 0)), (2, (0, y.2.2.1, 0)), (3, (0, y.2.2.2.1, 0)), (4, (0, y.2.2.2.2.1, 0))] [] y.2.2.2.2.2 0 0 (some (Sum.inl y)) k48) (hr48 : ∀ q, k48 (Sum.inr q) = k41 q) (x0 : Nat) (x1 : Int) (x2 : Int) (x3 : Int) (x4 : Int) (x5 : Int) (s : gS) : Go X em_247 247 (d + 2) 125 [] [(0, (28, 0, x0)), (1, (0, x1, 0)), (2, (0, x2, 0)), (3, (0, x3, 0)), (4, (0, x4, 0)), (5, (0, x5, 0))] [] s 0 0 (fb_247_125 x0 x1 x2 x3 x4 x5 s) k48 := by
  delta fb_247_125
  refine g_rb gs_247 19 (cd' := gb_247_125) rfl rfl ?_
  refine g_aload_n ok rfl rfl ?_
  refine g_getr ok 3700 rfl rfl rfl ?_
  refine g_bipush ok (v := 64) rfl ?_
  refine g_iload_n ok rfl ?_
  refine g_imul ok ?_
  refine g_iload ok rfl ?_
  refine g_iadd ok ?_
  refine g_iload ok rfl ?_
  refine g_iastore ok (n := 448) rfl rfl (fun _ _ => ?_)
  let s18 : gS := gw s (gR s x0 24) ((g32 ((g32 (64 * x3)) + x4)) : Int).toNat x5
  refine g_iinc ok rfl rfl (L' := [(0, (28, 0, x0)), (1, (0, x1, 0)), (2, (0, x2, 0)), (3, (0, x3, 0)), (4, (0, (g32 (x4 + 1)), 0)), (5, (0, x5, 0))]) rfl ?_
  refine g_goto ok rfl ?_
  exact g_wk ok [(0, (28, 0, x0)), (1, (0, x1, 0)), (2, (0, x2, 0)), (3, (0, x3, 0)), (4, (0, (g32 (x4 + 1)), 0))] ⟨rfl, rfl, rfl, rfl, rfl, trivial⟩ (hl48 (x0, x1, x2, x3, (g32 (x4 + 1)), s18))
theorem ts_247_77 {X : gX} (ok : gOK X) (hX : gHX X) (d : Nat) {k41 : (Nat × Int × Int × Int × gS) ⊕ gO → Option gO} (hl41 : ∀ y : (Nat × Int × Int × Int × gS), Go X em_247 247 (d + 2) 41 [] [(0, (28, 0, y.1)), (1, (0, y.2.1, 0)), (2, (0, y.2.2.1, 0)), (3, (0, y.2.2.2.1, 0))] [] y.2.2.2.2 0 0 (some (Sum.inl y)) k41) (hr41 : ∀ q, k41 (Sum.inr q) = some q) {k48 : (Nat × Int × Int × Int × Int × gS) ⊕ ((Nat × Int × Int × Int × gS) ⊕ gO) → Option gO} (hl48 : ∀ y : (Nat × Int × Int × Int × Int × gS), Go X em_247 247 (d + 2) 48 [] [(0, (28, 0, y.1)), (1, (0, y.2.1, 0)), (2, (0, y.2.2.1, 0)), (3, (0, y.2.2.2.1, 0)), (4, (0, y.2.2.2.2.1, 0))] [] y.2.2.2.2.2 0 0 (some (Sum.inl y)) k48) (hr48 : ∀ q, k48 (Sum.inr q) = k41 q) {k77 : (Nat × Int × Int × Int × Int × Int × Int × gS) ⊕ ((Nat × Int × Int × Int × Int × gS) ⊕ ((Nat × Int × Int × Int × gS) ⊕ gO)) → Option gO} (hl77 : ∀ y : (Nat × Int × Int × Int × Int × Int × Int × gS), Go X em_247 247 (d + 2) 77 [] [(0, (28, 0, y.1)), (1, (0, y.2.1, 0)), (2, (0, y.2.2.1, 0)), (3, (0, y.2.2.2.1, 0)), (4, (0, y.2.2.2.2.1, 0)), (5, (0, y.2.2.2.2.2.1, 0)), (6, (0, y.2.2.2.2.2.2.1, 0))] [] y.2.2.2.2.2.2.2 0 0 (some (Sum.inl y)) k77) (hr77 : ∀ q, k77 (Sum.inr q) = k48 q) (x0 : Nat) (x1 : Int) (x2 : Int) (x3 : Int) (x4 : Int) (x5 : Int) (x6 : Int) (s : gS) : Go X em_247 247 (d + 2) 77 [] [(0, (28, 0, x0)), (1, (0, x1, 0)), (2, (0, x2, 0)), (3, (0, x3, 0)), (4, (0, x4, 0)), (5, (0, x5, 0)), (6, (0, x6, 0))] [] s 0 0 (sb_247_77 x0 x1 x2 x3 x4 x5 x6 s) k77 := by
  delta sb_247_77
  refine g_rb gs_247 14 (cd' := gb_247_77) rfl rfl ?_
  refine g_iload ok rfl ?_
  refine g_aload_n ok rfl rfl ?_
  refine g_getr ok 6036 rfl rfl rfl ?_
  refine g_iconst ok (v := 4) rfl ?_
  refine g_ialoadc ok (n := 740) 4 rfl rfl rfl ?_
  refine g_ic_ge ok rfl (fun _ => ?_) (fun _ => ?_)
  · refine g_rb gs_247 15 (cd' := gb_247_88) rfl rfl ?_
    refine g_iload_n ok rfl ?_
    refine g_iload_n ok rfl ?_
    refine g_ic_ge ok rfl (fun _ => ?_) (fun _ => ?_)
    · refine g_rb gs_247 16 (cd' := gb_247_93) rfl rfl ?_
      refine g_iload ok rfl ?_
      refine g_iload ok rfl ?_
      refine g_csz ok (me_153 hX) rfl rfl rfl (t_153 ok hX _ x4 x6 s) (fun v12 s11 hb13 => ?_)
      refine g_if_eq ok rfl (fun _ => ?_) (fun _ => ?_)
      · refine g_rb gs_247 18 (cd' := gb_247_119) rfl rfl ?_
        refine g_iinc ok rfl rfl (L' := [(0, (28, 0, x0)), (1, (0, x1, 0)), (2, (0, x2, 0)), (3, (0, x3, 0)), (4, (0, x4, 0)), (5, (0, x5, 0)), (6, (0, (g32 (x6 + 1)), 0))]) rfl ?_
        refine g_goto ok rfl ?_
        exact g_wk ok [(0, (28, 0, x0)), (1, (0, x1, 0)), (2, (0, x2, 0)), (3, (0, x3, 0)), (4, (0, x4, 0)), (5, (0, x5, 0)), (6, (0, (g32 (x6 + 1)), 0))] ⟨rfl, rfl, rfl, rfl, rfl, rfl, rfl, trivial⟩ (hl77 (x0, x1, x2, x3, x4, x5, (g32 (x6 + 1)), s11))
      · refine g_rb gs_247 17 (cd' := gb_247_103) rfl rfl ?_
        refine g_iload ok rfl ?_
        refine g_aload_n ok rfl rfl ?_
        refine g_iload_n ok rfl ?_
        refine g_iload ok rfl ?_
        refine g_iload ok rfl ?_
        refine g_cv1 ok (me_246 hX) rfl rfl rfl rfl (t_246 ok hX _ x0 x3 x6 x4 s11) (fun v15 s14 => ?_)
        refine g_cs1 ok (me_152 hX) rfl rfl rfl (t_152 ok hX _ x5 v15 s14) (fun v17 s16 => ?_)
        refine g_istore ok rfl (L' := [(0, (28, 0, x0)), (1, (0, x1, 0)), (2, (0, x2, 0)), (3, (0, x3, 0)), (4, (0, x4, 0)), (5, (0, v17, 0)), (6, (0, x6, 0))]) rfl ?_
        refine g_rb gs_247 18 (cd' := gb_247_119) rfl rfl ?_
        refine g_iinc ok rfl rfl (L' := [(0, (28, 0, x0)), (1, (0, x1, 0)), (2, (0, x2, 0)), (3, (0, x3, 0)), (4, (0, x4, 0)), (5, (0, v17, 0)), (6, (0, (g32 (x6 + 1)), 0))]) rfl ?_
        refine g_goto ok rfl ?_
        exact g_wk ok [(0, (28, 0, x0)), (1, (0, x1, 0)), (2, (0, x2, 0)), (3, (0, x3, 0)), (4, (0, x4, 0)), (5, (0, v17, 0)), (6, (0, (g32 (x6 + 1)), 0))] ⟨rfl, rfl, rfl, rfl, rfl, rfl, rfl, trivial⟩ (hl77 (x0, x1, x2, x3, x4, v17, (g32 (x6 + 1)), s16))
    · refine g_map hr77 ?_
      exact g_wk ok [(0, (28, 0, x0)), (1, (0, x1, 0)), (2, (0, x2, 0)), (3, (0, x3, 0)), (4, (0, x4, 0)), (5, (0, x5, 0))] ⟨rfl, rfl, rfl, rfl, rfl, rfl, trivial⟩ (tb_247_125 ok hX d hl41 hr41 hl48 hr48 x0 x1 x2 x3 x4 x5 s)
  · refine g_map hr77 ?_
    exact g_wk ok [(0, (28, 0, x0)), (1, (0, x1, 0)), (2, (0, x2, 0)), (3, (0, x3, 0)), (4, (0, x4, 0)), (5, (0, x5, 0))] ⟨rfl, rfl, rfl, rfl, rfl, rfl, trivial⟩ (tb_247_125 ok hX d hl41 hr41 hl48 hr48 x0 x1 x2 x3 x4 x5 s)
theorem tl_247_77 {X : gX} (ok : gOK X) (hX : gHX X) (d : Nat) {k41 : (Nat × Int × Int × Int × gS) ⊕ gO → Option gO} (hl41 : ∀ y : (Nat × Int × Int × Int × gS), Go X em_247 247 (d + 2) 41 [] [(0, (28, 0, y.1)), (1, (0, y.2.1, 0)), (2, (0, y.2.2.1, 0)), (3, (0, y.2.2.2.1, 0))] [] y.2.2.2.2 0 0 (some (Sum.inl y)) k41) (hr41 : ∀ q, k41 (Sum.inr q) = some q) {k48 : (Nat × Int × Int × Int × Int × gS) ⊕ ((Nat × Int × Int × Int × gS) ⊕ gO) → Option gO} (hl48 : ∀ y : (Nat × Int × Int × Int × Int × gS), Go X em_247 247 (d + 2) 48 [] [(0, (28, 0, y.1)), (1, (0, y.2.1, 0)), (2, (0, y.2.2.1, 0)), (3, (0, y.2.2.2.1, 0)), (4, (0, y.2.2.2.2.1, 0))] [] y.2.2.2.2.2 0 0 (some (Sum.inl y)) k48) (hr48 : ∀ q, k48 (Sum.inr q) = k41 q) (y : (Nat × Int × Int × Int × Int × Int × Int × gS)) : Go X em_247 247 (d + 2) 77 [] [(0, (28, 0, y.1)), (1, (0, y.2.1, 0)), (2, (0, y.2.2.1, 0)), (3, (0, y.2.2.2.1, 0)), (4, (0, y.2.2.2.2.1, 0)), (5, (0, y.2.2.2.2.2.1, 0)), (6, (0, y.2.2.2.2.2.2.1, 0))] [] y.2.2.2.2.2.2.2 0 0 (gloop (st_247_77) y) k48 :=
  g_loop (Lh := fun y => [(0, (28, 0, y.1)), (1, (0, y.2.1, 0)), (2, (0, y.2.2.1, 0)), (3, (0, y.2.2.2.1, 0)), (4, (0, y.2.2.2.2.1, 0)), (5, (0, y.2.2.2.2.2.1, 0)), (6, (0, y.2.2.2.2.2.2.1, 0))]) (sh := fun y => y.2.2.2.2.2.2.2) (fun k77 hl77 hr77 y => ts_247_77 ok hX d hl41 hr41 hl48 hr48 hl77 hr77 y.1 y.2.1 y.2.2.1 y.2.2.2.1 y.2.2.2.2.1 y.2.2.2.2.2.1 y.2.2.2.2.2.2.1 y.2.2.2.2.2.2.2) y
theorem tb_247_72 {X : gX} (ok : gOK X) (hX : gHX X) (d : Nat) {k41 : (Nat × Int × Int × Int × gS) ⊕ gO → Option gO} (hl41 : ∀ y : (Nat × Int × Int × Int × gS), Go X em_247 247 (d + 2) 41 [] [(0, (28, 0, y.1)), (1, (0, y.2.1, 0)), (2, (0, y.2.2.1, 0)), (3, (0, y.2.2.2.1, 0))] [] y.2.2.2.2 0 0 (some (Sum.inl y)) k41) (hr41 : ∀ q, k41 (Sum.inr q) = some q) {k48 : (Nat × Int × Int × Int × Int × gS) ⊕ ((Nat × Int × Int × Int × gS) ⊕ gO) → Option gO} (hl48 : ∀ y : (Nat × Int × Int × Int × Int × gS), Go X em_247 247 (d + 2) 48 [] [(0, (28, 0, y.1)), (1, (0, y.2.1, 0)), (2, (0, y.2.2.1, 0)), (3, (0, y.2.2.2.1, 0)), (4, (0, y.2.2.2.2.1, 0))] [] y.2.2.2.2.2 0 0 (some (Sum.inl y)) k48) (hr48 : ∀ q, k48 (Sum.inr q) = k41 q) (x0 : Nat) (x1 : Int) (x2 : Int) (x3 : Int) (x4 : Int) (w0 : Int) (s : gS) : Go X em_247 247 (d + 2) 72 [] [(0, (28, 0, x0)), (1, (0, x1, 0)), (2, (0, x2, 0)), (3, (0, x3, 0)), (4, (0, x4, 0))] [(0, w0, 0)] s 0 0 (fb_247_72 x0 x1 x2 x3 x4 w0 s) k48 := by
  delta fb_247_72
  refine g_rb gs_247 13 (cd' := gb_247_72) rfl rfl ?_
  refine g_istore ok rfl (L' := [(0, (28, 0, x0)), (1, (0, x1, 0)), (2, (0, x2, 0)), (3, (0, x3, 0)), (4, (0, x4, 0)), (5, (0, w0, 0))]) rfl ?_
  refine g_iconst ok (v := 0) rfl ?_
  refine g_istore ok rfl (L' := [(0, (28, 0, x0)), (1, (0, x1, 0)), (2, (0, x2, 0)), (3, (0, x3, 0)), (4, (0, x4, 0)), (5, (0, w0, 0)), (6, (0, 0, 0))]) rfl ?_
  exact g_wk ok [(0, (28, 0, x0)), (1, (0, x1, 0)), (2, (0, x2, 0)), (3, (0, x3, 0)), (4, (0, x4, 0)), (5, (0, w0, 0)), (6, (0, 0, 0))] ⟨rfl, rfl, rfl, rfl, rfl, rfl, rfl, trivial⟩ (tl_247_77 ok hX d hl41 hr41 hl48 hr48 (x0, x1, x2, x3, x4, w0, 0, s))
theorem ts_247_48 {X : gX} (ok : gOK X) (hX : gHX X) (d : Nat) {k41 : (Nat × Int × Int × Int × gS) ⊕ gO → Option gO} (hl41 : ∀ y : (Nat × Int × Int × Int × gS), Go X em_247 247 (d + 2) 41 [] [(0, (28, 0, y.1)), (1, (0, y.2.1, 0)), (2, (0, y.2.2.1, 0)), (3, (0, y.2.2.2.1, 0))] [] y.2.2.2.2 0 0 (some (Sum.inl y)) k41) (hr41 : ∀ q, k41 (Sum.inr q) = some q) {k48 : (Nat × Int × Int × Int × Int × gS) ⊕ ((Nat × Int × Int × Int × gS) ⊕ gO) → Option gO} (hl48 : ∀ y : (Nat × Int × Int × Int × Int × gS), Go X em_247 247 (d + 2) 48 [] [(0, (28, 0, y.1)), (1, (0, y.2.1, 0)), (2, (0, y.2.2.1, 0)), (3, (0, y.2.2.2.1, 0)), (4, (0, y.2.2.2.2.1, 0))] [] y.2.2.2.2.2 0 0 (some (Sum.inl y)) k48) (hr48 : ∀ q, k48 (Sum.inr q) = k41 q) (x0 : Nat) (x1 : Int) (x2 : Int) (x3 : Int) (x4 : Int) (s : gS) : Go X em_247 247 (d + 2) 48 [] [(0, (28, 0, x0)), (1, (0, x1, 0)), (2, (0, x2, 0)), (3, (0, x3, 0)), (4, (0, x4, 0))] [] s 0 0 (sb_247_48 x0 x1 x2 x3 x4 s) k48 := by
  delta sb_247_48
  refine g_rb gs_247 9 (cd' := gb_247_48) rfl rfl ?_
  refine g_iload ok rfl ?_
  refine g_bipush ok (v := 64) rfl ?_
  refine g_ic_ge ok rfl (fun _ => ?_) (fun _ => ?_)
  · refine g_rb gs_247 10 (cd' := gb_247_55) rfl rfl ?_
    refine g_iload_n ok rfl ?_
    refine g_iload_n ok rfl ?_
    refine g_ic_ne ok rfl (fun _ => ?_) (fun _ => ?_)
    · refine g_rb gs_247 11 (cd' := gb_247_60) rfl rfl ?_
      refine g_iconst ok (v := 0) rfl ?_
      refine g_goto ok rfl ?_
      exact g_wk ok [(0, (28, 0, x0)), (1, (0, x1, 0)), (2, (0, x2, 0)), (3, (0, x3, 0)), (4, (0, x4, 0))] ⟨rfl, rfl, rfl, rfl, rfl, trivial⟩ (tb_247_72 ok hX d hl41 hr41 hl48 hr48 x0 x1 x2 x3 x4 0 s)
    · refine g_rb gs_247 12 (cd' := gb_247_64) rfl rfl ?_
      refine g_aload_n ok rfl rfl ?_
      refine g_iload_n ok rfl ?_
      refine g_iconst ok (v := (-1)) rfl ?_
      refine g_iload ok rfl ?_
      refine g_cv1 ok (me_246 hX) rfl rfl rfl rfl (t_246 ok hX _ x0 x3 (-1) x4 s) (fun v20 s19 => ?_)
      exact g_wk ok [(0, (28, 0, x0)), (1, (0, x1, 0)), (2, (0, x2, 0)), (3, (0, x3, 0)), (4, (0, x4, 0))] ⟨rfl, rfl, rfl, rfl, rfl, trivial⟩ (tb_247_72 ok hX d hl41 hr41 hl48 hr48 x0 x1 x2 x3 x4 v20 s19)
  · refine g_map hr48 ?_
    refine g_rb gs_247 20 (cd' := gb_247_145) rfl rfl ?_
    refine g_iinc ok rfl rfl (L' := [(0, (28, 0, x0)), (1, (0, x1, 0)), (2, (0, x2, 0)), (3, (0, (g32 (x3 + (-1))), 0)), (4, (0, x4, 0))]) rfl ?_
    refine g_goto ok rfl ?_
    exact g_wk ok [(0, (28, 0, x0)), (1, (0, x1, 0)), (2, (0, x2, 0)), (3, (0, (g32 (x3 + (-1))), 0))] ⟨rfl, rfl, rfl, rfl, trivial⟩ (hl41 (x0, x1, x2, (g32 (x3 + (-1))), s))
theorem tl_247_48 {X : gX} (ok : gOK X) (hX : gHX X) (d : Nat) {k41 : (Nat × Int × Int × Int × gS) ⊕ gO → Option gO} (hl41 : ∀ y : (Nat × Int × Int × Int × gS), Go X em_247 247 (d + 2) 41 [] [(0, (28, 0, y.1)), (1, (0, y.2.1, 0)), (2, (0, y.2.2.1, 0)), (3, (0, y.2.2.2.1, 0))] [] y.2.2.2.2 0 0 (some (Sum.inl y)) k41) (hr41 : ∀ q, k41 (Sum.inr q) = some q) (y : (Nat × Int × Int × Int × Int × gS)) : Go X em_247 247 (d + 2) 48 [] [(0, (28, 0, y.1)), (1, (0, y.2.1, 0)), (2, (0, y.2.2.1, 0)), (3, (0, y.2.2.2.1, 0)), (4, (0, y.2.2.2.2.1, 0))] [] y.2.2.2.2.2 0 0 (gloop (st_247_48) y) k41 :=
  g_loop (Lh := fun y => [(0, (28, 0, y.1)), (1, (0, y.2.1, 0)), (2, (0, y.2.2.1, 0)), (3, (0, y.2.2.2.1, 0)), (4, (0, y.2.2.2.2.1, 0))]) (sh := fun y => y.2.2.2.2.2) (fun k48 hl48 hr48 y => ts_247_48 ok hX d hl41 hr41 hl48 hr48 y.1 y.2.1 y.2.2.1 y.2.2.2.1 y.2.2.2.2.1 y.2.2.2.2.2) y
theorem ts_247_41 {X : gX} (ok : gOK X) (hX : gHX X) (d : Nat) {k41 : (Nat × Int × Int × Int × gS) ⊕ gO → Option gO} (hl41 : ∀ y : (Nat × Int × Int × Int × gS), Go X em_247 247 (d + 2) 41 [] [(0, (28, 0, y.1)), (1, (0, y.2.1, 0)), (2, (0, y.2.2.1, 0)), (3, (0, y.2.2.2.1, 0))] [] y.2.2.2.2 0 0 (some (Sum.inl y)) k41) (hr41 : ∀ q, k41 (Sum.inr q) = some q) (x0 : Nat) (x1 : Int) (x2 : Int) (x3 : Int) (s : gS) : Go X em_247 247 (d + 2) 41 [] [(0, (28, 0, x0)), (1, (0, x1, 0)), (2, (0, x2, 0)), (3, (0, x3, 0))] [] s 0 0 (sb_247_41 x0 x1 x2 x3 s) k41 := by
  delta sb_247_41
  refine g_rb gs_247 7 (cd' := gb_247_41) rfl rfl ?_
  refine g_iload_n ok rfl ?_
  refine g_if_lt ok rfl (fun _ => ?_) (fun _ => ?_)
  · refine g_map hr41 ?_
    refine g_rb gs_247 21 (cd' := gb_247_151) rfl rfl ?_
    refine g_aload_n ok rfl rfl ?_
    refine g_iconst ok (v := 0) rfl ?_
    refine g_cv1 ok (me_252 hX) rfl rfl rfl rfl (t_252 ok hX _ x0 0 s) (fun v4 s3 => ?_)
    refine g_istore_n ok rfl (L' := [(0, (28, 0, x0)), (1, (0, x1, 0)), (2, (0, x2, 0)), (3, (0, v4, 0))]) rfl ?_
    refine g_iload_n ok rfl ?_
    refine g_iconst ok (v := (-1)) rfl ?_
    refine g_ic_ne ok rfl (fun _ => ?_) (fun _ => ?_)
    · refine g_rb gs_247 22 (cd' := gb_247_162) rfl rfl ?_
      refine g_aload_n ok rfl rfl ?_
      refine g_getr ok 3700 rfl rfl rfl ?_
      refine g_iload_n ok rfl ?_
      refine g_iaload ok (n := 448) rfl rfl (fun _ _ => ?_)
      exact g_ireturn ok rfl rfl (rfl)
    · refine g_rb gs_247 23 (cd' := gb_247_169) rfl rfl ?_
      refine g_iconst ok (v := (-1)) rfl ?_
      refine g_istore ok rfl (L' := [(0, (28, 0, x0)), (1, (0, x1, 0)), (2, (0, x2, 0)), (3, (0, v4, 0)), (4, (0, (-1), 0))]) rfl ?_
      refine g_iconst ok (v := 0) rfl ?_
      refine g_istore ok rfl (L' := [(0, (28, 0, x0)), (1, (0, x1, 0)), (2, (0, x2, 0)), (3, (0, v4, 0)), (4, (0, (-1), 0)), (5, (0, 0, 0))]) rfl ?_
      exact g_wk ok [(0, (28, 0, x0)), (1, (0, x1, 0)), (3, (0, v4, 0)), (4, (0, (-1), 0)), (5, (0, 0, 0))] ⟨rfl, rfl, rfl, rfl, rfl, trivial⟩ (tl_247_175 ok hX d  (x0, x1, v4, (-1), 0, s3))
  · refine g_rb gs_247 8 (cd' := gb_247_45) rfl rfl ?_
    refine g_iconst ok (v := 0) rfl ?_
    refine g_istore ok rfl (L' := [(0, (28, 0, x0)), (1, (0, x1, 0)), (2, (0, x2, 0)), (3, (0, x3, 0)), (4, (0, 0, 0))]) rfl ?_
    exact g_wk ok [(0, (28, 0, x0)), (1, (0, x1, 0)), (2, (0, x2, 0)), (3, (0, x3, 0)), (4, (0, 0, 0))] ⟨rfl, rfl, rfl, rfl, rfl, trivial⟩ (tl_247_48 ok hX d hl41 hr41 (x0, x1, x2, x3, 0, s))
theorem tl_247_41 {X : gX} (ok : gOK X) (hX : gHX X) (d : Nat)  (y : (Nat × Int × Int × Int × gS)) : Go X em_247 247 (d + 2) 41 [] [(0, (28, 0, y.1)), (1, (0, y.2.1, 0)), (2, (0, y.2.2.1, 0)), (3, (0, y.2.2.2.1, 0))] [] y.2.2.2.2 0 0 (gloop (st_247_41) y) some :=
  g_loop (Lh := fun y => [(0, (28, 0, y.1)), (1, (0, y.2.1, 0)), (2, (0, y.2.2.1, 0)), (3, (0, y.2.2.2.1, 0))]) (sh := fun y => y.2.2.2.2) (fun k41 hl41 hr41 y => ts_247_41 ok hX d  hl41 hr41 y.1 y.2.1 y.2.2.1 y.2.2.2.1 y.2.2.2.2) y
theorem tb_247_19 {X : gX} (ok : gOK X) (hX : gHX X) (d : Nat)  (x0 : Nat) (x1 : Int) (w0 : Int) (w1 : Nat) (s : gS) : Go X em_247 247 (d + 2) 19 [] [(0, (28, 0, x0)), (1, (0, x1, 0))] [(0, w0, 0), (28, 0, w1)] s 0 0 (fb_247_19 x0 x1 w0 w1 s) some := by
  delta fb_247_19
  refine g_rb gs_247 4 (cd' := gb_247_19) rfl rfl ?_
  refine g_puti ok rfl rfl rfl ?_
  let s1 : gS := gw s w1 0 w0
  refine g_aload_n ok rfl rfl ?_
  refine g_geti ok rfl rfl ?_
  refine g_if_le ok rfl (fun _ => ?_) (fun _ => ?_)
  · refine g_rb gs_247 5 (cd' := gb_247_29) rfl rfl ?_
    refine g_iconst ok (v := 0) rfl ?_
    exact g_ireturn ok rfl rfl (rfl)
  · refine g_rb gs_247 6 (cd' := gb_247_31) rfl rfl ?_
    refine g_aload_n ok rfl rfl ?_
    refine g_getr ok 6036 rfl rfl rfl ?_
    refine g_bipush ok (v := 6) rfl ?_
    refine g_ialoadc ok (n := 740) 6 rfl rfl rfl ?_
    let v2 : Int := (gI s1 (gR s1 x0 1) 6)
    refine g_istore_n ok rfl (L' := [(0, (28, 0, x0)), (1, (0, x1, 0)), (2, (0, v2, 0))]) rfl ?_
    refine g_iload_n ok rfl ?_
    refine g_istore_n ok rfl (L' := [(0, (28, 0, x0)), (1, (0, x1, 0)), (2, (0, v2, 0)), (3, (0, v2, 0))]) rfl ?_
    exact g_wk ok [(0, (28, 0, x0)), (1, (0, x1, 0)), (2, (0, v2, 0)), (3, (0, v2, 0))] ⟨rfl, rfl, rfl, rfl, trivial⟩ (tl_247_41 ok hX d  (x0, x1, v2, v2, s1))
theorem tb_247_18 {X : gX} (ok : gOK X) (hX : gHX X) (d : Nat)  (x0 : Nat) (x1 : Int) (w0 : Nat) (s : gS) : Go X em_247 247 (d + 2) 18 [] [(0, (28, 0, x0)), (1, (0, x1, 0))] [(28, 0, w0)] s 0 0 (fb_247_18 x0 x1 w0 s) some := by
  delta fb_247_18
  refine g_rb gs_247 3 (cd' := gb_247_18) rfl rfl ?_
  refine g_iconst ok (v := 0) rfl ?_
  exact g_wk ok [(0, (28, 0, x0)), (1, (0, x1, 0))] ⟨rfl, rfl, trivial⟩ (tb_247_19 ok hX d  x0 x1 0 w0 s)
theorem t_247 {X : gX} (ok : gOK X) (hX : gHX X) (d : Nat) (a0 : Nat) (a1 : Int) (s : gS) : Go X em_247 247 (d + 2) 0 [] [(0, (28, 0, a0)), (1, (0, a1, 0))] [] s 0 0 (f_247 a0 a1 s) some := by
  delta f_247
  refine g_rb gs_247 0 (cd' := gb_247_0) rfl rfl ?_
  refine g_aload_n ok rfl rfl ?_
  refine g_iload_n ok rfl ?_
  refine g_iconst ok (v := (-1)) rfl ?_
  refine g_ic_eq ok rfl (fun _ => ?_) (fun _ => ?_)
  · exact g_wk ok [(0, (28, 0, a0)), (1, (0, a1, 0))] ⟨rfl, rfl, trivial⟩ (tb_247_18 ok hX d  a0 a1 a0 s)
  · refine g_rb gs_247 1 (cd' := gb_247_6) rfl rfl ?_
    refine g_aload_n ok rfl rfl ?_
    refine g_iload_n ok rfl ?_
    refine g_cvz ok (me_164 hX) rfl rfl rfl rfl (t_164 ok hX _ a0 a1 s) (fun v22 s21 hb23 => ?_)
    refine g_if_ne ok rfl (fun _ => ?_) (fun _ => ?_)
    · refine g_rb gs_247 2 (cd' := gb_247_14) rfl rfl ?_
      refine g_iconst ok (v := 1) rfl ?_
      refine g_goto ok rfl ?_
      exact g_wk ok [(0, (28, 0, a0)), (1, (0, a1, 0))] ⟨rfl, rfl, trivial⟩ (tb_247_19 ok hX d  a0 a1 1 a0 s21)
    · exact g_wk ok [(0, (28, 0, a0)), (1, (0, a1, 0))] ⟨rfl, rfl, trivial⟩ (tb_247_18 ok hX d  a0 a1 a0 s21)
