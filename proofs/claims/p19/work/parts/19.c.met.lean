-- X3_factAt
theorem tb_39_19 {X : gX} (ok : gOK X) (hX : gHX X) (d : Nat)   (s : gS) : Go X em_39 39 d 19 [] [] [] s 0 0 (fb_39_19  s) some := by
  delta fb_39_19
  refine g_rb gs_39 3 (cd' := gb_39_19) rfl rfl ?_
  refine g_iconst ok (v := 0) rfl ?_
  refine g_rb gs_39 4 (cd' := gb_39_20) rfl rfl ?_
  exact g_ireturn ok rfl rfl (rfl)
theorem t_39 {X : gX} (ok : gOK X) (hX : gHX X) (d : Nat) (a0 : Nat) (a1 : Int) (s : gS) : Go X em_39 39 d 0 [] [(0, (19, 0, a0)), (1, (0, a1, 0))] [] s 0 0 (f_39 a0 a1 s) some := by
  delta f_39
  refine g_rb gs_39 0 (cd' := gb_39_0) rfl rfl ?_
  refine g_iload_n ok rfl ?_
  refine g_if_lt ok rfl (fun _ => ?_) (fun _ => ?_)
  · exact g_wk ok [] trivial (tb_39_19 ok hX d   s)
  · refine g_rb gs_39 1 (cd' := gb_39_4) rfl rfl ?_
    refine g_iload_n ok rfl ?_
    refine g_bipush ok (v := 9) rfl ?_
    refine g_ic_ge ok rfl (fun _ => ?_) (fun _ => ?_)
    · refine g_rb gs_39 2 (cd' := gb_39_10) rfl rfl ?_
      refine g_aload_n ok rfl rfl ?_
      refine g_getr ok 188 rfl rfl rfl ?_
      refine g_iload_n ok rfl ?_
      refine g_iaload ok (n := 9) rfl rfl (fun _ _ => ?_)
      refine g_goto ok rfl ?_
      refine g_rb gs_39 4 (cd' := gb_39_20) rfl rfl ?_
      exact g_ireturn ok rfl rfl (rfl)
    · exact g_wk ok [] trivial (tb_39_19 ok hX d   s)
-- X3_turn
theorem ts_37_15 {X : gX} (ok : gOK X) (hX : gHX X) (d : Nat) {k15 : (Nat × Nat × Int × Int × gS) ⊕ gO → Option gO} (hl15 : ∀ y : (Nat × Nat × Int × Int × gS), Go X em_37 37 (d + 2) 15 [] [(0, (19, 0, y.1)), (1, (11, 0, y.2.1)), (2, (0, y.2.2.1, 0)), (3, (0, y.2.2.2.1, 0))] [] y.2.2.2.2 0 0 (some (Sum.inl y)) k15) (hr15 : ∀ q, k15 (Sum.inr q) = some q) (x0 : Nat) (x1 : Nat) (x2 : Int) (x3 : Int) (s : gS) : Go X em_37 37 (d + 2) 15 [] [(0, (19, 0, x0)), (1, (11, 0, x1)), (2, (0, x2, 0)), (3, (0, x3, 0))] [] s 0 0 (sb_37_15 x0 x1 x2 x3 s) k15 := by
  delta sb_37_15
  refine g_rb gs_37 3 (cd' := gb_37_15) rfl rfl ?_
  refine g_iload_n ok rfl ?_
  refine g_aload_n ok rfl rfl ?_
  refine g_ite (fun _ => g_none) (fun hz => g_getl ok hz rfl (w := (12, 0, (gR s x1 1))) rfl ?_)
  refine g_ite (fun _ => g_none) (fun hz => g_alen12 ok hz ?_)
  refine g_ic_ge ok rfl (fun _ => ?_) (fun _ => ?_)
  · refine g_rb gs_37 4 (cd' := gb_37_24) rfl rfl ?_
    refine g_aload_n ok rfl rfl ?_
    refine g_ite (fun _ => g_none) (fun hz => g_getl ok hz rfl (w := (12, 0, (gR s x1 1))) rfl ?_)
    refine g_iload_n ok rfl ?_
    refine g_ite (fun _ => g_none) (fun hz => g_iald12 ok hz (fun _ _ => ?_))
    let v2 : Int := (gI s (gR s x1 1) (x3 : Int).toNat)
    refine g_istore ok rfl (L' := [(0, (19, 0, x0)), (1, (11, 0, x1)), (2, (0, x2, 0)), (3, (0, x3, 0)), (4, (0, v2, 0))]) rfl ?_
    refine g_iload ok rfl ?_
    refine g_sipush ok (v := 4000) rfl ?_
    refine g_ic_lt ok rfl (fun _ => ?_) (fun _ => ?_)
    · refine g_rb gs_37 6 (cd' := gb_37_57) rfl rfl ?_
      refine g_iload ok rfl ?_
      refine g_sipush ok (v := 3000) rfl ?_
      refine g_ic_lt ok rfl (fun _ => ?_) (fun _ => ?_)
      · refine g_rb gs_37 8 (cd' := gb_37_82) rfl rfl ?_
        refine g_iload ok rfl ?_
        refine g_sipush ok (v := 2000) rfl ?_
        refine g_ic_lt ok rfl (fun _ => ?_) (fun _ => ?_)
        · refine g_rb gs_37 10 (cd' := gb_37_99) rfl rfl ?_
          refine g_iload ok rfl ?_
          refine g_sipush ok (v := 1000) rfl ?_
          refine g_ic_lt ok rfl (fun _ => ?_) (fun _ => ?_)
          · refine g_rb gs_37 12 (cd' := gb_37_124) rfl rfl ?_
            refine g_aload_n ok rfl rfl ?_
            refine g_iload ok rfl ?_
            refine g_cv0 ok (me_40 hX) rfl rfl rfl (t_40 ok hX _ x0 v2 s) (fun s3 => ?_)
            refine g_rb gs_37 13 (cd' := gb_37_130) rfl rfl ?_
            refine g_iinc ok rfl rfl (L' := [(0, (19, 0, x0)), (1, (11, 0, x1)), (2, (0, x2, 0)), (3, (0, (g32 (x3 + 1)), 0)), (4, (0, v2, 0))]) rfl ?_
            refine g_goto ok rfl ?_
            exact g_wk ok [(0, (19, 0, x0)), (1, (11, 0, x1)), (2, (0, x2, 0)), (3, (0, (g32 (x3 + 1)), 0))] ⟨rfl, rfl, rfl, rfl, trivial⟩ (hl15 (x0, x1, x2, (g32 (x3 + 1)), s3))
          · refine g_rb gs_37 11 (cd' := gb_37_107) rfl rfl ?_
            refine g_aload_n ok rfl rfl ?_
            refine g_aload_n ok rfl rfl ?_
            refine g_iload ok rfl ?_
            refine g_sipush ok (v := 1000) rfl ?_
            refine g_isub ok ?_
            refine g_cv1 ok (me_39 hX) rfl rfl rfl rfl (t_39 ok hX _ x0 (g32 (v2 - 1000)) s) (fun v6 s5 => ?_)
            refine g_cv0 ok (me_40 hX) rfl rfl rfl (t_40 ok hX _ x0 v6 s5) (fun s7 => ?_)
            refine g_goto ok rfl ?_
            refine g_rb gs_37 13 (cd' := gb_37_130) rfl rfl ?_
            refine g_iinc ok rfl rfl (L' := [(0, (19, 0, x0)), (1, (11, 0, x1)), (2, (0, x2, 0)), (3, (0, (g32 (x3 + 1)), 0)), (4, (0, v2, 0))]) rfl ?_
            refine g_goto ok rfl ?_
            exact g_wk ok [(0, (19, 0, x0)), (1, (11, 0, x1)), (2, (0, x2, 0)), (3, (0, (g32 (x3 + 1)), 0))] ⟨rfl, rfl, rfl, rfl, trivial⟩ (hl15 (x0, x1, x2, (g32 (x3 + 1)), s7))
        · refine g_rb gs_37 9 (cd' := gb_37_90) rfl rfl ?_
          refine g_aload_n ok rfl rfl ?_
          refine g_iload ok rfl ?_
          refine g_cv0 ok (me_38 hX) rfl rfl rfl (t_38 ok hX _ x0 v2 s) (fun s9 => ?_)
          refine g_goto ok rfl ?_
          refine g_rb gs_37 13 (cd' := gb_37_130) rfl rfl ?_
          refine g_iinc ok rfl rfl (L' := [(0, (19, 0, x0)), (1, (11, 0, x1)), (2, (0, x2, 0)), (3, (0, (g32 (x3 + 1)), 0)), (4, (0, v2, 0))]) rfl ?_
          refine g_goto ok rfl ?_
          exact g_wk ok [(0, (19, 0, x0)), (1, (11, 0, x1)), (2, (0, x2, 0)), (3, (0, (g32 (x3 + 1)), 0))] ⟨rfl, rfl, rfl, rfl, trivial⟩ (hl15 (x0, x1, x2, (g32 (x3 + 1)), s9))
      · refine g_rb gs_37 7 (cd' := gb_37_65) rfl rfl ?_
        refine g_iload_n ok rfl ?_
        refine g_aload_n ok rfl rfl ?_
        refine g_cv1 ok (me_41 hX) rfl rfl rfl rfl (t_41 ok hX _ x0 s) (fun v12 s11 => ?_)
        refine g_iload ok rfl ?_
        refine g_sipush ok (v := 3000) rfl ?_
        refine g_isub ok ?_
        refine g_imul ok ?_
        refine g_iadd ok ?_
        let v13 : Int := (g32 (x2 + (g32 (v12 * (g32 (v2 - 3000))))))
        refine g_istore_n ok rfl (L' := [(0, (19, 0, x0)), (1, (11, 0, x1)), (2, (0, v13, 0)), (3, (0, x3, 0)), (4, (0, v2, 0))]) rfl ?_
        refine g_goto ok rfl ?_
        refine g_rb gs_37 13 (cd' := gb_37_130) rfl rfl ?_
        refine g_iinc ok rfl rfl (L' := [(0, (19, 0, x0)), (1, (11, 0, x1)), (2, (0, v13, 0)), (3, (0, (g32 (x3 + 1)), 0)), (4, (0, v2, 0))]) rfl ?_
        refine g_goto ok rfl ?_
        exact g_wk ok [(0, (19, 0, x0)), (1, (11, 0, x1)), (2, (0, v13, 0)), (3, (0, (g32 (x3 + 1)), 0))] ⟨rfl, rfl, rfl, rfl, trivial⟩ (hl15 (x0, x1, v13, (g32 (x3 + 1)), s11))
    · refine g_rb gs_37 5 (cd' := gb_37_40) rfl rfl ?_
      refine g_iload_n ok rfl ?_
      refine g_aload_n ok rfl rfl ?_
      refine g_cv1 ok (me_41 hX) rfl rfl rfl rfl (t_41 ok hX _ x0 s) (fun v15 s14 => ?_)
      refine g_iload ok rfl ?_
      refine g_sipush ok (v := 4000) rfl ?_
      refine g_isub ok ?_
      refine g_imul ok ?_
      refine g_isub ok ?_
      let v16 : Int := (g32 (x2 - (g32 (v15 * (g32 (v2 - 4000))))))
      refine g_istore_n ok rfl (L' := [(0, (19, 0, x0)), (1, (11, 0, x1)), (2, (0, v16, 0)), (3, (0, x3, 0)), (4, (0, v2, 0))]) rfl ?_
      refine g_goto ok rfl ?_
      refine g_rb gs_37 13 (cd' := gb_37_130) rfl rfl ?_
      refine g_iinc ok rfl rfl (L' := [(0, (19, 0, x0)), (1, (11, 0, x1)), (2, (0, v16, 0)), (3, (0, (g32 (x3 + 1)), 0)), (4, (0, v2, 0))]) rfl ?_
      refine g_goto ok rfl ?_
      exact g_wk ok [(0, (19, 0, x0)), (1, (11, 0, x1)), (2, (0, v16, 0)), (3, (0, (g32 (x3 + 1)), 0))] ⟨rfl, rfl, rfl, rfl, trivial⟩ (hl15 (x0, x1, v16, (g32 (x3 + 1)), s14))
  · refine g_map hr15 ?_
    refine g_rb gs_37 14 (cd' := gb_37_136) rfl rfl ?_
    refine g_iload_n ok rfl ?_
    exact g_ireturn ok rfl rfl (rfl)
theorem tl_37_15 {X : gX} (ok : gOK X) (hX : gHX X) (d : Nat)  (y : (Nat × Nat × Int × Int × gS)) : Go X em_37 37 (d + 2) 15 [] [(0, (19, 0, y.1)), (1, (11, 0, y.2.1)), (2, (0, y.2.2.1, 0)), (3, (0, y.2.2.2.1, 0))] [] y.2.2.2.2 0 0 (gloop (st_37_15) y) some :=
  g_loop (Lh := fun y => [(0, (19, 0, y.1)), (1, (11, 0, y.2.1)), (2, (0, y.2.2.1, 0)), (3, (0, y.2.2.2.1, 0))]) (sh := fun y => y.2.2.2.2) (fun k15 hl15 hr15 y => ts_37_15 ok hX d  hl15 hr15 y.1 y.2.1 y.2.2.1 y.2.2.2.1 y.2.2.2.2) y
theorem t_37 {X : gX} (ok : gOK X) (hX : gHX X) (d : Nat) (a0 : Nat) (a1 : Nat) (s : gS) : Go X em_37 37 (d + 2) 0 [] [(0, (19, 0, a0)), (1, (11, 0, a1))] [] s 0 0 (f_37 a0 a1 s) some := by
  delta f_37
  refine g_rb gs_37 0 (cd' := gb_37_0) rfl rfl ?_
  refine g_aload_n ok rfl rfl ?_
  refine g_ifnonnull ok (Or.inl rfl) rfl (fun _ => ?_) (fun _ => ?_)
  · refine g_rb gs_37 1 (cd' := gb_37_4) rfl rfl ?_
    refine g_iconst ok (v := (-1)) rfl ?_
    exact g_ireturn ok rfl rfl (rfl)
  · refine g_rb gs_37 2 (cd' := gb_37_6) rfl rfl ?_
    refine g_aload_n ok rfl rfl ?_
    refine g_iconst ok (v := 0) rfl ?_
    refine g_puti ok rfl rfl rfl ?_
    let s1 : gS := gw s a0 2 0
    refine g_iconst ok (v := 0) rfl ?_
    refine g_istore_n ok rfl (L' := [(0, (19, 0, a0)), (1, (11, 0, a1)), (2, (0, 0, 0))]) rfl ?_
    refine g_iconst ok (v := 0) rfl ?_
    refine g_istore_n ok rfl (L' := [(0, (19, 0, a0)), (1, (11, 0, a1)), (2, (0, 0, 0)), (3, (0, 0, 0))]) rfl ?_
    exact g_wk ok [(0, (19, 0, a0)), (1, (11, 0, a1)), (2, (0, 0, 0)), (3, (0, 0, 0))] ⟨rfl, rfl, rfl, rfl, trivial⟩ (tl_37_15 ok hX d  (a0, a1, 0, 0, s1))
-- X3_turnOf
theorem t_34 {X : gX} (ok : gOK X) (hX : gHX X) (d : Nat) (a0 : Nat) (a1 : Int) (a2 : Nat) (a3 : Nat) (s : gS) : Go X em_34 34 (d + 3) 0 [] [(0, (19, 0, a0)), (1, (0, a1, 0)), (2, (16, 0, a2)), (3, (18, 0, a3))] [] s 0 0 (f_34 a0 a1 a2 a3 s) some := by
  delta f_34
  refine g_rb gs_34 0 (cd' := gb_34_0) rfl rfl ?_
  refine g_aload_n ok rfl rfl ?_
  refine g_iload_n ok rfl ?_
  refine g_aload_n ok rfl rfl ?_
  refine g_getr ok 168 rfl rfl rfl ?_
  refine g_iload_n ok rfl ?_
  refine g_aaload4 ok (n := 6) rfl rfl (fun _ _ => ?_)
  refine g_aload_n ok rfl rfl ?_
  refine g_geti ok rfl rfl ?_
  refine g_cv0 ok (me_35 hX) rfl rfl rfl (t_35 ok hX _ a0 a1 (gR s (gR s a3 0) (a1 : Int).toNat) (gI s a2 5) s) (fun s1 => ?_)
  refine g_aload_n ok rfl rfl ?_
  refine g_aload_n ok rfl rfl ?_
  refine g_geti ok rfl rfl ?_
  refine g_aload_n ok rfl rfl ?_
  refine g_geti ok rfl rfl ?_
  refine g_cv0 ok (me_36 hX) rfl rfl rfl (t_36 ok hX _ a0 (gI s1 a3 7) (gI s1 a3 8) s1) (fun s3 => ?_)
  refine g_aload_n ok rfl rfl ?_
  refine g_aload_n ok rfl rfl ?_
  refine g_getr ok 11 rfl rfl rfl ?_
  refine g_cv1 ok (me_37 hX) rfl rfl rfl rfl (t_37 ok hX _ a0 (gR s3 a2 11) s3) (fun v6 s5 => ?_)
  exact g_ireturn ok rfl rfl (rfl)
-- X2_passDayOf
theorem tb_28_42 {X : gX} (ok : gOK X) (hX : gHX X) (d : Nat)  (x0 : Nat) (x1 : Int) (x2 : Nat) (x3 : Nat) (x4 : Nat) (s : gS) : Go X em_28 28 (d + 4) 42 [] [(0, (18, 0, x0)), (1, (0, x1, 0)), (2, (16, 0, x2)), (3, (19, 0, x3)), (4, (23, 0, x4))] [] s 0 0 (fb_28_42 x0 x1 x2 x3 x4 s) some := by
  delta fb_28_42
  refine g_rb gs_28 3 (cd' := gb_28_42) rfl rfl ?_
  refine g_aload ok rfl rfl ?_
  refine g_aload ok rfl rfl ?_
  refine g_aload_n ok rfl rfl ?_
  refine g_cv1 ok (me_61 hX) rfl rfl rfl rfl (t_61 ok hX _ x4 x2 s) (fun v5 s4 => ?_)
  refine g_cv0 ok (me_60 hX) rfl rfl rfl (t_60 ok hX _ x4 v5 s4) (fun s6 => ?_)
  refine g_aload ok rfl rfl ?_
  refine g_aload_n ok rfl rfl ?_
  refine g_iload_n ok rfl ?_
  refine g_aload_n ok rfl rfl ?_
  refine g_aload_n ok rfl rfl ?_
  refine g_cv1 ok (me_34 hX) rfl rfl rfl rfl (t_34 ok hX _ x3 x1 x2 x0 s6) (fun v9 s8 => ?_)
  refine g_cv0 ok (me_60 hX) rfl rfl rfl (t_60 ok hX _ x4 v9 s8) (fun s10 => ?_)
  refine g_aload ok rfl rfl ?_
  refine g_geti ok rfl rfl ?_
  refine g_aload_n ok rfl rfl ?_
  refine g_geti ok rfl rfl ?_
  refine g_ic_ge ok rfl (fun _ => ?_) (fun _ => ?_)
  · refine g_rb gs_28 4 (cd' := gb_28_77) rfl rfl ?_
    refine g_aload ok rfl rfl ?_
    refine g_iconst ok (v := 1) rfl ?_
    refine g_puti ok rfl rfl rfl ?_
    let s12 : gS := gw s10 x4 5 1
    refine g_rb gs_28 5 (cd' := gb_28_83) rfl rfl ?_
    exact g_return ok rfl rfl (rfl)
  · refine g_rb gs_28 5 (cd' := gb_28_83) rfl rfl ?_
    exact g_return ok rfl rfl (rfl)
theorem t_28 {X : gX} (ok : gOK X) (hX : gHX X) (d : Nat) (a0 : Nat) (a1 : Int) (a2 : Nat) (a3 : Nat) (s : gS) : Go X em_28 28 (d + 4) 0 [] [(0, (18, 0, a0)), (1, (0, a1, 0)), (2, (16, 0, a2)), (3, (19, 0, a3))] [] s 0 0 (f_28 a0 a1 a2 a3 s) some := by
  delta f_28
  refine g_rb gs_28 0 (cd' := gb_28_0) rfl rfl ?_
  refine g_aload_n ok rfl rfl ?_
  refine g_getr ok 168 rfl rfl rfl ?_
  refine g_iload_n ok rfl ?_
  refine g_aaload4 ok (n := 6) rfl rfl (fun _ _ => ?_)
  let v1 : Nat := (gR s (gR s a0 0) (a1 : Int).toNat)
  refine g_astore ok rfl rfl (L' := [(0, (18, 0, a0)), (1, (0, a1, 0)), (2, (16, 0, a2)), (3, (19, 0, a3)), (4, (23, 0, v1))]) rfl ?_
  refine g_aload ok rfl rfl ?_
  refine g_geti ok rfl rfl ?_
  refine g_if_ne ok rfl (fun _ => ?_) (fun _ => ?_)
  · refine g_rb gs_28 1 (cd' := gb_28_16) rfl rfl ?_
    refine g_aload ok rfl rfl ?_
    refine g_geti ok rfl rfl ?_
    refine g_aload_n ok rfl rfl ?_
    refine g_geti ok rfl rfl ?_
    refine g_ic_ge ok rfl (fun _ => ?_) (fun _ => ?_)
    · refine g_rb gs_28 2 (cd' := gb_28_28) rfl rfl ?_
      refine g_aload_n ok rfl rfl ?_
      refine g_aload_n ok rfl rfl ?_
      refine g_getr ok 180 rfl rfl rfl ?_
      refine g_aload ok rfl rfl ?_
      refine g_geti ok rfl rfl ?_
      refine g_iaload ok (n := 8) rfl rfl (fun _ _ => ?_)
      refine g_cv0 ok (me_26 hX) rfl rfl rfl (t_26 ok hX _ a0 (gI s (gR s a2 1) ((gI s v1 3) : Int).toNat) s) (fun s2 => ?_)
      exact g_wk ok [(0, (18, 0, a0)), (1, (0, a1, 0)), (2, (16, 0, a2)), (3, (19, 0, a3)), (4, (23, 0, v1))] ⟨rfl, rfl, rfl, rfl, rfl, trivial⟩ (tb_28_42 ok hX d  a0 a1 a2 a3 v1 s2)
    · exact g_wk ok [(0, (18, 0, a0)), (1, (0, a1, 0)), (2, (16, 0, a2)), (3, (19, 0, a3)), (4, (23, 0, v1))] ⟨rfl, rfl, rfl, rfl, rfl, trivial⟩ (tb_28_42 ok hX d  a0 a1 a2 a3 v1 s)
  · exact g_wk ok [(0, (18, 0, a0)), (1, (0, a1, 0)), (2, (16, 0, a2)), (3, (19, 0, a3)), (4, (23, 0, v1))] ⟨rfl, rfl, rfl, rfl, rfl, trivial⟩ (tb_28_42 ok hX d  a0 a1 a2 a3 v1 s)
-- X2_menIn
theorem ts_29_4 {X : gX} (ok : gOK X) (hX : gHX X) (d : Nat) {k4 : (Nat × Int × Int × Int × gS) ⊕ gO → Option gO} (hl4 : ∀ y : (Nat × Int × Int × Int × gS), Go X em_29 29 d 4 [] [(0, (18, 0, y.1)), (1, (0, y.2.1, 0)), (2, (0, y.2.2.1, 0)), (3, (0, y.2.2.2.1, 0))] [] y.2.2.2.2 0 0 (some (Sum.inl y)) k4) (hr4 : ∀ q, k4 (Sum.inr q) = some q) (x0 : Nat) (x1 : Int) (x2 : Int) (x3 : Int) (s : gS) : Go X em_29 29 d 4 [] [(0, (18, 0, x0)), (1, (0, x1, 0)), (2, (0, x2, 0)), (3, (0, x3, 0))] [] s 0 0 (sb_29_4 x0 x1 x2 x3 s) k4 := by
  delta sb_29_4
  refine g_rb gs_29 1 (cd' := gb_29_4) rfl rfl ?_
  refine g_iload_n ok rfl ?_
  refine g_aload_n ok rfl rfl ?_
  refine g_geti ok rfl rfl ?_
  refine g_ic_ge ok rfl (fun _ => ?_) (fun _ => ?_)
  · refine g_rb gs_29 2 (cd' := gb_29_12) rfl rfl ?_
    refine g_aload_n ok rfl rfl ?_
    refine g_getr ok 168 rfl rfl rfl ?_
    refine g_iload_n ok rfl ?_
    refine g_aaload4 ok (n := 6) rfl rfl (fun _ _ => ?_)
    refine g_geti ok rfl rfl ?_
    refine g_iload_n ok rfl ?_
    refine g_ic_ne ok rfl (fun _ => ?_) (fun _ => ?_)
    · refine g_rb gs_29 3 (cd' := gb_29_25) rfl rfl ?_
      refine g_iload_n ok rfl ?_
      refine g_iconst ok (v := 1) rfl ?_
      refine g_iload_n ok rfl ?_
      refine g_ishl ok ?_
      refine g_ior ok ?_
      let v1 : Int := (gor x2 (gshl 1 x3))
      refine g_istore_n ok rfl (L' := [(0, (18, 0, x0)), (1, (0, x1, 0)), (2, (0, v1, 0)), (3, (0, x3, 0))]) rfl ?_
      refine g_rb gs_29 4 (cd' := gb_29_31) rfl rfl ?_
      refine g_iinc ok rfl rfl (L' := [(0, (18, 0, x0)), (1, (0, x1, 0)), (2, (0, v1, 0)), (3, (0, (g32 (x3 + 1)), 0))]) rfl ?_
      refine g_goto ok rfl ?_
      exact g_wk ok [(0, (18, 0, x0)), (1, (0, x1, 0)), (2, (0, v1, 0)), (3, (0, (g32 (x3 + 1)), 0))] ⟨rfl, rfl, rfl, rfl, trivial⟩ (hl4 (x0, x1, v1, (g32 (x3 + 1)), s))
    · refine g_rb gs_29 4 (cd' := gb_29_31) rfl rfl ?_
      refine g_iinc ok rfl rfl (L' := [(0, (18, 0, x0)), (1, (0, x1, 0)), (2, (0, x2, 0)), (3, (0, (g32 (x3 + 1)), 0))]) rfl ?_
      refine g_goto ok rfl ?_
      exact g_wk ok [(0, (18, 0, x0)), (1, (0, x1, 0)), (2, (0, x2, 0)), (3, (0, (g32 (x3 + 1)), 0))] ⟨rfl, rfl, rfl, rfl, trivial⟩ (hl4 (x0, x1, x2, (g32 (x3 + 1)), s))
  · refine g_map hr4 ?_
    refine g_rb gs_29 5 (cd' := gb_29_37) rfl rfl ?_
    refine g_iload_n ok rfl ?_
    exact g_ireturn ok rfl rfl (rfl)
theorem tl_29_4 {X : gX} (ok : gOK X) (hX : gHX X) (d : Nat)  (y : (Nat × Int × Int × Int × gS)) : Go X em_29 29 d 4 [] [(0, (18, 0, y.1)), (1, (0, y.2.1, 0)), (2, (0, y.2.2.1, 0)), (3, (0, y.2.2.2.1, 0))] [] y.2.2.2.2 0 0 (gloop (st_29_4) y) some :=
  g_loop (Lh := fun y => [(0, (18, 0, y.1)), (1, (0, y.2.1, 0)), (2, (0, y.2.2.1, 0)), (3, (0, y.2.2.2.1, 0))]) (sh := fun y => y.2.2.2.2) (fun k4 hl4 hr4 y => ts_29_4 ok hX d  hl4 hr4 y.1 y.2.1 y.2.2.1 y.2.2.2.1 y.2.2.2.2) y
theorem t_29 {X : gX} (ok : gOK X) (hX : gHX X) (d : Nat) (a0 : Nat) (a1 : Int) (s : gS) : Go X em_29 29 d 0 [] [(0, (18, 0, a0)), (1, (0, a1, 0))] [] s 0 0 (f_29 a0 a1 s) some := by
  delta f_29
  refine g_rb gs_29 0 (cd' := gb_29_0) rfl rfl ?_
  refine g_iconst ok (v := 0) rfl ?_
  refine g_istore_n ok rfl (L' := [(0, (18, 0, a0)), (1, (0, a1, 0)), (2, (0, 0, 0))]) rfl ?_
  refine g_iconst ok (v := 0) rfl ?_
  refine g_istore_n ok rfl (L' := [(0, (18, 0, a0)), (1, (0, a1, 0)), (2, (0, 0, 0)), (3, (0, 0, 0))]) rfl ?_
  exact g_wk ok [(0, (18, 0, a0)), (1, (0, a1, 0)), (2, (0, 0, 0)), (3, (0, 0, 0))] ⟨rfl, rfl, rfl, rfl, trivial⟩ (tl_29_4 ok hX d  (a0, a1, 0, 0, s))
-- X2_passDay
theorem tb_27_57 {X : gX} (ok : gOK X) (hX : gHX X) (d : Nat) {k6 : (Nat × Nat × Nat × Int × Int × Int × gS) ⊕ gO → Option gO} (hl6 : ∀ y : (Nat × Nat × Nat × Int × Int × Int × gS), Go X em_27 27 (d + 5) 6 [] [(0, (18, 0, y.1)), (1, (16, 0, y.2.1)), (2, (19, 0, y.2.2.1)), (3, (0, y.2.2.2.1, 0)), (4, (0, y.2.2.2.2.1, 0)), (5, (0, y.2.2.2.2.2.1, 0))] [] y.2.2.2.2.2.2 0 0 (some (Sum.inl y)) k6) (hr6 : ∀ q, k6 (Sum.inr q) = some q) (x0 : Nat) (x1 : Nat) (x2 : Nat) (x3 : Int) (x5 : Int) (w0 : Int) (w1 : Int) (s : gS) : Go X em_27 27 (d + 5) 57 [] [(0, (18, 0, x0)), (1, (16, 0, x1)), (2, (19, 0, x2)), (3, (0, x3, 0)), (5, (0, x5, 0))] [(0, w0, 0), (0, w1, 0)] s 0 0 (fb_27_57 x0 x1 x2 x3 x5 w0 w1 s) k6 := by
  delta fb_27_57
  refine g_rb gs_27 6 (cd' := gb_27_57) rfl rfl ?_
  refine g_iadd ok ?_
  refine g_istore ok rfl (L' := [(0, (18, 0, x0)), (1, (16, 0, x1)), (2, (19, 0, x2)), (3, (0, x3, 0)), (5, (0, x5, 0)), (4, (0, (g32 (w1 + w0)), 0))]) rfl ?_
  refine g_rb gs_27 7 (cd' := gb_27_60) rfl rfl ?_
  refine g_iinc ok rfl rfl (L' := [(0, (18, 0, x0)), (1, (16, 0, x1)), (2, (19, 0, x2)), (3, (0, x3, 0)), (5, (0, (g32 (x5 + 1)), 0)), (4, (0, (g32 (w1 + w0)), 0))]) rfl ?_
  refine g_goto ok rfl ?_
  exact g_wk ok [(0, (18, 0, x0)), (1, (16, 0, x1)), (2, (19, 0, x2)), (3, (0, x3, 0)), (4, (0, (g32 (w1 + w0)), 0)), (5, (0, (g32 (x5 + 1)), 0))] ⟨rfl, rfl, rfl, rfl, rfl, rfl, trivial⟩ (hl6 (x0, x1, x2, x3, (g32 (w1 + w0)), (g32 (x5 + 1)), s))
theorem tb_27_128 {X : gX} (ok : gOK X) (hX : gHX X) (d : Nat)  (x0 : Nat) (x4 : Int) (s : gS) : Go X em_27 27 (d + 5) 128 [] [(0, (18, 0, x0)), (4, (0, x4, 0))] [] s 0 0 (fb_27_128 x0 x4 s) some := by
  delta fb_27_128
  refine g_rb gs_27 11 (cd' := gb_27_128) rfl rfl ?_
  refine g_aload_n ok rfl rfl ?_
  refine g_sipush ok (v := 9999) rfl ?_
  refine g_aload_n ok rfl rfl ?_
  refine g_geti ok rfl rfl ?_
  refine g_iconst ok (v := 1) rfl ?_
  refine g_iadd ok ?_
  refine g_min ok rfl ?_
  refine g_puti ok rfl rfl rfl ?_
  let s7 : gS := gw s x0 8 (min 9999 (g32 ((gI s x0 8) + 1)))
  refine g_iload ok rfl ?_
  exact g_ireturn ok rfl rfl (rfl)
theorem ts_27_6 {X : gX} (ok : gOK X) (hX : gHX X) (d : Nat) {k6 : (Nat × Nat × Nat × Int × Int × Int × gS) ⊕ gO → Option gO} (hl6 : ∀ y : (Nat × Nat × Nat × Int × Int × Int × gS), Go X em_27 27 (d + 5) 6 [] [(0, (18, 0, y.1)), (1, (16, 0, y.2.1)), (2, (19, 0, y.2.2.1)), (3, (0, y.2.2.2.1, 0)), (4, (0, y.2.2.2.2.1, 0)), (5, (0, y.2.2.2.2.2.1, 0))] [] y.2.2.2.2.2.2 0 0 (some (Sum.inl y)) k6) (hr6 : ∀ q, k6 (Sum.inr q) = some q) (x0 : Nat) (x1 : Nat) (x2 : Nat) (x3 : Int) (x4 : Int) (x5 : Int) (s : gS) : Go X em_27 27 (d + 5) 6 [] [(0, (18, 0, x0)), (1, (16, 0, x1)), (2, (19, 0, x2)), (3, (0, x3, 0)), (4, (0, x4, 0)), (5, (0, x5, 0))] [] s 0 0 (sb_27_6 x0 x1 x2 x3 x4 x5 s) k6 := by
  delta sb_27_6
  refine g_rb gs_27 1 (cd' := gb_27_6) rfl rfl ?_
  refine g_iload ok rfl ?_
  refine g_aload_n ok rfl rfl ?_
  refine g_geti ok rfl rfl ?_
  refine g_ic_ge ok rfl (fun _ => ?_) (fun _ => ?_)
  · refine g_rb gs_27 2 (cd' := gb_27_15) rfl rfl ?_
    refine g_aload_n ok rfl rfl ?_
    refine g_getr ok 168 rfl rfl rfl ?_
    refine g_iload ok rfl ?_
    refine g_aaload4 ok (n := 6) rfl rfl (fun _ _ => ?_)
    refine g_geti ok rfl rfl ?_
    refine g_if_ne ok rfl (fun _ => ?_) (fun _ => ?_)
    · refine g_rb gs_27 3 (cd' := gb_27_28) rfl rfl ?_
      refine g_aload_n ok rfl rfl ?_
      refine g_iload ok rfl ?_
      refine g_aload_n ok rfl rfl ?_
      refine g_aload_n ok rfl rfl ?_
      refine g_cv0 ok (me_28 hX) rfl rfl rfl (t_28 ok hX _ x0 x5 x1 x2 s) (fun s1 => ?_)
      refine g_iload ok rfl ?_
      refine g_aload_n ok rfl rfl ?_
      refine g_getr ok 168 rfl rfl rfl ?_
      refine g_iload ok rfl ?_
      refine g_aaload4 ok (n := 6) rfl rfl (fun _ _ => ?_)
      refine g_geti ok rfl rfl ?_
      refine g_iconst ok (v := 1) rfl ?_
      refine g_ic_ne ok rfl (fun _ => ?_) (fun _ => ?_)
      · refine g_rb gs_27 4 (cd' := gb_27_52) rfl rfl ?_
        refine g_iconst ok (v := 1) rfl ?_
        refine g_goto ok rfl ?_
        exact g_wk ok [(0, (18, 0, x0)), (1, (16, 0, x1)), (2, (19, 0, x2)), (3, (0, x3, 0)), (5, (0, x5, 0))] ⟨rfl, rfl, rfl, rfl, rfl, trivial⟩ (tb_27_57 ok hX d hl6 hr6 x0 x1 x2 x3 x5 1 x4 s1)
      · refine g_rb gs_27 5 (cd' := gb_27_56) rfl rfl ?_
        refine g_iconst ok (v := 0) rfl ?_
        exact g_wk ok [(0, (18, 0, x0)), (1, (16, 0, x1)), (2, (19, 0, x2)), (3, (0, x3, 0)), (5, (0, x5, 0))] ⟨rfl, rfl, rfl, rfl, rfl, trivial⟩ (tb_27_57 ok hX d hl6 hr6 x0 x1 x2 x3 x5 0 x4 s1)
    · refine g_rb gs_27 7 (cd' := gb_27_60) rfl rfl ?_
      refine g_iinc ok rfl rfl (L' := [(0, (18, 0, x0)), (1, (16, 0, x1)), (2, (19, 0, x2)), (3, (0, x3, 0)), (4, (0, x4, 0)), (5, (0, (g32 (x5 + 1)), 0))]) rfl ?_
      refine g_goto ok rfl ?_
      exact g_wk ok [(0, (18, 0, x0)), (1, (16, 0, x1)), (2, (19, 0, x2)), (3, (0, x3, 0)), (4, (0, x4, 0)), (5, (0, (g32 (x5 + 1)), 0))] ⟨rfl, rfl, rfl, rfl, rfl, rfl, trivial⟩ (hl6 (x0, x1, x2, x3, x4, (g32 (x5 + 1)), s))
  · refine g_map hr6 ?_
    refine g_rb gs_27 8 (cd' := gb_27_66) rfl rfl ?_
    refine g_aload_n ok rfl rfl ?_
    refine g_ldc ok (v := 1103515245) rfl ?_ (by decide) (by decide)
    refine g_aload_n ok rfl rfl ?_
    refine g_geti ok rfl rfl ?_
    refine g_imul ok ?_
    refine g_sipush ok (v := 12345) rfl ?_
    refine g_iadd ok ?_
    refine g_puti ok rfl rfl rfl ?_
    let s3 : gS := gw s x0 9 (g32 ((g32 (1103515245 * (gI s x0 9))) + 12345))
    refine g_aload_n ok rfl rfl ?_
    refine g_geti ok rfl rfl ?_
    refine g_bipush ok (v := 16) rfl ?_
    refine g_ishr ok ?_
    refine g_sipush ok (v := 32767) rfl ?_
    refine g_iand ok ?_
    let v4 : Int := (gand (gshr (gI s3 x0 9) 16) 32767)
    refine g_istore ok rfl (L' := [(0, (18, 0, x0)), (1, (16, 0, x1)), (2, (19, 0, x2)), (3, (0, x3, 0)), (4, (0, x4, 0)), (5, (0, v4, 0))]) rfl ?_
    refine g_iload ok rfl ?_
    refine g_bipush ok (v := 100) rfl ?_
    refine g_irem ok (by decide) ?_
    refine g_iload_n ok rfl ?_
    refine g_ic_ge ok rfl (fun _ => ?_) (fun _ => ?_)
    · refine g_rb gs_27 9 (cd' := gb_27_103) rfl rfl ?_
      refine g_aload_n ok rfl rfl ?_
      refine g_iconst ok (v := 0) rfl ?_
      refine g_cv1 ok (me_29 hX) rfl rfl rfl rfl (t_29 ok hX _ x0 0 s3) (fun v6 s5 => ?_)
      refine g_if_eq ok rfl (fun _ => ?_) (fun _ => ?_)
      · exact g_wk ok [(0, (18, 0, x0)), (4, (0, x4, 0))] ⟨rfl, rfl, trivial⟩ (tb_27_128 ok hX d  x0 x4 s5)
      · refine g_rb gs_27 10 (cd' := gb_27_111) rfl rfl ?_
        refine g_aload_n ok rfl rfl ?_
        refine g_sipush ok (v := 9999) rfl ?_
        refine g_aload_n ok rfl rfl ?_
        refine g_geti ok rfl rfl ?_
        refine g_bipush ok (v := 50) rfl ?_
        refine g_iadd ok ?_
        refine g_min ok rfl ?_
        refine g_puti ok rfl rfl rfl ?_
        let s8 : gS := gw s5 x0 6 (min 9999 (g32 ((gI s5 x0 6) + 50)))
        exact g_wk ok [(0, (18, 0, x0)), (4, (0, x4, 0))] ⟨rfl, rfl, trivial⟩ (tb_27_128 ok hX d  x0 x4 s8)
    · exact g_wk ok [(0, (18, 0, x0)), (4, (0, x4, 0))] ⟨rfl, rfl, trivial⟩ (tb_27_128 ok hX d  x0 x4 s3)
theorem tl_27_6 {X : gX} (ok : gOK X) (hX : gHX X) (d : Nat)  (y : (Nat × Nat × Nat × Int × Int × Int × gS)) : Go X em_27 27 (d + 5) 6 [] [(0, (18, 0, y.1)), (1, (16, 0, y.2.1)), (2, (19, 0, y.2.2.1)), (3, (0, y.2.2.2.1, 0)), (4, (0, y.2.2.2.2.1, 0)), (5, (0, y.2.2.2.2.2.1, 0))] [] y.2.2.2.2.2.2 0 0 (gloop (st_27_6) y) some :=
  g_loop (Lh := fun y => [(0, (18, 0, y.1)), (1, (16, 0, y.2.1)), (2, (19, 0, y.2.2.1)), (3, (0, y.2.2.2.1, 0)), (4, (0, y.2.2.2.2.1, 0)), (5, (0, y.2.2.2.2.2.1, 0))]) (sh := fun y => y.2.2.2.2.2.2) (fun k6 hl6 hr6 y => ts_27_6 ok hX d  hl6 hr6 y.1 y.2.1 y.2.2.1 y.2.2.2.1 y.2.2.2.2.1 y.2.2.2.2.2.1 y.2.2.2.2.2.2) y
theorem t_27 {X : gX} (ok : gOK X) (hX : gHX X) (d : Nat) (a0 : Nat) (a1 : Nat) (a2 : Nat) (a3 : Int) (s : gS) : Go X em_27 27 (d + 5) 0 [] [(0, (18, 0, a0)), (1, (16, 0, a1)), (2, (19, 0, a2)), (3, (0, a3, 0))] [] s 0 0 (f_27 a0 a1 a2 a3 s) some := by
  delta f_27
  refine g_rb gs_27 0 (cd' := gb_27_0) rfl rfl ?_
  refine g_iconst ok (v := 0) rfl ?_
  refine g_istore ok rfl (L' := [(0, (18, 0, a0)), (1, (16, 0, a1)), (2, (19, 0, a2)), (3, (0, a3, 0)), (4, (0, 0, 0))]) rfl ?_
  refine g_iconst ok (v := 0) rfl ?_
  refine g_istore ok rfl (L' := [(0, (18, 0, a0)), (1, (16, 0, a1)), (2, (19, 0, a2)), (3, (0, a3, 0)), (4, (0, 0, 0)), (5, (0, 0, 0))]) rfl ?_
  exact g_wk ok [(0, (18, 0, a0)), (1, (16, 0, a1)), (2, (19, 0, a2)), (3, (0, a3, 0)), (4, (0, 0, 0)), (5, (0, 0, 0))] ⟨rfl, rfl, rfl, rfl, rfl, rfl, trivial⟩ (tl_27_6 ok hX d  (a0, a1, a2, a3, 0, 0, s))
-- X2_trustOfKept
theorem ts_30_4 {X : gX} (ok : gOK X) (hX : gHX X) (d : Nat) {k4 : (Nat × Int × Int × gS) ⊕ gO → Option gO} (hl4 : ∀ y : (Nat × Int × Int × gS), Go X em_30 30 d 4 [] [(0, (18, 0, y.1)), (1, (0, y.2.1, 0)), (2, (0, y.2.2.1, 0))] [] y.2.2.2 0 0 (some (Sum.inl y)) k4) (hr4 : ∀ q, k4 (Sum.inr q) = some q) (x0 : Nat) (x1 : Int) (x2 : Int) (s : gS) : Go X em_30 30 d 4 [] [(0, (18, 0, x0)), (1, (0, x1, 0)), (2, (0, x2, 0))] [] s 0 0 (sb_30_4 x0 x1 x2 s) k4 := by
  delta sb_30_4
  refine g_rb gs_30 1 (cd' := gb_30_4) rfl rfl ?_
  refine g_iload_n ok rfl ?_
  refine g_aload_n ok rfl rfl ?_
  refine g_geti ok rfl rfl ?_
  refine g_ic_ge ok rfl (fun _ => ?_) (fun _ => ?_)
  · refine g_rb gs_30 2 (cd' := gb_30_12) rfl rfl ?_
    refine g_aload_n ok rfl rfl ?_
    refine g_getr ok 168 rfl rfl rfl ?_
    refine g_iload_n ok rfl ?_
    refine g_aaload4 ok (n := 6) rfl rfl (fun _ _ => ?_)
    refine g_geti ok rfl rfl ?_
    refine g_if_ne ok rfl (fun _ => ?_) (fun _ => ?_)
    · refine g_rb gs_30 3 (cd' := gb_30_24) rfl rfl ?_
      refine g_iload_n ok rfl ?_
      refine g_aload_n ok rfl rfl ?_
      refine g_getr ok 168 rfl rfl rfl ?_
      refine g_iload_n ok rfl ?_
      refine g_aaload4 ok (n := 6) rfl rfl (fun _ _ => ?_)
      refine g_geti ok rfl rfl ?_
      refine g_iadd ok ?_
      let v1 : Int := (g32 (x1 + (gI s (gR s (gR s x0 0) (x2 : Int).toNat) 0)))
      refine g_istore_n ok rfl (L' := [(0, (18, 0, x0)), (1, (0, v1, 0)), (2, (0, x2, 0))]) rfl ?_
      refine g_rb gs_30 4 (cd' := gb_30_36) rfl rfl ?_
      refine g_iinc ok rfl rfl (L' := [(0, (18, 0, x0)), (1, (0, v1, 0)), (2, (0, (g32 (x2 + 1)), 0))]) rfl ?_
      refine g_goto ok rfl ?_
      exact g_wk ok [(0, (18, 0, x0)), (1, (0, v1, 0)), (2, (0, (g32 (x2 + 1)), 0))] ⟨rfl, rfl, rfl, trivial⟩ (hl4 (x0, v1, (g32 (x2 + 1)), s))
    · refine g_rb gs_30 4 (cd' := gb_30_36) rfl rfl ?_
      refine g_iinc ok rfl rfl (L' := [(0, (18, 0, x0)), (1, (0, x1, 0)), (2, (0, (g32 (x2 + 1)), 0))]) rfl ?_
      refine g_goto ok rfl ?_
      exact g_wk ok [(0, (18, 0, x0)), (1, (0, x1, 0)), (2, (0, (g32 (x2 + 1)), 0))] ⟨rfl, rfl, rfl, trivial⟩ (hl4 (x0, x1, (g32 (x2 + 1)), s))
  · refine g_map hr4 ?_
    refine g_rb gs_30 5 (cd' := gb_30_42) rfl rfl ?_
    refine g_iload_n ok rfl ?_
    exact g_ireturn ok rfl rfl (rfl)
theorem tl_30_4 {X : gX} (ok : gOK X) (hX : gHX X) (d : Nat)  (y : (Nat × Int × Int × gS)) : Go X em_30 30 d 4 [] [(0, (18, 0, y.1)), (1, (0, y.2.1, 0)), (2, (0, y.2.2.1, 0))] [] y.2.2.2 0 0 (gloop (st_30_4) y) some :=
  g_loop (Lh := fun y => [(0, (18, 0, y.1)), (1, (0, y.2.1, 0)), (2, (0, y.2.2.1, 0))]) (sh := fun y => y.2.2.2) (fun k4 hl4 hr4 y => ts_30_4 ok hX d  hl4 hr4 y.1 y.2.1 y.2.2.1 y.2.2.2) y
theorem t_30 {X : gX} (ok : gOK X) (hX : gHX X) (d : Nat) (a0 : Nat) (s : gS) : Go X em_30 30 d 0 [] [(0, (18, 0, a0))] [] s 0 0 (f_30 a0 s) some := by
  delta f_30
  refine g_rb gs_30 0 (cd' := gb_30_0) rfl rfl ?_
  refine g_iconst ok (v := 0) rfl ?_
  refine g_istore_n ok rfl (L' := [(0, (18, 0, a0)), (1, (0, 0, 0))]) rfl ?_
  refine g_iconst ok (v := 0) rfl ?_
  refine g_istore_n ok rfl (L' := [(0, (18, 0, a0)), (1, (0, 0, 0)), (2, (0, 0, 0))]) rfl ?_
  exact g_wk ok [(0, (18, 0, a0)), (1, (0, 0, 0)), (2, (0, 0, 0))] ⟨rfl, rfl, rfl, trivial⟩ (tl_30_4 ok hX d  (a0, 0, 0, s))
-- X2_holdersOf
theorem ts_31_4 {X : gX} (ok : gOK X) (hX : gHX X) (d : Nat) {k4 : (Nat × Int × Int × Int × gS) ⊕ gO → Option gO} (hl4 : ∀ y : (Nat × Int × Int × Int × gS), Go X em_31 31 d 4 [] [(0, (18, 0, y.1)), (1, (0, y.2.1, 0)), (2, (0, y.2.2.1, 0)), (3, (0, y.2.2.2.1, 0))] [] y.2.2.2.2 0 0 (some (Sum.inl y)) k4) (hr4 : ∀ q, k4 (Sum.inr q) = some q) (x0 : Nat) (x1 : Int) (x2 : Int) (x3 : Int) (s : gS) : Go X em_31 31 d 4 [] [(0, (18, 0, x0)), (1, (0, x1, 0)), (2, (0, x2, 0)), (3, (0, x3, 0))] [] s 0 0 (sb_31_4 x0 x1 x2 x3 s) k4 := by
  delta sb_31_4
  refine g_rb gs_31 1 (cd' := gb_31_4) rfl rfl ?_
  refine g_iload_n ok rfl ?_
  refine g_aload_n ok rfl rfl ?_
  refine g_geti ok rfl rfl ?_
  refine g_ic_ge ok rfl (fun _ => ?_) (fun _ => ?_)
  · refine g_rb gs_31 2 (cd' := gb_31_12) rfl rfl ?_
    refine g_iload_n ok rfl ?_
    refine g_aload_n ok rfl rfl ?_
    refine g_getr ok 164 rfl rfl rfl ?_
    refine g_iload_n ok rfl ?_
    refine g_iaload ok (n := 6) rfl rfl (fun _ _ => ?_)
    refine g_iload_n ok rfl ?_
    refine g_ishr ok ?_
    refine g_iconst ok (v := 1) rfl ?_
    refine g_iand ok ?_
    refine g_iload_n ok rfl ?_
    refine g_ishl ok ?_
    refine g_ior ok ?_
    let v1 : Int := (gor x2 (gshl (gand (gshr (gI s (gR s x0 2) (x3 : Int).toNat) x1) 1) x3))
    refine g_istore_n ok rfl (L' := [(0, (18, 0, x0)), (1, (0, x1, 0)), (2, (0, v1, 0)), (3, (0, x3, 0))]) rfl ?_
    refine g_iinc ok rfl rfl (L' := [(0, (18, 0, x0)), (1, (0, x1, 0)), (2, (0, v1, 0)), (3, (0, (g32 (x3 + 1)), 0))]) rfl ?_
    refine g_goto ok rfl ?_
    exact g_wk ok [(0, (18, 0, x0)), (1, (0, x1, 0)), (2, (0, v1, 0)), (3, (0, (g32 (x3 + 1)), 0))] ⟨rfl, rfl, rfl, rfl, trivial⟩ (hl4 (x0, x1, v1, (g32 (x3 + 1)), s))
  · refine g_map hr4 ?_
    refine g_rb gs_31 3 (cd' := gb_31_33) rfl rfl ?_
    refine g_iload_n ok rfl ?_
    exact g_ireturn ok rfl rfl (rfl)
theorem tl_31_4 {X : gX} (ok : gOK X) (hX : gHX X) (d : Nat)  (y : (Nat × Int × Int × Int × gS)) : Go X em_31 31 d 4 [] [(0, (18, 0, y.1)), (1, (0, y.2.1, 0)), (2, (0, y.2.2.1, 0)), (3, (0, y.2.2.2.1, 0))] [] y.2.2.2.2 0 0 (gloop (st_31_4) y) some :=
  g_loop (Lh := fun y => [(0, (18, 0, y.1)), (1, (0, y.2.1, 0)), (2, (0, y.2.2.1, 0)), (3, (0, y.2.2.2.1, 0))]) (sh := fun y => y.2.2.2.2) (fun k4 hl4 hr4 y => ts_31_4 ok hX d  hl4 hr4 y.1 y.2.1 y.2.2.1 y.2.2.2.1 y.2.2.2.2) y
theorem t_31 {X : gX} (ok : gOK X) (hX : gHX X) (d : Nat) (a0 : Nat) (a1 : Int) (s : gS) : Go X em_31 31 d 0 [] [(0, (18, 0, a0)), (1, (0, a1, 0))] [] s 0 0 (f_31 a0 a1 s) some := by
  delta f_31
  refine g_rb gs_31 0 (cd' := gb_31_0) rfl rfl ?_
  refine g_iconst ok (v := 0) rfl ?_
  refine g_istore_n ok rfl (L' := [(0, (18, 0, a0)), (1, (0, a1, 0)), (2, (0, 0, 0))]) rfl ?_
  refine g_iconst ok (v := 0) rfl ?_
  refine g_istore_n ok rfl (L' := [(0, (18, 0, a0)), (1, (0, a1, 0)), (2, (0, 0, 0)), (3, (0, 0, 0))]) rfl ?_
  exact g_wk ok [(0, (18, 0, a0)), (1, (0, a1, 0)), (2, (0, 0, 0)), (3, (0, 0, 0))] ⟨rfl, rfl, rfl, rfl, trivial⟩ (tl_31_4 ok hX d  (a0, a1, 0, 0, s))
-- X2_partsOf
theorem ts_32_4 {X : gX} (ok : gOK X) (hX : gHX X) (d : Nat) {k4 : (Nat × Int × Int × Int × gS) ⊕ gO → Option gO} (hl4 : ∀ y : (Nat × Int × Int × Int × gS), Go X em_32 32 d 4 [] [(0, (18, 0, y.1)), (1, (0, y.2.1, 0)), (2, (0, y.2.2.1, 0)), (3, (0, y.2.2.2.1, 0))] [] y.2.2.2.2 0 0 (some (Sum.inl y)) k4) (hr4 : ∀ q, k4 (Sum.inr q) = some q) (x0 : Nat) (x1 : Int) (x2 : Int) (x3 : Int) (s : gS) : Go X em_32 32 d 4 [] [(0, (18, 0, x0)), (1, (0, x1, 0)), (2, (0, x2, 0)), (3, (0, x3, 0))] [] s 0 0 (sb_32_4 x0 x1 x2 x3 s) k4 := by
  delta sb_32_4
  refine g_rb gs_32 1 (cd' := gb_32_4) rfl rfl ?_
  refine g_iload_n ok rfl ?_
  refine g_aload_n ok rfl rfl ?_
  refine g_geti ok rfl rfl ?_
  refine g_ic_ge ok rfl (fun _ => ?_) (fun _ => ?_)
  · refine g_rb gs_32 2 (cd' := gb_32_12) rfl rfl ?_
    refine g_iload_n ok rfl ?_
    refine g_iload_n ok rfl ?_
    refine g_ishr ok ?_
    refine g_iconst ok (v := 1) rfl ?_
    refine g_iand ok ?_
    refine g_if_eq ok rfl (fun _ => ?_) (fun _ => ?_)
    · refine g_rb gs_32 4 (cd' := gb_32_29) rfl rfl ?_
      refine g_iinc ok rfl rfl (L' := [(0, (18, 0, x0)), (1, (0, x1, 0)), (2, (0, x2, 0)), (3, (0, (g32 (x3 + 1)), 0))]) rfl ?_
      refine g_goto ok rfl ?_
      exact g_wk ok [(0, (18, 0, x0)), (1, (0, x1, 0)), (2, (0, x2, 0)), (3, (0, (g32 (x3 + 1)), 0))] ⟨rfl, rfl, rfl, rfl, trivial⟩ (hl4 (x0, x1, x2, (g32 (x3 + 1)), s))
    · refine g_rb gs_32 3 (cd' := gb_32_20) rfl rfl ?_
      refine g_iload_n ok rfl ?_
      refine g_aload_n ok rfl rfl ?_
      refine g_getr ok 164 rfl rfl rfl ?_
      refine g_iload_n ok rfl ?_
      refine g_iaload ok (n := 6) rfl rfl (fun _ _ => ?_)
      refine g_ior ok ?_
      let v1 : Int := (gor x2 (gI s (gR s x0 2) (x3 : Int).toNat))
      refine g_istore_n ok rfl (L' := [(0, (18, 0, x0)), (1, (0, x1, 0)), (2, (0, v1, 0)), (3, (0, x3, 0))]) rfl ?_
      refine g_rb gs_32 4 (cd' := gb_32_29) rfl rfl ?_
      refine g_iinc ok rfl rfl (L' := [(0, (18, 0, x0)), (1, (0, x1, 0)), (2, (0, v1, 0)), (3, (0, (g32 (x3 + 1)), 0))]) rfl ?_
      refine g_goto ok rfl ?_
      exact g_wk ok [(0, (18, 0, x0)), (1, (0, x1, 0)), (2, (0, v1, 0)), (3, (0, (g32 (x3 + 1)), 0))] ⟨rfl, rfl, rfl, rfl, trivial⟩ (hl4 (x0, x1, v1, (g32 (x3 + 1)), s))
  · refine g_map hr4 ?_
    refine g_rb gs_32 5 (cd' := gb_32_35) rfl rfl ?_
    refine g_iload_n ok rfl ?_
    exact g_ireturn ok rfl rfl (rfl)
theorem tl_32_4 {X : gX} (ok : gOK X) (hX : gHX X) (d : Nat)  (y : (Nat × Int × Int × Int × gS)) : Go X em_32 32 d 4 [] [(0, (18, 0, y.1)), (1, (0, y.2.1, 0)), (2, (0, y.2.2.1, 0)), (3, (0, y.2.2.2.1, 0))] [] y.2.2.2.2 0 0 (gloop (st_32_4) y) some :=
  g_loop (Lh := fun y => [(0, (18, 0, y.1)), (1, (0, y.2.1, 0)), (2, (0, y.2.2.1, 0)), (3, (0, y.2.2.2.1, 0))]) (sh := fun y => y.2.2.2.2) (fun k4 hl4 hr4 y => ts_32_4 ok hX d  hl4 hr4 y.1 y.2.1 y.2.2.1 y.2.2.2.1 y.2.2.2.2) y
theorem t_32 {X : gX} (ok : gOK X) (hX : gHX X) (d : Nat) (a0 : Nat) (a1 : Int) (s : gS) : Go X em_32 32 d 0 [] [(0, (18, 0, a0)), (1, (0, a1, 0))] [] s 0 0 (f_32 a0 a1 s) some := by
  delta f_32
  refine g_rb gs_32 0 (cd' := gb_32_0) rfl rfl ?_
  refine g_iconst ok (v := 0) rfl ?_
  refine g_istore_n ok rfl (L' := [(0, (18, 0, a0)), (1, (0, a1, 0)), (2, (0, 0, 0))]) rfl ?_
  refine g_iconst ok (v := 0) rfl ?_
  refine g_istore_n ok rfl (L' := [(0, (18, 0, a0)), (1, (0, a1, 0)), (2, (0, 0, 0)), (3, (0, 0, 0))]) rfl ?_
  exact g_wk ok [(0, (18, 0, a0)), (1, (0, a1, 0)), (2, (0, 0, 0)), (3, (0, 0, 0))] ⟨rfl, rfl, rfl, rfl, trivial⟩ (tl_32_4 ok hX d  (a0, a1, 0, 0, s))
-- X4_init
theorem t_42 {X : gX} (ok : gOK X) (hX : gHX X) (d : Nat) (a0 : Nat) (a1 : Int) (a2 : Nat) (s : gS) : Go X em_42 42 d 0 [] [(0, (20, 0, a0)), (1, (0, a1, 0)), (2, (12, 0, a2))] [] s 0 0 (f_42 a0 a1 a2 s) some := by
  delta f_42
  refine g_rb gs_42 0 (cd' := gb_42_0) rfl rfl ?_
  refine g_aload_n ok rfl rfl ?_
  refine g_oinit ok (t := 4) rfl ?_
  refine g_aload_n ok rfl rfl ?_
  refine g_iload_n ok rfl ?_
  refine g_puti ok rfl rfl rfl ?_
  let s1 : gS := gw s a0 0 a1
  refine g_aload_n ok rfl rfl ?_
  refine g_aload_n ok rfl rfl ?_
  refine g_putr ok (r := a2) (tg := 11) rfl rfl (gtr_ok rfl) rfl (fun h => h) ?_
  let s2 : gS := gwr s1 a0 1 a2
  exact g_return ok rfl rfl (rfl)
theorem h_42 (a0 : Nat) (a1 : Int) (a2 : Nat) (s : gS) : ∀ q, f_42 a0 a1 a2 s = some q → q.1 = 0 := by
  intro q h
  unfold f_42 at h
  cases h
  rfl
-- X5_emit
theorem t_45 {X : gX} (ok : gOK X) (hX : gHX X) (d : Nat) (a0 : Nat) (a1 : Int) (s : gS) : Go X em_45 45 d 0 [] [(0, (21, 0, a0)), (1, (0, a1, 0))] [] s 0 0 (f_45 a0 a1 s) some := by
  delta f_45
  refine g_rb gs_45 0 (cd' := gb_45_0) rfl rfl ?_
  refine g_aload_n ok rfl rfl ?_
  refine g_geti ok rfl rfl ?_
  refine g_aload_n ok rfl rfl ?_
  refine g_getr ok 3316 rfl rfl rfl ?_
  refine g_alen ok (n := 400) (t := 0) (by decide) rfl (N := 400) rfl ?_
  refine g_ic_lt ok rfl (fun _ => ?_) (fun _ => ?_)
  · refine g_rb gs_45 2 (cd' := gb_45_14) rfl rfl ?_
    refine g_aload_n ok rfl rfl ?_
    refine g_getr ok 3316 rfl rfl rfl ?_
    refine g_aload_n ok rfl rfl ?_
    refine g_geti ok rfl rfl ?_
    refine g_iload_n ok rfl ?_
    refine g_iastore ok (n := 400) rfl rfl (fun _ _ => ?_)
    let s1 : gS := gw s (gR s a0 1) ((gI s a0 2) : Int).toNat a1
    refine g_aload_n ok rfl rfl ?_
    refine g_dup ok rfl ?_
    refine g_geti ok rfl rfl ?_
    refine g_iconst ok (v := 1) rfl ?_
    refine g_iadd ok ?_
    refine g_puti ok rfl rfl rfl ?_
    let s2 : gS := gw s1 a0 2 (g32 ((gI s1 a0 2) + 1))
    refine g_iconst ok (v := 1) rfl ?_
    exact g_zreturn ok rfl (Or.inr rfl) rfl (rfl)
  · refine g_rb gs_45 1 (cd' := gb_45_12) rfl rfl ?_
    refine g_iconst ok (v := 0) rfl ?_
    exact g_zreturn ok rfl (Or.inl rfl) rfl (rfl)
-- X5_namedFact
theorem t_52 {X : gX} (ok : gOK X) (hX : gHX X) (d : Nat) (a0 : Nat) (s : gS) : Go X em_52 52 (d + 5) 0 [] [(0, (21, 0, a0))] [] s 0 0 (f_52 a0 s) some := by
  delta f_52
  refine g_rb gs_52 0 (cd' := gb_52_0) rfl rfl ?_
  refine g_aload_n ok rfl rfl ?_
  refine g_getr ok 26 rfl rfl rfl ?_
  refine g_ldcs ok rfl ?_
  refine g_cvz ok (me_80 hX) rfl rfl rfl rfl (t_80 ok hX _ (gR s a0 0) 36 s) (fun v2 s1 hb3 => ?_)
  refine g_if_eq ok rfl (fun _ => ?_) (fun _ => ?_)
  · refine g_rb gs_52 2 (cd' := gb_52_14) rfl rfl ?_
    refine g_aload_n ok rfl rfl ?_
    refine g_getr ok 26 rfl rfl rfl ?_
    refine g_ldcs ok rfl ?_
    refine g_cvz ok (me_80 hX) rfl rfl rfl rfl (t_80 ok hX _ (gR s1 a0 0) 37 s1) (fun v5 s4 hb6 => ?_)
    refine g_if_eq ok rfl (fun _ => ?_) (fun _ => ?_)
    · refine g_rb gs_52 4 (cd' := gb_52_28) rfl rfl ?_
      refine g_aload_n ok rfl rfl ?_
      refine g_getr ok 26 rfl rfl rfl ?_
      refine g_ldcs ok rfl ?_
      refine g_cvz ok (me_80 hX) rfl rfl rfl rfl (t_80 ok hX _ (gR s4 a0 0) 38 s4) (fun v8 s7 hb9 => ?_)
      refine g_if_eq ok rfl (fun _ => ?_) (fun _ => ?_)
      · refine g_rb gs_52 6 (cd' := gb_52_42) rfl rfl ?_
        refine g_aload_n ok rfl rfl ?_
        refine g_getr ok 26 rfl rfl rfl ?_
        refine g_ldcs ok rfl ?_
        refine g_cvz ok (me_80 hX) rfl rfl rfl rfl (t_80 ok hX _ (gR s7 a0 0) 39 s7) (fun v11 s10 hb12 => ?_)
        refine g_if_eq ok rfl (fun _ => ?_) (fun _ => ?_)
        · refine g_rb gs_52 8 (cd' := gb_52_56) rfl rfl ?_
          refine g_aload_n ok rfl rfl ?_
          refine g_getr ok 26 rfl rfl rfl ?_
          refine g_ldcs ok rfl ?_
          refine g_cvz ok (me_80 hX) rfl rfl rfl rfl (t_80 ok hX _ (gR s10 a0 0) 40 s10) (fun v14 s13 hb15 => ?_)
          refine g_if_eq ok rfl (fun _ => ?_) (fun _ => ?_)
          · refine g_rb gs_52 10 (cd' := gb_52_70) rfl rfl ?_
            refine g_aload_n ok rfl rfl ?_
            refine g_getr ok 26 rfl rfl rfl ?_
            refine g_ldcs ok rfl ?_
            refine g_cvz ok (me_80 hX) rfl rfl rfl rfl (t_80 ok hX _ (gR s13 a0 0) 41 s13) (fun v17 s16 hb18 => ?_)
            refine g_if_eq ok rfl (fun _ => ?_) (fun _ => ?_)
            · refine g_rb gs_52 12 (cd' := gb_52_84) rfl rfl ?_
              refine g_aload_n ok rfl rfl ?_
              refine g_getr ok 26 rfl rfl rfl ?_
              refine g_ldcs ok rfl ?_
              refine g_cvz ok (me_80 hX) rfl rfl rfl rfl (t_80 ok hX _ (gR s16 a0 0) 42 s16) (fun v20 s19 hb21 => ?_)
              refine g_if_eq ok rfl (fun _ => ?_) (fun _ => ?_)
              · refine g_rb gs_52 14 (cd' := gb_52_101) rfl rfl ?_
                refine g_iconst ok (v := (-1)) rfl ?_
                refine g_rb gs_52 15 (cd' := gb_52_102) rfl rfl ?_
                exact g_ireturn ok rfl rfl (rfl)
              · refine g_rb gs_52 13 (cd' := gb_52_96) rfl rfl ?_
                refine g_bipush ok (v := 6) rfl ?_
                refine g_goto ok rfl ?_
                refine g_rb gs_52 15 (cd' := gb_52_102) rfl rfl ?_
                exact g_ireturn ok rfl rfl (rfl)
            · refine g_rb gs_52 11 (cd' := gb_52_82) rfl rfl ?_
              refine g_iconst ok (v := 5) rfl ?_
              exact g_ireturn ok rfl rfl (rfl)
          · refine g_rb gs_52 9 (cd' := gb_52_68) rfl rfl ?_
            refine g_iconst ok (v := 4) rfl ?_
            exact g_ireturn ok rfl rfl (rfl)
        · refine g_rb gs_52 7 (cd' := gb_52_54) rfl rfl ?_
          refine g_iconst ok (v := 3) rfl ?_
          exact g_ireturn ok rfl rfl (rfl)
      · refine g_rb gs_52 5 (cd' := gb_52_40) rfl rfl ?_
        refine g_iconst ok (v := 2) rfl ?_
        exact g_ireturn ok rfl rfl (rfl)
    · refine g_rb gs_52 3 (cd' := gb_52_26) rfl rfl ?_
      refine g_iconst ok (v := 1) rfl ?_
      exact g_ireturn ok rfl rfl (rfl)
  · refine g_rb gs_52 1 (cd' := gb_52_12) rfl rfl ?_
    refine g_iconst ok (v := 0) rfl ?_
    exact g_ireturn ok rfl rfl (rfl)
-- X5_readsPart
theorem t_51 {X : gX} (ok : gOK X) (hX : gHX X) (d : Nat) (a0 : Nat) (s : gS) : Go X em_51 51 (d + 6) 0 [] [(0, (21, 0, a0))] [] s 0 0 (f_51 a0 s) some := by
  delta f_51
  refine g_rb gs_51 0 (cd' := gb_51_0) rfl rfl ?_
  refine g_aload_n ok rfl rfl ?_
  refine g_getr ok 26 rfl rfl rfl ?_
  refine g_iconst ok (v := 0) rfl ?_
  refine g_sipush ok (v := 999) rfl ?_
  refine g_cv1 ok (me_84 hX) rfl rfl rfl rfl (t_84 ok hX _ (gR s a0 0) 0 999 s) (fun v2 s1 => ?_)
  refine g_istore_n ok rfl (L' := [(0, (21, 0, a0)), (1, (0, v2, 0))]) rfl ?_
  refine g_iload_n ok rfl ?_
  refine g_iconst ok (v := (-1)) rfl ?_
  refine g_ic_eq ok rfl (fun _ => ?_) (fun _ => ?_)
  · refine g_rb gs_51 2 (cd' := gb_51_23) rfl rfl ?_
    refine g_aload_n ok rfl rfl ?_
    refine g_cv1 ok (me_52 hX) rfl rfl rfl rfl (t_52 ok hX _ a0 s1) (fun v4 s3 => ?_)
    refine g_istore_n ok rfl (L' := [(0, (21, 0, a0)), (1, (0, v2, 0)), (2, (0, v4, 0))]) rfl ?_
    refine g_iload_n ok rfl ?_
    refine g_iconst ok (v := (-1)) rfl ?_
    refine g_ic_ne ok rfl (fun _ => ?_) (fun _ => ?_)
    · refine g_rb gs_51 3 (cd' := gb_51_33) rfl rfl ?_
      refine g_iconst ok (v := 0) rfl ?_
      exact g_zreturn ok rfl (Or.inl rfl) rfl (rfl)
    · refine g_rb gs_51 4 (cd' := gb_51_35) rfl rfl ?_
      refine g_aload_n ok rfl rfl ?_
      refine g_getr ok 26 rfl rfl rfl ?_
      refine g_cv0 ok (me_78 hX) rfl rfl rfl (t_78 ok hX _ (gR s3 a0 0) s3) (fun s5 => ?_)
      refine g_aload_n ok rfl rfl ?_
      refine g_sipush ok (v := 1000) rfl ?_
      refine g_iload_n ok rfl ?_
      refine g_iadd ok ?_
      refine g_cvz ok (me_45 hX) rfl rfl rfl rfl (t_45 ok hX _ a0 (g32 (1000 + v4)) s5) (fun v8 s7 hb9 => ?_)
      exact g_zreturn ok rfl hb9 rfl (rfl)
  · refine g_rb gs_51 1 (cd' := gb_51_17) rfl rfl ?_
    refine g_aload_n ok rfl rfl ?_
    refine g_iload_n ok rfl ?_
    refine g_cvz ok (me_45 hX) rfl rfl rfl rfl (t_45 ok hX _ a0 v2 s1) (fun v11 s10 hb12 => ?_)
    exact g_zreturn ok rfl hb12 rfl (rfl)
-- X5_readsSum
theorem tb_50_51 {X : gX} (ok : gOK X) (hX : gHX X) (d : Nat) {k7 : (Nat × Int × Int × gS) ⊕ gO → Option gO} (hl7 : ∀ y : (Nat × Int × Int × gS), Go X em_50 50 (d + 7) 7 [] [(0, (21, 0, y.1)), (1, (0, y.2.1, 0)), (2, (0, y.2.2.1, 0))] [] y.2.2.2 0 0 (some (Sum.inl y)) k7) (hr7 : ∀ q, k7 (Sum.inr q) = some q) (x0 : Nat) (x2 : Int) (s : gS) : Go X em_50 50 (d + 7) 51 [] [(0, (21, 0, x0)), (2, (0, x2, 0))] [] s 0 0 (fb_50_51 x0 x2 s) k7 := by
  delta fb_50_51
  refine g_rb gs_50 7 (cd' := gb_50_51) rfl rfl ?_
  refine g_iconst ok (v := 0) rfl ?_
  refine g_rb gs_50 8 (cd' := gb_50_52) rfl rfl ?_
  refine g_istore_n ok rfl (L' := [(0, (21, 0, x0)), (2, (0, x2, 0)), (1, (0, 0, 0))]) rfl ?_
  refine g_iinc ok rfl rfl (L' := [(0, (21, 0, x0)), (2, (0, (g32 (x2 + 1)), 0)), (1, (0, 0, 0))]) rfl ?_
  refine g_goto ok rfl ?_
  exact g_wk ok [(0, (21, 0, x0)), (1, (0, 0, 0)), (2, (0, (g32 (x2 + 1)), 0))] ⟨rfl, rfl, rfl, trivial⟩ (hl7 (x0, 0, (g32 (x2 + 1)), s))
theorem ts_50_7 {X : gX} (ok : gOK X) (hX : gHX X) (d : Nat) {k7 : (Nat × Int × Int × gS) ⊕ gO → Option gO} (hl7 : ∀ y : (Nat × Int × Int × gS), Go X em_50 50 (d + 7) 7 [] [(0, (21, 0, y.1)), (1, (0, y.2.1, 0)), (2, (0, y.2.2.1, 0))] [] y.2.2.2 0 0 (some (Sum.inl y)) k7) (hr7 : ∀ q, k7 (Sum.inr q) = some q) (x0 : Nat) (x1 : Int) (x2 : Int) (s : gS) : Go X em_50 50 (d + 7) 7 [] [(0, (21, 0, x0)), (1, (0, x1, 0)), (2, (0, x2, 0))] [] s 0 0 (sb_50_7 x0 x1 x2 s) k7 := by
  delta sb_50_7
  refine g_rb gs_50 1 (cd' := gb_50_7) rfl rfl ?_
  refine g_iload_n ok rfl ?_
  refine g_sipush ok (v := 400) rfl ?_
  refine g_ic_ge ok rfl (fun _ => ?_) (fun _ => ?_)
  · refine g_rb gs_50 2 (cd' := gb_50_14) rfl rfl ?_
    refine g_iload_n ok rfl ?_
    refine g_if_eq ok rfl (fun _ => ?_) (fun _ => ?_)
    · refine g_map hr7 ?_
      refine g_rb gs_50 9 (cd' := gb_50_59) rfl rfl ?_
      refine g_iload_n ok rfl ?_
      exact g_zreturnb ok rfl rfl (rfl)
    · refine g_rb gs_50 3 (cd' := gb_50_18) rfl rfl ?_
      refine g_aload_n ok rfl rfl ?_
      refine g_getr ok 26 rfl rfl rfl ?_
      refine g_bipush ok (v := 43) rfl ?_
      refine g_cvz ok (me_83 hX) rfl rfl rfl rfl (t_83 ok hX _ (gR s x0 0) 43 s) (fun v5 s4 hb6 => ?_)
      refine g_if_eq ok rfl (fun _ => ?_) (fun _ => ?_)
      · refine g_map hr7 ?_
        refine g_rb gs_50 9 (cd' := gb_50_59) rfl rfl ?_
        refine g_iload_n ok rfl ?_
        exact g_zreturnb ok rfl rfl (rfl)
      · refine g_rb gs_50 4 (cd' := gb_50_30) rfl rfl ?_
        refine g_aload_n ok rfl rfl ?_
        refine g_cvz ok (me_51 hX) rfl rfl rfl rfl (t_51 ok hX _ x0 s4) (fun v8 s7 hb9 => ?_)
        refine g_if_eq ok rfl (fun _ => ?_) (fun _ => ?_)
        · exact g_wk ok [(0, (21, 0, x0)), (2, (0, x2, 0))] ⟨rfl, rfl, trivial⟩ (tb_50_51 ok hX d hl7 hr7 x0 x2 s7)
        · refine g_rb gs_50 5 (cd' := gb_50_37) rfl rfl ?_
          refine g_aload_n ok rfl rfl ?_
          refine g_sipush ok (v := 2000) rfl ?_
          refine g_cvz ok (me_45 hX) rfl rfl rfl rfl (t_45 ok hX _ x0 2000 s7) (fun v11 s10 hb12 => ?_)
          refine g_if_eq ok rfl (fun _ => ?_) (fun _ => ?_)
          · exact g_wk ok [(0, (21, 0, x0)), (2, (0, x2, 0))] ⟨rfl, rfl, trivial⟩ (tb_50_51 ok hX d hl7 hr7 x0 x2 s10)
          · refine g_rb gs_50 6 (cd' := gb_50_47) rfl rfl ?_
            refine g_iconst ok (v := 1) rfl ?_
            refine g_goto ok rfl ?_
            refine g_rb gs_50 8 (cd' := gb_50_52) rfl rfl ?_
            refine g_istore_n ok rfl (L' := [(0, (21, 0, x0)), (1, (0, 1, 0)), (2, (0, x2, 0))]) rfl ?_
            refine g_iinc ok rfl rfl (L' := [(0, (21, 0, x0)), (1, (0, 1, 0)), (2, (0, (g32 (x2 + 1)), 0))]) rfl ?_
            refine g_goto ok rfl ?_
            exact g_wk ok [(0, (21, 0, x0)), (1, (0, 1, 0)), (2, (0, (g32 (x2 + 1)), 0))] ⟨rfl, rfl, rfl, trivial⟩ (hl7 (x0, 1, (g32 (x2 + 1)), s10))
  · refine g_map hr7 ?_
    refine g_rb gs_50 9 (cd' := gb_50_59) rfl rfl ?_
    refine g_iload_n ok rfl ?_
    exact g_zreturnb ok rfl rfl (rfl)
theorem tl_50_7 {X : gX} (ok : gOK X) (hX : gHX X) (d : Nat)  (y : (Nat × Int × Int × gS)) : Go X em_50 50 (d + 7) 7 [] [(0, (21, 0, y.1)), (1, (0, y.2.1, 0)), (2, (0, y.2.2.1, 0))] [] y.2.2.2 0 0 (gloop (st_50_7) y) some :=
  g_loop (Lh := fun y => [(0, (21, 0, y.1)), (1, (0, y.2.1, 0)), (2, (0, y.2.2.1, 0))]) (sh := fun y => y.2.2.2) (fun k7 hl7 hr7 y => ts_50_7 ok hX d  hl7 hr7 y.1 y.2.1 y.2.2.1 y.2.2.2) y
theorem t_50 {X : gX} (ok : gOK X) (hX : gHX X) (d : Nat) (a0 : Nat) (s : gS) : Go X em_50 50 (d + 7) 0 [] [(0, (21, 0, a0))] [] s 0 0 (f_50 a0 s) some := by
  delta f_50
  refine g_rb gs_50 0 (cd' := gb_50_0) rfl rfl ?_
  refine g_aload_n ok rfl rfl ?_
  refine g_cvz ok (me_51 hX) rfl rfl rfl rfl (t_51 ok hX _ a0 s) (fun v2 s1 hb3 => ?_)
  refine g_istore_n ok rfl (L' := [(0, (21, 0, a0)), (1, (0, v2, 0))]) rfl ?_
  refine g_iconst ok (v := 0) rfl ?_
  refine g_istore_n ok rfl (L' := [(0, (21, 0, a0)), (1, (0, v2, 0)), (2, (0, 0, 0))]) rfl ?_
  exact g_wk ok [(0, (21, 0, a0)), (1, (0, v2, 0)), (2, (0, 0, 0))] ⟨rfl, rfl, rfl, trivial⟩ (tl_50_7 ok hX d  (a0, v2, 0, s1))
-- X5_readsChoice+X5_readsAll+X5_readsAtom
theorem tb_47_53 {X : gX} (ok : gOK X) (hX : gHX X) (d : Nat) {r_48 : Nat → Int → gS → Option gO} (hrc_48 : ∀ (a0 : Nat) (a1 : Int) (s : gS), Go X em_48 48 (d + 7) 0 [] [(0, (21, 0, a0)), (1, (0, a1, 0))] [] s 0 0 (r_48 a0 a1 s) some) {k8 : (Nat × Int × Int × Int × gS) ⊕ gO → Option gO} (hl8 : ∀ y : (Nat × Int × Int × Int × gS), Go X em_47 47 (d + 8) 8 [] [(0, (21, 0, y.1)), (1, (0, y.2.1, 0)), (2, (0, y.2.2.1, 0)), (3, (0, y.2.2.2.1, 0))] [] y.2.2.2.2 0 0 (some (Sum.inl y)) k8) (hr8 : ∀ q, k8 (Sum.inr q) = some q) (x0 : Nat) (x1 : Int) (x3 : Int) (s : gS) : Go X em_47 47 (d + 8) 53 [] [(0, (21, 0, x0)), (1, (0, x1, 0)), (3, (0, x3, 0))] [] s 0 0 (fb_47_53 r_48 x0 x1 x3 s) k8 := by
  delta fb_47_53
  refine g_rb gs_47 7 (cd' := gb_47_53) rfl rfl ?_
  refine g_iconst ok (v := 0) rfl ?_
  refine g_rb gs_47 8 (cd' := gb_47_54) rfl rfl ?_
  refine g_istore_n ok rfl (L' := [(0, (21, 0, x0)), (1, (0, x1, 0)), (3, (0, x3, 0)), (2, (0, 0, 0))]) rfl ?_
  refine g_iinc ok rfl rfl (L' := [(0, (21, 0, x0)), (1, (0, x1, 0)), (3, (0, (g32 (x3 + 1)), 0)), (2, (0, 0, 0))]) rfl ?_
  refine g_goto ok rfl ?_
  exact g_wk ok [(0, (21, 0, x0)), (1, (0, x1, 0)), (2, (0, 0, 0)), (3, (0, (g32 (x3 + 1)), 0))] ⟨rfl, rfl, rfl, rfl, trivial⟩ (hl8 (x0, x1, 0, (g32 (x3 + 1)), s))
theorem ts_47_8 {X : gX} (ok : gOK X) (hX : gHX X) (d : Nat) {r_48 : Nat → Int → gS → Option gO} (hrc_48 : ∀ (a0 : Nat) (a1 : Int) (s : gS), Go X em_48 48 (d + 7) 0 [] [(0, (21, 0, a0)), (1, (0, a1, 0))] [] s 0 0 (r_48 a0 a1 s) some) {k8 : (Nat × Int × Int × Int × gS) ⊕ gO → Option gO} (hl8 : ∀ y : (Nat × Int × Int × Int × gS), Go X em_47 47 (d + 8) 8 [] [(0, (21, 0, y.1)), (1, (0, y.2.1, 0)), (2, (0, y.2.2.1, 0)), (3, (0, y.2.2.2.1, 0))] [] y.2.2.2.2 0 0 (some (Sum.inl y)) k8) (hr8 : ∀ q, k8 (Sum.inr q) = some q) (x0 : Nat) (x1 : Int) (x2 : Int) (x3 : Int) (s : gS) : Go X em_47 47 (d + 8) 8 [] [(0, (21, 0, x0)), (1, (0, x1, 0)), (2, (0, x2, 0)), (3, (0, x3, 0))] [] s 0 0 (sb_47_8 r_48 x0 x1 x2 x3 s) k8 := by
  delta sb_47_8
  refine g_rb gs_47 1 (cd' := gb_47_8) rfl rfl ?_
  refine g_iload_n ok rfl ?_
  refine g_sipush ok (v := 400) rfl ?_
  refine g_ic_ge ok rfl (fun _ => ?_) (fun _ => ?_)
  · refine g_rb gs_47 2 (cd' := gb_47_15) rfl rfl ?_
    refine g_iload_n ok rfl ?_
    refine g_if_eq ok rfl (fun _ => ?_) (fun _ => ?_)
    · refine g_map hr8 ?_
      refine g_rb gs_47 9 (cd' := gb_47_61) rfl rfl ?_
      refine g_iload_n ok rfl ?_
      exact g_zreturnb ok rfl rfl (rfl)
    · refine g_rb gs_47 3 (cd' := gb_47_19) rfl rfl ?_
      refine g_aload_n ok rfl rfl ?_
      refine g_getr ok 26 rfl rfl rfl ?_
      refine g_ldcs ok rfl ?_
      refine g_cvz ok (me_82 hX) rfl rfl rfl rfl (t_82 ok hX _ (gR s x0 0) 31 s) (fun v5 s4 hb6 => ?_)
      refine g_if_eq ok rfl (fun _ => ?_) (fun _ => ?_)
      · refine g_map hr8 ?_
        refine g_rb gs_47 9 (cd' := gb_47_61) rfl rfl ?_
        refine g_iload_n ok rfl ?_
        exact g_zreturnb ok rfl rfl (rfl)
      · refine g_rb gs_47 4 (cd' := gb_47_31) rfl rfl ?_
        refine g_aload_n ok rfl rfl ?_
        refine g_iload_n ok rfl ?_
        refine g_cvz ok (me_48 hX) rfl rfl rfl rfl (hrc_48 x0 x1 s4) (fun v8 s7 hb9 => ?_)
        refine g_if_eq ok rfl (fun _ => ?_) (fun _ => ?_)
        · exact g_wk ok [(0, (21, 0, x0)), (1, (0, x1, 0)), (3, (0, x3, 0))] ⟨rfl, rfl, rfl, trivial⟩ (tb_47_53 ok hX d hrc_48 hl8 hr8 x0 x1 x3 s7)
        · refine g_rb gs_47 5 (cd' := gb_47_39) rfl rfl ?_
          refine g_aload_n ok rfl rfl ?_
          refine g_sipush ok (v := 2005) rfl ?_
          refine g_cvz ok (me_45 hX) rfl rfl rfl rfl (t_45 ok hX _ x0 2005 s7) (fun v11 s10 hb12 => ?_)
          refine g_if_eq ok rfl (fun _ => ?_) (fun _ => ?_)
          · exact g_wk ok [(0, (21, 0, x0)), (1, (0, x1, 0)), (3, (0, x3, 0))] ⟨rfl, rfl, rfl, trivial⟩ (tb_47_53 ok hX d hrc_48 hl8 hr8 x0 x1 x3 s10)
          · refine g_rb gs_47 6 (cd' := gb_47_49) rfl rfl ?_
            refine g_iconst ok (v := 1) rfl ?_
            refine g_goto ok rfl ?_
            refine g_rb gs_47 8 (cd' := gb_47_54) rfl rfl ?_
            refine g_istore_n ok rfl (L' := [(0, (21, 0, x0)), (1, (0, x1, 0)), (2, (0, 1, 0)), (3, (0, x3, 0))]) rfl ?_
            refine g_iinc ok rfl rfl (L' := [(0, (21, 0, x0)), (1, (0, x1, 0)), (2, (0, 1, 0)), (3, (0, (g32 (x3 + 1)), 0))]) rfl ?_
            refine g_goto ok rfl ?_
            exact g_wk ok [(0, (21, 0, x0)), (1, (0, x1, 0)), (2, (0, 1, 0)), (3, (0, (g32 (x3 + 1)), 0))] ⟨rfl, rfl, rfl, rfl, trivial⟩ (hl8 (x0, x1, 1, (g32 (x3 + 1)), s10))
  · refine g_map hr8 ?_
    refine g_rb gs_47 9 (cd' := gb_47_61) rfl rfl ?_
    refine g_iload_n ok rfl ?_
    exact g_zreturnb ok rfl rfl (rfl)
theorem tl_47_8 {X : gX} (ok : gOK X) (hX : gHX X) (d : Nat) {r_48 : Nat → Int → gS → Option gO} (hrc_48 : ∀ (a0 : Nat) (a1 : Int) (s : gS), Go X em_48 48 (d + 7) 0 [] [(0, (21, 0, a0)), (1, (0, a1, 0))] [] s 0 0 (r_48 a0 a1 s) some)  (y : (Nat × Int × Int × Int × gS)) : Go X em_47 47 (d + 8) 8 [] [(0, (21, 0, y.1)), (1, (0, y.2.1, 0)), (2, (0, y.2.2.1, 0)), (3, (0, y.2.2.2.1, 0))] [] y.2.2.2.2 0 0 (gloop (st_47_8 r_48) y) some :=
  g_loop (Lh := fun y => [(0, (21, 0, y.1)), (1, (0, y.2.1, 0)), (2, (0, y.2.2.1, 0)), (3, (0, y.2.2.2.1, 0))]) (sh := fun y => y.2.2.2.2) (fun k8 hl8 hr8 y => ts_47_8 ok hX d hrc_48  hl8 hr8 y.1 y.2.1 y.2.2.1 y.2.2.2.1 y.2.2.2.2) y
theorem to_47 {X : gX} (ok : gOK X) (hX : gHX X) (d : Nat) {r_48 : Nat → Int → gS → Option gO} (hrc_48 : ∀ (a0 : Nat) (a1 : Int) (s : gS), Go X em_48 48 (d + 7) 0 [] [(0, (21, 0, a0)), (1, (0, a1, 0))] [] s 0 0 (r_48 a0 a1 s) some) (a0 : Nat) (a1 : Int) (s : gS) : Go X em_47 47 (d + 8) 0 [] [(0, (21, 0, a0)), (1, (0, a1, 0))] [] s 0 0 (fo_47 r_48 a0 a1 s) some := by
  delta fo_47
  refine g_rb gs_47 0 (cd' := gb_47_0) rfl rfl ?_
  refine g_aload_n ok rfl rfl ?_
  refine g_iload_n ok rfl ?_
  refine g_cvz ok (me_48 hX) rfl rfl rfl rfl (hrc_48 a0 a1 s) (fun v2 s1 hb3 => ?_)
  refine g_istore_n ok rfl (L' := [(0, (21, 0, a0)), (1, (0, a1, 0)), (2, (0, v2, 0))]) rfl ?_
  refine g_iconst ok (v := 0) rfl ?_
  refine g_istore_n ok rfl (L' := [(0, (21, 0, a0)), (1, (0, a1, 0)), (2, (0, v2, 0)), (3, (0, 0, 0))]) rfl ?_
  exact g_wk ok [(0, (21, 0, a0)), (1, (0, a1, 0)), (2, (0, v2, 0)), (3, (0, 0, 0))] ⟨rfl, rfl, rfl, rfl, trivial⟩ (tl_47_8 ok hX d hrc_48  (a0, a1, v2, 0, s1))
theorem tb_48_53 {X : gX} (ok : gOK X) (hX : gHX X) (d : Nat) {r_49 : Nat → Int → gS → Option gO} (hrc_49 : ∀ (a0 : Nat) (a1 : Int) (s : gS), Go X em_49 49 (d + 7) 0 [] [(0, (21, 0, a0)), (1, (0, a1, 0))] [] s 0 0 (r_49 a0 a1 s) some) {k8 : (Nat × Int × Int × Int × gS) ⊕ gO → Option gO} (hl8 : ∀ y : (Nat × Int × Int × Int × gS), Go X em_48 48 (d + 8) 8 [] [(0, (21, 0, y.1)), (1, (0, y.2.1, 0)), (2, (0, y.2.2.1, 0)), (3, (0, y.2.2.2.1, 0))] [] y.2.2.2.2 0 0 (some (Sum.inl y)) k8) (hr8 : ∀ q, k8 (Sum.inr q) = some q) (x0 : Nat) (x1 : Int) (x3 : Int) (s : gS) : Go X em_48 48 (d + 8) 53 [] [(0, (21, 0, x0)), (1, (0, x1, 0)), (3, (0, x3, 0))] [] s 0 0 (fb_48_53 r_49 x0 x1 x3 s) k8 := by
  delta fb_48_53
  refine g_rb gs_48 7 (cd' := gb_48_53) rfl rfl ?_
  refine g_iconst ok (v := 0) rfl ?_
  refine g_rb gs_48 8 (cd' := gb_48_54) rfl rfl ?_
  refine g_istore_n ok rfl (L' := [(0, (21, 0, x0)), (1, (0, x1, 0)), (3, (0, x3, 0)), (2, (0, 0, 0))]) rfl ?_
  refine g_iinc ok rfl rfl (L' := [(0, (21, 0, x0)), (1, (0, x1, 0)), (3, (0, (g32 (x3 + 1)), 0)), (2, (0, 0, 0))]) rfl ?_
  refine g_goto ok rfl ?_
  exact g_wk ok [(0, (21, 0, x0)), (1, (0, x1, 0)), (2, (0, 0, 0)), (3, (0, (g32 (x3 + 1)), 0))] ⟨rfl, rfl, rfl, rfl, trivial⟩ (hl8 (x0, x1, 0, (g32 (x3 + 1)), s))
theorem ts_48_8 {X : gX} (ok : gOK X) (hX : gHX X) (d : Nat) {r_49 : Nat → Int → gS → Option gO} (hrc_49 : ∀ (a0 : Nat) (a1 : Int) (s : gS), Go X em_49 49 (d + 7) 0 [] [(0, (21, 0, a0)), (1, (0, a1, 0))] [] s 0 0 (r_49 a0 a1 s) some) {k8 : (Nat × Int × Int × Int × gS) ⊕ gO → Option gO} (hl8 : ∀ y : (Nat × Int × Int × Int × gS), Go X em_48 48 (d + 8) 8 [] [(0, (21, 0, y.1)), (1, (0, y.2.1, 0)), (2, (0, y.2.2.1, 0)), (3, (0, y.2.2.2.1, 0))] [] y.2.2.2.2 0 0 (some (Sum.inl y)) k8) (hr8 : ∀ q, k8 (Sum.inr q) = some q) (x0 : Nat) (x1 : Int) (x2 : Int) (x3 : Int) (s : gS) : Go X em_48 48 (d + 8) 8 [] [(0, (21, 0, x0)), (1, (0, x1, 0)), (2, (0, x2, 0)), (3, (0, x3, 0))] [] s 0 0 (sb_48_8 r_49 x0 x1 x2 x3 s) k8 := by
  delta sb_48_8
  refine g_rb gs_48 1 (cd' := gb_48_8) rfl rfl ?_
  refine g_iload_n ok rfl ?_
  refine g_sipush ok (v := 400) rfl ?_
  refine g_ic_ge ok rfl (fun _ => ?_) (fun _ => ?_)
  · refine g_rb gs_48 2 (cd' := gb_48_15) rfl rfl ?_
    refine g_iload_n ok rfl ?_
    refine g_if_eq ok rfl (fun _ => ?_) (fun _ => ?_)
    · refine g_map hr8 ?_
      refine g_rb gs_48 9 (cd' := gb_48_61) rfl rfl ?_
      refine g_iload_n ok rfl ?_
      exact g_zreturnb ok rfl rfl (rfl)
    · refine g_rb gs_48 3 (cd' := gb_48_19) rfl rfl ?_
      refine g_aload_n ok rfl rfl ?_
      refine g_getr ok 26 rfl rfl rfl ?_
      refine g_ldcs ok rfl ?_
      refine g_cvz ok (me_82 hX) rfl rfl rfl rfl (t_82 ok hX _ (gR s x0 0) 32 s) (fun v5 s4 hb6 => ?_)
      refine g_if_eq ok rfl (fun _ => ?_) (fun _ => ?_)
      · refine g_map hr8 ?_
        refine g_rb gs_48 9 (cd' := gb_48_61) rfl rfl ?_
        refine g_iload_n ok rfl ?_
        exact g_zreturnb ok rfl rfl (rfl)
      · refine g_rb gs_48 4 (cd' := gb_48_31) rfl rfl ?_
        refine g_aload_n ok rfl rfl ?_
        refine g_iload_n ok rfl ?_
        refine g_cvz ok (me_49 hX) rfl rfl rfl rfl (hrc_49 x0 x1 s4) (fun v8 s7 hb9 => ?_)
        refine g_if_eq ok rfl (fun _ => ?_) (fun _ => ?_)
        · exact g_wk ok [(0, (21, 0, x0)), (1, (0, x1, 0)), (3, (0, x3, 0))] ⟨rfl, rfl, rfl, trivial⟩ (tb_48_53 ok hX d hrc_49 hl8 hr8 x0 x1 x3 s7)
        · refine g_rb gs_48 5 (cd' := gb_48_39) rfl rfl ?_
          refine g_aload_n ok rfl rfl ?_
          refine g_sipush ok (v := 2004) rfl ?_
          refine g_cvz ok (me_45 hX) rfl rfl rfl rfl (t_45 ok hX _ x0 2004 s7) (fun v11 s10 hb12 => ?_)
          refine g_if_eq ok rfl (fun _ => ?_) (fun _ => ?_)
          · exact g_wk ok [(0, (21, 0, x0)), (1, (0, x1, 0)), (3, (0, x3, 0))] ⟨rfl, rfl, rfl, trivial⟩ (tb_48_53 ok hX d hrc_49 hl8 hr8 x0 x1 x3 s10)
          · refine g_rb gs_48 6 (cd' := gb_48_49) rfl rfl ?_
            refine g_iconst ok (v := 1) rfl ?_
            refine g_goto ok rfl ?_
            refine g_rb gs_48 8 (cd' := gb_48_54) rfl rfl ?_
            refine g_istore_n ok rfl (L' := [(0, (21, 0, x0)), (1, (0, x1, 0)), (2, (0, 1, 0)), (3, (0, x3, 0))]) rfl ?_
            refine g_iinc ok rfl rfl (L' := [(0, (21, 0, x0)), (1, (0, x1, 0)), (2, (0, 1, 0)), (3, (0, (g32 (x3 + 1)), 0))]) rfl ?_
            refine g_goto ok rfl ?_
            exact g_wk ok [(0, (21, 0, x0)), (1, (0, x1, 0)), (2, (0, 1, 0)), (3, (0, (g32 (x3 + 1)), 0))] ⟨rfl, rfl, rfl, rfl, trivial⟩ (hl8 (x0, x1, 1, (g32 (x3 + 1)), s10))
  · refine g_map hr8 ?_
    refine g_rb gs_48 9 (cd' := gb_48_61) rfl rfl ?_
    refine g_iload_n ok rfl ?_
    exact g_zreturnb ok rfl rfl (rfl)
theorem tl_48_8 {X : gX} (ok : gOK X) (hX : gHX X) (d : Nat) {r_49 : Nat → Int → gS → Option gO} (hrc_49 : ∀ (a0 : Nat) (a1 : Int) (s : gS), Go X em_49 49 (d + 7) 0 [] [(0, (21, 0, a0)), (1, (0, a1, 0))] [] s 0 0 (r_49 a0 a1 s) some)  (y : (Nat × Int × Int × Int × gS)) : Go X em_48 48 (d + 8) 8 [] [(0, (21, 0, y.1)), (1, (0, y.2.1, 0)), (2, (0, y.2.2.1, 0)), (3, (0, y.2.2.2.1, 0))] [] y.2.2.2.2 0 0 (gloop (st_48_8 r_49) y) some :=
  g_loop (Lh := fun y => [(0, (21, 0, y.1)), (1, (0, y.2.1, 0)), (2, (0, y.2.2.1, 0)), (3, (0, y.2.2.2.1, 0))]) (sh := fun y => y.2.2.2.2) (fun k8 hl8 hr8 y => ts_48_8 ok hX d hrc_49  hl8 hr8 y.1 y.2.1 y.2.2.1 y.2.2.2.1 y.2.2.2.2) y
theorem to_48 {X : gX} (ok : gOK X) (hX : gHX X) (d : Nat) {r_49 : Nat → Int → gS → Option gO} (hrc_49 : ∀ (a0 : Nat) (a1 : Int) (s : gS), Go X em_49 49 (d + 7) 0 [] [(0, (21, 0, a0)), (1, (0, a1, 0))] [] s 0 0 (r_49 a0 a1 s) some) (a0 : Nat) (a1 : Int) (s : gS) : Go X em_48 48 (d + 8) 0 [] [(0, (21, 0, a0)), (1, (0, a1, 0))] [] s 0 0 (fo_48 r_49 a0 a1 s) some := by
  delta fo_48
  refine g_rb gs_48 0 (cd' := gb_48_0) rfl rfl ?_
  refine g_aload_n ok rfl rfl ?_
  refine g_iload_n ok rfl ?_
  refine g_cvz ok (me_49 hX) rfl rfl rfl rfl (hrc_49 a0 a1 s) (fun v2 s1 hb3 => ?_)
  refine g_istore_n ok rfl (L' := [(0, (21, 0, a0)), (1, (0, a1, 0)), (2, (0, v2, 0))]) rfl ?_
  refine g_iconst ok (v := 0) rfl ?_
  refine g_istore_n ok rfl (L' := [(0, (21, 0, a0)), (1, (0, a1, 0)), (2, (0, v2, 0)), (3, (0, 0, 0))]) rfl ?_
  exact g_wk ok [(0, (21, 0, a0)), (1, (0, a1, 0)), (2, (0, v2, 0)), (3, (0, 0, 0))] ⟨rfl, rfl, rfl, rfl, trivial⟩ (tl_48_8 ok hX d hrc_49  (a0, a1, v2, 0, s1))
theorem tb_49_207 {X : gX} (ok : gOK X) (hX : gHX X) (d : Nat) {r_47 : Nat → Int → gS → Option gO} (hrc_47 : ∀ (a0 : Nat) (a1 : Int) (s : gS), Go X em_47 47 (d + 7) 0 [] [(0, (21, 0, a0)), (1, (0, a1, 0))] [] s 0 0 (r_47 a0 a1 s) some) {r_49 : Nat → Int → gS → Option gO} (hrc_49 : ∀ (a0 : Nat) (a1 : Int) (s : gS), Go X em_49 49 (d + 7) 0 [] [(0, (21, 0, a0)), (1, (0, a1, 0))] [] s 0 0 (r_49 a0 a1 s) some)   (s : gS) : Go X em_49 49 (d + 8) 207 [] [] [] s 0 0 (fb_49_207 r_47 r_49  s) some := by
  delta fb_49_207
  refine g_rb gs_49 28 (cd' := gb_49_207) rfl rfl ?_
  refine g_iconst ok (v := 0) rfl ?_
  refine g_rb gs_49 29 (cd' := gb_49_208) rfl rfl ?_
  exact g_zreturn ok rfl (Or.inl rfl) rfl (rfl)
theorem tb_49_197 {X : gX} (ok : gOK X) (hX : gHX X) (d : Nat) {r_47 : Nat → Int → gS → Option gO} (hrc_47 : ∀ (a0 : Nat) (a1 : Int) (s : gS), Go X em_47 47 (d + 7) 0 [] [(0, (21, 0, a0)), (1, (0, a1, 0))] [] s 0 0 (r_47 a0 a1 s) some) {r_49 : Nat → Int → gS → Option gO} (hrc_49 : ∀ (a0 : Nat) (a1 : Int) (s : gS), Go X em_49 49 (d + 7) 0 [] [(0, (21, 0, a0)), (1, (0, a1, 0))] [] s 0 0 (r_49 a0 a1 s) some)  (w0 : Int) (w1 : Nat) (s : gS) : Go X em_49 49 (d + 8) 197 [] [] [(0, w0, 0), (21, 0, w1)] s 0 0 (fb_49_197 r_47 r_49 w0 w1 s) some := by
  delta fb_49_197
  refine g_rb gs_49 26 (cd' := gb_49_197) rfl rfl ?_
  refine g_cvz ok (me_45 hX) rfl rfl rfl rfl (t_45 ok hX _ w1 w0 s) (fun v26 s25 hb27 => ?_)
  refine g_if_eq ok rfl (fun _ => ?_) (fun _ => ?_)
  · exact g_wk ok [] trivial (tb_49_207 ok hX d hrc_47 hrc_49   s25)
  · refine g_rb gs_49 27 (cd' := gb_49_203) rfl rfl ?_
    refine g_iconst ok (v := 1) rfl ?_
    refine g_goto ok rfl ?_
    refine g_rb gs_49 29 (cd' := gb_49_208) rfl rfl ?_
    exact g_zreturn ok rfl (Or.inr rfl) rfl (rfl)
theorem tb_49_176 {X : gX} (ok : gOK X) (hX : gHX X) (d : Nat) {r_47 : Nat → Int → gS → Option gO} (hrc_47 : ∀ (a0 : Nat) (a1 : Int) (s : gS), Go X em_47 47 (d + 7) 0 [] [(0, (21, 0, a0)), (1, (0, a1, 0))] [] s 0 0 (r_47 a0 a1 s) some) {r_49 : Nat → Int → gS → Option gO} (hrc_49 : ∀ (a0 : Nat) (a1 : Int) (s : gS), Go X em_49 49 (d + 7) 0 [] [(0, (21, 0, a0)), (1, (0, a1, 0))] [] s 0 0 (r_49 a0 a1 s) some)  (x0 : Nat) (x3 : Int) (s : gS) : Go X em_49 49 (d + 8) 176 [] [(0, (21, 0, x0)), (3, (0, x3, 0))] [] s 0 0 (fb_49_176 r_47 r_49 x0 x3 s) some := by
  delta fb_49_176
  refine g_rb gs_49 22 (cd' := gb_49_176) rfl rfl ?_
  refine g_aload_n ok rfl rfl ?_
  refine g_cvz ok (me_50 hX) rfl rfl rfl rfl (t_50 ok hX _ x0 s) (fun v23 s22 hb24 => ?_)
  refine g_if_eq ok rfl (fun _ => ?_) (fun _ => ?_)
  · exact g_wk ok [] trivial (tb_49_207 ok hX d hrc_47 hrc_49   s22)
  · refine g_rb gs_49 23 (cd' := gb_49_183) rfl rfl ?_
    refine g_aload_n ok rfl rfl ?_
    refine g_iload_n ok rfl ?_
    refine g_if_eq ok rfl (fun _ => ?_) (fun _ => ?_)
    · refine g_rb gs_49 25 (cd' := gb_49_194) rfl rfl ?_
      refine g_sipush ok (v := 2002) rfl ?_
      exact g_wk ok [] trivial (tb_49_197 ok hX d hrc_47 hrc_49  2002 x0 s22)
    · refine g_rb gs_49 24 (cd' := gb_49_188) rfl rfl ?_
      refine g_sipush ok (v := 2001) rfl ?_
      refine g_goto ok rfl ?_
      exact g_wk ok [] trivial (tb_49_197 ok hX d hrc_47 hrc_49  2001 x0 s22)
theorem tb_49_99 {X : gX} (ok : gOK X) (hX : gHX X) (d : Nat) {r_47 : Nat → Int → gS → Option gO} (hrc_47 : ∀ (a0 : Nat) (a1 : Int) (s : gS), Go X em_47 47 (d + 7) 0 [] [(0, (21, 0, a0)), (1, (0, a1, 0))] [] s 0 0 (r_47 a0 a1 s) some) {r_49 : Nat → Int → gS → Option gO} (hrc_49 : ∀ (a0 : Nat) (a1 : Int) (s : gS), Go X em_49 49 (d + 7) 0 [] [(0, (21, 0, a0)), (1, (0, a1, 0))] [] s 0 0 (r_49 a0 a1 s) some)   (s : gS) : Go X em_49 49 (d + 8) 99 [] [] [] s 0 0 (fb_49_99 r_47 r_49  s) some := by
  delta fb_49_99
  refine g_rb gs_49 12 (cd' := gb_49_99) rfl rfl ?_
  refine g_iconst ok (v := 0) rfl ?_
  refine g_rb gs_49 13 (cd' := gb_49_100) rfl rfl ?_
  exact g_zreturn ok rfl (Or.inl rfl) rfl (rfl)
theorem tb_49_26 {X : gX} (ok : gOK X) (hX : gHX X) (d : Nat) {r_47 : Nat → Int → gS → Option gO} (hrc_47 : ∀ (a0 : Nat) (a1 : Int) (s : gS), Go X em_47 47 (d + 7) 0 [] [(0, (21, 0, a0)), (1, (0, a1, 0))] [] s 0 0 (r_47 a0 a1 s) some) {r_49 : Nat → Int → gS → Option gO} (hrc_49 : ∀ (a0 : Nat) (a1 : Int) (s : gS), Go X em_49 49 (d + 7) 0 [] [(0, (21, 0, a0)), (1, (0, a1, 0))] [] s 0 0 (r_49 a0 a1 s) some)  (x0 : Nat) (x1 : Int) (x2 : Int) (s : gS) : Go X em_49 49 (d + 8) 26 [] [(0, (21, 0, x0)), (1, (0, x1, 0)), (2, (0, x2, 0))] [] s 0 0 (fb_49_26 r_47 r_49 x0 x1 x2 s) some := by
  delta fb_49_26
  refine g_rb gs_49 2 (cd' := gb_49_26) rfl rfl ?_
  refine g_iload_n ok rfl ?_
  refine g_bipush ok (v := 6) rfl ?_
  refine g_ic_lt ok rfl (fun _ => ?_) (fun _ => ?_)
  · refine g_rb gs_49 4 (cd' := gb_49_34) rfl rfl ?_
    refine g_aload_n ok rfl rfl ?_
    refine g_getr ok 26 rfl rfl rfl ?_
    refine g_cv0 ok (me_78 hX) rfl rfl rfl (t_78 ok hX _ (gR s x0 0) s) (fun s34 => ?_)
    refine g_iload_n ok rfl ?_
    refine g_if_eq ok rfl (fun _ => ?_) (fun _ => ?_)
    · refine g_rb gs_49 9 (cd' := gb_49_73) rfl rfl ?_
      refine g_aload_n ok rfl rfl ?_
      refine g_iload_n ok rfl ?_
      refine g_iconst ok (v := 1) rfl ?_
      refine g_iadd ok ?_
      refine g_cvz ok (me_47 hX) rfl rfl rfl rfl (hrc_47 x0 (g32 (x1 + 1)) s34) (fun v37 s36 hb38 => ?_)
      refine g_if_eq ok rfl (fun _ => ?_) (fun _ => ?_)
      · exact g_wk ok [] trivial (tb_49_99 ok hX d hrc_47 hrc_49   s36)
      · refine g_rb gs_49 10 (cd' := gb_49_83) rfl rfl ?_
        refine g_aload_n ok rfl rfl ?_
        refine g_getr ok 26 rfl rfl rfl ?_
        refine g_bipush ok (v := 41) rfl ?_
        refine g_cvz ok (me_83 hX) rfl rfl rfl rfl (t_83 ok hX _ (gR s36 x0 0) 41 s36) (fun v40 s39 hb41 => ?_)
        refine g_if_eq ok rfl (fun _ => ?_) (fun _ => ?_)
        · exact g_wk ok [] trivial (tb_49_99 ok hX d hrc_47 hrc_49   s39)
        · refine g_rb gs_49 11 (cd' := gb_49_95) rfl rfl ?_
          refine g_iconst ok (v := 1) rfl ?_
          refine g_goto ok rfl ?_
          refine g_rb gs_49 13 (cd' := gb_49_100) rfl rfl ?_
          exact g_zreturn ok rfl (Or.inr rfl) rfl (rfl)
    · refine g_rb gs_49 5 (cd' := gb_49_45) rfl rfl ?_
      refine g_aload_n ok rfl rfl ?_
      refine g_iload_n ok rfl ?_
      refine g_iconst ok (v := 1) rfl ?_
      refine g_iadd ok ?_
      refine g_cvz ok (me_49 hX) rfl rfl rfl rfl (hrc_49 x0 (g32 (x1 + 1)) s34) (fun v43 s42 hb44 => ?_)
      refine g_if_eq ok rfl (fun _ => ?_) (fun _ => ?_)
      · refine g_rb gs_49 8 (cd' := gb_49_69) rfl rfl ?_
        refine g_iconst ok (v := 0) rfl ?_
        refine g_goto ok rfl ?_
        refine g_rb gs_49 13 (cd' := gb_49_100) rfl rfl ?_
        exact g_zreturn ok rfl (Or.inl rfl) rfl (rfl)
      · refine g_rb gs_49 6 (cd' := gb_49_55) rfl rfl ?_
        refine g_aload_n ok rfl rfl ?_
        refine g_sipush ok (v := 2003) rfl ?_
        refine g_cvz ok (me_45 hX) rfl rfl rfl rfl (t_45 ok hX _ x0 2003 s42) (fun v46 s45 hb47 => ?_)
        refine g_if_eq ok rfl (fun _ => ?_) (fun _ => ?_)
        · refine g_rb gs_49 8 (cd' := gb_49_69) rfl rfl ?_
          refine g_iconst ok (v := 0) rfl ?_
          refine g_goto ok rfl ?_
          refine g_rb gs_49 13 (cd' := gb_49_100) rfl rfl ?_
          exact g_zreturn ok rfl (Or.inl rfl) rfl (rfl)
        · refine g_rb gs_49 7 (cd' := gb_49_65) rfl rfl ?_
          refine g_iconst ok (v := 1) rfl ?_
          refine g_goto ok rfl ?_
          refine g_rb gs_49 13 (cd' := gb_49_100) rfl rfl ?_
          exact g_zreturn ok rfl (Or.inr rfl) rfl (rfl)
  · refine g_rb gs_49 3 (cd' := gb_49_32) rfl rfl ?_
    refine g_iconst ok (v := 0) rfl ?_
    exact g_zreturn ok rfl (Or.inl rfl) rfl (rfl)
theorem to_49 {X : gX} (ok : gOK X) (hX : gHX X) (d : Nat) {r_47 : Nat → Int → gS → Option gO} (hrc_47 : ∀ (a0 : Nat) (a1 : Int) (s : gS), Go X em_47 47 (d + 7) 0 [] [(0, (21, 0, a0)), (1, (0, a1, 0))] [] s 0 0 (r_47 a0 a1 s) some) {r_49 : Nat → Int → gS → Option gO} (hrc_49 : ∀ (a0 : Nat) (a1 : Int) (s : gS), Go X em_49 49 (d + 7) 0 [] [(0, (21, 0, a0)), (1, (0, a1, 0))] [] s 0 0 (r_49 a0 a1 s) some) (a0 : Nat) (a1 : Int) (s : gS) : Go X em_49 49 (d + 8) 0 [] [(0, (21, 0, a0)), (1, (0, a1, 0))] [] s 0 0 (fo_49 r_47 r_49 a0 a1 s) some := by
  delta fo_49
  refine g_rb gs_49 0 (cd' := gb_49_0) rfl rfl ?_
  refine g_aload_n ok rfl rfl ?_
  refine g_getr ok 26 rfl rfl rfl ?_
  refine g_ldcs ok rfl ?_
  refine g_cvz ok (me_80 hX) rfl rfl rfl rfl (t_80 ok hX _ (gR s a0 0) 33 s) (fun v2 s1 hb3 => ?_)
  refine g_istore_n ok rfl (L' := [(0, (21, 0, a0)), (1, (0, a1, 0)), (2, (0, v2, 0))]) rfl ?_
  refine g_iload_n ok rfl ?_
  refine g_if_ne ok rfl (fun _ => ?_) (fun _ => ?_)
  · refine g_rb gs_49 1 (cd' := gb_49_14) rfl rfl ?_
    refine g_aload_n ok rfl rfl ?_
    refine g_getr ok 26 rfl rfl rfl ?_
    refine g_bipush ok (v := 40) rfl ?_
    refine g_cvz ok (me_81 hX) rfl rfl rfl rfl (t_81 ok hX _ (gR s1 a0 0) 40 s1) (fun v5 s4 hb6 => ?_)
    refine g_if_eq ok rfl (fun _ => ?_) (fun _ => ?_)
    · refine g_rb gs_49 14 (cd' := gb_49_101) rfl rfl ?_
      refine g_aload_n ok rfl rfl ?_
      refine g_getr ok 26 rfl rfl rfl ?_
      refine g_ldcs ok rfl ?_
      refine g_cvz ok (me_82 hX) rfl rfl rfl rfl (t_82 ok hX _ (gR s4 a0 0) 34 s4) (fun v8 s7 hb9 => ?_)
      refine g_if_eq ok rfl (fun _ => ?_) (fun _ => ?_)
      · refine g_rb gs_49 16 (cd' := gb_49_121) rfl rfl ?_
        refine g_aload_n ok rfl rfl ?_
        refine g_getr ok 26 rfl rfl rfl ?_
        refine g_ldcs ok rfl ?_
        refine g_cvz ok (me_82 hX) rfl rfl rfl rfl (t_82 ok hX _ (gR s7 a0 0) 35 s7) (fun v11 s10 hb12 => ?_)
        refine g_if_eq ok rfl (fun _ => ?_) (fun _ => ?_)
        · refine g_rb gs_49 18 (cd' := gb_49_141) rfl rfl ?_
          refine g_aload_n ok rfl rfl ?_
          refine g_cvz ok (me_50 hX) rfl rfl rfl rfl (t_50 ok hX _ a0 s10) (fun v14 s13 hb15 => ?_)
          refine g_if_ne ok rfl (fun _ => ?_) (fun _ => ?_)
          · refine g_rb gs_49 19 (cd' := gb_49_148) rfl rfl ?_
            refine g_iconst ok (v := 0) rfl ?_
            exact g_zreturn ok rfl (Or.inl rfl) rfl (rfl)
          · refine g_rb gs_49 20 (cd' := gb_49_150) rfl rfl ?_
            refine g_aload_n ok rfl rfl ?_
            refine g_getr ok 26 rfl rfl rfl ?_
            refine g_bipush ok (v := 60) rfl ?_
            refine g_cvz ok (me_83 hX) rfl rfl rfl rfl (t_83 ok hX _ (gR s13 a0 0) 60 s13) (fun v17 s16 hb18 => ?_)
            refine g_istore_n ok rfl (L' := [(0, (21, 0, a0)), (1, (0, a1, 0)), (2, (0, v2, 0)), (3, (0, v17, 0))]) rfl ?_
            refine g_iload_n ok rfl ?_
            refine g_if_ne ok rfl (fun _ => ?_) (fun _ => ?_)
            · refine g_rb gs_49 21 (cd' := gb_49_164) rfl rfl ?_
              refine g_aload_n ok rfl rfl ?_
              refine g_getr ok 26 rfl rfl rfl ?_
              refine g_bipush ok (v := 62) rfl ?_
              refine g_cvz ok (me_83 hX) rfl rfl rfl rfl (t_83 ok hX _ (gR s16 a0 0) 62 s16) (fun v20 s19 hb21 => ?_)
              refine g_if_eq ok rfl (fun _ => ?_) (fun _ => ?_)
              · exact g_wk ok [] trivial (tb_49_207 ok hX d hrc_47 hrc_49   s19)
              · exact g_wk ok [(0, (21, 0, a0)), (3, (0, v17, 0))] ⟨rfl, rfl, trivial⟩ (tb_49_176 ok hX d hrc_47 hrc_49  a0 v17 s19)
            · exact g_wk ok [(0, (21, 0, a0)), (3, (0, v17, 0))] ⟨rfl, rfl, trivial⟩ (tb_49_176 ok hX d hrc_47 hrc_49  a0 v17 s16)
        · refine g_rb gs_49 17 (cd' := gb_49_133) rfl rfl ?_
          refine g_aload_n ok rfl rfl ?_
          refine g_sipush ok (v := 1008) rfl ?_
          refine g_cvz ok (me_45 hX) rfl rfl rfl rfl (t_45 ok hX _ a0 1008 s10) (fun v29 s28 hb30 => ?_)
          exact g_zreturn ok rfl hb30 rfl (rfl)
      · refine g_rb gs_49 15 (cd' := gb_49_113) rfl rfl ?_
        refine g_aload_n ok rfl rfl ?_
        refine g_sipush ok (v := 1007) rfl ?_
        refine g_cvz ok (me_45 hX) rfl rfl rfl rfl (t_45 ok hX _ a0 1007 s7) (fun v32 s31 hb33 => ?_)
        exact g_zreturn ok rfl hb33 rfl (rfl)
    · exact g_wk ok [(0, (21, 0, a0)), (1, (0, a1, 0)), (2, (0, v2, 0))] ⟨rfl, rfl, rfl, trivial⟩ (tb_49_26 ok hX d hrc_47 hrc_49  a0 a1 v2 s4)
  · exact g_wk ok [(0, (21, 0, a0)), (1, (0, a1, 0)), (2, (0, v2, 0))] ⟨rfl, rfl, rfl, trivial⟩ (tb_49_26 ok hX d hrc_47 hrc_49  a0 a1 v2 s1)
theorem tr_47 {X : gX} (ok : gOK X) (hX : gHX X) (d : Nat) : ∀ n : Nat, (∀ (a0 : Nat) (a1 : Int) (s : gS), Go X em_47 47 (d + 8 + n) 0 [] [(0, (21, 0, a0)), (1, (0, a1, 0))] [] s 0 0 (fn_47 n a0 a1 s) some) ∧ (∀ (a0 : Nat) (a1 : Int) (s : gS), Go X em_48 48 (d + 8 + n) 0 [] [(0, (21, 0, a0)), (1, (0, a1, 0))] [] s 0 0 (fn_48 n a0 a1 s) some) ∧ (∀ (a0 : Nat) (a1 : Int) (s : gS), Go X em_49 49 (d + 8 + n) 0 [] [(0, (21, 0, a0)), (1, (0, a1, 0))] [] s 0 0 (fn_49 n a0 a1 s) some)
  | 0 => ⟨fun _ _ _ => g_none, fun _ _ _ => g_none, fun _ _ _ => g_none⟩
  | n + 1 => by
    obtain ⟨h47, h48, h49⟩ := tr_47 ok hX d n
    have e1 : d + 8 + (n + 1) = d + n + 1 + 8 := by omega
    have e2 : d + 8 + n = d + n + 1 + 7 := by omega
    rw [e2] at h47 h48 h49
    rw [e1]
    exact ⟨fun b0 b1 b2 => to_47 ok hX (d + n + 1) h48 b0 b1 b2, fun b0 b1 b2 => to_48 ok hX (d + n + 1) h49 b0 b1 b2, fun b0 b1 b2 => to_49 ok hX (d + n + 1) h47 h49 b0 b1 b2⟩
theorem t_47 {X : gX} (ok : gOK X) (hX : gHX X) (d : Nat) : ∀ (a0 : Nat) (a1 : Int) (s : gS), Go X em_47 47 (d + 32) 0 [] [(0, (21, 0, a0)), (1, (0, a1, 0))] [] s 0 0 (f_47 a0 a1 s) some := (tr_47 ok hX d 24).1
-- X5_readsLine
theorem tb_46_109 {X : gX} (ok : gOK X) (hX : gHX X) (d : Nat)   (s : gS) : Go X em_46 46 (d + 33) 109 [] [] [] s 0 0 (fb_46_109  s) some := by
  delta fb_46_109
  refine g_rb gs_46 14 (cd' := gb_46_109) rfl rfl ?_
  refine g_iconst ok (v := 0) rfl ?_
  refine g_rb gs_46 15 (cd' := gb_46_110) rfl rfl ?_
  exact g_zreturn ok rfl (Or.inl rfl) rfl (rfl)
theorem tb_46_97 {X : gX} (ok : gOK X) (hX : gHX X) (d : Nat)  (x2 : Int) (w0 : Int) (w1 : Nat) (s : gS) : Go X em_46 46 (d + 33) 97 [] [(2, (0, x2, 0))] [(0, w0, 0), (21, 0, w1)] s 0 0 (fb_46_97 x2 w0 w1 s) some := by
  delta fb_46_97
  refine g_rb gs_46 12 (cd' := gb_46_97) rfl rfl ?_
  refine g_iload_n ok rfl ?_
  refine g_iadd ok ?_
  refine g_cvz ok (me_45 hX) rfl rfl rfl rfl (t_45 ok hX _ w1 (g32 (w0 + x2)) s) (fun v18 s17 hb19 => ?_)
  refine g_if_eq ok rfl (fun _ => ?_) (fun _ => ?_)
  · exact g_wk ok [] trivial (tb_46_109 ok hX d   s17)
  · refine g_rb gs_46 13 (cd' := gb_46_105) rfl rfl ?_
    refine g_iconst ok (v := 1) rfl ?_
    refine g_goto ok rfl ?_
    refine g_rb gs_46 15 (cd' := gb_46_110) rfl rfl ?_
    exact g_zreturn ok rfl (Or.inr rfl) rfl (rfl)
theorem tb_46_78 {X : gX} (ok : gOK X) (hX : gHX X) (d : Nat)  (x0 : Nat) (x1 : Int) (x2 : Int) (w0 : Int) (s : gS) : Go X em_46 46 (d + 33) 78 [] [(0, (21, 0, x0)), (1, (0, x1, 0)), (2, (0, x2, 0))] [(0, w0, 0)] s 0 0 (fb_46_78 x0 x1 x2 w0 s) some := by
  delta fb_46_78
  refine g_rb gs_46 8 (cd' := gb_46_78) rfl rfl ?_
  refine g_istore_n ok rfl (L' := [(0, (21, 0, x0)), (1, (0, x1, 0)), (2, (0, x2, 0)), (3, (0, w0, 0))]) rfl ?_
  refine g_iload_n ok rfl ?_
  refine g_if_eq ok rfl (fun _ => ?_) (fun _ => ?_)
  · exact g_wk ok [] trivial (tb_46_109 ok hX d   s)
  · refine g_rb gs_46 9 (cd' := gb_46_83) rfl rfl ?_
    refine g_aload_n ok rfl rfl ?_
    refine g_iload_n ok rfl ?_
    refine g_if_eq ok rfl (fun _ => ?_) (fun _ => ?_)
    · refine g_rb gs_46 11 (cd' := gb_46_94) rfl rfl ?_
      refine g_sipush ok (v := 4000) rfl ?_
      exact g_wk ok [(2, (0, x2, 0))] ⟨rfl, trivial⟩ (tb_46_97 ok hX d  x2 4000 x0 s)
    · refine g_rb gs_46 10 (cd' := gb_46_88) rfl rfl ?_
      refine g_sipush ok (v := 3000) rfl ?_
      refine g_goto ok rfl ?_
      exact g_wk ok [(2, (0, x2, 0))] ⟨rfl, trivial⟩ (tb_46_97 ok hX d  x2 3000 x0 s)
theorem tb_46_28 {X : gX} (ok : gOK X) (hX : gHX X) (d : Nat)  (x0 : Nat) (x1 : Int) (s : gS) : Go X em_46 46 (d + 33) 28 [] [(0, (21, 0, x0)), (1, (0, x1, 0))] [] s 0 0 (fb_46_28 x0 x1 s) some := by
  delta fb_46_28
  refine g_rb gs_46 3 (cd' := gb_46_28) rfl rfl ?_
  refine g_aload_n ok rfl rfl ?_
  refine g_getr ok 26 rfl rfl rfl ?_
  refine g_cv0 ok (me_78 hX) rfl rfl rfl (t_78 ok hX _ (gR s x0 0) s) (fun s7 => ?_)
  refine g_aload_n ok rfl rfl ?_
  refine g_getr ok 26 rfl rfl rfl ?_
  refine g_iconst ok (v := 0) rfl ?_
  refine g_bipush ok (v := 30) rfl ?_
  refine g_cv1 ok (me_84 hX) rfl rfl rfl rfl (t_84 ok hX _ (gR s7 x0 0) 0 30 s7) (fun v10 s9 => ?_)
  refine g_istore_n ok rfl (L' := [(0, (21, 0, x0)), (1, (0, x1, 0)), (2, (0, v10, 0))]) rfl ?_
  refine g_iload_n ok rfl ?_
  refine g_iconst ok (v := (-1)) rfl ?_
  refine g_ic_ne ok rfl (fun _ => ?_) (fun _ => ?_)
  · refine g_rb gs_46 4 (cd' := gb_46_51) rfl rfl ?_
    refine g_iconst ok (v := 0) rfl ?_
    exact g_zreturn ok rfl (Or.inl rfl) rfl (rfl)
  · refine g_rb gs_46 5 (cd' := gb_46_53) rfl rfl ?_
    refine g_aload_n ok rfl rfl ?_
    refine g_getr ok 26 rfl rfl rfl ?_
    refine g_ldcs ok rfl ?_
    refine g_cvz ok (me_82 hX) rfl rfl rfl rfl (t_82 ok hX _ (gR s9 x0 0) 30 s9) (fun v12 s11 hb13 => ?_)
    refine g_if_eq ok rfl (fun _ => ?_) (fun _ => ?_)
    · refine g_rb gs_46 7 (cd' := gb_46_73) rfl rfl ?_
      refine g_aload_n ok rfl rfl ?_
      refine g_iconst ok (v := 1) rfl ?_
      refine g_cvz ok (me_45 hX) rfl rfl rfl rfl (t_45 ok hX _ x0 1 s11) (fun v15 s14 hb16 => ?_)
      exact g_wk ok [(0, (21, 0, x0)), (1, (0, x1, 0)), (2, (0, v10, 0))] ⟨rfl, rfl, rfl, trivial⟩ (tb_46_78 ok hX d  x0 x1 v10 v15 s14)
    · refine g_rb gs_46 6 (cd' := gb_46_65) rfl rfl ?_
      refine g_aload_n ok rfl rfl ?_
      refine g_iconst ok (v := 0) rfl ?_
      refine g_cvz ok (me_47 hX) rfl rfl rfl rfl (t_47 ok hX _ x0 0 s11) (fun v21 s20 hb22 => ?_)
      refine g_goto ok rfl ?_
      exact g_wk ok [(0, (21, 0, x0)), (1, (0, x1, 0)), (2, (0, v10, 0))] ⟨rfl, rfl, rfl, trivial⟩ (tb_46_78 ok hX d  x0 x1 v10 v21 s20)
theorem t_46 {X : gX} (ok : gOK X) (hX : gHX X) (d : Nat) (a0 : Nat) (s : gS) : Go X em_46 46 (d + 33) 0 [] [(0, (21, 0, a0))] [] s 0 0 (f_46 a0 s) some := by
  delta f_46
  refine g_rb gs_46 0 (cd' := gb_46_0) rfl rfl ?_
  refine g_aload_n ok rfl rfl ?_
  refine g_getr ok 26 rfl rfl rfl ?_
  refine g_ldcs ok rfl ?_
  refine g_cvz ok (me_80 hX) rfl rfl rfl rfl (t_80 ok hX _ (gR s a0 0) 28 s) (fun v2 s1 hb3 => ?_)
  refine g_istore_n ok rfl (L' := [(0, (21, 0, a0)), (1, (0, v2, 0))]) rfl ?_
  refine g_iload_n ok rfl ?_
  refine g_if_ne ok rfl (fun _ => ?_) (fun _ => ?_)
  · refine g_rb gs_46 1 (cd' := gb_46_14) rfl rfl ?_
    refine g_aload_n ok rfl rfl ?_
    refine g_getr ok 26 rfl rfl rfl ?_
    refine g_ldcs ok rfl ?_
    refine g_cvz ok (me_80 hX) rfl rfl rfl rfl (t_80 ok hX _ (gR s1 a0 0) 29 s1) (fun v5 s4 hb6 => ?_)
    refine g_if_ne ok rfl (fun _ => ?_) (fun _ => ?_)
    · refine g_rb gs_46 2 (cd' := gb_46_26) rfl rfl ?_
      refine g_iconst ok (v := 0) rfl ?_
      exact g_zreturn ok rfl (Or.inl rfl) rfl (rfl)
    · exact g_wk ok [(0, (21, 0, a0)), (1, (0, v2, 0))] ⟨rfl, rfl, trivial⟩ (tb_46_28 ok hX d  a0 v2 s4)
  · exact g_wk ok [(0, (21, 0, a0)), (1, (0, v2, 0))] ⟨rfl, rfl, trivial⟩ (tb_46_28 ok hX d  a0 v2 s1)
-- X5_readLaw
theorem ts_44_41 {X : gX} (ok : gOK X) (hX : gHX X) (d : Nat) {k41 : (Nat × Int × gS) ⊕ gO → Option gO} (hl41 : ∀ y : (Nat × Int × gS), Go X em_44 44 (d + 34) 41 [] [(0, (21, 0, y.1)), (1, (0, y.2.1, 0))] [] y.2.2 0 0 (some (Sum.inl y)) k41) (hr41 : ∀ q, k41 (Sum.inr q) = some q) (x0 : Nat) (x1 : Int) (s : gS) : Go X em_44 44 (d + 34) 41 [] [(0, (21, 0, x0)), (1, (0, x1, 0))] [] s 0 0 (sb_44_41 x0 x1 s) k41 := by
  delta sb_44_41
  refine g_rb gs_44 3 (cd' := gb_44_41) rfl rfl ?_
  refine g_iload_n ok rfl ?_
  refine g_bipush ok (v := 12) rfl ?_
  refine g_ic_gt ok rfl (fun _ => ?_) (fun _ => ?_)
  · refine g_map hr41 ?_
    refine g_rb gs_44 11 (cd' := gb_44_106) rfl rfl ?_
    refine g_null ok ?_
    exact g_areturn ok (a := 0) (tg := 11) (Or.inl ⟨_, rfl⟩) rfl rfl rfl (fun _ h => absurd rfl h) rfl (rfl)
  · refine g_rb gs_44 4 (cd' := gb_44_47) rfl rfl ?_
    refine g_aload_n ok rfl rfl ?_
    refine g_cvz ok (me_46 hX) rfl rfl rfl rfl (t_46 ok hX _ x0 s) (fun v8 s7 hb9 => ?_)
    refine g_if_ne ok rfl (fun _ => ?_) (fun _ => ?_)
    · refine g_map hr41 ?_
      refine g_rb gs_44 5 (cd' := gb_44_54) rfl rfl ?_
      refine g_null ok ?_
      exact g_areturn ok (a := 0) (tg := 11) (Or.inl ⟨_, rfl⟩) rfl rfl rfl (fun _ h => absurd rfl h) rfl (rfl)
    · refine g_rb gs_44 6 (cd' := gb_44_56) rfl rfl ?_
      refine g_aload_n ok rfl rfl ?_
      refine g_getr ok 26 rfl rfl rfl ?_
      refine g_cvz ok (me_79 hX) rfl rfl rfl rfl (t_79 ok hX _ (gR s7 x0 0) s7) (fun v11 s10 hb12 => ?_)
      refine g_if_eq ok rfl (fun _ => ?_) (fun _ => ?_)
      · refine g_rb gs_44 8 (cd' := gb_44_86) rfl rfl ?_
        refine g_aload_n ok rfl rfl ?_
        refine g_getr ok 26 rfl rfl rfl ?_
        refine g_bipush ok (v := 59) rfl ?_
        refine g_cvz ok (me_83 hX) rfl rfl rfl rfl (t_83 ok hX _ (gR s10 x0 0) 59 s10) (fun v14 s13 hb15 => ?_)
        refine g_if_ne ok rfl (fun _ => ?_) (fun _ => ?_)
        · refine g_map hr41 ?_
          refine g_rb gs_44 9 (cd' := gb_44_98) rfl rfl ?_
          refine g_null ok ?_
          exact g_areturn ok (a := 0) (tg := 11) (Or.inl ⟨_, rfl⟩) rfl rfl rfl (fun _ h => absurd rfl h) rfl (rfl)
        · refine g_rb gs_44 10 (cd' := gb_44_100) rfl rfl ?_
          refine g_iinc ok rfl rfl (L' := [(0, (21, 0, x0)), (1, (0, (g32 (x1 + 1)), 0))]) rfl ?_
          refine g_goto ok rfl ?_
          exact g_wk ok [(0, (21, 0, x0)), (1, (0, (g32 (x1 + 1)), 0))] ⟨rfl, rfl, trivial⟩ (hl41 (x0, (g32 (x1 + 1)), s13))
      · refine g_map hr41 ?_
        refine g_rb gs_44 7 (cd' := gb_44_66) rfl rfl ?_
        refine g_newlaw ok rfl ?_
        let s16 : gS := gnw s10 4
        refine g_dup ok rfl ?_
        refine g_iload_n ok rfl ?_
        refine g_aload_n ok rfl rfl ?_
        refine g_getr ok 3316 rfl rfl rfl ?_
        refine g_aload_n ok rfl rfl ?_
        refine g_geti ok rfl rfl ?_
        refine g_csr ok (me_274 hX) rfl rfl (tg := 12) rfl (Or.inr rfl) (t_274 ok hX _ (gR s16 x0 1) (gI s16 x0 2) s16) (fun v18 s17 => ?_)
        refine g_ci0 ok (me_42 hX) rfl rfl (h_42 _ _ _ _) (t_42 ok hX _ (gn s10) x1 v18 s17) (fun s19 => ?_)
        refine g_ite (fun _ => g_none) (fun hz => ?_)
        exact g_areturn ok (a := (gn s10)) (tg := 11) (Or.inl ⟨_, rfl⟩) rfl (if_neg hz).symm rfl (fun h _ => gok_r.mp h) rfl (rfl)
theorem tl_44_41 {X : gX} (ok : gOK X) (hX : gHX X) (d : Nat)  (y : (Nat × Int × gS)) : Go X em_44 44 (d + 34) 41 [] [(0, (21, 0, y.1)), (1, (0, y.2.1, 0))] [] y.2.2 0 0 (gloop (st_44_41) y) some :=
  g_loop (Lh := fun y => [(0, (21, 0, y.1)), (1, (0, y.2.1, 0))]) (sh := fun y => y.2.2) (fun k41 hl41 hr41 y => ts_44_41 ok hX d  hl41 hr41 y.1 y.2.1 y.2.2) y
theorem t_44 {X : gX} (ok : gOK X) (hX : gHX X) (d : Nat) (a0 : Nat) (s : gS) : Go X em_44 44 (d + 34) 0 [] [(0, (21, 0, a0))] [] s 0 0 (f_44 a0 s) some := by
  delta f_44
  refine g_rb gs_44 0 (cd' := gb_44_0) rfl rfl ?_
  refine g_aload_n ok rfl rfl ?_
  refine g_iconst ok (v := 0) rfl ?_
  refine g_puti ok rfl rfl rfl ?_
  let s1 : gS := gw s a0 2 0
  refine g_aload_n ok rfl rfl ?_
  refine g_getr ok 26 rfl rfl rfl ?_
  refine g_cv0 ok (me_77 hX) rfl rfl rfl (t_77 ok hX _ (gR s1 a0 0) s1) (fun s2 => ?_)
  refine g_aload_n ok rfl rfl ?_
  refine g_getr ok 26 rfl rfl rfl ?_
  refine g_cvz ok (me_79 hX) rfl rfl rfl rfl (t_79 ok hX _ (gR s2 a0 0) s2) (fun v5 s4 hb6 => ?_)
  refine g_if_eq ok rfl (fun _ => ?_) (fun _ => ?_)
  · refine g_rb gs_44 2 (cd' := gb_44_39) rfl rfl ?_
    refine g_iconst ok (v := 1) rfl ?_
    refine g_istore_n ok rfl (L' := [(0, (21, 0, a0)), (1, (0, 1, 0))]) rfl ?_
    exact g_wk ok [(0, (21, 0, a0)), (1, (0, 1, 0))] ⟨rfl, rfl, trivial⟩ (tl_44_41 ok hX d  (a0, 1, s4))
  · refine g_rb gs_44 1 (cd' := gb_44_22) rfl rfl ?_
    refine g_newlaw ok rfl ?_
    let s21 : gS := gnw s4 4
    refine g_dup ok rfl ?_
    refine g_iconst ok (v := 0) rfl ?_
    refine g_aload_n ok rfl rfl ?_
    refine g_getr ok 3316 rfl rfl rfl ?_
    refine g_iconst ok (v := 0) rfl ?_
    refine g_csr ok (me_274 hX) rfl rfl (tg := 12) rfl (Or.inr rfl) (t_274 ok hX _ (gR s21 a0 1) 0 s21) (fun v23 s22 => ?_)
    refine g_ci0 ok (me_42 hX) rfl rfl (h_42 _ _ _ _) (t_42 ok hX _ (gn s4) 0 v23 s22) (fun s24 => ?_)
    refine g_ite (fun _ => g_none) (fun hz => ?_)
    exact g_areturn ok (a := (gn s4)) (tg := 11) (Or.inl ⟨_, rfl⟩) rfl (if_neg hz).symm rfl (fun h _ => gok_r.mp h) rfl (rfl)
-- X6_add
theorem tb_55_31 {X : gX} (ok : gOK X) (hX : gHX X) (d : Nat)  (x0 : Nat) (x1 : Int) (x2 : Int) (x3 : Int) (x4 : Int) (s : gS) : Go X em_55 55 d 31 [] [(0, (22, 0, x0)), (1, (0, x1, 0)), (2, (0, x2, 0)), (3, (0, x3, 0)), (4, (0, x4, 0))] [] s 0 0 (fb_55_31 x0 x1 x2 x3 x4 s) some := by
  delta fb_55_31
  refine g_rb gs_55 2 (cd' := gb_55_31) rfl rfl ?_
  refine g_aload_n ok rfl rfl ?_
  refine g_geti ok rfl rfl ?_
  refine g_iconst ok (v := 4) rfl ?_
  refine g_imul ok ?_
  let v1 : Int := (g32 ((gI s x0 1) * 4))
  refine g_istore ok rfl (L' := [(0, (22, 0, x0)), (1, (0, x1, 0)), (2, (0, x2, 0)), (3, (0, x3, 0)), (4, (0, x4, 0)), (5, (0, v1, 0))]) rfl ?_
  refine g_aload_n ok rfl rfl ?_
  refine g_getr ok 2036 rfl rfl rfl ?_
  refine g_iload ok rfl ?_
  refine g_iload_n ok rfl ?_
  refine g_iastore ok (n := 240) rfl rfl (fun _ _ => ?_)
  let s2 : gS := gw s (gR s x0 0) (v1 : Int).toNat x1
  refine g_aload_n ok rfl rfl ?_
  refine g_getr ok 2036 rfl rfl rfl ?_
  refine g_iload ok rfl ?_
  refine g_iconst ok (v := 1) rfl ?_
  refine g_iadd ok ?_
  refine g_iload_n ok rfl ?_
  refine g_iastore ok (n := 240) rfl rfl (fun _ _ => ?_)
  let s3 : gS := gw s2 (gR s2 x0 0) ((g32 (v1 + 1)) : Int).toNat x2
  refine g_aload_n ok rfl rfl ?_
  refine g_getr ok 2036 rfl rfl rfl ?_
  refine g_iload ok rfl ?_
  refine g_iconst ok (v := 2) rfl ?_
  refine g_iadd ok ?_
  refine g_iload_n ok rfl ?_
  refine g_iastore ok (n := 240) rfl rfl (fun _ _ => ?_)
  let s4 : gS := gw s3 (gR s3 x0 0) ((g32 (v1 + 2)) : Int).toNat x3
  refine g_aload_n ok rfl rfl ?_
  refine g_getr ok 2036 rfl rfl rfl ?_
  refine g_iload ok rfl ?_
  refine g_iconst ok (v := 3) rfl ?_
  refine g_iadd ok ?_
  refine g_iload ok rfl ?_
  refine g_iastore ok (n := 240) rfl rfl (fun _ _ => ?_)
  let s5 : gS := gw s4 (gR s4 x0 0) ((g32 (v1 + 3)) : Int).toNat x4
  refine g_aload_n ok rfl rfl ?_
  refine g_dup ok rfl ?_
  refine g_geti ok rfl rfl ?_
  refine g_iconst ok (v := 1) rfl ?_
  refine g_iadd ok ?_
  refine g_puti ok rfl rfl rfl ?_
  let s6 : gS := gw s5 x0 1 (g32 ((gI s5 x0 1) + 1))
  exact g_return ok rfl rfl (rfl)
theorem t_55 {X : gX} (ok : gOK X) (hX : gHX X) (d : Nat) (a0 : Nat) (a1 : Int) (a2 : Int) (a3 : Int) (a4 : Int) (s : gS) : Go X em_55 55 d 0 [] [(0, (22, 0, a0)), (1, (0, a1, 0)), (2, (0, a2, 0)), (3, (0, a3, 0)), (4, (0, a4, 0))] [] s 0 0 (f_55 a0 a1 a2 a3 a4 s) some := by
  delta f_55
  refine g_rb gs_55 0 (cd' := gb_55_0) rfl rfl ?_
  refine g_aload_n ok rfl rfl ?_
  refine g_geti ok rfl rfl ?_
  refine g_bipush ok (v := 60) rfl ?_
  refine g_ic_lt ok rfl (fun _ => ?_) (fun _ => ?_)
  · exact g_wk ok [(0, (22, 0, a0)), (1, (0, a1, 0)), (2, (0, a2, 0)), (3, (0, a3, 0)), (4, (0, a4, 0))] ⟨rfl, rfl, rfl, rfl, rfl, trivial⟩ (tb_55_31 ok hX d  a0 a1 a2 a3 a4 s)
  · refine g_rb gs_55 1 (cd' := gb_55_9) rfl rfl ?_
    refine g_aload_n ok rfl rfl ?_
    refine g_getr ok 2036 rfl rfl rfl ?_
    refine g_iconst ok (v := 4) rfl ?_
    refine g_aload_n ok rfl rfl ?_
    refine g_getr ok 2036 rfl rfl rfl ?_
    refine g_iconst ok (v := 0) rfl ?_
    refine g_sipush ok (v := 236) rfl ?_
    refine g_acopy ok (n1 := 240) (n2 := 240) rfl rfl (by decide) (by decide) (by decide) (by decide) (by decide) rfl ?_
    let s7 : gS := gcpy s (gR s a0 0) 4 (gR s a0 0) 0 236
    refine g_aload_n ok rfl rfl ?_
    refine g_bipush ok (v := 59) rfl ?_
    refine g_puti ok rfl rfl rfl ?_
    let s8 : gS := gw s7 a0 1 59
    exact g_wk ok [(0, (22, 0, a0)), (1, (0, a1, 0)), (2, (0, a2, 0)), (3, (0, a3, 0)), (4, (0, a4, 0))] ⟨rfl, rfl, rfl, rfl, rfl, trivial⟩ (tb_55_31 ok hX d  a0 a1 a2 a3 a4 s8)
-- X6_cell
theorem t_56 {X : gX} (ok : gOK X) (hX : gHX X) (d : Nat) (a0 : Nat) (a1 : Int) (a2 : Int) (s : gS) : Go X em_56 56 d 0 [] [(0, (22, 0, a0)), (1, (0, a1, 0)), (2, (0, a2, 0))] [] s 0 0 (f_56 a0 a1 a2 s) some := by
  delta f_56
  refine g_rb gs_56 0 (cd' := gb_56_0) rfl rfl ?_
  refine g_iload_n ok rfl ?_
  refine g_if_lt ok rfl (fun _ => ?_) (fun _ => ?_)
  · refine g_rb gs_56 4 (cd' := gb_56_21) rfl rfl ?_
    refine g_iconst ok (v := (-1)) rfl ?_
    exact g_ireturn ok rfl rfl (rfl)
  · refine g_rb gs_56 1 (cd' := gb_56_4) rfl rfl ?_
    refine g_iload_n ok rfl ?_
    refine g_aload_n ok rfl rfl ?_
    refine g_geti ok rfl rfl ?_
    refine g_ic_ge ok rfl (fun _ => ?_) (fun _ => ?_)
    · refine g_rb gs_56 2 (cd' := gb_56_12) rfl rfl ?_
      refine g_iload_n ok rfl ?_
      refine g_if_lt ok rfl (fun _ => ?_) (fun _ => ?_)
      · refine g_rb gs_56 4 (cd' := gb_56_21) rfl rfl ?_
        refine g_iconst ok (v := (-1)) rfl ?_
        exact g_ireturn ok rfl rfl (rfl)
      · refine g_rb gs_56 3 (cd' := gb_56_16) rfl rfl ?_
        refine g_iload_n ok rfl ?_
        refine g_iconst ok (v := 4) rfl ?_
        refine g_ic_lt ok rfl (fun _ => ?_) (fun _ => ?_)
        · refine g_rb gs_56 5 (cd' := gb_56_23) rfl rfl ?_
          refine g_aload_n ok rfl rfl ?_
          refine g_getr ok 2036 rfl rfl rfl ?_
          refine g_aload_n ok rfl rfl ?_
          refine g_geti ok rfl rfl ?_
          refine g_iconst ok (v := 1) rfl ?_
          refine g_isub ok ?_
          refine g_iload_n ok rfl ?_
          refine g_isub ok ?_
          refine g_iconst ok (v := 4) rfl ?_
          refine g_imul ok ?_
          refine g_iload_n ok rfl ?_
          refine g_iadd ok ?_
          refine g_iaload ok (n := 240) rfl rfl (fun _ _ => ?_)
          exact g_ireturn ok rfl rfl (rfl)
        · refine g_rb gs_56 4 (cd' := gb_56_21) rfl rfl ?_
          refine g_iconst ok (v := (-1)) rfl ?_
          exact g_ireturn ok rfl rfl (rfl)
    · refine g_rb gs_56 4 (cd' := gb_56_21) rfl rfl ?_
      refine g_iconst ok (v := (-1)) rfl ?_
      exact g_ireturn ok rfl rfl (rfl)
-- X6_rowsOf
theorem tb_57_60 {X : gX} (ok : gOK X) (hX : gHX X) (d : Nat) {k5 : (Nat × Int × Int × Int × Int × gS) ⊕ gO → Option gO} (hl5 : ∀ y : (Nat × Int × Int × Int × Int × gS), Go X em_57 57 d 5 [] [(0, (22, 0, y.1)), (1, (0, y.2.1, 0)), (2, (0, y.2.2.1, 0)), (3, (0, y.2.2.2.1, 0)), (4, (0, y.2.2.2.2.1, 0))] [] y.2.2.2.2.2 0 0 (some (Sum.inl y)) k5) (hr5 : ∀ q, k5 (Sum.inr q) = some q) (x0 : Nat) (x1 : Int) (x2 : Int) (x3 : Int) (x4 : Int) (s : gS) : Go X em_57 57 d 60 [] [(0, (22, 0, x0)), (1, (0, x1, 0)), (2, (0, x2, 0)), (3, (0, x3, 0)), (4, (0, x4, 0))] [] s 0 0 (fb_57_60 x0 x1 x2 x3 x4 s) k5 := by
  delta fb_57_60
  refine g_rb gs_57 8 (cd' := gb_57_60) rfl rfl ?_
  refine g_iinc ok rfl rfl (L' := [(0, (22, 0, x0)), (1, (0, x1, 0)), (2, (0, x2, 0)), (3, (0, (g32 (x3 + 1)), 0)), (4, (0, x4, 0))]) rfl ?_
  refine g_rb gs_57 9 (cd' := gb_57_63) rfl rfl ?_
  refine g_iinc ok rfl rfl (L' := [(0, (22, 0, x0)), (1, (0, x1, 0)), (2, (0, x2, 0)), (3, (0, (g32 (x3 + 1)), 0)), (4, (0, (g32 (x4 + 1)), 0))]) rfl ?_
  refine g_goto ok rfl ?_
  exact g_wk ok [(0, (22, 0, x0)), (1, (0, x1, 0)), (2, (0, x2, 0)), (3, (0, (g32 (x3 + 1)), 0)), (4, (0, (g32 (x4 + 1)), 0))] ⟨rfl, rfl, rfl, rfl, rfl, trivial⟩ (hl5 (x0, x1, x2, (g32 (x3 + 1)), (g32 (x4 + 1)), s))
theorem tb_57_34 {X : gX} (ok : gOK X) (hX : gHX X) (d : Nat) {k5 : (Nat × Int × Int × Int × Int × gS) ⊕ gO → Option gO} (hl5 : ∀ y : (Nat × Int × Int × Int × Int × gS), Go X em_57 57 d 5 [] [(0, (22, 0, y.1)), (1, (0, y.2.1, 0)), (2, (0, y.2.2.1, 0)), (3, (0, y.2.2.2.1, 0)), (4, (0, y.2.2.2.2.1, 0))] [] y.2.2.2.2.2 0 0 (some (Sum.inl y)) k5) (hr5 : ∀ q, k5 (Sum.inr q) = some q) (x0 : Nat) (x1 : Int) (x2 : Int) (x3 : Int) (x4 : Int) (w0 : Int) (s : gS) : Go X em_57 57 d 34 [] [(0, (22, 0, x0)), (1, (0, x1, 0)), (2, (0, x2, 0)), (3, (0, x3, 0)), (4, (0, x4, 0))] [(0, w0, 0)] s 0 0 (fb_57_34 x0 x1 x2 x3 x4 w0 s) k5 := by
  delta fb_57_34
  refine g_rb gs_57 5 (cd' := gb_57_34) rfl rfl ?_
  refine g_istore ok rfl (L' := [(0, (22, 0, x0)), (1, (0, x1, 0)), (2, (0, x2, 0)), (3, (0, x3, 0)), (4, (0, x4, 0)), (5, (0, w0, 0))]) rfl ?_
  refine g_iload ok rfl ?_
  refine g_if_eq ok rfl (fun _ => ?_) (fun _ => ?_)
  · refine g_rb gs_57 9 (cd' := gb_57_63) rfl rfl ?_
    refine g_iinc ok rfl rfl (L' := [(0, (22, 0, x0)), (1, (0, x1, 0)), (2, (0, x2, 0)), (3, (0, x3, 0)), (4, (0, (g32 (x4 + 1)), 0)), (5, (0, w0, 0))]) rfl ?_
    refine g_goto ok rfl ?_
    exact g_wk ok [(0, (22, 0, x0)), (1, (0, x1, 0)), (2, (0, x2, 0)), (3, (0, x3, 0)), (4, (0, (g32 (x4 + 1)), 0))] ⟨rfl, rfl, rfl, rfl, rfl, trivial⟩ (hl5 (x0, x1, x2, x3, (g32 (x4 + 1)), s))
  · refine g_rb gs_57 6 (cd' := gb_57_41) rfl rfl ?_
    refine g_iload_n ok rfl ?_
    refine g_if_eq ok rfl (fun _ => ?_) (fun _ => ?_)
    · exact g_wk ok [(0, (22, 0, x0)), (1, (0, x1, 0)), (2, (0, x2, 0)), (3, (0, x3, 0)), (4, (0, x4, 0))] ⟨rfl, rfl, rfl, rfl, rfl, trivial⟩ (tb_57_60 ok hX d hl5 hr5 x0 x1 x2 x3 x4 s)
    · refine g_rb gs_57 7 (cd' := gb_57_45) rfl rfl ?_
      refine g_aload_n ok rfl rfl ?_
      refine g_getr ok 2036 rfl rfl rfl ?_
      refine g_iload ok rfl ?_
      refine g_iconst ok (v := 4) rfl ?_
      refine g_imul ok ?_
      refine g_iconst ok (v := 2) rfl ?_
      refine g_iadd ok ?_
      refine g_iaload ok (n := 240) rfl rfl (fun _ _ => ?_)
      refine g_iconst ok (v := 2) rfl ?_
      refine g_ic_ne ok rfl (fun _ => ?_) (fun _ => ?_)
      · exact g_wk ok [(0, (22, 0, x0)), (1, (0, x1, 0)), (2, (0, x2, 0)), (3, (0, x3, 0)), (4, (0, x4, 0))] ⟨rfl, rfl, rfl, rfl, rfl, trivial⟩ (tb_57_60 ok hX d hl5 hr5 x0 x1 x2 x3 x4 s)
      · refine g_rb gs_57 9 (cd' := gb_57_63) rfl rfl ?_
        refine g_iinc ok rfl rfl (L' := [(0, (22, 0, x0)), (1, (0, x1, 0)), (2, (0, x2, 0)), (3, (0, x3, 0)), (4, (0, (g32 (x4 + 1)), 0)), (5, (0, w0, 0))]) rfl ?_
        refine g_goto ok rfl ?_
        exact g_wk ok [(0, (22, 0, x0)), (1, (0, x1, 0)), (2, (0, x2, 0)), (3, (0, x3, 0)), (4, (0, (g32 (x4 + 1)), 0))] ⟨rfl, rfl, rfl, rfl, rfl, trivial⟩ (hl5 (x0, x1, x2, x3, (g32 (x4 + 1)), s))
theorem ts_57_5 {X : gX} (ok : gOK X) (hX : gHX X) (d : Nat) {k5 : (Nat × Int × Int × Int × Int × gS) ⊕ gO → Option gO} (hl5 : ∀ y : (Nat × Int × Int × Int × Int × gS), Go X em_57 57 d 5 [] [(0, (22, 0, y.1)), (1, (0, y.2.1, 0)), (2, (0, y.2.2.1, 0)), (3, (0, y.2.2.2.1, 0)), (4, (0, y.2.2.2.2.1, 0))] [] y.2.2.2.2.2 0 0 (some (Sum.inl y)) k5) (hr5 : ∀ q, k5 (Sum.inr q) = some q) (x0 : Nat) (x1 : Int) (x2 : Int) (x3 : Int) (x4 : Int) (s : gS) : Go X em_57 57 d 5 [] [(0, (22, 0, x0)), (1, (0, x1, 0)), (2, (0, x2, 0)), (3, (0, x3, 0)), (4, (0, x4, 0))] [] s 0 0 (sb_57_5 x0 x1 x2 x3 x4 s) k5 := by
  delta sb_57_5
  refine g_rb gs_57 1 (cd' := gb_57_5) rfl rfl ?_
  refine g_iload ok rfl ?_
  refine g_aload_n ok rfl rfl ?_
  refine g_geti ok rfl rfl ?_
  refine g_ic_ge ok rfl (fun _ => ?_) (fun _ => ?_)
  · refine g_rb gs_57 2 (cd' := gb_57_14) rfl rfl ?_
    refine g_aload_n ok rfl rfl ?_
    refine g_getr ok 2036 rfl rfl rfl ?_
    refine g_iload ok rfl ?_
    refine g_iconst ok (v := 4) rfl ?_
    refine g_imul ok ?_
    refine g_iconst ok (v := 1) rfl ?_
    refine g_iadd ok ?_
    refine g_iaload ok (n := 240) rfl rfl (fun _ _ => ?_)
    refine g_iload_n ok rfl ?_
    refine g_ic_ne ok rfl (fun _ => ?_) (fun _ => ?_)
    · refine g_rb gs_57 3 (cd' := gb_57_29) rfl rfl ?_
      refine g_iconst ok (v := 1) rfl ?_
      refine g_goto ok rfl ?_
      exact g_wk ok [(0, (22, 0, x0)), (1, (0, x1, 0)), (2, (0, x2, 0)), (3, (0, x3, 0)), (4, (0, x4, 0))] ⟨rfl, rfl, rfl, rfl, rfl, trivial⟩ (tb_57_34 ok hX d hl5 hr5 x0 x1 x2 x3 x4 1 s)
    · refine g_rb gs_57 4 (cd' := gb_57_33) rfl rfl ?_
      refine g_iconst ok (v := 0) rfl ?_
      exact g_wk ok [(0, (22, 0, x0)), (1, (0, x1, 0)), (2, (0, x2, 0)), (3, (0, x3, 0)), (4, (0, x4, 0))] ⟨rfl, rfl, rfl, rfl, rfl, trivial⟩ (tb_57_34 ok hX d hl5 hr5 x0 x1 x2 x3 x4 0 s)
  · refine g_map hr5 ?_
    refine g_rb gs_57 10 (cd' := gb_57_69) rfl rfl ?_
    refine g_iload_n ok rfl ?_
    exact g_ireturn ok rfl rfl (rfl)
theorem tl_57_5 {X : gX} (ok : gOK X) (hX : gHX X) (d : Nat)  (y : (Nat × Int × Int × Int × Int × gS)) : Go X em_57 57 d 5 [] [(0, (22, 0, y.1)), (1, (0, y.2.1, 0)), (2, (0, y.2.2.1, 0)), (3, (0, y.2.2.2.1, 0)), (4, (0, y.2.2.2.2.1, 0))] [] y.2.2.2.2.2 0 0 (gloop (st_57_5) y) some :=
  g_loop (Lh := fun y => [(0, (22, 0, y.1)), (1, (0, y.2.1, 0)), (2, (0, y.2.2.1, 0)), (3, (0, y.2.2.2.1, 0)), (4, (0, y.2.2.2.2.1, 0))]) (sh := fun y => y.2.2.2.2.2) (fun k5 hl5 hr5 y => ts_57_5 ok hX d  hl5 hr5 y.1 y.2.1 y.2.2.1 y.2.2.2.1 y.2.2.2.2.1 y.2.2.2.2.2) y
theorem t_57 {X : gX} (ok : gOK X) (hX : gHX X) (d : Nat) (a0 : Nat) (a1 : Int) (a2 : Int) (s : gS) : Go X em_57 57 d 0 [] [(0, (22, 0, a0)), (1, (0, a1, 0)), (2, (0, a2, 0))] [] s 0 0 (f_57 a0 a1 a2 s) some := by
  delta f_57
  refine g_rb gs_57 0 (cd' := gb_57_0) rfl rfl ?_
  refine g_iconst ok (v := 0) rfl ?_
  refine g_istore_n ok rfl (L' := [(0, (22, 0, a0)), (1, (0, a1, 0)), (2, (0, a2, 0)), (3, (0, 0, 0))]) rfl ?_
  refine g_iconst ok (v := 0) rfl ?_
  refine g_istore ok rfl (L' := [(0, (22, 0, a0)), (1, (0, a1, 0)), (2, (0, a2, 0)), (3, (0, 0, 0)), (4, (0, 0, 0))]) rfl ?_
  exact g_wk ok [(0, (22, 0, a0)), (1, (0, a1, 0)), (2, (0, a2, 0)), (3, (0, 0, 0)), (4, (0, 0, 0))] ⟨rfl, rfl, rfl, rfl, rfl, trivial⟩ (tl_57_5 ok hX d  (a0, a1, a2, 0, 0, s))
-- J7_fill_53178
theorem ts_273_5 {X : gX} (ok : gOK X) (hX : gHX X) (d : Nat) {k5 : (Nat × Int × Int × Int × gS) ⊕ gO → Option gO} (hl5 : ∀ y : (Nat × Int × Int × Int × gS), Go X em_273 273 d 5 [] [(0, (3700, 0, y.1)), (1, (0, y.2.1, 0)), (2, (0, y.2.2.1, 0)), (3, (0, y.2.2.2.1, 0))] [] y.2.2.2.2 0 0 (some (Sum.inl y)) k5) (hr5 : ∀ q, k5 (Sum.inr q) = some q) (x0 : Nat) (x1 : Int) (x2 : Int) (x3 : Int) (s : gS) : Go X em_273 273 d 5 [] [(0, (3700, 0, x0)), (1, (0, x1, 0)), (2, (0, x2, 0)), (3, (0, x3, 0))] [] s 0 0 (sb_273_5 x0 x1 x2 x3 s) k5 := by
  delta sb_273_5
  refine g_rb gs_273 1 (cd' := gb_273_5) rfl rfl ?_
  refine g_iload_n ok rfl ?_
  refine g_iload_n ok rfl ?_
  refine g_ic_ge ok rfl (fun _ => ?_) (fun _ => ?_)
  · refine g_rb gs_273 2 (cd' := gb_273_10) rfl rfl ?_
    refine g_aload_n ok rfl rfl ?_
    refine g_iload_n ok rfl ?_
    refine g_iload_n ok rfl ?_
    refine g_iastore ok (n := 448) rfl rfl (fun _ _ => ?_)
    let s1 : gS := gw s x0 (x2 : Int).toNat x1
    refine g_iinc ok rfl rfl (L' := [(0, (3700, 0, x0)), (1, (0, x1, 0)), (2, (0, (g32 (x2 + 1)), 0)), (3, (0, x3, 0))]) rfl ?_
    refine g_goto ok rfl ?_
    exact g_wk ok [(0, (3700, 0, x0)), (1, (0, x1, 0)), (2, (0, (g32 (x2 + 1)), 0)), (3, (0, x3, 0))] ⟨rfl, rfl, rfl, rfl, trivial⟩ (hl5 (x0, x1, (g32 (x2 + 1)), x3, s1))
  · refine g_map hr5 ?_
    refine g_rb gs_273 3 (cd' := gb_273_20) rfl rfl ?_
    exact g_return ok rfl rfl (rfl)
theorem tl_273_5 {X : gX} (ok : gOK X) (hX : gHX X) (d : Nat)  (y : (Nat × Int × Int × Int × gS)) : Go X em_273 273 d 5 [] [(0, (3700, 0, y.1)), (1, (0, y.2.1, 0)), (2, (0, y.2.2.1, 0)), (3, (0, y.2.2.2.1, 0))] [] y.2.2.2.2 0 0 (gloop (st_273_5) y) some :=
  g_loop (Lh := fun y => [(0, (3700, 0, y.1)), (1, (0, y.2.1, 0)), (2, (0, y.2.2.1, 0)), (3, (0, y.2.2.2.1, 0))]) (sh := fun y => y.2.2.2.2) (fun k5 hl5 hr5 y => ts_273_5 ok hX d  hl5 hr5 y.1 y.2.1 y.2.2.1 y.2.2.2.1 y.2.2.2.2) y
theorem t_273 {X : gX} (ok : gOK X) (hX : gHX X) (d : Nat) (a0 : Nat) (a1 : Int) (s : gS) : Go X em_273 273 d 0 [] [(0, (3700, 0, a0)), (1, (0, a1, 0))] [] s 0 0 (f_273 a0 a1 s) some := by
  delta f_273
  refine g_rb gs_273 0 (cd' := gb_273_0) rfl rfl ?_
  refine g_iconst ok (v := 0) rfl ?_
  refine g_istore_n ok rfl (L' := [(0, (3700, 0, a0)), (1, (0, a1, 0)), (2, (0, 0, 0))]) rfl ?_
  refine g_aload_n ok rfl rfl ?_
  refine g_alen ok (n := 448) (t := 0) (by decide) rfl (N := 448) rfl ?_
  refine g_istore_n ok rfl (L' := [(0, (3700, 0, a0)), (1, (0, a1, 0)), (2, (0, 0, 0)), (3, (0, 448, 0))]) rfl ?_
  exact g_wk ok [(0, (3700, 0, a0)), (1, (0, a1, 0)), (2, (0, 0, 0)), (3, (0, 448, 0))] ⟨rfl, rfl, rfl, rfl, trivial⟩ (tl_273_5 ok hX d  (a0, a1, 0, 448, s))
-- X8_given
theorem t_64 {X : gX} (ok : gOK X) (hX : gHX X) (d : Nat) (a0 : Nat) (a1 : Int) (a2 : Int) (a3 : Int) (s : gS) : Go X em_64 64 d 0 [] [(0, (24, 0, a0)), (1, (0, a1, 0)), (2, (0, a2, 0)), (3, (0, a3, 0))] [] s 0 0 (f_64 a0 a1 a2 a3 s) some := by
  delta f_64
  refine g_rb gs_64 0 (cd' := gb_64_0) rfl rfl ?_
  refine g_iload_n ok rfl ?_
  refine g_iconst ok (v := 1) rfl ?_
  refine g_iadd ok ?_
  refine g_bipush ok (v := 64) rfl ?_
  refine g_imul ok ?_
  let v1 : Int := (g32 ((g32 (a1 + 1)) * 64))
  refine g_istore ok rfl (L' := [(0, (24, 0, a0)), (1, (0, a1, 0)), (2, (0, a2, 0)), (3, (0, a3, 0)), (4, (0, v1, 0))]) rfl ?_
  refine g_iload_n ok rfl ?_
  refine g_iconst ok (v := (-1)) rfl ?_
  refine g_ic_ne ok rfl (fun _ => ?_) (fun _ => ?_)
  · refine g_rb gs_64 1 (cd' := gb_64_13) rfl rfl ?_
    refine g_aload_n ok rfl rfl ?_
    refine g_getr ok 3700 rfl rfl rfl ?_
    refine g_iload ok rfl ?_
    refine g_iload_n ok rfl ?_
    refine g_iadd ok ?_
    refine g_iaload ok (n := 448) rfl rfl (fun _ _ => ?_)
    exact g_ireturn ok rfl rfl (rfl)
  · refine g_rb gs_64 2 (cd' := gb_64_23) rfl rfl ?_
    refine g_aload_n ok rfl rfl ?_
    refine g_getr ok 18 rfl rfl rfl ?_
    refine g_getr ok 168 rfl rfl rfl ?_
    refine g_iload_n ok rfl ?_
    refine g_aaload4 ok (n := 6) rfl rfl (fun _ _ => ?_)
    let v2 : Nat := (gR s (gR s (gR s a0 0) 0) (a3 : Int).toNat)
    refine g_astore ok rfl rfl (L' := [(0, (24, 0, a0)), (1, (0, a1, 0)), (2, (0, a2, 0)), (3, (0, a3, 0)), (4, (0, v1, 0)), (5, (23, 0, v2))]) rfl ?_
    refine g_aload ok rfl rfl ?_
    refine g_geti ok rfl rfl ?_
    refine g_if_ne ok rfl (fun _ => ?_) (fun _ => ?_)
    · refine g_rb gs_64 3 (cd' := gb_64_42) rfl rfl ?_
      refine g_iload_n ok rfl ?_
      refine g_iload_n ok rfl ?_
      refine g_ishr ok ?_
      refine g_iconst ok (v := 1) rfl ?_
      refine g_iand ok ?_
      refine g_if_eq ok rfl (fun _ => ?_) (fun _ => ?_)
      · refine g_rb gs_64 5 (cd' := gb_64_52) rfl rfl ?_
        refine g_aload_n ok rfl rfl ?_
        refine g_getr ok 18 rfl rfl rfl ?_
        refine g_getr ok 164 rfl rfl rfl ?_
        refine g_iload_n ok rfl ?_
        refine g_iaload ok (n := 6) rfl rfl (fun _ _ => ?_)
        refine g_aload ok rfl rfl ?_
        refine g_geti ok rfl rfl ?_
        refine g_iconst ok (v := 3) rfl ?_
        refine g_imul ok ?_
        refine g_min ok rfl ?_
        refine g_aload_n ok rfl rfl ?_
        refine g_getr ok 3700 rfl rfl rfl ?_
        refine g_iload ok rfl ?_
        refine g_iload_n ok rfl ?_
        refine g_iconst ok (v := 1) rfl ?_
        refine g_iload_n ok rfl ?_
        refine g_ishl ok ?_
        refine g_ior ok ?_
        refine g_iadd ok ?_
        refine g_iaload ok (n := 448) rfl rfl (fun _ _ => ?_)
        refine g_iadd ok ?_
        exact g_ireturn ok rfl rfl (rfl)
      · refine g_rb gs_64 4 (cd' := gb_64_50) rfl rfl ?_
        refine g_iconst ok (v := (-1)) rfl ?_
        exact g_ireturn ok rfl rfl (rfl)
    · refine g_rb gs_64 4 (cd' := gb_64_50) rfl rfl ?_
      refine g_iconst ok (v := (-1)) rfl ?_
      exact g_ireturn ok rfl rfl (rfl)
-- X8_weigh
theorem ts_63_48 {X : gX} (ok : gOK X) (hX : gHX X) (d : Nat) {k18 : (Nat × Int × gS) ⊕ gO → Option gO} (hl18 : ∀ y : (Nat × Int × gS), Go X em_63 63 (d + 1) 18 [] [(0, (24, 0, y.1)), (1, (0, y.2.1, 0))] [] y.2.2 0 0 (some (Sum.inl y)) k18) (hr18 : ∀ q, k18 (Sum.inr q) = some q) {k24 : (Nat × Int × Int × gS) ⊕ ((Nat × Int × gS) ⊕ gO) → Option gO} (hl24 : ∀ y : (Nat × Int × Int × gS), Go X em_63 63 (d + 1) 24 [] [(0, (24, 0, y.1)), (1, (0, y.2.1, 0)), (2, (0, y.2.2.1, 0))] [] y.2.2.2 0 0 (some (Sum.inl y)) k24) (hr24 : ∀ q, k24 (Sum.inr q) = k18 q) {k48 : (Nat × Int × Int × Int × Int × gS) ⊕ ((Nat × Int × Int × gS) ⊕ ((Nat × Int × gS) ⊕ gO)) → Option gO} (hl48 : ∀ y : (Nat × Int × Int × Int × Int × gS), Go X em_63 63 (d + 1) 48 [] [(0, (24, 0, y.1)), (1, (0, y.2.1, 0)), (2, (0, y.2.2.1, 0)), (3, (0, y.2.2.2.1, 0)), (4, (0, y.2.2.2.2.1, 0))] [] y.2.2.2.2.2 0 0 (some (Sum.inl y)) k48) (hr48 : ∀ q, k48 (Sum.inr q) = k24 q) (x0 : Nat) (x1 : Int) (x2 : Int) (x3 : Int) (x4 : Int) (s : gS) : Go X em_63 63 (d + 1) 48 [] [(0, (24, 0, x0)), (1, (0, x1, 0)), (2, (0, x2, 0)), (3, (0, x3, 0)), (4, (0, x4, 0))] [] s 0 0 (sb_63_48 x0 x1 x2 x3 x4 s) k48 := by
  delta sb_63_48
  refine g_rb gs_63 5 (cd' := gb_63_48) rfl rfl ?_
  refine g_iload ok rfl ?_
  refine g_aload_n ok rfl rfl ?_
  refine g_getr ok 18 rfl rfl rfl ?_
  refine g_geti ok rfl rfl ?_
  refine g_ic_ge ok rfl (fun _ => ?_) (fun _ => ?_)
  · refine g_rb gs_63 6 (cd' := gb_63_60) rfl rfl ?_
    refine g_iload_n ok rfl ?_
    refine g_aload_n ok rfl rfl ?_
    refine g_iload_n ok rfl ?_
    refine g_iload_n ok rfl ?_
    refine g_iload ok rfl ?_
    refine g_cv1 ok (me_64 hX) rfl rfl rfl rfl (t_64 ok hX _ x0 x1 x2 x4 s) (fun v7 s6 => ?_)
    refine g_max ok rfl ?_
    refine g_istore_n ok rfl (L' := [(0, (24, 0, x0)), (1, (0, x1, 0)), (2, (0, x2, 0)), (3, (0, (max x3 v7), 0)), (4, (0, x4, 0))]) rfl ?_
    refine g_iinc ok rfl rfl (L' := [(0, (24, 0, x0)), (1, (0, x1, 0)), (2, (0, x2, 0)), (3, (0, (max x3 v7), 0)), (4, (0, (g32 (x4 + 1)), 0))]) rfl ?_
    refine g_goto ok rfl ?_
    exact g_wk ok [(0, (24, 0, x0)), (1, (0, x1, 0)), (2, (0, x2, 0)), (3, (0, (max x3 v7), 0)), (4, (0, (g32 (x4 + 1)), 0))] ⟨rfl, rfl, rfl, rfl, rfl, trivial⟩ (hl48 (x0, x1, x2, (max x3 v7), (g32 (x4 + 1)), s6))
  · refine g_map hr48 ?_
    refine g_rb gs_63 7 (cd' := gb_63_79) rfl rfl ?_
    refine g_aload_n ok rfl rfl ?_
    refine g_getr ok 3700 rfl rfl rfl ?_
    refine g_iload_n ok rfl ?_
    refine g_bipush ok (v := 64) rfl ?_
    refine g_imul ok ?_
    refine g_iload_n ok rfl ?_
    refine g_iadd ok ?_
    refine g_iload_n ok rfl ?_
    refine g_iastore ok (n := 448) rfl rfl (fun _ _ => ?_)
    let s8 : gS := gw s (gR s x0 1) ((g32 ((g32 (x1 * 64)) + x2)) : Int).toNat x3
    refine g_iinc ok rfl rfl (L' := [(0, (24, 0, x0)), (1, (0, x1, 0)), (2, (0, (g32 (x2 + 1)), 0)), (3, (0, x3, 0)), (4, (0, x4, 0))]) rfl ?_
    refine g_goto ok rfl ?_
    exact g_wk ok [(0, (24, 0, x0)), (1, (0, x1, 0)), (2, (0, (g32 (x2 + 1)), 0))] ⟨rfl, rfl, rfl, trivial⟩ (hl24 (x0, x1, (g32 (x2 + 1)), s8))
theorem tl_63_48 {X : gX} (ok : gOK X) (hX : gHX X) (d : Nat) {k18 : (Nat × Int × gS) ⊕ gO → Option gO} (hl18 : ∀ y : (Nat × Int × gS), Go X em_63 63 (d + 1) 18 [] [(0, (24, 0, y.1)), (1, (0, y.2.1, 0))] [] y.2.2 0 0 (some (Sum.inl y)) k18) (hr18 : ∀ q, k18 (Sum.inr q) = some q) {k24 : (Nat × Int × Int × gS) ⊕ ((Nat × Int × gS) ⊕ gO) → Option gO} (hl24 : ∀ y : (Nat × Int × Int × gS), Go X em_63 63 (d + 1) 24 [] [(0, (24, 0, y.1)), (1, (0, y.2.1, 0)), (2, (0, y.2.2.1, 0))] [] y.2.2.2 0 0 (some (Sum.inl y)) k24) (hr24 : ∀ q, k24 (Sum.inr q) = k18 q) (y : (Nat × Int × Int × Int × Int × gS)) : Go X em_63 63 (d + 1) 48 [] [(0, (24, 0, y.1)), (1, (0, y.2.1, 0)), (2, (0, y.2.2.1, 0)), (3, (0, y.2.2.2.1, 0)), (4, (0, y.2.2.2.2.1, 0))] [] y.2.2.2.2.2 0 0 (gloop (st_63_48) y) k24 :=
  g_loop (Lh := fun y => [(0, (24, 0, y.1)), (1, (0, y.2.1, 0)), (2, (0, y.2.2.1, 0)), (3, (0, y.2.2.2.1, 0)), (4, (0, y.2.2.2.2.1, 0))]) (sh := fun y => y.2.2.2.2.2) (fun k48 hl48 hr48 y => ts_63_48 ok hX d hl18 hr18 hl24 hr24 hl48 hr48 y.1 y.2.1 y.2.2.1 y.2.2.2.1 y.2.2.2.2.1 y.2.2.2.2.2) y
theorem ts_63_24 {X : gX} (ok : gOK X) (hX : gHX X) (d : Nat) {k18 : (Nat × Int × gS) ⊕ gO → Option gO} (hl18 : ∀ y : (Nat × Int × gS), Go X em_63 63 (d + 1) 18 [] [(0, (24, 0, y.1)), (1, (0, y.2.1, 0))] [] y.2.2 0 0 (some (Sum.inl y)) k18) (hr18 : ∀ q, k18 (Sum.inr q) = some q) {k24 : (Nat × Int × Int × gS) ⊕ ((Nat × Int × gS) ⊕ gO) → Option gO} (hl24 : ∀ y : (Nat × Int × Int × gS), Go X em_63 63 (d + 1) 24 [] [(0, (24, 0, y.1)), (1, (0, y.2.1, 0)), (2, (0, y.2.2.1, 0))] [] y.2.2.2 0 0 (some (Sum.inl y)) k24) (hr24 : ∀ q, k24 (Sum.inr q) = k18 q) (x0 : Nat) (x1 : Int) (x2 : Int) (s : gS) : Go X em_63 63 (d + 1) 24 [] [(0, (24, 0, x0)), (1, (0, x1, 0)), (2, (0, x2, 0))] [] s 0 0 (sb_63_24 x0 x1 x2 s) k24 := by
  delta sb_63_24
  refine g_rb gs_63 3 (cd' := gb_63_24) rfl rfl ?_
  refine g_iload_n ok rfl ?_
  refine g_iconst ok (v := 1) rfl ?_
  refine g_aload_n ok rfl rfl ?_
  refine g_getr ok 18 rfl rfl rfl ?_
  refine g_geti ok rfl rfl ?_
  refine g_ishl ok ?_
  refine g_ic_ge ok rfl (fun _ => ?_) (fun _ => ?_)
  · refine g_rb gs_63 4 (cd' := gb_63_37) rfl rfl ?_
    refine g_aload_n ok rfl rfl ?_
    refine g_iload_n ok rfl ?_
    refine g_iload_n ok rfl ?_
    refine g_iconst ok (v := (-1)) rfl ?_
    refine g_cv1 ok (me_64 hX) rfl rfl rfl rfl (t_64 ok hX _ x0 x1 x2 (-1) s) (fun v5 s4 => ?_)
    refine g_istore_n ok rfl (L' := [(0, (24, 0, x0)), (1, (0, x1, 0)), (2, (0, x2, 0)), (3, (0, v5, 0))]) rfl ?_
    refine g_iconst ok (v := 0) rfl ?_
    refine g_istore ok rfl (L' := [(0, (24, 0, x0)), (1, (0, x1, 0)), (2, (0, x2, 0)), (3, (0, v5, 0)), (4, (0, 0, 0))]) rfl ?_
    exact g_wk ok [(0, (24, 0, x0)), (1, (0, x1, 0)), (2, (0, x2, 0)), (3, (0, v5, 0)), (4, (0, 0, 0))] ⟨rfl, rfl, rfl, rfl, rfl, trivial⟩ (tl_63_48 ok hX d hl18 hr18 hl24 hr24 (x0, x1, x2, v5, 0, s4))
  · refine g_map hr24 ?_
    refine g_rb gs_63 8 (cd' := gb_63_97) rfl rfl ?_
    refine g_iinc ok rfl rfl (L' := [(0, (24, 0, x0)), (1, (0, (g32 (x1 + (-1))), 0)), (2, (0, x2, 0))]) rfl ?_
    refine g_goto ok rfl ?_
    exact g_wk ok [(0, (24, 0, x0)), (1, (0, (g32 (x1 + (-1))), 0))] ⟨rfl, rfl, trivial⟩ (hl18 (x0, (g32 (x1 + (-1))), s))
theorem tl_63_24 {X : gX} (ok : gOK X) (hX : gHX X) (d : Nat) {k18 : (Nat × Int × gS) ⊕ gO → Option gO} (hl18 : ∀ y : (Nat × Int × gS), Go X em_63 63 (d + 1) 18 [] [(0, (24, 0, y.1)), (1, (0, y.2.1, 0))] [] y.2.2 0 0 (some (Sum.inl y)) k18) (hr18 : ∀ q, k18 (Sum.inr q) = some q) (y : (Nat × Int × Int × gS)) : Go X em_63 63 (d + 1) 24 [] [(0, (24, 0, y.1)), (1, (0, y.2.1, 0)), (2, (0, y.2.2.1, 0))] [] y.2.2.2 0 0 (gloop (st_63_24) y) k18 :=
  g_loop (Lh := fun y => [(0, (24, 0, y.1)), (1, (0, y.2.1, 0)), (2, (0, y.2.2.1, 0))]) (sh := fun y => y.2.2.2) (fun k24 hl24 hr24 y => ts_63_24 ok hX d hl18 hr18 hl24 hr24 y.1 y.2.1 y.2.2.1 y.2.2.2) y
theorem ts_63_18 {X : gX} (ok : gOK X) (hX : gHX X) (d : Nat) {k18 : (Nat × Int × gS) ⊕ gO → Option gO} (hl18 : ∀ y : (Nat × Int × gS), Go X em_63 63 (d + 1) 18 [] [(0, (24, 0, y.1)), (1, (0, y.2.1, 0))] [] y.2.2 0 0 (some (Sum.inl y)) k18) (hr18 : ∀ q, k18 (Sum.inr q) = some q) (x0 : Nat) (x1 : Int) (s : gS) : Go X em_63 63 (d + 1) 18 [] [(0, (24, 0, x0)), (1, (0, x1, 0))] [] s 0 0 (sb_63_18 x0 x1 s) k18 := by
  delta sb_63_18
  refine g_rb gs_63 1 (cd' := gb_63_18) rfl rfl ?_
  refine g_iload_n ok rfl ?_
  refine g_if_lt ok rfl (fun _ => ?_) (fun _ => ?_)
  · refine g_map hr18 ?_
    refine g_rb gs_63 9 (cd' := gb_63_103) rfl rfl ?_
    exact g_return ok rfl rfl (rfl)
  · refine g_rb gs_63 2 (cd' := gb_63_22) rfl rfl ?_
    refine g_iconst ok (v := 0) rfl ?_
    refine g_istore_n ok rfl (L' := [(0, (24, 0, x0)), (1, (0, x1, 0)), (2, (0, 0, 0))]) rfl ?_
    exact g_wk ok [(0, (24, 0, x0)), (1, (0, x1, 0)), (2, (0, 0, 0))] ⟨rfl, rfl, rfl, trivial⟩ (tl_63_24 ok hX d hl18 hr18 (x0, x1, 0, s))
theorem tl_63_18 {X : gX} (ok : gOK X) (hX : gHX X) (d : Nat)  (y : (Nat × Int × gS)) : Go X em_63 63 (d + 1) 18 [] [(0, (24, 0, y.1)), (1, (0, y.2.1, 0))] [] y.2.2 0 0 (gloop (st_63_18) y) some :=
  g_loop (Lh := fun y => [(0, (24, 0, y.1)), (1, (0, y.2.1, 0))]) (sh := fun y => y.2.2) (fun k18 hl18 hr18 y => ts_63_18 ok hX d  hl18 hr18 y.1 y.2.1 y.2.2) y
theorem t_63 {X : gX} (ok : gOK X) (hX : gHX X) (d : Nat) (a0 : Nat) (s : gS) : Go X em_63 63 (d + 1) 0 [] [(0, (24, 0, a0))] [] s 0 0 (f_63 a0 s) some := by
  delta f_63
  refine g_rb gs_63 0 (cd' := gb_63_0) rfl rfl ?_
  refine g_aload_n ok rfl rfl ?_
  refine g_getr ok 3700 rfl rfl rfl ?_
  refine g_iconst ok (v := 0) rfl ?_
  refine g_cs0 ok (me_273 hX) rfl rfl (t_273 ok hX _ (gR s a0 1) 0 s) (fun s1 => ?_)
  refine g_aload_n ok rfl rfl ?_
  refine g_getr ok 18 rfl rfl rfl ?_
  refine g_geti ok rfl rfl ?_
  refine g_iconst ok (v := 1) rfl ?_
  refine g_isub ok ?_
  let v3 : Int := (g32 ((gI s1 (gR s1 a0 0) 5) - 1))
  refine g_istore_n ok rfl (L' := [(0, (24, 0, a0)), (1, (0, v3, 0))]) rfl ?_
  exact g_wk ok [(0, (24, 0, a0)), (1, (0, v3, 0))] ⟨rfl, rfl, trivial⟩ (tl_63_18 ok hX d  (a0, v3, s1))
