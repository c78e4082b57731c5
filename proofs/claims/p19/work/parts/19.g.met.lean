-- X12_plain
theorem tb_190_73 {X : gX} (ok : gOK X) (hX : gHX X) (d : Nat)  (x0 : Nat) (x1 : Int) (x2 : Int) (s : gS) : Go X em_190 190 (d + 7) 73 [] [(0, (28, 0, x0)), (1, (0, x1, 0)), (2, (0, x2, 0))] [] s 0 0 (fb_190_73 x0 x1 x2 s) some := by
  delta fb_190_73
  refine g_rb gs_190 9 (cd' := gb_190_73) rfl rfl ?_
  refine g_aload_n ok rfl rfl ?_
  refine g_dup ok rfl ?_
  refine g_geti ok rfl rfl ?_
  refine g_iconst ok (v := 1) rfl ?_
  refine g_iadd ok ?_
  refine g_puti ok rfl rfl rfl ?_
  let s17 : gS := gw s x0 11 (g32 ((gI s x0 11) + 1))
  refine g_aload_n ok rfl rfl ?_
  refine g_cv1 ok (me_189 hX) rfl rfl rfl rfl (t_189 ok hX _ x0 s17) (fun v19 s18 => ?_)
  refine g_istore_n ok rfl (L' := [(0, (28, 0, x0)), (1, (0, x1, 0)), (2, (0, x2, 0)), (3, (0, v19, 0))]) rfl ?_
  refine g_iload_n ok rfl ?_
  refine g_if_eq ok rfl (fun _ => ?_) (fun _ => ?_)
  · refine g_rb gs_190 13 (cd' := gb_190_105) rfl rfl ?_
    refine g_iload_n ok rfl ?_
    refine g_iload_n ok rfl ?_
    refine g_ic_le ok rfl (fun _ => ?_) (fun _ => ?_)
    · refine g_rb gs_190 14 (cd' := gb_190_110) rfl rfl ?_
      refine g_iconst ok (v := 1) rfl ?_
      refine g_goto ok rfl ?_
      refine g_rb gs_190 16 (cd' := gb_190_115) rfl rfl ?_
      exact g_zreturn ok rfl (Or.inr rfl) rfl (rfl)
    · refine g_rb gs_190 15 (cd' := gb_190_114) rfl rfl ?_
      refine g_iconst ok (v := 0) rfl ?_
      refine g_rb gs_190 16 (cd' := gb_190_115) rfl rfl ?_
      exact g_zreturn ok rfl (Or.inl rfl) rfl (rfl)
  · refine g_rb gs_190 10 (cd' := gb_190_92) rfl rfl ?_
    refine g_iload_n ok rfl ?_
    refine g_iload_n ok rfl ?_
    refine g_ic_ge ok rfl (fun _ => ?_) (fun _ => ?_)
    · refine g_rb gs_190 11 (cd' := gb_190_97) rfl rfl ?_
      refine g_iconst ok (v := 1) rfl ?_
      refine g_goto ok rfl ?_
      refine g_rb gs_190 16 (cd' := gb_190_115) rfl rfl ?_
      exact g_zreturn ok rfl (Or.inr rfl) rfl (rfl)
    · refine g_rb gs_190 12 (cd' := gb_190_101) rfl rfl ?_
      refine g_iconst ok (v := 0) rfl ?_
      refine g_goto ok rfl ?_
      refine g_rb gs_190 16 (cd' := gb_190_115) rfl rfl ?_
      exact g_zreturn ok rfl (Or.inl rfl) rfl (rfl)
theorem t_190 {X : gX} (ok : gOK X) (hX : gHX X) (d : Nat) (a0 : Nat) (s : gS) : Go X em_190 190 (d + 7) 0 [] [(0, (28, 0, a0))] [] s 0 0 (f_190 a0 s) some := by
  delta f_190
  refine g_rb gs_190 0 (cd' := gb_190_0) rfl rfl ?_
  refine g_aload_n ok rfl rfl ?_
  refine g_ldcs ok rfl ?_
  refine g_cvz ok (me_171 hX) rfl rfl rfl rfl (t_171 ok hX _ a0 62 s) (fun v2 s1 hb3 => ?_)
  refine g_if_eq ok rfl (fun _ => ?_) (fun _ => ?_)
  · refine g_rb gs_190 2 (cd' := gb_190_14) rfl rfl ?_
    refine g_aload_n ok rfl rfl ?_
    refine g_ldcs ok rfl ?_
    refine g_cvz ok (me_171 hX) rfl rfl rfl rfl (t_171 ok hX _ a0 63 s1) (fun v5 s4 hb6 => ?_)
    refine g_if_eq ok rfl (fun _ => ?_) (fun _ => ?_)
    · refine g_rb gs_190 4 (cd' := gb_190_28) rfl rfl ?_
      refine g_aload_n ok rfl rfl ?_
      refine g_cv1 ok (me_189 hX) rfl rfl rfl rfl (t_189 ok hX _ a0 s4) (fun v8 s7 => ?_)
      refine g_istore_n ok rfl (L' := [(0, (28, 0, a0)), (1, (0, v8, 0))]) rfl ?_
      refine g_aload_n ok rfl rfl ?_
      refine g_geti ok rfl rfl ?_
      refine g_iconst ok (v := (-1)) rfl ?_
      refine g_ic_eq ok rfl (fun _ => ?_) (fun _ => ?_)
      · refine g_rb gs_190 6 (cd' := gb_190_43) rfl rfl ?_
        refine g_aload_n ok rfl rfl ?_
        refine g_bipush ok (v := 60) rfl ?_
        refine g_cvz ok (me_170 hX) rfl rfl rfl rfl (t_170 ok hX _ a0 60 s7) (fun v10 s9 hb11 => ?_)
        refine g_istore_n ok rfl (L' := [(0, (28, 0, a0)), (1, (0, v8, 0)), (2, (0, v10, 0))]) rfl ?_
        refine g_iload_n ok rfl ?_
        refine g_if_ne ok rfl (fun _ => ?_) (fun _ => ?_)
        · refine g_rb gs_190 7 (cd' := gb_190_54) rfl rfl ?_
          refine g_aload_n ok rfl rfl ?_
          refine g_bipush ok (v := 62) rfl ?_
          refine g_cvz ok (me_170 hX) rfl rfl rfl rfl (t_170 ok hX _ a0 62 s9) (fun v13 s12 hb14 => ?_)
          refine g_if_ne ok rfl (fun _ => ?_) (fun _ => ?_)
          · refine g_rb gs_190 8 (cd' := gb_190_63) rfl rfl ?_
            refine g_aload_n ok rfl rfl ?_
            refine g_aload_n ok rfl rfl ?_
            refine g_geti ok rfl rfl ?_
            refine g_cv0 ok (me_172 hX) rfl rfl rfl (t_172 ok hX _ a0 (gI s12 a0 11) s12) (fun s15 => ?_)
            refine g_iconst ok (v := 0) rfl ?_
            exact g_zreturn ok rfl (Or.inl rfl) rfl (rfl)
          · exact g_wk ok [(0, (28, 0, a0)), (1, (0, v8, 0)), (2, (0, v10, 0))] ⟨rfl, rfl, rfl, trivial⟩ (tb_190_73 ok hX d  a0 v8 v10 s12)
        · exact g_wk ok [(0, (28, 0, a0)), (1, (0, v8, 0)), (2, (0, v10, 0))] ⟨rfl, rfl, rfl, trivial⟩ (tb_190_73 ok hX d  a0 v8 v10 s9)
      · refine g_rb gs_190 5 (cd' := gb_190_41) rfl rfl ?_
        refine g_iconst ok (v := 0) rfl ?_
        exact g_zreturn ok rfl (Or.inl rfl) rfl (rfl)
    · refine g_rb gs_190 3 (cd' := gb_190_23) rfl rfl ?_
      refine g_aload_n ok rfl rfl ?_
      refine g_geti ok rfl rfl ?_
      exact g_zreturnb ok rfl rfl (rfl)
  · refine g_rb gs_190 1 (cd' := gb_190_9) rfl rfl ?_
    refine g_aload_n ok rfl rfl ?_
    refine g_geti ok rfl rfl ?_
    exact g_zreturnb ok rfl rfl (rfl)
-- X12_atom+X12_every+X12_some
theorem tb_191_138 {X : gX} (ok : gOK X) (hX : gHX X) (d : Nat) {r_191 : Nat → gS → Option gO} (hrc_191 : ∀ (a0 : Nat) (s : gS), Go X em_191 191 (d + 7) 0 [] [(0, (28, 0, a0))] [] s 0 0 (r_191 a0 s) some) {r_193 : Nat → gS → Option gO} (hrc_193 : ∀ (a0 : Nat) (s : gS), Go X em_193 193 (d + 7) 0 [] [(0, (28, 0, a0))] [] s 0 0 (r_193 a0 s) some)  (x0 : Nat) (x3 : Int) (s : gS) : Go X em_191 191 (d + 8) 138 [] [(0, (28, 0, x0)), (3, (0, x3, 0))] [] s 0 0 (fb_191_138 r_191 r_193 x0 x3 s) some := by
  delta fb_191_138
  refine g_rb gs_191 16 (cd' := gb_191_138) rfl rfl ?_
  refine g_aload_n ok rfl rfl ?_
  refine g_dup ok rfl ?_
  refine g_geti ok rfl rfl ?_
  refine g_iconst ok (v := 1) rfl ?_
  refine g_isub ok ?_
  refine g_puti ok rfl rfl rfl ?_
  let s25 : gS := gw s x0 13 (g32 ((gI s x0 13) - 1))
  refine g_iload_n ok rfl ?_
  exact g_zreturnb ok rfl rfl (rfl)
theorem tb_191_128 {X : gX} (ok : gOK X) (hX : gHX X) (d : Nat) {r_191 : Nat → gS → Option gO} (hrc_191 : ∀ (a0 : Nat) (s : gS), Go X em_191 191 (d + 7) 0 [] [(0, (28, 0, a0))] [] s 0 0 (r_191 a0 s) some) {r_193 : Nat → gS → Option gO} (hrc_193 : ∀ (a0 : Nat) (s : gS), Go X em_193 193 (d + 7) 0 [] [(0, (28, 0, a0))] [] s 0 0 (r_193 a0 s) some)  (x0 : Nat) (x3 : Int) (s : gS) : Go X em_191 191 (d + 8) 128 [] [(0, (28, 0, x0)), (3, (0, x3, 0))] [] s 0 0 (fb_191_128 r_191 r_193 x0 x3 s) some := by
  delta fb_191_128
  refine g_rb gs_191 15 (cd' := gb_191_128) rfl rfl ?_
  refine g_aload_n ok rfl rfl ?_
  refine g_dup ok rfl ?_
  refine g_geti ok rfl rfl ?_
  refine g_iconst ok (v := 1) rfl ?_
  refine g_iadd ok ?_
  refine g_puti ok rfl rfl rfl ?_
  let s24 : gS := gw s x0 11 (g32 ((gI s x0 11) + 1))
  exact g_wk ok [(0, (28, 0, x0)), (3, (0, x3, 0))] ⟨rfl, rfl, trivial⟩ (tb_191_138 ok hX d hrc_191 hrc_193  x0 x3 s24)
theorem tb_191_40 {X : gX} (ok : gOK X) (hX : gHX X) (d : Nat) {r_191 : Nat → gS → Option gO} (hrc_191 : ∀ (a0 : Nat) (s : gS), Go X em_191 191 (d + 7) 0 [] [(0, (28, 0, a0))] [] s 0 0 (r_191 a0 s) some) {r_193 : Nat → gS → Option gO} (hrc_193 : ∀ (a0 : Nat) (s : gS), Go X em_193 193 (d + 7) 0 [] [(0, (28, 0, a0))] [] s 0 0 (r_193 a0 s) some)  (x0 : Nat) (x1 : Int) (x2 : Int) (s : gS) : Go X em_191 191 (d + 8) 40 [] [(0, (28, 0, x0)), (1, (0, x1, 0)), (2, (0, x2, 0))] [] s 0 0 (fb_191_40 r_191 r_193 x0 x1 x2 s) some := by
  delta fb_191_40
  refine g_rb gs_191 5 (cd' := gb_191_40) rfl rfl ?_
  refine g_aload_n ok rfl rfl ?_
  refine g_geti ok rfl rfl ?_
  refine g_bipush ok (v := 6) rfl ?_
  refine g_ic_ne ok rfl (fun _ => ?_) (fun _ => ?_)
  · refine g_rb gs_191 6 (cd' := gb_191_49) rfl rfl ?_
    refine g_aload_n ok rfl rfl ?_
    refine g_iload_n ok rfl ?_
    refine g_cv0 ok (me_172 hX) rfl rfl rfl (t_172 ok hX _ x0 x1 s) (fun s12 => ?_)
    refine g_iconst ok (v := 0) rfl ?_
    exact g_zreturn ok rfl (Or.inl rfl) rfl (rfl)
  · refine g_rb gs_191 7 (cd' := gb_191_56) rfl rfl ?_
    refine g_aload_n ok rfl rfl ?_
    refine g_dup ok rfl ?_
    refine g_geti ok rfl rfl ?_
    refine g_iconst ok (v := 1) rfl ?_
    refine g_iadd ok ?_
    refine g_puti ok rfl rfl rfl ?_
    let s14 : gS := gw s x0 13 (g32 ((gI s x0 13) + 1))
    refine g_iconst ok (v := 0) rfl ?_
    refine g_istore_n ok rfl (L' := [(0, (28, 0, x0)), (1, (0, x1, 0)), (2, (0, x2, 0)), (3, (0, 0, 0))]) rfl ?_
    refine g_iload_n ok rfl ?_
    refine g_if_eq ok rfl (fun _ => ?_) (fun _ => ?_)
    · refine g_rb gs_191 12 (cd' := gb_191_88) rfl rfl ?_
      refine g_aload_n ok rfl rfl ?_
      refine g_dup ok rfl ?_
      refine g_geti ok rfl rfl ?_
      refine g_iconst ok (v := 1) rfl ?_
      refine g_iadd ok ?_
      refine g_puti ok rfl rfl rfl ?_
      let s15 : gS := gw s14 x0 11 (g32 ((gI s14 x0 11) + 1))
      refine g_aload_n ok rfl rfl ?_
      refine g_cvz ok (me_193 hX) rfl rfl rfl rfl (hrc_193 x0 s15) (fun v17 s16 hb18 => ?_)
      refine g_istore_n ok rfl (L' := [(0, (28, 0, x0)), (1, (0, x1, 0)), (2, (0, x2, 0)), (3, (0, v17, 0))]) rfl ?_
      refine g_aload_n ok rfl rfl ?_
      refine g_geti ok rfl rfl ?_
      refine g_iconst ok (v := (-1)) rfl ?_
      refine g_ic_ne ok rfl (fun _ => ?_) (fun _ => ?_)
      · refine g_rb gs_191 13 (cd' := gb_191_111) rfl rfl ?_
        refine g_aload_n ok rfl rfl ?_
        refine g_bipush ok (v := 41) rfl ?_
        refine g_cvz ok (me_170 hX) rfl rfl rfl rfl (t_170 ok hX _ x0 41 s16) (fun v20 s19 hb21 => ?_)
        refine g_if_ne ok rfl (fun _ => ?_) (fun _ => ?_)
        · refine g_rb gs_191 14 (cd' := gb_191_120) rfl rfl ?_
          refine g_aload_n ok rfl rfl ?_
          refine g_aload_n ok rfl rfl ?_
          refine g_geti ok rfl rfl ?_
          refine g_cv0 ok (me_172 hX) rfl rfl rfl (t_172 ok hX _ x0 (gI s19 x0 11) s19) (fun s22 => ?_)
          exact g_wk ok [(0, (28, 0, x0)), (3, (0, v17, 0))] ⟨rfl, rfl, trivial⟩ (tb_191_128 ok hX d hrc_191 hrc_193  x0 v17 s22)
        · exact g_wk ok [(0, (28, 0, x0)), (3, (0, v17, 0))] ⟨rfl, rfl, trivial⟩ (tb_191_128 ok hX d hrc_191 hrc_193  x0 v17 s19)
      · exact g_wk ok [(0, (28, 0, x0)), (3, (0, v17, 0))] ⟨rfl, rfl, trivial⟩ (tb_191_128 ok hX d hrc_191 hrc_193  x0 v17 s16)
    · refine g_rb gs_191 8 (cd' := gb_191_72) rfl rfl ?_
      refine g_aload_n ok rfl rfl ?_
      refine g_cvz ok (me_191 hX) rfl rfl rfl rfl (hrc_191 x0 s14) (fun v27 s26 hb28 => ?_)
      refine g_if_ne ok rfl (fun _ => ?_) (fun _ => ?_)
      · refine g_rb gs_191 9 (cd' := gb_191_79) rfl rfl ?_
        refine g_iconst ok (v := 1) rfl ?_
        refine g_goto ok rfl ?_
        refine g_rb gs_191 11 (cd' := gb_191_84) rfl rfl ?_
        refine g_istore_n ok rfl (L' := [(0, (28, 0, x0)), (1, (0, x1, 0)), (2, (0, x2, 0)), (3, (0, 1, 0))]) rfl ?_
        refine g_goto ok rfl ?_
        exact g_wk ok [(0, (28, 0, x0)), (3, (0, 1, 0))] ⟨rfl, rfl, trivial⟩ (tb_191_138 ok hX d hrc_191 hrc_193  x0 1 s26)
      · refine g_rb gs_191 10 (cd' := gb_191_83) rfl rfl ?_
        refine g_iconst ok (v := 0) rfl ?_
        refine g_rb gs_191 11 (cd' := gb_191_84) rfl rfl ?_
        refine g_istore_n ok rfl (L' := [(0, (28, 0, x0)), (1, (0, x1, 0)), (2, (0, x2, 0)), (3, (0, 0, 0))]) rfl ?_
        refine g_goto ok rfl ?_
        exact g_wk ok [(0, (28, 0, x0)), (3, (0, 0, 0))] ⟨rfl, rfl, trivial⟩ (tb_191_138 ok hX d hrc_191 hrc_193  x0 0 s26)
theorem to_191 {X : gX} (ok : gOK X) (hX : gHX X) (d : Nat) {r_191 : Nat → gS → Option gO} (hrc_191 : ∀ (a0 : Nat) (s : gS), Go X em_191 191 (d + 7) 0 [] [(0, (28, 0, a0))] [] s 0 0 (r_191 a0 s) some) {r_193 : Nat → gS → Option gO} (hrc_193 : ∀ (a0 : Nat) (s : gS), Go X em_193 193 (d + 7) 0 [] [(0, (28, 0, a0))] [] s 0 0 (r_193 a0 s) some) (a0 : Nat) (s : gS) : Go X em_191 191 (d + 8) 0 [] [(0, (28, 0, a0))] [] s 0 0 (fo_191 r_191 r_193 a0 s) some := by
  delta fo_191
  refine g_rb gs_191 0 (cd' := gb_191_0) rfl rfl ?_
  refine g_aload_n ok rfl rfl ?_
  refine g_geti ok rfl rfl ?_
  refine g_iconst ok (v := (-1)) rfl ?_
  refine g_ic_eq ok rfl (fun _ => ?_) (fun _ => ?_)
  · refine g_rb gs_191 2 (cd' := gb_191_10) rfl rfl ?_
    refine g_aload_n ok rfl rfl ?_
    refine g_cv1 ok (me_173 hX) rfl rfl rfl rfl (t_173 ok hX _ a0 s) (fun v2 s1 => ?_)
    refine g_istore_n ok rfl (L' := [(0, (28, 0, a0)), (1, (0, v2, 0))]) rfl ?_
    refine g_aload_n ok rfl rfl ?_
    refine g_ldcs ok rfl ?_
    refine g_cvz ok (me_171 hX) rfl rfl rfl rfl (t_171 ok hX _ a0 64 s1) (fun v4 s3 hb5 => ?_)
    refine g_istore_n ok rfl (L' := [(0, (28, 0, a0)), (1, (0, v2, 0)), (2, (0, v4, 0))]) rfl ?_
    refine g_iload_n ok rfl ?_
    refine g_if_ne ok rfl (fun _ => ?_) (fun _ => ?_)
    · refine g_rb gs_191 3 (cd' := gb_191_26) rfl rfl ?_
      refine g_aload_n ok rfl rfl ?_
      refine g_bipush ok (v := 40) rfl ?_
      refine g_cvz ok (me_170 hX) rfl rfl rfl rfl (t_170 ok hX _ a0 40 s3) (fun v7 s6 hb8 => ?_)
      refine g_if_ne ok rfl (fun _ => ?_) (fun _ => ?_)
      · refine g_rb gs_191 4 (cd' := gb_191_35) rfl rfl ?_
        refine g_aload_n ok rfl rfl ?_
        refine g_cvz ok (me_190 hX) rfl rfl rfl rfl (t_190 ok hX _ a0 s6) (fun v10 s9 hb11 => ?_)
        exact g_zreturn ok rfl hb11 rfl (rfl)
      · exact g_wk ok [(0, (28, 0, a0)), (1, (0, v2, 0)), (2, (0, v4, 0))] ⟨rfl, rfl, rfl, trivial⟩ (tb_191_40 ok hX d hrc_191 hrc_193  a0 v2 v4 s6)
    · exact g_wk ok [(0, (28, 0, a0)), (1, (0, v2, 0)), (2, (0, v4, 0))] ⟨rfl, rfl, rfl, trivial⟩ (tb_191_40 ok hX d hrc_191 hrc_193  a0 v2 v4 s3)
  · refine g_rb gs_191 1 (cd' := gb_191_8) rfl rfl ?_
    refine g_iconst ok (v := 0) rfl ?_
    exact g_zreturn ok rfl (Or.inl rfl) rfl (rfl)
theorem tb_192_39 {X : gX} (ok : gOK X) (hX : gHX X) (d : Nat) {r_191 : Nat → gS → Option gO} (hrc_191 : ∀ (a0 : Nat) (s : gS), Go X em_191 191 (d + 7) 0 [] [(0, (28, 0, a0))] [] s 0 0 (r_191 a0 s) some) {k5 : (Nat × Int × gS) ⊕ gO → Option gO} (hl5 : ∀ y : (Nat × Int × gS), Go X em_192 192 (d + 8) 5 [] [(0, (28, 0, y.1)), (1, (0, y.2.1, 0))] [] y.2.2 0 0 (some (Sum.inl y)) k5) (hr5 : ∀ q, k5 (Sum.inr q) = some q) (x0 : Nat) (s : gS) : Go X em_192 192 (d + 8) 39 [] [(0, (28, 0, x0))] [] s 0 0 (fb_192_39 r_191 x0 s) k5 := by
  delta fb_192_39
  refine g_rb gs_192 6 (cd' := gb_192_39) rfl rfl ?_
  refine g_iconst ok (v := 0) rfl ?_
  refine g_rb gs_192 7 (cd' := gb_192_40) rfl rfl ?_
  refine g_istore_n ok rfl (L' := [(0, (28, 0, x0)), (1, (0, 0, 0))]) rfl ?_
  refine g_goto ok rfl ?_
  exact g_wk ok [(0, (28, 0, x0)), (1, (0, 0, 0))] ⟨rfl, rfl, trivial⟩ (hl5 (x0, 0, s))
theorem ts_192_5 {X : gX} (ok : gOK X) (hX : gHX X) (d : Nat) {r_191 : Nat → gS → Option gO} (hrc_191 : ∀ (a0 : Nat) (s : gS), Go X em_191 191 (d + 7) 0 [] [(0, (28, 0, a0))] [] s 0 0 (r_191 a0 s) some) {k5 : (Nat × Int × gS) ⊕ gO → Option gO} (hl5 : ∀ y : (Nat × Int × gS), Go X em_192 192 (d + 8) 5 [] [(0, (28, 0, y.1)), (1, (0, y.2.1, 0))] [] y.2.2 0 0 (some (Sum.inl y)) k5) (hr5 : ∀ q, k5 (Sum.inr q) = some q) (x0 : Nat) (x1 : Int) (s : gS) : Go X em_192 192 (d + 8) 5 [] [(0, (28, 0, x0)), (1, (0, x1, 0))] [] s 0 0 (sb_192_5 r_191 x0 x1 s) k5 := by
  delta sb_192_5
  refine g_rb gs_192 1 (cd' := gb_192_5) rfl rfl ?_
  refine g_aload_n ok rfl rfl ?_
  refine g_geti ok rfl rfl ?_
  refine g_iconst ok (v := (-1)) rfl ?_
  refine g_ic_ne ok rfl (fun _ => ?_) (fun _ => ?_)
  · refine g_rb gs_192 2 (cd' := gb_192_13) rfl rfl ?_
    refine g_aload_n ok rfl rfl ?_
    refine g_ldcs ok rfl ?_
    refine g_cvz ok (me_171 hX) rfl rfl rfl rfl (t_171 ok hX _ x0 65 s) (fun v5 s4 hb6 => ?_)
    refine g_if_eq ok rfl (fun _ => ?_) (fun _ => ?_)
    · refine g_map hr5 ?_
      refine g_rb gs_192 8 (cd' := gb_192_44) rfl rfl ?_
      refine g_iload_n ok rfl ?_
      exact g_zreturnb ok rfl rfl (rfl)
    · refine g_rb gs_192 3 (cd' := gb_192_22) rfl rfl ?_
      refine g_aload_n ok rfl rfl ?_
      refine g_cvz ok (me_191 hX) rfl rfl rfl rfl (hrc_191 x0 s4) (fun v8 s7 hb9 => ?_)
      refine g_istore_n ok rfl (L' := [(0, (28, 0, x0)), (1, (0, x1, 0)), (2, (0, v8, 0))]) rfl ?_
      refine g_iload_n ok rfl ?_
      refine g_if_eq ok rfl (fun _ => ?_) (fun _ => ?_)
      · exact g_wk ok [(0, (28, 0, x0))] ⟨rfl, trivial⟩ (tb_192_39 ok hX d hrc_191 hl5 hr5 x0 s7)
      · refine g_rb gs_192 4 (cd' := gb_192_31) rfl rfl ?_
        refine g_iload_n ok rfl ?_
        refine g_if_eq ok rfl (fun _ => ?_) (fun _ => ?_)
        · exact g_wk ok [(0, (28, 0, x0))] ⟨rfl, trivial⟩ (tb_192_39 ok hX d hrc_191 hl5 hr5 x0 s7)
        · refine g_rb gs_192 5 (cd' := gb_192_35) rfl rfl ?_
          refine g_iconst ok (v := 1) rfl ?_
          refine g_goto ok rfl ?_
          refine g_rb gs_192 7 (cd' := gb_192_40) rfl rfl ?_
          refine g_istore_n ok rfl (L' := [(0, (28, 0, x0)), (1, (0, 1, 0)), (2, (0, v8, 0))]) rfl ?_
          refine g_goto ok rfl ?_
          exact g_wk ok [(0, (28, 0, x0)), (1, (0, 1, 0))] ⟨rfl, rfl, trivial⟩ (hl5 (x0, 1, s7))
  · refine g_map hr5 ?_
    refine g_rb gs_192 8 (cd' := gb_192_44) rfl rfl ?_
    refine g_iload_n ok rfl ?_
    exact g_zreturnb ok rfl rfl (rfl)
theorem tl_192_5 {X : gX} (ok : gOK X) (hX : gHX X) (d : Nat) {r_191 : Nat → gS → Option gO} (hrc_191 : ∀ (a0 : Nat) (s : gS), Go X em_191 191 (d + 7) 0 [] [(0, (28, 0, a0))] [] s 0 0 (r_191 a0 s) some)  (y : (Nat × Int × gS)) : Go X em_192 192 (d + 8) 5 [] [(0, (28, 0, y.1)), (1, (0, y.2.1, 0))] [] y.2.2 0 0 (gloop (st_192_5 r_191) y) some :=
  g_loop (Lh := fun y => [(0, (28, 0, y.1)), (1, (0, y.2.1, 0))]) (sh := fun y => y.2.2) (fun k5 hl5 hr5 y => ts_192_5 ok hX d hrc_191  hl5 hr5 y.1 y.2.1 y.2.2) y
theorem to_192 {X : gX} (ok : gOK X) (hX : gHX X) (d : Nat) {r_191 : Nat → gS → Option gO} (hrc_191 : ∀ (a0 : Nat) (s : gS), Go X em_191 191 (d + 7) 0 [] [(0, (28, 0, a0))] [] s 0 0 (r_191 a0 s) some) (a0 : Nat) (s : gS) : Go X em_192 192 (d + 8) 0 [] [(0, (28, 0, a0))] [] s 0 0 (fo_192 r_191 a0 s) some := by
  delta fo_192
  refine g_rb gs_192 0 (cd' := gb_192_0) rfl rfl ?_
  refine g_aload_n ok rfl rfl ?_
  refine g_cvz ok (me_191 hX) rfl rfl rfl rfl (hrc_191 a0 s) (fun v2 s1 hb3 => ?_)
  refine g_istore_n ok rfl (L' := [(0, (28, 0, a0)), (1, (0, v2, 0))]) rfl ?_
  exact g_wk ok [(0, (28, 0, a0)), (1, (0, v2, 0))] ⟨rfl, rfl, trivial⟩ (tl_192_5 ok hX d hrc_191  (a0, v2, s1))
theorem ts_193_5 {X : gX} (ok : gOK X) (hX : gHX X) (d : Nat) {r_192 : Nat → gS → Option gO} (hrc_192 : ∀ (a0 : Nat) (s : gS), Go X em_192 192 (d + 7) 0 [] [(0, (28, 0, a0))] [] s 0 0 (r_192 a0 s) some) {k5 : (Nat × Int × gS) ⊕ gO → Option gO} (hl5 : ∀ y : (Nat × Int × gS), Go X em_193 193 (d + 8) 5 [] [(0, (28, 0, y.1)), (1, (0, y.2.1, 0))] [] y.2.2 0 0 (some (Sum.inl y)) k5) (hr5 : ∀ q, k5 (Sum.inr q) = some q) (x0 : Nat) (x1 : Int) (s : gS) : Go X em_193 193 (d + 8) 5 [] [(0, (28, 0, x0)), (1, (0, x1, 0))] [] s 0 0 (sb_193_5 r_192 x0 x1 s) k5 := by
  delta sb_193_5
  refine g_rb gs_193 1 (cd' := gb_193_5) rfl rfl ?_
  refine g_aload_n ok rfl rfl ?_
  refine g_geti ok rfl rfl ?_
  refine g_iconst ok (v := (-1)) rfl ?_
  refine g_ic_ne ok rfl (fun _ => ?_) (fun _ => ?_)
  · refine g_rb gs_193 2 (cd' := gb_193_13) rfl rfl ?_
    refine g_aload_n ok rfl rfl ?_
    refine g_ldcs ok rfl ?_
    refine g_cvz ok (me_171 hX) rfl rfl rfl rfl (t_171 ok hX _ x0 66 s) (fun v5 s4 hb6 => ?_)
    refine g_if_eq ok rfl (fun _ => ?_) (fun _ => ?_)
    · refine g_map hr5 ?_
      refine g_rb gs_193 8 (cd' := gb_193_44) rfl rfl ?_
      refine g_iload_n ok rfl ?_
      exact g_zreturnb ok rfl rfl (rfl)
    · refine g_rb gs_193 3 (cd' := gb_193_22) rfl rfl ?_
      refine g_aload_n ok rfl rfl ?_
      refine g_cvz ok (me_192 hX) rfl rfl rfl rfl (hrc_192 x0 s4) (fun v8 s7 hb9 => ?_)
      refine g_istore_n ok rfl (L' := [(0, (28, 0, x0)), (1, (0, x1, 0)), (2, (0, v8, 0))]) rfl ?_
      refine g_iload_n ok rfl ?_
      refine g_if_ne ok rfl (fun _ => ?_) (fun _ => ?_)
      · refine g_rb gs_193 4 (cd' := gb_193_31) rfl rfl ?_
        refine g_iload_n ok rfl ?_
        refine g_if_eq ok rfl (fun _ => ?_) (fun _ => ?_)
        · refine g_rb gs_193 6 (cd' := gb_193_39) rfl rfl ?_
          refine g_iconst ok (v := 0) rfl ?_
          refine g_rb gs_193 7 (cd' := gb_193_40) rfl rfl ?_
          refine g_istore_n ok rfl (L' := [(0, (28, 0, x0)), (1, (0, 0, 0)), (2, (0, v8, 0))]) rfl ?_
          refine g_goto ok rfl ?_
          exact g_wk ok [(0, (28, 0, x0)), (1, (0, 0, 0))] ⟨rfl, rfl, trivial⟩ (hl5 (x0, 0, s7))
        · refine g_rb gs_193 5 (cd' := gb_193_35) rfl rfl ?_
          refine g_iconst ok (v := 1) rfl ?_
          refine g_goto ok rfl ?_
          refine g_rb gs_193 7 (cd' := gb_193_40) rfl rfl ?_
          refine g_istore_n ok rfl (L' := [(0, (28, 0, x0)), (1, (0, 1, 0)), (2, (0, v8, 0))]) rfl ?_
          refine g_goto ok rfl ?_
          exact g_wk ok [(0, (28, 0, x0)), (1, (0, 1, 0))] ⟨rfl, rfl, trivial⟩ (hl5 (x0, 1, s7))
      · refine g_rb gs_193 5 (cd' := gb_193_35) rfl rfl ?_
        refine g_iconst ok (v := 1) rfl ?_
        refine g_goto ok rfl ?_
        refine g_rb gs_193 7 (cd' := gb_193_40) rfl rfl ?_
        refine g_istore_n ok rfl (L' := [(0, (28, 0, x0)), (1, (0, 1, 0)), (2, (0, v8, 0))]) rfl ?_
        refine g_goto ok rfl ?_
        exact g_wk ok [(0, (28, 0, x0)), (1, (0, 1, 0))] ⟨rfl, rfl, trivial⟩ (hl5 (x0, 1, s7))
  · refine g_map hr5 ?_
    refine g_rb gs_193 8 (cd' := gb_193_44) rfl rfl ?_
    refine g_iload_n ok rfl ?_
    exact g_zreturnb ok rfl rfl (rfl)
theorem tl_193_5 {X : gX} (ok : gOK X) (hX : gHX X) (d : Nat) {r_192 : Nat → gS → Option gO} (hrc_192 : ∀ (a0 : Nat) (s : gS), Go X em_192 192 (d + 7) 0 [] [(0, (28, 0, a0))] [] s 0 0 (r_192 a0 s) some)  (y : (Nat × Int × gS)) : Go X em_193 193 (d + 8) 5 [] [(0, (28, 0, y.1)), (1, (0, y.2.1, 0))] [] y.2.2 0 0 (gloop (st_193_5 r_192) y) some :=
  g_loop (Lh := fun y => [(0, (28, 0, y.1)), (1, (0, y.2.1, 0))]) (sh := fun y => y.2.2) (fun k5 hl5 hr5 y => ts_193_5 ok hX d hrc_192  hl5 hr5 y.1 y.2.1 y.2.2) y
theorem to_193 {X : gX} (ok : gOK X) (hX : gHX X) (d : Nat) {r_192 : Nat → gS → Option gO} (hrc_192 : ∀ (a0 : Nat) (s : gS), Go X em_192 192 (d + 7) 0 [] [(0, (28, 0, a0))] [] s 0 0 (r_192 a0 s) some) (a0 : Nat) (s : gS) : Go X em_193 193 (d + 8) 0 [] [(0, (28, 0, a0))] [] s 0 0 (fo_193 r_192 a0 s) some := by
  delta fo_193
  refine g_rb gs_193 0 (cd' := gb_193_0) rfl rfl ?_
  refine g_aload_n ok rfl rfl ?_
  refine g_cvz ok (me_192 hX) rfl rfl rfl rfl (hrc_192 a0 s) (fun v2 s1 hb3 => ?_)
  refine g_istore_n ok rfl (L' := [(0, (28, 0, a0)), (1, (0, v2, 0))]) rfl ?_
  exact g_wk ok [(0, (28, 0, a0)), (1, (0, v2, 0))] ⟨rfl, rfl, trivial⟩ (tl_193_5 ok hX d hrc_192  (a0, v2, s1))
theorem tr_191 {X : gX} (ok : gOK X) (hX : gHX X) (d : Nat) : ∀ n : Nat, (∀ (a0 : Nat) (s : gS), Go X em_191 191 (d + 8 + n) 0 [] [(0, (28, 0, a0))] [] s 0 0 (fn_191 n a0 s) some) ∧ (∀ (a0 : Nat) (s : gS), Go X em_192 192 (d + 8 + n) 0 [] [(0, (28, 0, a0))] [] s 0 0 (fn_192 n a0 s) some) ∧ (∀ (a0 : Nat) (s : gS), Go X em_193 193 (d + 8 + n) 0 [] [(0, (28, 0, a0))] [] s 0 0 (fn_193 n a0 s) some)
  | 0 => ⟨fun _ _ => g_none, fun _ _ => g_none, fun _ _ => g_none⟩
  | n + 1 => by
    obtain ⟨h191, h192, h193⟩ := tr_191 ok hX d n
    have e1 : d + 8 + (n + 1) = d + n + 1 + 8 := by omega
    have e2 : d + 8 + n = d + n + 1 + 7 := by omega
    rw [e2] at h191 h192 h193
    rw [e1]
    exact ⟨fun b0 b1 => to_191 ok hX (d + n + 1) h191 h193 b0 b1, fun b0 b1 => to_192 ok hX (d + n + 1) h191 b0 b1, fun b0 b1 => to_193 ok hX (d + n + 1) h192 b0 b1⟩
theorem t_193 {X : gX} (ok : gOK X) (hX : gHX X) (d : Nat) : ∀ (a0 : Nat) (s : gS), Go X em_193 193 (d + 32) 0 [] [(0, (28, 0, a0))] [] s 0 0 (f_193 a0 s) some := (tr_191 ok hX d 24).2.2
-- X12_lawLine
theorem tb_194_95 {X : gX} (ok : gOK X) (hX : gHX X) (d : Nat)  (w0 : Int) (w1 : Int) (w2 : Nat) (s : gS) : Go X em_194 194 (d + 33) 95 [] [] [(0, w0, 0), (0, w1, 0), (28, 0, w2)] s 0 0 (fb_194_95 w0 w1 w2 s) some := by
  delta fb_194_95
  refine g_rb gs_194 14 (cd' := gb_194_95) rfl rfl ?_
  refine g_iadd ok ?_
  refine g_puti ok rfl rfl rfl ?_
  let s14 : gS := gw s w2 17 (g32 (w1 + w0))
  refine g_rb gs_194 15 (cd' := gb_194_99) rfl rfl ?_
  exact g_return ok rfl rfl (rfl)
theorem tb_194_67 {X : gX} (ok : gOK X) (hX : gHX X) (d : Nat)  (x0 : Nat) (x1 : Int) (x2 : Int) (w0 : Int) (s : gS) : Go X em_194 194 (d + 33) 67 [] [(0, (28, 0, x0)), (1, (0, x1, 0)), (2, (0, x2, 0))] [(0, w0, 0)] s 0 0 (fb_194_67 x0 x1 x2 w0 s) some := by
  delta fb_194_67
  refine g_rb gs_194 9 (cd' := gb_194_67) rfl rfl ?_
  refine g_istore_n ok rfl (L' := [(0, (28, 0, x0)), (1, (0, x1, 0)), (2, (0, x2, 0)), (3, (0, w0, 0))]) rfl ?_
  refine g_aload_n ok rfl rfl ?_
  refine g_geti ok rfl rfl ?_
  refine g_iconst ok (v := (-1)) rfl ?_
  refine g_ic_ne ok rfl (fun _ => ?_) (fun _ => ?_)
  · refine g_rb gs_194 10 (cd' := gb_194_76) rfl rfl ?_
    refine g_iload_n ok rfl ?_
    refine g_if_eq ok rfl (fun _ => ?_) (fun _ => ?_)
    · refine g_rb gs_194 15 (cd' := gb_194_99) rfl rfl ?_
      exact g_return ok rfl rfl (rfl)
    · refine g_rb gs_194 11 (cd' := gb_194_80) rfl rfl ?_
      refine g_aload_n ok rfl rfl ?_
      refine g_dup ok rfl ?_
      refine g_geti ok rfl rfl ?_
      refine g_iload_n ok rfl ?_
      refine g_if_eq ok rfl (fun _ => ?_) (fun _ => ?_)
      · refine g_rb gs_194 13 (cd' := gb_194_93) rfl rfl ?_
        refine g_iload_n ok rfl ?_
        refine g_ineg ok ?_
        exact g_wk ok [] trivial (tb_194_95 ok hX d  (g32 (-x2)) (gI s x0 17) x0 s)
      · refine g_rb gs_194 12 (cd' := gb_194_89) rfl rfl ?_
        refine g_iload_n ok rfl ?_
        refine g_goto ok rfl ?_
        exact g_wk ok [] trivial (tb_194_95 ok hX d  x2 (gI s x0 17) x0 s)
  · refine g_rb gs_194 15 (cd' := gb_194_99) rfl rfl ?_
    exact g_return ok rfl rfl (rfl)
theorem tb_194_29 {X : gX} (ok : gOK X) (hX : gHX X) (d : Nat)  (x0 : Nat) (x1 : Int) (s : gS) : Go X em_194 194 (d + 33) 29 [] [(0, (28, 0, x0)), (1, (0, x1, 0))] [] s 0 0 (fb_194_29 x0 x1 s) some := by
  delta fb_194_29
  refine g_rb gs_194 3 (cd' := gb_194_29) rfl rfl ?_
  refine g_aload_n ok rfl rfl ?_
  refine g_iconst ok (v := 0) rfl ?_
  refine g_bipush ok (v := 30) rfl ?_
  refine g_cv1 ok (me_174 hX) rfl rfl rfl rfl (t_174 ok hX _ x0 0 30 s) (fun v10 s9 => ?_)
  refine g_istore_n ok rfl (L' := [(0, (28, 0, x0)), (1, (0, x1, 0)), (2, (0, v10, 0))]) rfl ?_
  refine g_aload_n ok rfl rfl ?_
  refine g_geti ok rfl rfl ?_
  refine g_iconst ok (v := (-1)) rfl ?_
  refine g_ic_eq ok rfl (fun _ => ?_) (fun _ => ?_)
  · refine g_rb gs_194 5 (cd' := gb_194_46) rfl rfl ?_
    refine g_aload_n ok rfl rfl ?_
    refine g_ldcs ok rfl ?_
    refine g_cvz ok (me_171 hX) rfl rfl rfl rfl (t_171 ok hX _ x0 69 s9) (fun v12 s11 hb13 => ?_)
    refine g_if_eq ok rfl (fun _ => ?_) (fun _ => ?_)
    · refine g_rb gs_194 7 (cd' := gb_194_62) rfl rfl ?_
      refine g_iconst ok (v := 1) rfl ?_
      refine g_goto ok rfl ?_
      exact g_wk ok [(0, (28, 0, x0)), (1, (0, x1, 0)), (2, (0, v10, 0))] ⟨rfl, rfl, rfl, trivial⟩ (tb_194_67 ok hX d  x0 x1 v10 1 s11)
    · refine g_rb gs_194 6 (cd' := gb_194_55) rfl rfl ?_
      refine g_aload_n ok rfl rfl ?_
      refine g_cvz ok (me_193 hX) rfl rfl rfl rfl (t_193 ok hX _ x0 s11) (fun v16 s15 hb17 => ?_)
      refine g_if_eq ok rfl (fun _ => ?_) (fun _ => ?_)
      · refine g_rb gs_194 8 (cd' := gb_194_66) rfl rfl ?_
        refine g_iconst ok (v := 0) rfl ?_
        exact g_wk ok [(0, (28, 0, x0)), (1, (0, x1, 0)), (2, (0, v10, 0))] ⟨rfl, rfl, rfl, trivial⟩ (tb_194_67 ok hX d  x0 x1 v10 0 s15)
      · refine g_rb gs_194 7 (cd' := gb_194_62) rfl rfl ?_
        refine g_iconst ok (v := 1) rfl ?_
        refine g_goto ok rfl ?_
        exact g_wk ok [(0, (28, 0, x0)), (1, (0, x1, 0)), (2, (0, v10, 0))] ⟨rfl, rfl, rfl, trivial⟩ (tb_194_67 ok hX d  x0 x1 v10 1 s15)
  · refine g_rb gs_194 4 (cd' := gb_194_45) rfl rfl ?_
    exact g_return ok rfl rfl (rfl)
theorem t_194 {X : gX} (ok : gOK X) (hX : gHX X) (d : Nat) (a0 : Nat) (s : gS) : Go X em_194 194 (d + 33) 0 [] [(0, (28, 0, a0))] [] s 0 0 (f_194 a0 s) some := by
  delta f_194
  refine g_rb gs_194 0 (cd' := gb_194_0) rfl rfl ?_
  refine g_aload_n ok rfl rfl ?_
  refine g_ldcs ok rfl ?_
  refine g_cvz ok (me_171 hX) rfl rfl rfl rfl (t_171 ok hX _ a0 67 s) (fun v2 s1 hb3 => ?_)
  refine g_istore_n ok rfl (L' := [(0, (28, 0, a0)), (1, (0, v2, 0))]) rfl ?_
  refine g_iload_n ok rfl ?_
  refine g_if_ne ok rfl (fun _ => ?_) (fun _ => ?_)
  · refine g_rb gs_194 1 (cd' := gb_194_11) rfl rfl ?_
    refine g_aload_n ok rfl rfl ?_
    refine g_ldcs ok rfl ?_
    refine g_cvz ok (me_171 hX) rfl rfl rfl rfl (t_171 ok hX _ a0 68 s1) (fun v5 s4 hb6 => ?_)
    refine g_if_ne ok rfl (fun _ => ?_) (fun _ => ?_)
    · refine g_rb gs_194 2 (cd' := gb_194_20) rfl rfl ?_
      refine g_aload_n ok rfl rfl ?_
      refine g_aload_n ok rfl rfl ?_
      refine g_geti ok rfl rfl ?_
      refine g_cv0 ok (me_172 hX) rfl rfl rfl (t_172 ok hX _ a0 (gI s4 a0 11) s4) (fun s7 => ?_)
      exact g_return ok rfl rfl (rfl)
    · exact g_wk ok [(0, (28, 0, a0)), (1, (0, v2, 0))] ⟨rfl, rfl, trivial⟩ (tb_194_29 ok hX d  a0 v2 s4)
  · exact g_wk ok [(0, (28, 0, a0)), (1, (0, v2, 0))] ⟨rfl, rfl, trivial⟩ (tb_194_29 ok hX d  a0 v2 s1)
-- X12_read
theorem tb_184_80 {X : gX} (ok : gOK X) (hX : gHX X) (d : Nat) {k23 : (Nat × Int × Int × Int × gS) ⊕ gO → Option gO} (hl23 : ∀ y : (Nat × Int × Int × Int × gS), Go X em_184 184 (d + 34) 23 [] [(0, (28, 0, y.1)), (1, (0, y.2.1, 0)), (2, (0, y.2.2.1, 0)), (3, (0, y.2.2.2.1, 0))] [] y.2.2.2.2 0 0 (some (Sum.inl y)) k23) (hr23 : ∀ q, k23 (Sum.inr q) = some q) (x0 : Nat) (x1 : Int) (x2 : Int) (x3 : Int) (s : gS) : Go X em_184 184 (d + 34) 80 [] [(0, (28, 0, x0)), (1, (0, x1, 0)), (2, (0, x2, 0)), (3, (0, x3, 0))] [] s 0 0 (fb_184_80 x0 x1 x2 x3 s) k23 := by
  delta fb_184_80
  refine g_rb gs_184 14 (cd' := gb_184_80) rfl rfl ?_
  refine g_iinc ok rfl rfl (L' := [(0, (28, 0, x0)), (1, (0, x1, 0)), (2, (0, x2, 0)), (3, (0, (g32 (x3 + 1)), 0))]) rfl ?_
  refine g_aload_n ok rfl rfl ?_
  refine g_cv0 ok (me_169 hX) rfl rfl rfl (t_169 ok hX _ x0 s) (fun s7 => ?_)
  refine g_aload_n ok rfl rfl ?_
  refine g_geti ok rfl rfl ?_
  refine g_iconst ok (v := (-1)) rfl ?_
  refine g_ic_ne ok rfl (fun _ => ?_) (fun _ => ?_)
  · refine g_rb gs_184 15 (cd' := gb_184_95) rfl rfl ?_
    refine g_aload_n ok rfl rfl ?_
    refine g_geti ok rfl rfl ?_
    refine g_aload_n ok rfl rfl ?_
    refine g_geti ok rfl rfl ?_
    refine g_ic_ne ok rfl (fun _ => ?_) (fun _ => ?_)
    · refine g_rb gs_184 16 (cd' := gb_184_106) rfl rfl ?_
      refine g_iconst ok (v := 0) rfl ?_
      refine g_istore_n ok rfl (L' := [(0, (28, 0, x0)), (1, (0, x1, 0)), (2, (0, 0, 0)), (3, (0, (g32 (x3 + 1)), 0))]) rfl ?_
      refine g_goto ok rfl ?_
      exact g_wk ok [(0, (28, 0, x0)), (1, (0, x1, 0)), (2, (0, 0, 0)), (3, (0, (g32 (x3 + 1)), 0))] ⟨rfl, rfl, rfl, rfl, trivial⟩ (hl23 (x0, x1, 0, (g32 (x3 + 1)), s7))
    · refine g_rb gs_184 17 (cd' := gb_184_111) rfl rfl ?_
      refine g_aload_n ok rfl rfl ?_
      refine g_bipush ok (v := 59) rfl ?_
      refine g_cvz ok (me_170 hX) rfl rfl rfl rfl (t_170 ok hX _ x0 59 s7) (fun v10 s9 hb11 => ?_)
      refine g_if_eq ok rfl (fun _ => ?_) (fun _ => ?_)
      · refine g_rb gs_184 19 (cd' := gb_184_133) rfl rfl ?_
        refine g_aload_n ok rfl rfl ?_
        refine g_aload_n ok rfl rfl ?_
        refine g_geti ok rfl rfl ?_
        refine g_cv0 ok (me_172 hX) rfl rfl rfl (t_172 ok hX _ x0 (gI s9 x0 11) s9) (fun s12 => ?_)
        refine g_goto ok rfl ?_
        exact g_wk ok [(0, (28, 0, x0)), (1, (0, x1, 0)), (2, (0, x2, 0)), (3, (0, (g32 (x3 + 1)), 0))] ⟨rfl, rfl, rfl, rfl, trivial⟩ (hl23 (x0, x1, x2, (g32 (x3 + 1)), s12))
      · refine g_rb gs_184 18 (cd' := gb_184_120) rfl rfl ?_
        refine g_aload_n ok rfl rfl ?_
        refine g_dup ok rfl ?_
        refine g_geti ok rfl rfl ?_
        refine g_iconst ok (v := 1) rfl ?_
        refine g_iadd ok ?_
        refine g_puti ok rfl rfl rfl ?_
        let s14 : gS := gw s9 x0 11 (g32 ((gI s9 x0 11) + 1))
        refine g_goto ok rfl ?_
        exact g_wk ok [(0, (28, 0, x0)), (1, (0, x1, 0)), (2, (0, x2, 0)), (3, (0, (g32 (x3 + 1)), 0))] ⟨rfl, rfl, rfl, rfl, trivial⟩ (hl23 (x0, x1, x2, (g32 (x3 + 1)), s14))
  · refine g_rb gs_184 16 (cd' := gb_184_106) rfl rfl ?_
    refine g_iconst ok (v := 0) rfl ?_
    refine g_istore_n ok rfl (L' := [(0, (28, 0, x0)), (1, (0, x1, 0)), (2, (0, 0, 0)), (3, (0, (g32 (x3 + 1)), 0))]) rfl ?_
    refine g_goto ok rfl ?_
    exact g_wk ok [(0, (28, 0, x0)), (1, (0, x1, 0)), (2, (0, 0, 0)), (3, (0, (g32 (x3 + 1)), 0))] ⟨rfl, rfl, rfl, rfl, trivial⟩ (hl23 (x0, x1, 0, (g32 (x3 + 1)), s7))
theorem tb_184_51 {X : gX} (ok : gOK X) (hX : gHX X) (d : Nat) {k23 : (Nat × Int × Int × Int × gS) ⊕ gO → Option gO} (hl23 : ∀ y : (Nat × Int × Int × Int × gS), Go X em_184 184 (d + 34) 23 [] [(0, (28, 0, y.1)), (1, (0, y.2.1, 0)), (2, (0, y.2.2.1, 0)), (3, (0, y.2.2.2.1, 0))] [] y.2.2.2.2 0 0 (some (Sum.inl y)) k23) (hr23 : ∀ q, k23 (Sum.inr q) = some q) (x0 : Nat) (x1 : Int) (x2 : Int) (x3 : Int) (w0 : Int) (w1 : Int) (s : gS) : Go X em_184 184 (d + 34) 51 [] [(0, (28, 0, x0)), (1, (0, x1, 0)), (2, (0, x2, 0)), (3, (0, x3, 0))] [(0, w0, 0), (0, w1, 0)] s 0 0 (fb_184_51 x0 x1 x2 x3 w0 w1 s) k23 := by
  delta fb_184_51
  refine g_rb gs_184 9 (cd' := gb_184_51) rfl rfl ?_
  refine g_ic_ne ok rfl (fun _ => ?_) (fun _ => ?_)
  · refine g_rb gs_184 10 (cd' := gb_184_54) rfl rfl ?_
    refine g_aload_n ok rfl rfl ?_
    refine g_aload_n ok rfl rfl ?_
    refine g_geti ok rfl rfl ?_
    refine g_cv0 ok (me_172 hX) rfl rfl rfl (t_172 ok hX _ x0 (gI s x0 11) s) (fun s5 => ?_)
    refine g_goto ok rfl ?_
    exact g_wk ok [(0, (28, 0, x0)), (1, (0, x1, 0)), (2, (0, x2, 0)), (3, (0, x3, 0))] ⟨rfl, rfl, rfl, rfl, trivial⟩ (tb_184_80 ok hX d hl23 hr23 x0 x1 x2 x3 s5)
  · refine g_rb gs_184 11 (cd' := gb_184_65) rfl rfl ?_
    refine g_iload_n ok rfl ?_
    refine g_if_eq ok rfl (fun _ => ?_) (fun _ => ?_)
    · refine g_rb gs_184 13 (cd' := gb_184_76) rfl rfl ?_
      refine g_aload_n ok rfl rfl ?_
      refine g_cv0 ok (me_182 hX) rfl rfl rfl (t_182 ok hX _ x0 s) (fun s15 => ?_)
      exact g_wk ok [(0, (28, 0, x0)), (1, (0, x1, 0)), (2, (0, x2, 0)), (3, (0, x3, 0))] ⟨rfl, rfl, rfl, rfl, trivial⟩ (tb_184_80 ok hX d hl23 hr23 x0 x1 x2 x3 s15)
    · refine g_rb gs_184 12 (cd' := gb_184_69) rfl rfl ?_
      refine g_aload_n ok rfl rfl ?_
      refine g_cv0 ok (me_194 hX) rfl rfl rfl (t_194 ok hX _ x0 s) (fun s17 => ?_)
      refine g_goto ok rfl ?_
      exact g_wk ok [(0, (28, 0, x0)), (1, (0, x1, 0)), (2, (0, x2, 0)), (3, (0, x3, 0))] ⟨rfl, rfl, rfl, rfl, trivial⟩ (tb_184_80 ok hX d hl23 hr23 x0 x1 x2 x3 s17)
theorem ts_184_23 {X : gX} (ok : gOK X) (hX : gHX X) (d : Nat) {k23 : (Nat × Int × Int × Int × gS) ⊕ gO → Option gO} (hl23 : ∀ y : (Nat × Int × Int × Int × gS), Go X em_184 184 (d + 34) 23 [] [(0, (28, 0, y.1)), (1, (0, y.2.1, 0)), (2, (0, y.2.2.1, 0)), (3, (0, y.2.2.2.1, 0))] [] y.2.2.2.2 0 0 (some (Sum.inl y)) k23) (hr23 : ∀ q, k23 (Sum.inr q) = some q) (x0 : Nat) (x1 : Int) (x2 : Int) (x3 : Int) (s : gS) : Go X em_184 184 (d + 34) 23 [] [(0, (28, 0, x0)), (1, (0, x1, 0)), (2, (0, x2, 0)), (3, (0, x3, 0))] [] s 0 0 (sb_184_23 x0 x1 x2 x3 s) k23 := by
  delta sb_184_23
  refine g_rb gs_184 4 (cd' := gb_184_23) rfl rfl ?_
  refine g_iload_n ok rfl ?_
  refine g_if_eq ok rfl (fun _ => ?_) (fun _ => ?_)
  · refine g_map hr23 ?_
    refine g_rb gs_184 20 (cd' := gb_184_144) rfl rfl ?_
    refine g_iload_n ok rfl ?_
    exact g_ireturn ok rfl rfl (rfl)
  · refine g_rb gs_184 5 (cd' := gb_184_27) rfl rfl ?_
    refine g_aload_n ok rfl rfl ?_
    refine g_geti ok rfl rfl ?_
    refine g_iconst ok (v := (-1)) rfl ?_
    refine g_ic_ne ok rfl (fun _ => ?_) (fun _ => ?_)
    · refine g_rb gs_184 6 (cd' := gb_184_35) rfl rfl ?_
      refine g_aload_n ok rfl rfl ?_
      refine g_cv0 ok (me_169 hX) rfl rfl rfl (t_169 ok hX _ x0 s) (fun s3 => ?_)
      refine g_iload_n ok rfl ?_
      refine g_iload_n ok rfl ?_
      refine g_if_eq ok rfl (fun _ => ?_) (fun _ => ?_)
      · refine g_rb gs_184 8 (cd' := gb_184_49) rfl rfl ?_
        refine g_bipush ok (v := 14) rfl ?_
        exact g_wk ok [(0, (28, 0, x0)), (1, (0, x1, 0)), (2, (0, x2, 0)), (3, (0, x3, 0))] ⟨rfl, rfl, rfl, rfl, trivial⟩ (tb_184_51 ok hX d hl23 hr23 x0 x1 x2 x3 14 x3 s3)
      · refine g_rb gs_184 7 (cd' := gb_184_44) rfl rfl ?_
        refine g_bipush ok (v := 12) rfl ?_
        refine g_goto ok rfl ?_
        exact g_wk ok [(0, (28, 0, x0)), (1, (0, x1, 0)), (2, (0, x2, 0)), (3, (0, x3, 0))] ⟨rfl, rfl, rfl, rfl, trivial⟩ (tb_184_51 ok hX d hl23 hr23 x0 x1 x2 x3 12 x3 s3)
    · refine g_map hr23 ?_
      refine g_rb gs_184 20 (cd' := gb_184_144) rfl rfl ?_
      refine g_iload_n ok rfl ?_
      exact g_ireturn ok rfl rfl (rfl)
theorem tl_184_23 {X : gX} (ok : gOK X) (hX : gHX X) (d : Nat)  (y : (Nat × Int × Int × Int × gS)) : Go X em_184 184 (d + 34) 23 [] [(0, (28, 0, y.1)), (1, (0, y.2.1, 0)), (2, (0, y.2.2.1, 0)), (3, (0, y.2.2.2.1, 0))] [] y.2.2.2.2 0 0 (gloop (st_184_23) y) some :=
  g_loop (Lh := fun y => [(0, (28, 0, y.1)), (1, (0, y.2.1, 0)), (2, (0, y.2.2.1, 0)), (3, (0, y.2.2.2.1, 0))]) (sh := fun y => y.2.2.2.2) (fun k23 hl23 hr23 y => ts_184_23 ok hX d  hl23 hr23 y.1 y.2.1 y.2.2.1 y.2.2.2.1 y.2.2.2.2) y
theorem tb_184_20 {X : gX} (ok : gOK X) (hX : gHX X) (d : Nat)  (x0 : Nat) (x1 : Int) (w0 : Int) (s : gS) : Go X em_184 184 (d + 34) 20 [] [(0, (28, 0, x0)), (1, (0, x1, 0))] [(0, w0, 0)] s 0 0 (fb_184_20 x0 x1 w0 s) some := by
  delta fb_184_20
  refine g_rb gs_184 3 (cd' := gb_184_20) rfl rfl ?_
  refine g_istore_n ok rfl (L' := [(0, (28, 0, x0)), (1, (0, x1, 0)), (2, (0, w0, 0))]) rfl ?_
  refine g_iconst ok (v := 0) rfl ?_
  refine g_istore_n ok rfl (L' := [(0, (28, 0, x0)), (1, (0, x1, 0)), (2, (0, w0, 0)), (3, (0, 0, 0))]) rfl ?_
  exact g_wk ok [(0, (28, 0, x0)), (1, (0, x1, 0)), (2, (0, w0, 0)), (3, (0, 0, 0))] ⟨rfl, rfl, rfl, rfl, trivial⟩ (tl_184_23 ok hX d  (x0, x1, w0, 0, s))
theorem t_184 {X : gX} (ok : gOK X) (hX : gHX X) (d : Nat) (a0 : Nat) (a1 : Int) (s : gS) : Go X em_184 184 (d + 34) 0 [] [(0, (28, 0, a0)), (1, (0, a1, 0))] [] s 0 0 (f_184 a0 a1 s) some := by
  delta f_184
  refine g_rb gs_184 0 (cd' := gb_184_0) rfl rfl ?_
  refine g_aload_n ok rfl rfl ?_
  refine g_cv0 ok (me_169 hX) rfl rfl rfl (t_169 ok hX _ a0 s) (fun s1 => ?_)
  refine g_aload_n ok rfl rfl ?_
  refine g_geti ok rfl rfl ?_
  refine g_aload_n ok rfl rfl ?_
  refine g_geti ok rfl rfl ?_
  refine g_ic_ge ok rfl (fun _ => ?_) (fun _ => ?_)
  · refine g_rb gs_184 1 (cd' := gb_184_15) rfl rfl ?_
    refine g_iconst ok (v := 1) rfl ?_
    refine g_goto ok rfl ?_
    exact g_wk ok [(0, (28, 0, a0)), (1, (0, a1, 0))] ⟨rfl, rfl, trivial⟩ (tb_184_20 ok hX d  a0 a1 1 s1)
  · refine g_rb gs_184 2 (cd' := gb_184_19) rfl rfl ?_
    refine g_iconst ok (v := 0) rfl ?_
    exact g_wk ok [(0, (28, 0, a0)), (1, (0, a1, 0))] ⟨rfl, rfl, trivial⟩ (tb_184_20 ok hX d  a0 a1 0 s1)
-- X12_putsAside
theorem ts_185_2 {X : gX} (ok : gOK X) (hX : gHX X) (d : Nat) {k2 : (Nat × Int × gS) ⊕ gO → Option gO} (hl2 : ∀ y : (Nat × Int × gS), Go X em_185 185 d 2 [] [(0, (28, 0, y.1)), (1, (0, y.2.1, 0))] [] y.2.2 0 0 (some (Sum.inl y)) k2) (hr2 : ∀ q, k2 (Sum.inr q) = some q) (x0 : Nat) (x1 : Int) (s : gS) : Go X em_185 185 d 2 [] [(0, (28, 0, x0)), (1, (0, x1, 0))] [] s 0 0 (sb_185_2 x0 x1 s) k2 := by
  delta sb_185_2
  refine g_rb gs_185 1 (cd' := gb_185_2) rfl rfl ?_
  refine g_iload_n ok rfl ?_
  refine g_sipush ok (v := 340) rfl ?_
  refine g_ic_ge ok rfl (fun _ => ?_) (fun _ => ?_)
  · refine g_rb gs_185 2 (cd' := gb_185_9) rfl rfl ?_
    refine g_aload_n ok rfl rfl ?_
    refine g_getr ok 2836 rfl rfl rfl ?_
    refine g_iload_n ok rfl ?_
    refine g_aload_n ok rfl rfl ?_
    refine g_getr ok 6036 rfl rfl rfl ?_
    refine g_iload_n ok rfl ?_
    refine g_iaload ok (n := 740) rfl rfl (fun _ _ => ?_)
    refine g_iastore ok (n := 340) rfl rfl (fun _ _ => ?_)
    let s1 : gS := gw s (gR s x0 4) (x1 : Int).toNat (gI s (gR s x0 1) (x1 : Int).toNat)
    refine g_iinc ok rfl rfl (L' := [(0, (28, 0, x0)), (1, (0, (g32 (x1 + 1)), 0))]) rfl ?_
    refine g_goto ok rfl ?_
    exact g_wk ok [(0, (28, 0, x0)), (1, (0, (g32 (x1 + 1)), 0))] ⟨rfl, rfl, trivial⟩ (hl2 (x0, (g32 (x1 + 1)), s1))
  · refine g_map hr2 ?_
    refine g_rb gs_185 3 (cd' := gb_185_27) rfl rfl ?_
    exact g_return ok rfl rfl (rfl)
theorem tl_185_2 {X : gX} (ok : gOK X) (hX : gHX X) (d : Nat)  (y : (Nat × Int × gS)) : Go X em_185 185 d 2 [] [(0, (28, 0, y.1)), (1, (0, y.2.1, 0))] [] y.2.2 0 0 (gloop (st_185_2) y) some :=
  g_loop (Lh := fun y => [(0, (28, 0, y.1)), (1, (0, y.2.1, 0))]) (sh := fun y => y.2.2) (fun k2 hl2 hr2 y => ts_185_2 ok hX d  hl2 hr2 y.1 y.2.1 y.2.2) y
theorem t_185 {X : gX} (ok : gOK X) (hX : gHX X) (d : Nat) (a0 : Nat) (s : gS) : Go X em_185 185 d 0 [] [(0, (28, 0, a0))] [] s 0 0 (f_185 a0 s) some := by
  delta f_185
  refine g_rb gs_185 0 (cd' := gb_185_0) rfl rfl ?_
  refine g_iconst ok (v := 0) rfl ?_
  refine g_istore_n ok rfl (L' := [(0, (28, 0, a0)), (1, (0, 0, 0))]) rfl ?_
  exact g_wk ok [(0, (28, 0, a0)), (1, (0, 0, 0))] ⟨rfl, rfl, trivial⟩ (tl_185_2 ok hX d  (a0, 0, s))
-- X12_comesBack
theorem ts_186_2 {X : gX} (ok : gOK X) (hX : gHX X) (d : Nat) {k2 : (Nat × Int × gS) ⊕ gO → Option gO} (hl2 : ∀ y : (Nat × Int × gS), Go X em_186 186 d 2 [] [(0, (28, 0, y.1)), (1, (0, y.2.1, 0))] [] y.2.2 0 0 (some (Sum.inl y)) k2) (hr2 : ∀ q, k2 (Sum.inr q) = some q) (x0 : Nat) (x1 : Int) (s : gS) : Go X em_186 186 d 2 [] [(0, (28, 0, x0)), (1, (0, x1, 0))] [] s 0 0 (sb_186_2 x0 x1 s) k2 := by
  delta sb_186_2
  refine g_rb gs_186 1 (cd' := gb_186_2) rfl rfl ?_
  refine g_iload_n ok rfl ?_
  refine g_sipush ok (v := 340) rfl ?_
  refine g_ic_ge ok rfl (fun _ => ?_) (fun _ => ?_)
  · refine g_rb gs_186 2 (cd' := gb_186_9) rfl rfl ?_
    refine g_aload_n ok rfl rfl ?_
    refine g_getr ok 6036 rfl rfl rfl ?_
    refine g_iload_n ok rfl ?_
    refine g_aload_n ok rfl rfl ?_
    refine g_getr ok 2836 rfl rfl rfl ?_
    refine g_iload_n ok rfl ?_
    refine g_iaload ok (n := 340) rfl rfl (fun _ _ => ?_)
    refine g_iastore ok (n := 740) rfl rfl (fun _ _ => ?_)
    let s1 : gS := gw s (gR s x0 1) (x1 : Int).toNat (gI s (gR s x0 4) (x1 : Int).toNat)
    refine g_iinc ok rfl rfl (L' := [(0, (28, 0, x0)), (1, (0, (g32 (x1 + 1)), 0))]) rfl ?_
    refine g_goto ok rfl ?_
    exact g_wk ok [(0, (28, 0, x0)), (1, (0, (g32 (x1 + 1)), 0))] ⟨rfl, rfl, trivial⟩ (hl2 (x0, (g32 (x1 + 1)), s1))
  · refine g_map hr2 ?_
    refine g_rb gs_186 3 (cd' := gb_186_27) rfl rfl ?_
    exact g_return ok rfl rfl (rfl)
theorem tl_186_2 {X : gX} (ok : gOK X) (hX : gHX X) (d : Nat)  (y : (Nat × Int × gS)) : Go X em_186 186 d 2 [] [(0, (28, 0, y.1)), (1, (0, y.2.1, 0))] [] y.2.2 0 0 (gloop (st_186_2) y) some :=
  g_loop (Lh := fun y => [(0, (28, 0, y.1)), (1, (0, y.2.1, 0))]) (sh := fun y => y.2.2) (fun k2 hl2 hr2 y => ts_186_2 ok hX d  hl2 hr2 y.1 y.2.1 y.2.2) y
theorem t_186 {X : gX} (ok : gOK X) (hX : gHX X) (d : Nat) (a0 : Nat) (s : gS) : Go X em_186 186 d 0 [] [(0, (28, 0, a0))] [] s 0 0 (f_186 a0 s) some := by
  delta f_186
  refine g_rb gs_186 0 (cd' := gb_186_0) rfl rfl ?_
  refine g_iconst ok (v := 0) rfl ?_
  refine g_istore_n ok rfl (L' := [(0, (28, 0, a0)), (1, (0, 0, 0))]) rfl ?_
  exact g_wk ok [(0, (28, 0, a0)), (1, (0, 0, 0))] ⟨rfl, rfl, trivial⟩ (tl_186_2 ok hX d  (a0, 0, s))
-- X12_book
theorem tb_187_43 {X : gX} (ok : gOK X) (hX : gHX X) (d : Nat)  (x0 : Nat) (w0 : Int) (w1 : Nat) (s : gS) : Go X em_187 187 (d + 35) 43 [] [(0, (28, 0, x0))] [(0, w0, 0), (28, 0, w1)] s 0 0 (fb_187_43 x0 w0 w1 s) some := by
  delta fb_187_43
  refine g_rb gs_187 5 (cd' := gb_187_43) rfl rfl ?_
  refine g_puti ok rfl rfl rfl ?_
  let s7 : gS := gw s w1 0 w0
  refine g_aload_n ok rfl rfl ?_
  refine g_geti ok rfl rfl ?_
  refine g_if_le ok rfl (fun _ => ?_) (fun _ => ?_)
  · refine g_rb gs_187 6 (cd' := gb_187_53) rfl rfl ?_
    refine g_aload_n ok rfl rfl ?_
    refine g_cv0 ok (me_186 hX) rfl rfl rfl (t_186 ok hX _ x0 s7) (fun s8 => ?_)
    refine g_iconst ok (v := 0) rfl ?_
    exact g_ireturn ok rfl rfl (rfl)
  · refine g_rb gs_187 7 (cd' := gb_187_59) rfl rfl ?_
    refine g_aload_n ok rfl rfl ?_
    refine g_getr ok 6036 rfl rfl rfl ?_
    refine g_iconst ok (v := 0) rfl ?_
    refine g_dup2 ok rfl rfl ?_
    refine g_ialoadc ok (n := 740) 0 rfl rfl rfl ?_
    refine g_iconst ok (v := 1) rfl ?_
    refine g_iadd ok ?_
    refine g_iastorec ok (n := 740) 0 rfl rfl rfl ?_
    let s10 : gS := gw s7 (gR s7 x0 1) 0 (g32 ((gI s7 (gR s7 x0 1) 0) + 1))
    refine g_aload_n ok rfl rfl ?_
    refine g_iconst ok (v := 0) rfl ?_
    refine g_puti ok rfl rfl rfl ?_
    let s11 : gS := gw s10 x0 6 0
    refine g_aload_n ok rfl rfl ?_
    refine g_getr ok 6036 rfl rfl rfl ?_
    refine g_iconst ok (v := 0) rfl ?_
    refine g_ialoadc ok (n := 740) 0 rfl rfl rfl ?_
    exact g_ireturn ok rfl rfl (rfl)
theorem t_187 {X : gX} (ok : gOK X) (hX : gHX X) (d : Nat) (a0 : Nat) (s : gS) : Go X em_187 187 (d + 35) 0 [] [(0, (28, 0, a0))] [] s 0 0 (f_187 a0 s) some := by
  delta f_187
  refine g_rb gs_187 0 (cd' := gb_187_0) rfl rfl ?_
  refine g_aload_n ok rfl rfl ?_
  refine g_cv0 ok (me_185 hX) rfl rfl rfl (t_185 ok hX _ a0 s) (fun s1 => ?_)
  refine g_aload_n ok rfl rfl ?_
  refine g_cv0 ok (me_183 hX) rfl rfl rfl (t_183 ok hX _ a0 s1) (fun s3 => ?_)
  refine g_aload_n ok rfl rfl ?_
  refine g_iconst ok (v := 0) rfl ?_
  refine g_cv1 ok (me_184 hX) rfl rfl rfl rfl (t_184 ok hX _ a0 0 s3) (fun v6 s5 => ?_)
  refine g_istore_n ok rfl (L' := [(0, (28, 0, a0)), (1, (0, v6, 0))]) rfl ?_
  refine g_aload_n ok rfl rfl ?_
  refine g_aload_n ok rfl rfl ?_
  refine g_geti ok rfl rfl ?_
  refine g_iconst ok (v := (-1)) rfl ?_
  refine g_ic_eq ok rfl (fun _ => ?_) (fun _ => ?_)
  · refine g_rb gs_187 2 (cd' := gb_187_27) rfl rfl ?_
    refine g_aload_n ok rfl rfl ?_
    refine g_getr ok 6036 rfl rfl rfl ?_
    refine g_iconst ok (v := 0) rfl ?_
    refine g_ialoadc ok (n := 740) 0 rfl rfl rfl ?_
    refine g_bipush ok (v := 12) rfl ?_
    refine g_ic_ne ok rfl (fun _ => ?_) (fun _ => ?_)
    · refine g_rb gs_187 3 (cd' := gb_187_38) rfl rfl ?_
      refine g_iconst ok (v := 2) rfl ?_
      refine g_goto ok rfl ?_
      exact g_wk ok [(0, (28, 0, a0))] ⟨rfl, trivial⟩ (tb_187_43 ok hX d  a0 2 a0 s5)
    · refine g_rb gs_187 4 (cd' := gb_187_42) rfl rfl ?_
      refine g_iconst ok (v := 0) rfl ?_
      exact g_wk ok [(0, (28, 0, a0))] ⟨rfl, trivial⟩ (tb_187_43 ok hX d  a0 0 a0 s5)
  · refine g_rb gs_187 1 (cd' := gb_187_23) rfl rfl ?_
    refine g_iconst ok (v := 1) rfl ?_
    refine g_goto ok rfl ?_
    exact g_wk ok [(0, (28, 0, a0))] ⟨rfl, trivial⟩ (tb_187_43 ok hX d  a0 1 a0 s5)
-- X12_law
theorem ts_195_55 {X : gX} (ok : gOK X) (hX : gHX X) (d : Nat) {k55 : (Nat × Int × Int × gS) ⊕ gO → Option gO} (hl55 : ∀ y : (Nat × Int × Int × gS), Go X em_195 195 (d + 35) 55 [] [(0, (28, 0, y.1)), (1, (0, y.2.1, 0)), (2, (0, y.2.2.1, 0))] [] y.2.2.2 0 0 (some (Sum.inl y)) k55) (hr55 : ∀ q, k55 (Sum.inr q) = some q) (x0 : Nat) (x1 : Int) (x2 : Int) (s : gS) : Go X em_195 195 (d + 35) 55 [] [(0, (28, 0, x0)), (1, (0, x1, 0)), (2, (0, x2, 0))] [] s 0 0 (sb_195_55 x0 x1 x2 s) k55 := by
  delta sb_195_55
  refine g_rb gs_195 6 (cd' := gb_195_55) rfl rfl ?_
  refine g_iload_n ok rfl ?_
  refine g_aload_n ok rfl rfl ?_
  refine g_geti ok rfl rfl ?_
  refine g_ic_ge ok rfl (fun _ => ?_) (fun _ => ?_)
  · refine g_rb gs_195 7 (cd' := gb_195_63) rfl rfl ?_
    refine g_aload_n ok rfl rfl ?_
    refine g_getr ok 6036 rfl rfl rfl ?_
    refine g_sipush ok (v := 340) rfl ?_
    refine g_iload_n ok rfl ?_
    refine g_iadd ok ?_
    refine g_aload_n ok rfl rfl ?_
    refine g_getr ok 3316 rfl rfl rfl ?_
    refine g_iload_n ok rfl ?_
    refine g_iaload ok (n := 400) rfl rfl (fun _ _ => ?_)
    refine g_iastore ok (n := 740) rfl rfl (fun _ _ => ?_)
    let s8 : gS := gw s (gR s x0 1) ((g32 (340 + x2)) : Int).toNat (gI s (gR s x0 7) (x2 : Int).toNat)
    refine g_iinc ok rfl rfl (L' := [(0, (28, 0, x0)), (1, (0, x1, 0)), (2, (0, (g32 (x2 + 1)), 0))]) rfl ?_
    refine g_goto ok rfl ?_
    exact g_wk ok [(0, (28, 0, x0)), (1, (0, x1, 0)), (2, (0, (g32 (x2 + 1)), 0))] ⟨rfl, rfl, rfl, trivial⟩ (hl55 (x0, x1, (g32 (x2 + 1)), s8))
  · refine g_map hr55 ?_
    refine g_rb gs_195 8 (cd' := gb_195_85) rfl rfl ?_
    refine g_aload_n ok rfl rfl ?_
    refine g_iconst ok (v := 0) rfl ?_
    refine g_puti ok rfl rfl rfl ?_
    let s9 : gS := gw s x0 6 0
    refine g_iload_n ok rfl ?_
    exact g_ireturn ok rfl rfl (rfl)
theorem tl_195_55 {X : gX} (ok : gOK X) (hX : gHX X) (d : Nat)  (y : (Nat × Int × Int × gS)) : Go X em_195 195 (d + 35) 55 [] [(0, (28, 0, y.1)), (1, (0, y.2.1, 0)), (2, (0, y.2.2.1, 0))] [] y.2.2.2 0 0 (gloop (st_195_55) y) some :=
  g_loop (Lh := fun y => [(0, (28, 0, y.1)), (1, (0, y.2.1, 0)), (2, (0, y.2.2.1, 0))]) (sh := fun y => y.2.2.2) (fun k55 hl55 hr55 y => ts_195_55 ok hX d  hl55 hr55 y.1 y.2.1 y.2.2.1 y.2.2.2) y
theorem tb_195_24 {X : gX} (ok : gOK X) (hX : gHX X) (d : Nat)  (x0 : Nat) (x1 : Int) (w0 : Int) (w1 : Nat) (s : gS) : Go X em_195 195 (d + 35) 24 [] [(0, (28, 0, x0)), (1, (0, x1, 0))] [(0, w0, 0), (28, 0, w1)] s 0 0 (fb_195_24 x0 x1 w0 w1 s) some := by
  delta fb_195_24
  refine g_rb gs_195 3 (cd' := gb_195_24) rfl rfl ?_
  refine g_puti ok rfl rfl rfl ?_
  let s5 : gS := gw s w1 0 w0
  refine g_aload_n ok rfl rfl ?_
  refine g_geti ok rfl rfl ?_
  refine g_if_le ok rfl (fun _ => ?_) (fun _ => ?_)
  · refine g_rb gs_195 4 (cd' := gb_195_34) rfl rfl ?_
    refine g_iconst ok (v := 0) rfl ?_
    exact g_ireturn ok rfl rfl (rfl)
  · refine g_rb gs_195 5 (cd' := gb_195_36) rfl rfl ?_
    refine g_aload_n ok rfl rfl ?_
    refine g_getr ok 6036 rfl rfl rfl ?_
    refine g_iconst ok (v := 1) rfl ?_
    refine g_iload_n ok rfl ?_
    refine g_iastorec ok (n := 740) 1 rfl rfl rfl ?_
    let s6 : gS := gw s5 (gR s5 x0 1) 1 x1
    refine g_aload_n ok rfl rfl ?_
    refine g_getr ok 6036 rfl rfl rfl ?_
    refine g_iconst ok (v := 2) rfl ?_
    refine g_aload_n ok rfl rfl ?_
    refine g_geti ok rfl rfl ?_
    refine g_iastorec ok (n := 740) 2 rfl rfl rfl ?_
    let s7 : gS := gw s6 (gR s6 x0 1) 2 (gI s6 x0 10)
    refine g_iconst ok (v := 0) rfl ?_
    refine g_istore_n ok rfl (L' := [(0, (28, 0, x0)), (1, (0, x1, 0)), (2, (0, 0, 0))]) rfl ?_
    exact g_wk ok [(0, (28, 0, x0)), (1, (0, x1, 0)), (2, (0, 0, 0))] ⟨rfl, rfl, rfl, trivial⟩ (tl_195_55 ok hX d  (x0, x1, 0, s7))
theorem t_195 {X : gX} (ok : gOK X) (hX : gHX X) (d : Nat) (a0 : Nat) (s : gS) : Go X em_195 195 (d + 35) 0 [] [(0, (28, 0, a0))] [] s 0 0 (f_195 a0 s) some := by
  delta f_195
  refine g_rb gs_195 0 (cd' := gb_195_0) rfl rfl ?_
  refine g_aload_n ok rfl rfl ?_
  refine g_cv0 ok (me_183 hX) rfl rfl rfl (t_183 ok hX _ a0 s) (fun s1 => ?_)
  refine g_aload_n ok rfl rfl ?_
  refine g_iconst ok (v := 1) rfl ?_
  refine g_cv1 ok (me_184 hX) rfl rfl rfl rfl (t_184 ok hX _ a0 1 s1) (fun v4 s3 => ?_)
  refine g_istore_n ok rfl (L' := [(0, (28, 0, a0)), (1, (0, v4, 0))]) rfl ?_
  refine g_aload_n ok rfl rfl ?_
  refine g_aload_n ok rfl rfl ?_
  refine g_geti ok rfl rfl ?_
  refine g_iconst ok (v := (-1)) rfl ?_
  refine g_ic_eq ok rfl (fun _ => ?_) (fun _ => ?_)
  · refine g_rb gs_195 2 (cd' := gb_195_23) rfl rfl ?_
    refine g_iconst ok (v := 0) rfl ?_
    exact g_wk ok [(0, (28, 0, a0)), (1, (0, v4, 0))] ⟨rfl, rfl, trivial⟩ (tb_195_24 ok hX d  a0 v4 0 a0 s3)
  · refine g_rb gs_195 1 (cd' := gb_195_19) rfl rfl ?_
    refine g_iconst ok (v := 1) rfl ?_
    refine g_goto ok rfl ?_
    exact g_wk ok [(0, (28, 0, a0)), (1, (0, v4, 0))] ⟨rfl, rfl, trivial⟩ (tb_195_24 ok hX d  a0 v4 1 a0 s3)
-- X12_fault
theorem t_196 {X : gX} (ok : gOK X) (hX : gHX X) (d : Nat) (a0 : Nat) (s : gS) : Go X em_196 196 d 0 [] [(0, (28, 0, a0))] [] s 0 0 (f_196 a0 s) some := by
  delta f_196
  refine g_rb gs_196 0 (cd' := gb_196_0) rfl rfl ?_
  refine g_aload_n ok rfl rfl ?_
  refine g_iconst ok (v := 0) rfl ?_
  refine g_puti ok rfl rfl rfl ?_
  let s1 : gS := gw s a0 0 0
  refine g_aload_n ok rfl rfl ?_
  refine g_geti ok rfl rfl ?_
  exact g_ireturn ok rfl rfl (rfl)
-- X12_turnsBy
theorem tb_197_100 {X : gX} (ok : gOK X) (hX : gHX X) (d : Nat)  (x0 : Nat) (w0 : Int) (w1 : Nat) (s : gS) : Go X em_197 197 (d + 35) 100 [] [(0, (28, 0, x0))] [(0, w0, 0), (28, 0, w1)] s 0 0 (fb_197_100 x0 w0 w1 s) some := by
  delta fb_197_100
  refine g_rb gs_197 8 (cd' := gb_197_100) rfl rfl ?_
  refine g_putz ok rfl rfl rfl (fun _ => ?_)
  let s9 : gS := gw s w1 16 w0
  refine g_aload_n ok rfl rfl ?_
  refine g_iconst ok (v := 0) rfl ?_
  refine g_puti ok rfl rfl rfl ?_
  let s10 : gS := gw s9 x0 17 0
  refine g_aload_n ok rfl rfl ?_
  refine g_geti ok rfl rfl ?_
  refine g_istore ok rfl (L' := [(0, (28, 0, x0)), (8, (0, (gI s10 x0 12), 0))]) rfl ?_
  refine g_aload_n ok rfl rfl ?_
  refine g_iconst ok (v := (-1)) rfl ?_
  refine g_puti ok rfl rfl rfl ?_
  let s11 : gS := gw s10 x0 12 (-1)
  refine g_aload_n ok rfl rfl ?_
  refine g_sipush ok (v := 340) rfl ?_
  refine g_puti ok rfl rfl rfl ?_
  let s12 : gS := gw s11 x0 9 340
  refine g_aload_n ok rfl rfl ?_
  refine g_aload_n ok rfl rfl ?_
  refine g_getr ok 6036 rfl rfl rfl ?_
  refine g_iconst ok (v := 2) rfl ?_
  refine g_ialoadc ok (n := 740) 2 rfl rfl rfl ?_
  refine g_puti ok rfl rfl rfl ?_
  let s13 : gS := gw s12 x0 10 (gI s12 (gR s12 x0 1) 2)
  refine g_aload_n ok rfl rfl ?_
  refine g_iconst ok (v := 0) rfl ?_
  refine g_puti ok rfl rfl rfl ?_
  let s14 : gS := gw s13 x0 11 0
  refine g_aload_n ok rfl rfl ?_
  refine g_iconst ok (v := 0) rfl ?_
  refine g_puti ok rfl rfl rfl ?_
  let s15 : gS := gw s14 x0 13 0
  refine g_aload_n ok rfl rfl ?_
  refine g_iconst ok (v := 1) rfl ?_
  refine g_cv1 ok (me_184 hX) rfl rfl rfl rfl (t_184 ok hX _ x0 1 s15) (fun v17 s16 => ?_)
  refine g_istore ok rfl (L' := [(0, (28, 0, x0)), (8, (0, (gI s10 x0 12), 0)), (9, (0, v17, 0))]) rfl ?_
  refine g_aload_n ok rfl rfl ?_
  refine g_iload ok rfl ?_
  refine g_puti ok rfl rfl rfl ?_
  let s18 : gS := gw s16 x0 12 (gI s10 x0 12)
  refine g_aload_n ok rfl rfl ?_
  refine g_geti ok rfl rfl ?_
  exact g_ireturn ok rfl rfl (rfl)
theorem tb_197_80 {X : gX} (ok : gOK X) (hX : gHX X) (d : Nat)  (x0 : Nat) (x4 : Int) (w0 : Int) (w1 : Nat) (s : gS) : Go X em_197 197 (d + 35) 80 [] [(0, (28, 0, x0)), (4, (0, x4, 0))] [(0, w0, 0), (28, 0, w1)] s 0 0 (fb_197_80 x0 x4 w0 w1 s) some := by
  delta fb_197_80
  refine g_rb gs_197 5 (cd' := gb_197_80) rfl rfl ?_
  refine g_putz ok rfl rfl rfl (fun _ => ?_)
  let s8 : gS := gw s w1 15 w0
  refine g_aload_n ok rfl rfl ?_
  refine g_iload ok rfl ?_
  refine g_aload_n ok rfl rfl ?_
  refine g_getr ok 6036 rfl rfl rfl ?_
  refine g_iconst ok (v := 3) rfl ?_
  refine g_ialoadc ok (n := 740) 3 rfl rfl rfl ?_
  refine g_ic_lt ok rfl (fun _ => ?_) (fun _ => ?_)
  · refine g_rb gs_197 7 (cd' := gb_197_99) rfl rfl ?_
    refine g_iconst ok (v := 0) rfl ?_
    exact g_wk ok [(0, (28, 0, x0))] ⟨rfl, trivial⟩ (tb_197_100 ok hX d  x0 0 x0 s8)
  · refine g_rb gs_197 6 (cd' := gb_197_95) rfl rfl ?_
    refine g_iconst ok (v := 1) rfl ?_
    refine g_goto ok rfl ?_
    exact g_wk ok [(0, (28, 0, x0))] ⟨rfl, trivial⟩ (tb_197_100 ok hX d  x0 1 x0 s8)
theorem t_197 {X : gX} (ok : gOK X) (hX : gHX X) (d : Nat) (a0 : Nat) (a1 : Int) (a2 : Int) (a3 : Int) (a4 : Int) (a5 : Int) (a6 : Int) (a7 : Int) (s : gS) : Go X em_197 197 (d + 35) 0 [] [(0, (28, 0, a0)), (1, (0, a1, 0)), (2, (0, a2, 0)), (3, (0, a3, 0)), (4, (0, a4, 0)), (5, (0, a5, 0)), (6, (0, a6, 0)), (7, (0, a7, 0))] [] s 0 0 (f_197 a0 a1 a2 a3 a4 a5 a6 a7 s) some := by
  delta f_197
  refine g_rb gs_197 0 (cd' := gb_197_0) rfl rfl ?_
  refine g_aload_n ok rfl rfl ?_
  refine g_getr ok 6036 rfl rfl rfl ?_
  refine g_iconst ok (v := 1) rfl ?_
  refine g_ialoadc ok (n := 740) 1 rfl rfl rfl ?_
  refine g_iconst ok (v := (-1)) rfl ?_
  refine g_ic_ne ok rfl (fun _ => ?_) (fun _ => ?_)
  · refine g_rb gs_197 1 (cd' := gb_197_10) rfl rfl ?_
    refine g_iconst ok (v := (-1)) rfl ?_
    exact g_ireturn ok rfl rfl (rfl)
  · refine g_rb gs_197 2 (cd' := gb_197_12) rfl rfl ?_
    refine g_aload_n ok rfl rfl ?_
    refine g_getr ok 172 rfl rfl rfl ?_
    refine g_iconst ok (v := 0) rfl ?_
    refine g_iload_n ok rfl ?_
    refine g_iastorec ok (n := 7) 0 rfl rfl rfl ?_
    let s1 : gS := gw s (gR s a0 14) 0 a1
    refine g_aload_n ok rfl rfl ?_
    refine g_getr ok 172 rfl rfl rfl ?_
    refine g_iconst ok (v := 1) rfl ?_
    refine g_iload_n ok rfl ?_
    refine g_iastorec ok (n := 7) 1 rfl rfl rfl ?_
    let s2 : gS := gw s1 (gR s1 a0 14) 1 a2
    refine g_aload_n ok rfl rfl ?_
    refine g_getr ok 172 rfl rfl rfl ?_
    refine g_iconst ok (v := 2) rfl ?_
    refine g_iload_n ok rfl ?_
    refine g_iastorec ok (n := 7) 2 rfl rfl rfl ?_
    let s3 : gS := gw s2 (gR s2 a0 14) 2 a3
    refine g_aload_n ok rfl rfl ?_
    refine g_getr ok 172 rfl rfl rfl ?_
    refine g_iconst ok (v := 3) rfl ?_
    refine g_iload ok rfl ?_
    refine g_iastorec ok (n := 7) 3 rfl rfl rfl ?_
    let s4 : gS := gw s3 (gR s3 a0 14) 3 a4
    refine g_aload_n ok rfl rfl ?_
    refine g_getr ok 172 rfl rfl rfl ?_
    refine g_iconst ok (v := 4) rfl ?_
    refine g_iload ok rfl ?_
    refine g_iastorec ok (n := 7) 4 rfl rfl rfl ?_
    let s5 : gS := gw s4 (gR s4 a0 14) 4 a5
    refine g_aload_n ok rfl rfl ?_
    refine g_getr ok 172 rfl rfl rfl ?_
    refine g_iconst ok (v := 5) rfl ?_
    refine g_iload ok rfl ?_
    refine g_bipush ok (v := 10) rfl ?_
    refine g_idiv ok (by decide) ?_
    refine g_iastorec ok (n := 7) 5 rfl rfl rfl ?_
    let s6 : gS := gw s5 (gR s5 a0 14) 5 (gdiv a6 10)
    refine g_aload_n ok rfl rfl ?_
    refine g_getr ok 172 rfl rfl rfl ?_
    refine g_bipush ok (v := 6) rfl ?_
    refine g_iload ok rfl ?_
    refine g_iastorec ok (n := 7) 6 rfl rfl rfl ?_
    let s7 : gS := gw s6 (gR s6 a0 14) 6 a7
    refine g_aload_n ok rfl rfl ?_
    refine g_iload ok rfl ?_
    refine g_if_le ok rfl (fun _ => ?_) (fun _ => ?_)
    · refine g_rb gs_197 3 (cd' := gb_197_75) rfl rfl ?_
      refine g_iconst ok (v := 1) rfl ?_
      refine g_goto ok rfl ?_
      exact g_wk ok [(0, (28, 0, a0)), (4, (0, a4, 0))] ⟨rfl, rfl, trivial⟩ (tb_197_80 ok hX d  a0 a4 1 a0 s7)
    · refine g_rb gs_197 4 (cd' := gb_197_79) rfl rfl ?_
      refine g_iconst ok (v := 0) rfl ?_
      exact g_wk ok [(0, (28, 0, a0)), (4, (0, a4, 0))] ⟨rfl, rfl, trivial⟩ (tb_197_80 ok hX d  a0 a4 0 a0 s7)
-- X12_turnsNow
theorem t_198 {X : gX} (ok : gOK X) (hX : gHX X) (d : Nat) (a0 : Nat) (a1 : Int) (s : gS) : Go X em_198 198 (d + 36) 0 [] [(0, (28, 0, a0)), (1, (0, a1, 0))] [] s 0 0 (f_198 a0 a1 s) some := by
  delta f_198
  refine g_rb gs_198 0 (cd' := gb_198_0) rfl rfl ?_
  refine g_aload_n ok rfl rfl ?_
  refine g_iload_n ok rfl ?_
  refine g_aload_n ok rfl rfl ?_
  refine g_iload_n ok rfl ?_
  refine g_iconst ok (v := 0) rfl ?_
  refine g_cv1 ok (me_156 hX) rfl rfl rfl rfl (t_156 ok hX _ a0 a1 0 s) (fun v2 s1 => ?_)
  refine g_aload_n ok rfl rfl ?_
  refine g_iload_n ok rfl ?_
  refine g_iconst ok (v := 1) rfl ?_
  refine g_cv1 ok (me_156 hX) rfl rfl rfl rfl (t_156 ok hX _ a0 a1 1 s1) (fun v4 s3 => ?_)
  refine g_aload_n ok rfl rfl ?_
  refine g_iload_n ok rfl ?_
  refine g_iconst ok (v := 3) rfl ?_
  refine g_cv1 ok (me_156 hX) rfl rfl rfl rfl (t_156 ok hX _ a0 a1 3 s3) (fun v6 s5 => ?_)
  refine g_aload_n ok rfl rfl ?_
  refine g_iload_n ok rfl ?_
  refine g_iconst ok (v := 4) rfl ?_
  refine g_cv1 ok (me_156 hX) rfl rfl rfl rfl (t_156 ok hX _ a0 a1 4 s5) (fun v8 s7 => ?_)
  refine g_aload_n ok rfl rfl ?_
  refine g_getr ok 6036 rfl rfl rfl ?_
  refine g_bipush ok (v := 9) rfl ?_
  refine g_ialoadc ok (n := 740) 9 rfl rfl rfl ?_
  refine g_aload_n ok rfl rfl ?_
  refine g_getr ok 6036 rfl rfl rfl ?_
  refine g_bipush ok (v := 7) rfl ?_
  refine g_ialoadc ok (n := 740) 7 rfl rfl rfl ?_
  refine g_cv1 ok (me_197 hX) rfl rfl rfl rfl (t_197 ok hX _ a0 a1 v2 v4 v6 v8 (gI s7 (gR s7 a0 1) 9) (gI s7 (gR s7 a0 1) 7) s7) (fun v10 s9 => ?_)
  exact g_ireturn ok rfl rfl (rfl)
-- X12_draw
theorem t_199 {X : gX} (ok : gOK X) (hX : gHX X) (d : Nat) (a0 : Nat) (a1 : Int) (s : gS) : Go X em_199 199 d 0 [] [(0, (28, 0, a0)), (1, (0, a1, 0))] [] s 0 0 (f_199 a0 a1 s) some := by
  delta f_199
  refine g_rb gs_199 0 (cd' := gb_199_0) rfl rfl ?_
  refine g_aload_n ok rfl rfl ?_
  refine g_getr ok 6036 rfl rfl rfl ?_
  refine g_bipush ok (v := 14) rfl ?_
  refine g_ldc ok (v := 1103515245) rfl ?_ (by decide) (by decide)
  refine g_aload_n ok rfl rfl ?_
  refine g_getr ok 6036 rfl rfl rfl ?_
  refine g_bipush ok (v := 14) rfl ?_
  refine g_ialoadc ok (n := 740) 14 rfl rfl rfl ?_
  refine g_imul ok ?_
  refine g_sipush ok (v := 12345) rfl ?_
  refine g_iadd ok ?_
  refine g_iastorec ok (n := 740) 14 rfl rfl rfl ?_
  let s1 : gS := gw s (gR s a0 1) 14 (g32 ((g32 (1103515245 * (gI s (gR s a0 1) 14))) + 12345))
  refine g_aload_n ok rfl rfl ?_
  refine g_getr ok 6036 rfl rfl rfl ?_
  refine g_bipush ok (v := 14) rfl ?_
  refine g_ialoadc ok (n := 740) 14 rfl rfl rfl ?_
  refine g_bipush ok (v := 16) rfl ?_
  refine g_iushr ok ?_
  refine g_sipush ok (v := 32767) rfl ?_
  refine g_iand ok ?_
  refine g_iload_n ok rfl ?_
  refine g_ite (fun _ => g_none) (fun hz => g_irem ok hz ?_)
  exact g_ireturn ok rfl rfl (rfl)
-- X12_pays
theorem t_200 {X : gX} (ok : gOK X) (hX : gHX X) (d : Nat) (a0 : Nat) (a1 : Int) (s : gS) : Go X em_200 200 (d + 1) 0 [] [(0, (28, 0, a0)), (1, (0, a1, 0))] [] s 0 0 (f_200 a0 a1 s) some := by
  delta f_200
  refine g_rb gs_200 0 (cd' := gb_200_0) rfl rfl ?_
  refine g_iload_n ok rfl ?_
  refine g_aload_n ok rfl rfl ?_
  refine g_getr ok 6036 rfl rfl rfl ?_
  refine g_bipush ok (v := 8) rfl ?_
  refine g_ialoadc ok (n := 740) 8 rfl rfl rfl ?_
  refine g_cs1 ok (me_151 hX) rfl rfl rfl (t_151 ok hX _ a1 (gI s (gR s a0 1) 8) s) (fun v2 s1 => ?_)
  refine g_istore_n ok rfl (L' := [(0, (28, 0, a0)), (1, (0, a1, 0)), (2, (0, v2, 0))]) rfl ?_
  refine g_aload_n ok rfl rfl ?_
  refine g_getr ok 6036 rfl rfl rfl ?_
  refine g_bipush ok (v := 8) rfl ?_
  refine g_dup2 ok rfl rfl ?_
  refine g_ialoadc ok (n := 740) 8 rfl rfl rfl ?_
  refine g_iload_n ok rfl ?_
  refine g_isub ok ?_
  refine g_iastorec ok (n := 740) 8 rfl rfl rfl ?_
  let s3 : gS := gw s1 (gR s1 a0 1) 8 (g32 ((gI s1 (gR s1 a0 1) 8) - v2))
  refine g_aload_n ok rfl rfl ?_
  refine g_getr ok 6036 rfl rfl rfl ?_
  refine g_bipush ok (v := 9) rfl ?_
  refine g_sipush ok (v := 9999) rfl ?_
  refine g_aload_n ok rfl rfl ?_
  refine g_getr ok 6036 rfl rfl rfl ?_
  refine g_bipush ok (v := 9) rfl ?_
  refine g_ialoadc ok (n := 740) 9 rfl rfl rfl ?_
  refine g_iload_n ok rfl ?_
  refine g_iadd ok ?_
  refine g_iload_n ok rfl ?_
  refine g_isub ok ?_
  refine g_cs1 ok (me_151 hX) rfl rfl rfl (t_151 ok hX _ 9999 (g32 ((g32 ((gI s3 (gR s3 a0 1) 9) + a1)) - v2)) s3) (fun v5 s4 => ?_)
  refine g_iastorec ok (n := 740) 9 rfl rfl rfl ?_
  let s6 : gS := gw s4 (gR s3 a0 1) 9 v5
  exact g_return ok rfl rfl (rfl)
-- X12_works
theorem tb_201_37 {X : gX} (ok : gOK X) (hX : gHX X) (d : Nat)  (x0 : Nat) (x1 : Int) (x2 : Int) (s : gS) : Go X em_201 201 (d + 2) 37 [] [(0, (28, 0, x0)), (1, (0, x1, 0)), (2, (0, x2, 0))] [] s 0 0 (fb_201_37 x0 x1 x2 s) some := by
  delta fb_201_37
  refine g_rb gs_201 4 (cd' := gb_201_37) rfl rfl ?_
  refine g_aload_n ok rfl rfl ?_
  refine g_iload_n ok rfl ?_
  refine g_iconst ok (v := 4) rfl ?_
  refine g_aload_n ok rfl rfl ?_
  refine g_iload_n ok rfl ?_
  refine g_iconst ok (v := 4) rfl ?_
  refine g_cv1 ok (me_156 hX) rfl rfl rfl rfl (t_156 ok hX _ x0 x1 4 s) (fun v10 s9 => ?_)
  refine g_iconst ok (v := 1) rfl ?_
  refine g_iadd ok ?_
  refine g_cv0 ok (me_157 hX) rfl rfl rfl (t_157 ok hX _ x0 x1 4 (g32 (v10 + 1)) s9) (fun s11 => ?_)
  refine g_aload_n ok rfl rfl ?_
  refine g_iload_n ok rfl ?_
  refine g_iconst ok (v := 4) rfl ?_
  refine g_cv1 ok (me_156 hX) rfl rfl rfl rfl (t_156 ok hX _ x0 x1 4 s11) (fun v14 s13 => ?_)
  refine g_aload_n ok rfl rfl ?_
  refine g_iload_n ok rfl ?_
  refine g_iconst ok (v := 0) rfl ?_
  refine g_cv1 ok (me_155 hX) rfl rfl rfl rfl (t_155 ok hX _ x0 x2 0 s13) (fun v16 s15 => ?_)
  refine g_ic_ge ok rfl (fun _ => ?_) (fun _ => ?_)
  · refine g_rb gs_201 5 (cd' := gb_201_66) rfl rfl ?_
    exact g_return ok rfl rfl (rfl)
  · refine g_rb gs_201 6 (cd' := gb_201_67) rfl rfl ?_
    refine g_aload_n ok rfl rfl ?_
    refine g_iload_n ok rfl ?_
    refine g_iconst ok (v := 0) rfl ?_
    refine g_bipush ok (v := 99) rfl ?_
    refine g_aload_n ok rfl rfl ?_
    refine g_iload_n ok rfl ?_
    refine g_iconst ok (v := 0) rfl ?_
    refine g_cv1 ok (me_156 hX) rfl rfl rfl rfl (t_156 ok hX _ x0 x1 0 s15) (fun v18 s17 => ?_)
    refine g_aload_n ok rfl rfl ?_
    refine g_iload_n ok rfl ?_
    refine g_iconst ok (v := 2) rfl ?_
    refine g_cv1 ok (me_155 hX) rfl rfl rfl rfl (t_155 ok hX _ x0 x2 2 s17) (fun v20 s19 => ?_)
    refine g_iadd ok ?_
    refine g_cs1 ok (me_151 hX) rfl rfl rfl (t_151 ok hX _ 99 (g32 (v18 + v20)) s19) (fun v22 s21 => ?_)
    refine g_cv0 ok (me_157 hX) rfl rfl rfl (t_157 ok hX _ x0 x1 0 v22 s21) (fun s23 => ?_)
    refine g_aload_n ok rfl rfl ?_
    refine g_iload_n ok rfl ?_
    refine g_iconst ok (v := 3) rfl ?_
    refine g_iload_n ok rfl ?_
    refine g_iconst ok (v := 1) rfl ?_
    refine g_iadd ok ?_
    refine g_cv0 ok (me_157 hX) rfl rfl rfl (t_157 ok hX _ x0 x1 3 (g32 (x2 + 1)) s23) (fun s25 => ?_)
    refine g_aload_n ok rfl rfl ?_
    refine g_iload_n ok rfl ?_
    refine g_iconst ok (v := 4) rfl ?_
    refine g_iconst ok (v := 0) rfl ?_
    refine g_cv0 ok (me_157 hX) rfl rfl rfl (t_157 ok hX _ x0 x1 4 0 s25) (fun s27 => ?_)
    exact g_return ok rfl rfl (rfl)
theorem t_201 {X : gX} (ok : gOK X) (hX : gHX X) (d : Nat) (a0 : Nat) (a1 : Int) (s : gS) : Go X em_201 201 (d + 2) 0 [] [(0, (28, 0, a0)), (1, (0, a1, 0))] [] s 0 0 (f_201 a0 a1 s) some := by
  delta f_201
  refine g_rb gs_201 0 (cd' := gb_201_0) rfl rfl ?_
  refine g_aload_n ok rfl rfl ?_
  refine g_iload_n ok rfl ?_
  refine g_iconst ok (v := 3) rfl ?_
  refine g_cv1 ok (me_156 hX) rfl rfl rfl rfl (t_156 ok hX _ a0 a1 3 s) (fun v2 s1 => ?_)
  refine g_istore_n ok rfl (L' := [(0, (28, 0, a0)), (1, (0, a1, 0)), (2, (0, v2, 0))]) rfl ?_
  refine g_iload_n ok rfl ?_
  refine g_aload_n ok rfl rfl ?_
  refine g_getr ok 6036 rfl rfl rfl ?_
  refine g_iconst ok (v := 3) rfl ?_
  refine g_ialoadc ok (n := 740) 3 rfl rfl rfl ?_
  refine g_ic_lt ok rfl (fun _ => ?_) (fun _ => ?_)
  · refine g_rb gs_201 2 (cd' := gb_201_18) rfl rfl ?_
    refine g_aload_n ok rfl rfl ?_
    refine g_iload_n ok rfl ?_
    refine g_iconst ok (v := 4) rfl ?_
    refine g_cv1 ok (me_156 hX) rfl rfl rfl rfl (t_156 ok hX _ a0 a1 4 s1) (fun v4 s3 => ?_)
    refine g_if_ne ok rfl (fun _ => ?_) (fun _ => ?_)
    · refine g_rb gs_201 3 (cd' := gb_201_27) rfl rfl ?_
      refine g_aload_n ok rfl rfl ?_
      refine g_aload_n ok rfl rfl ?_
      refine g_iload_n ok rfl ?_
      refine g_iconst ok (v := 1) rfl ?_
      refine g_cv1 ok (me_155 hX) rfl rfl rfl rfl (t_155 ok hX _ a0 v2 1 s3) (fun v6 s5 => ?_)
      refine g_cv0 ok (me_200 hX) rfl rfl rfl (t_200 ok hX _ a0 v6 s5) (fun s7 => ?_)
      exact g_wk ok [(0, (28, 0, a0)), (1, (0, a1, 0)), (2, (0, v2, 0))] ⟨rfl, rfl, rfl, trivial⟩ (tb_201_37 ok hX d  a0 a1 v2 s7)
    · exact g_wk ok [(0, (28, 0, a0)), (1, (0, a1, 0)), (2, (0, v2, 0))] ⟨rfl, rfl, rfl, trivial⟩ (tb_201_37 ok hX d  a0 a1 v2 s3)
  · refine g_rb gs_201 1 (cd' := gb_201_17) rfl rfl ?_
    exact g_return ok rfl rfl (rfl)
-- X12_goes
theorem tb_202_164 {X : gX} (ok : gOK X) (hX : gHX X) (d : Nat) {k5 : (Nat × Int × Int × Int × Int × gS) ⊕ gO → Option gO} (hl5 : ∀ y : (Nat × Int × Int × Int × Int × gS), Go X em_202 202 (d + 37) 5 [] [(0, (28, 0, y.1)), (1, (0, y.2.1, 0)), (2, (0, y.2.2.1, 0)), (3, (0, y.2.2.2.1, 0)), (4, (0, y.2.2.2.2.1, 0))] [] y.2.2.2.2.2 0 0 (some (Sum.inl y)) k5) (hr5 : ∀ q, k5 (Sum.inr q) = some q) (x0 : Nat) (x1 : Int) (x2 : Int) (x3 : Int) (x4 : Int) (s : gS) : Go X em_202 202 (d + 37) 164 [] [(0, (28, 0, x0)), (1, (0, x1, 0)), (2, (0, x2, 0)), (3, (0, x3, 0)), (4, (0, x4, 0))] [] s 0 0 (fb_202_164 x0 x1 x2 x3 x4 s) k5 := by
  delta fb_202_164
  refine g_rb gs_202 14 (cd' := gb_202_164) rfl rfl ?_
  refine g_aload_n ok rfl rfl ?_
  refine g_getr ok 6036 rfl rfl rfl ?_
  refine g_bipush ok (v := 7) rfl ?_
  refine g_sipush ok (v := 9999) rfl ?_
  refine g_aload_n ok rfl rfl ?_
  refine g_getr ok 6036 rfl rfl rfl ?_
  refine g_bipush ok (v := 7) rfl ?_
  refine g_ialoadc ok (n := 740) 7 rfl rfl rfl ?_
  refine g_iconst ok (v := 1) rfl ?_
  refine g_iadd ok ?_
  refine g_cs1 ok (me_151 hX) rfl rfl rfl (t_151 ok hX _ 9999 (g32 ((gI s (gR s x0 1) 7) + 1)) s) (fun v21 s20 => ?_)
  refine g_iastorec ok (n := 740) 7 rfl rfl rfl ?_
  let s22 : gS := gw s20 (gR s x0 1) 7 v21
  refine g_iinc ok rfl rfl (L' := [(0, (28, 0, x0)), (1, (0, x1, 0)), (2, (0, x2, 0)), (3, (0, x3, 0)), (4, (0, (g32 (x4 + 1)), 0))]) rfl ?_
  refine g_goto ok rfl ?_
  exact g_wk ok [(0, (28, 0, x0)), (1, (0, x1, 0)), (2, (0, x2, 0)), (3, (0, x3, 0)), (4, (0, (g32 (x4 + 1)), 0))] ⟨rfl, rfl, rfl, rfl, rfl, trivial⟩ (hl5 (x0, x1, x2, x3, (g32 (x4 + 1)), s22))
theorem ts_202_17 {X : gX} (ok : gOK X) (hX : gHX X) (d : Nat) {k5 : (Nat × Int × Int × Int × Int × gS) ⊕ gO → Option gO} (hl5 : ∀ y : (Nat × Int × Int × Int × Int × gS), Go X em_202 202 (d + 37) 5 [] [(0, (28, 0, y.1)), (1, (0, y.2.1, 0)), (2, (0, y.2.2.1, 0)), (3, (0, y.2.2.2.1, 0)), (4, (0, y.2.2.2.2.1, 0))] [] y.2.2.2.2.2 0 0 (some (Sum.inl y)) k5) (hr5 : ∀ q, k5 (Sum.inr q) = some q) {k17 : (Nat × Int × Int × Int × Int × Int × Int × gS) ⊕ ((Nat × Int × Int × Int × Int × gS) ⊕ gO) → Option gO} (hl17 : ∀ y : (Nat × Int × Int × Int × Int × Int × Int × gS), Go X em_202 202 (d + 37) 17 [] [(0, (28, 0, y.1)), (1, (0, y.2.1, 0)), (2, (0, y.2.2.1, 0)), (3, (0, y.2.2.2.1, 0)), (4, (0, y.2.2.2.2.1, 0)), (5, (0, y.2.2.2.2.2.1, 0)), (6, (0, y.2.2.2.2.2.2.1, 0))] [] y.2.2.2.2.2.2.2 0 0 (some (Sum.inl y)) k17) (hr17 : ∀ q, k17 (Sum.inr q) = k5 q) (x0 : Nat) (x1 : Int) (x2 : Int) (x3 : Int) (x4 : Int) (x5 : Int) (x6 : Int) (s : gS) : Go X em_202 202 (d + 37) 17 [] [(0, (28, 0, x0)), (1, (0, x1, 0)), (2, (0, x2, 0)), (3, (0, x3, 0)), (4, (0, x4, 0)), (5, (0, x5, 0)), (6, (0, x6, 0))] [] s 0 0 (sb_202_17 x0 x1 x2 x3 x4 x5 x6 s) k17 := by
  delta sb_202_17
  refine g_rb gs_202 3 (cd' := gb_202_17) rfl rfl ?_
  refine g_iload ok rfl ?_
  refine g_aload_n ok rfl rfl ?_
  refine g_getr ok 6036 rfl rfl rfl ?_
  refine g_iconst ok (v := 4) rfl ?_
  refine g_ialoadc ok (n := 740) 4 rfl rfl rfl ?_
  refine g_ic_ge ok rfl (fun _ => ?_) (fun _ => ?_)
  · refine g_rb gs_202 4 (cd' := gb_202_28) rfl rfl ?_
    refine g_aload_n ok rfl rfl ?_
    refine g_iload ok rfl ?_
    refine g_cvz ok (me_165 hX) rfl rfl rfl rfl (t_165 ok hX _ x0 x6 s) (fun v2 s1 hb3 => ?_)
    refine g_if_ne ok rfl (fun _ => ?_) (fun _ => ?_)
    · refine g_rb gs_202 5 (cd' := gb_202_37) rfl rfl ?_
      refine g_goto ok rfl ?_
      refine g_rb gs_202 9 (cd' := gb_202_110) rfl rfl ?_
      refine g_iinc ok rfl rfl (L' := [(0, (28, 0, x0)), (1, (0, x1, 0)), (2, (0, x2, 0)), (3, (0, x3, 0)), (4, (0, x4, 0)), (5, (0, x5, 0)), (6, (0, (g32 (x6 + 1)), 0))]) rfl ?_
      refine g_goto ok rfl ?_
      exact g_wk ok [(0, (28, 0, x0)), (1, (0, x1, 0)), (2, (0, x2, 0)), (3, (0, x3, 0)), (4, (0, x4, 0)), (5, (0, x5, 0)), (6, (0, (g32 (x6 + 1)), 0))] ⟨rfl, rfl, rfl, rfl, rfl, rfl, rfl, trivial⟩ (hl17 (x0, x1, x2, x3, x4, x5, (g32 (x6 + 1)), s1))
    · refine g_rb gs_202 6 (cd' := gb_202_40) rfl rfl ?_
      refine g_aload_n ok rfl rfl ?_
      refine g_iload ok rfl ?_
      refine g_cv0 ok (me_201 hX) rfl rfl rfl (t_201 ok hX _ x0 x6 s1) (fun s4 => ?_)
      refine g_aload_n ok rfl rfl ?_
      refine g_iload ok rfl ?_
      refine g_iconst ok (v := 0) rfl ?_
      refine g_iconst ok (v := 0) rfl ?_
      refine g_bipush ok (v := 99) rfl ?_
      refine g_aload_n ok rfl rfl ?_
      refine g_iload ok rfl ?_
      refine g_iconst ok (v := 0) rfl ?_
      refine g_cv1 ok (me_156 hX) rfl rfl rfl rfl (t_156 ok hX _ x0 x6 0 s4) (fun v7 s6 => ?_)
      refine g_aload_n ok rfl rfl ?_
      refine g_iload ok rfl ?_
      refine g_cv1 ok (me_198 hX) rfl rfl rfl rfl (t_198 ok hX _ x0 x6 s6) (fun v9 s8 => ?_)
      refine g_iadd ok ?_
      refine g_cs1 ok (me_151 hX) rfl rfl rfl (t_151 ok hX _ 99 (g32 (v7 + v9)) s8) (fun v11 s10 => ?_)
      refine g_cs1 ok (me_152 hX) rfl rfl rfl (t_152 ok hX _ 0 v11 s10) (fun v13 s12 => ?_)
      refine g_cv0 ok (me_157 hX) rfl rfl rfl (t_157 ok hX _ x0 x6 0 v13 s12) (fun s14 => ?_)
      refine g_aload_n ok rfl rfl ?_
      refine g_iload ok rfl ?_
      refine g_iconst ok (v := 0) rfl ?_
      refine g_cv1 ok (me_156 hX) rfl rfl rfl rfl (t_156 ok hX _ x0 x6 0 s14) (fun v17 s16 => ?_)
      refine g_aload_n ok rfl rfl ?_
      refine g_getr ok 6036 rfl rfl rfl ?_
      refine g_bipush ok (v := 10) rfl ?_
      refine g_ialoadc ok (n := 740) 10 rfl rfl rfl ?_
      refine g_ic_ge ok rfl (fun _ => ?_) (fun _ => ?_)
      · refine g_rb gs_202 7 (cd' := gb_202_93) rfl rfl ?_
        refine g_aload_n ok rfl rfl ?_
        refine g_iload ok rfl ?_
        refine g_iconst ok (v := 5) rfl ?_
        refine g_iconst ok (v := 1) rfl ?_
        refine g_cv0 ok (me_157 hX) rfl rfl rfl (t_157 ok hX _ x0 x6 5 1 s16) (fun s18 => ?_)
        refine g_iinc ok rfl rfl (L' := [(0, (28, 0, x0)), (1, (0, x1, 0)), (2, (0, x2, 0)), (3, (0, (g32 (x3 + 1)), 0)), (4, (0, x4, 0)), (5, (0, x5, 0)), (6, (0, x6, 0))]) rfl ?_
        refine g_goto ok rfl ?_
        refine g_rb gs_202 9 (cd' := gb_202_110) rfl rfl ?_
        refine g_iinc ok rfl rfl (L' := [(0, (28, 0, x0)), (1, (0, x1, 0)), (2, (0, x2, 0)), (3, (0, (g32 (x3 + 1)), 0)), (4, (0, x4, 0)), (5, (0, x5, 0)), (6, (0, (g32 (x6 + 1)), 0))]) rfl ?_
        refine g_goto ok rfl ?_
        exact g_wk ok [(0, (28, 0, x0)), (1, (0, x1, 0)), (2, (0, x2, 0)), (3, (0, (g32 (x3 + 1)), 0)), (4, (0, x4, 0)), (5, (0, x5, 0)), (6, (0, (g32 (x6 + 1)), 0))] ⟨rfl, rfl, rfl, rfl, rfl, rfl, rfl, trivial⟩ (hl17 (x0, x1, x2, (g32 (x3 + 1)), x4, x5, (g32 (x6 + 1)), s18))
      · refine g_rb gs_202 8 (cd' := gb_202_107) rfl rfl ?_
        refine g_iinc ok rfl rfl (L' := [(0, (28, 0, x0)), (1, (0, x1, 0)), (2, (0, x2, 0)), (3, (0, x3, 0)), (4, (0, x4, 0)), (5, (0, (g32 (x5 + 1)), 0)), (6, (0, x6, 0))]) rfl ?_
        refine g_rb gs_202 9 (cd' := gb_202_110) rfl rfl ?_
        refine g_iinc ok rfl rfl (L' := [(0, (28, 0, x0)), (1, (0, x1, 0)), (2, (0, x2, 0)), (3, (0, x3, 0)), (4, (0, x4, 0)), (5, (0, (g32 (x5 + 1)), 0)), (6, (0, (g32 (x6 + 1)), 0))]) rfl ?_
        refine g_goto ok rfl ?_
        exact g_wk ok [(0, (28, 0, x0)), (1, (0, x1, 0)), (2, (0, x2, 0)), (3, (0, x3, 0)), (4, (0, x4, 0)), (5, (0, (g32 (x5 + 1)), 0)), (6, (0, (g32 (x6 + 1)), 0))] ⟨rfl, rfl, rfl, rfl, rfl, rfl, rfl, trivial⟩ (hl17 (x0, x1, x2, x3, x4, (g32 (x5 + 1)), (g32 (x6 + 1)), s16))
  · refine g_map hr17 ?_
    refine g_rb gs_202 10 (cd' := gb_202_116) rfl rfl ?_
    refine g_iload_n ok rfl ?_
    refine g_if_eq ok rfl (fun _ => ?_) (fun _ => ?_)
    · exact g_wk ok [(0, (28, 0, x0)), (1, (0, x1, 0)), (2, (0, x2, 0)), (3, (0, x3, 0)), (4, (0, x4, 0))] ⟨rfl, rfl, rfl, rfl, rfl, trivial⟩ (tb_202_164 ok hX d hl5 hr5 x0 x1 x2 x3 x4 s)
    · refine g_rb gs_202 11 (cd' := gb_202_120) rfl rfl ?_
      refine g_aload_n ok rfl rfl ?_
      refine g_bipush ok (v := 100) rfl ?_
      refine g_cv1 ok (me_199 hX) rfl rfl rfl rfl (t_199 ok hX _ x0 100 s) (fun v24 s23 => ?_)
      refine g_aload_n ok rfl rfl ?_
      refine g_getr ok 6036 rfl rfl rfl ?_
      refine g_bipush ok (v := 11) rfl ?_
      refine g_ialoadc ok (n := 740) 11 rfl rfl rfl ?_
      refine g_ic_ge ok rfl (fun _ => ?_) (fun _ => ?_)
      · refine g_rb gs_202 12 (cd' := gb_202_136) rfl rfl ?_
        refine g_iload ok rfl ?_
        refine g_if_le ok rfl (fun _ => ?_) (fun _ => ?_)
        · refine g_rb gs_202 13 (cd' := gb_202_141) rfl rfl ?_
          refine g_aload_n ok rfl rfl ?_
          refine g_getr ok 6036 rfl rfl rfl ?_
          refine g_bipush ok (v := 8) rfl ?_
          refine g_sipush ok (v := 9999) rfl ?_
          refine g_aload_n ok rfl rfl ?_
          refine g_getr ok 6036 rfl rfl rfl ?_
          refine g_bipush ok (v := 8) rfl ?_
          refine g_ialoadc ok (n := 740) 8 rfl rfl rfl ?_
          refine g_bipush ok (v := 50) rfl ?_
          refine g_iadd ok ?_
          refine g_cs1 ok (me_151 hX) rfl rfl rfl (t_151 ok hX _ 9999 (g32 ((gI s23 (gR s23 x0 1) 8) + 50)) s23) (fun v26 s25 => ?_)
          refine g_iastorec ok (n := 740) 8 rfl rfl rfl ?_
          let s27 : gS := gw s25 (gR s23 x0 1) 8 v26
          exact g_wk ok [(0, (28, 0, x0)), (1, (0, x1, 0)), (2, (0, x2, 0)), (3, (0, x3, 0)), (4, (0, x4, 0))] ⟨rfl, rfl, rfl, rfl, rfl, trivial⟩ (tb_202_164 ok hX d hl5 hr5 x0 x1 x2 x3 x4 s27)
        · exact g_wk ok [(0, (28, 0, x0)), (1, (0, x1, 0)), (2, (0, x2, 0)), (3, (0, x3, 0)), (4, (0, x4, 0))] ⟨rfl, rfl, rfl, rfl, rfl, trivial⟩ (tb_202_164 ok hX d hl5 hr5 x0 x1 x2 x3 x4 s23)
      · exact g_wk ok [(0, (28, 0, x0)), (1, (0, x1, 0)), (2, (0, x2, 0)), (3, (0, x3, 0)), (4, (0, x4, 0))] ⟨rfl, rfl, rfl, rfl, rfl, trivial⟩ (tb_202_164 ok hX d hl5 hr5 x0 x1 x2 x3 x4 s23)
theorem tl_202_17 {X : gX} (ok : gOK X) (hX : gHX X) (d : Nat) {k5 : (Nat × Int × Int × Int × Int × gS) ⊕ gO → Option gO} (hl5 : ∀ y : (Nat × Int × Int × Int × Int × gS), Go X em_202 202 (d + 37) 5 [] [(0, (28, 0, y.1)), (1, (0, y.2.1, 0)), (2, (0, y.2.2.1, 0)), (3, (0, y.2.2.2.1, 0)), (4, (0, y.2.2.2.2.1, 0))] [] y.2.2.2.2.2 0 0 (some (Sum.inl y)) k5) (hr5 : ∀ q, k5 (Sum.inr q) = some q) (y : (Nat × Int × Int × Int × Int × Int × Int × gS)) : Go X em_202 202 (d + 37) 17 [] [(0, (28, 0, y.1)), (1, (0, y.2.1, 0)), (2, (0, y.2.2.1, 0)), (3, (0, y.2.2.2.1, 0)), (4, (0, y.2.2.2.2.1, 0)), (5, (0, y.2.2.2.2.2.1, 0)), (6, (0, y.2.2.2.2.2.2.1, 0))] [] y.2.2.2.2.2.2.2 0 0 (gloop (st_202_17) y) k5 :=
  g_loop (Lh := fun y => [(0, (28, 0, y.1)), (1, (0, y.2.1, 0)), (2, (0, y.2.2.1, 0)), (3, (0, y.2.2.2.1, 0)), (4, (0, y.2.2.2.2.1, 0)), (5, (0, y.2.2.2.2.2.1, 0)), (6, (0, y.2.2.2.2.2.2.1, 0))]) (sh := fun y => y.2.2.2.2.2.2.2) (fun k17 hl17 hr17 y => ts_202_17 ok hX d hl5 hr5 hl17 hr17 y.1 y.2.1 y.2.2.1 y.2.2.2.1 y.2.2.2.2.1 y.2.2.2.2.2.1 y.2.2.2.2.2.2.1 y.2.2.2.2.2.2.2) y
theorem ts_202_5 {X : gX} (ok : gOK X) (hX : gHX X) (d : Nat) {k5 : (Nat × Int × Int × Int × Int × gS) ⊕ gO → Option gO} (hl5 : ∀ y : (Nat × Int × Int × Int × Int × gS), Go X em_202 202 (d + 37) 5 [] [(0, (28, 0, y.1)), (1, (0, y.2.1, 0)), (2, (0, y.2.2.1, 0)), (3, (0, y.2.2.2.1, 0)), (4, (0, y.2.2.2.2.1, 0))] [] y.2.2.2.2.2 0 0 (some (Sum.inl y)) k5) (hr5 : ∀ q, k5 (Sum.inr q) = some q) (x0 : Nat) (x1 : Int) (x2 : Int) (x3 : Int) (x4 : Int) (s : gS) : Go X em_202 202 (d + 37) 5 [] [(0, (28, 0, x0)), (1, (0, x1, 0)), (2, (0, x2, 0)), (3, (0, x3, 0)), (4, (0, x4, 0))] [] s 0 0 (sb_202_5 x0 x1 x2 x3 x4 s) k5 := by
  delta sb_202_5
  refine g_rb gs_202 1 (cd' := gb_202_5) rfl rfl ?_
  refine g_iload ok rfl ?_
  refine g_iload_n ok rfl ?_
  refine g_ic_ge ok rfl (fun _ => ?_) (fun _ => ?_)
  · refine g_rb gs_202 2 (cd' := gb_202_11) rfl rfl ?_
    refine g_iconst ok (v := 0) rfl ?_
    refine g_istore ok rfl (L' := [(0, (28, 0, x0)), (1, (0, x1, 0)), (2, (0, x2, 0)), (3, (0, x3, 0)), (4, (0, x4, 0)), (5, (0, 0, 0))]) rfl ?_
    refine g_iconst ok (v := 0) rfl ?_
    refine g_istore ok rfl (L' := [(0, (28, 0, x0)), (1, (0, x1, 0)), (2, (0, x2, 0)), (3, (0, x3, 0)), (4, (0, x4, 0)), (5, (0, 0, 0)), (6, (0, 0, 0))]) rfl ?_
    exact g_wk ok [(0, (28, 0, x0)), (1, (0, x1, 0)), (2, (0, x2, 0)), (3, (0, x3, 0)), (4, (0, x4, 0)), (5, (0, 0, 0)), (6, (0, 0, 0))] ⟨rfl, rfl, rfl, rfl, rfl, rfl, rfl, trivial⟩ (tl_202_17 ok hX d hl5 hr5 (x0, x1, x2, x3, x4, 0, 0, s))
  · refine g_map hr5 ?_
    refine g_rb gs_202 15 (cd' := gb_202_192) rfl rfl ?_
    refine g_iload_n ok rfl ?_
    exact g_ireturn ok rfl rfl (rfl)
theorem tl_202_5 {X : gX} (ok : gOK X) (hX : gHX X) (d : Nat)  (y : (Nat × Int × Int × Int × Int × gS)) : Go X em_202 202 (d + 37) 5 [] [(0, (28, 0, y.1)), (1, (0, y.2.1, 0)), (2, (0, y.2.2.1, 0)), (3, (0, y.2.2.2.1, 0)), (4, (0, y.2.2.2.2.1, 0))] [] y.2.2.2.2.2 0 0 (gloop (st_202_5) y) some :=
  g_loop (Lh := fun y => [(0, (28, 0, y.1)), (1, (0, y.2.1, 0)), (2, (0, y.2.2.1, 0)), (3, (0, y.2.2.2.1, 0)), (4, (0, y.2.2.2.2.1, 0))]) (sh := fun y => y.2.2.2.2.2) (fun k5 hl5 hr5 y => ts_202_5 ok hX d  hl5 hr5 y.1 y.2.1 y.2.2.1 y.2.2.2.1 y.2.2.2.2.1 y.2.2.2.2.2) y
theorem t_202 {X : gX} (ok : gOK X) (hX : gHX X) (d : Nat) (a0 : Nat) (a1 : Int) (a2 : Int) (s : gS) : Go X em_202 202 (d + 37) 0 [] [(0, (28, 0, a0)), (1, (0, a1, 0)), (2, (0, a2, 0))] [] s 0 0 (f_202 a0 a1 a2 s) some := by
  delta f_202
  refine g_rb gs_202 0 (cd' := gb_202_0) rfl rfl ?_
  refine g_iconst ok (v := 0) rfl ?_
  refine g_istore_n ok rfl (L' := [(0, (28, 0, a0)), (1, (0, a1, 0)), (2, (0, a2, 0)), (3, (0, 0, 0))]) rfl ?_
  refine g_iconst ok (v := 0) rfl ?_
  refine g_istore ok rfl (L' := [(0, (28, 0, a0)), (1, (0, a1, 0)), (2, (0, a2, 0)), (3, (0, 0, 0)), (4, (0, 0, 0))]) rfl ?_
  exact g_wk ok [(0, (28, 0, a0)), (1, (0, a1, 0)), (2, (0, a2, 0)), (3, (0, 0, 0)), (4, (0, 0, 0))] ⟨rfl, rfl, rfl, rfl, rfl, trivial⟩ (tl_202_5 ok hX d  (a0, a1, a2, 0, 0, s))
-- X12_step
theorem ts_203_56 {X : gX} (ok : gOK X) (hX : gHX X) (d : Nat) {k56 : (Nat × Int × Int × Int × gS) ⊕ gO → Option gO} (hl56 : ∀ y : (Nat × Int × Int × Int × gS), Go X em_203 203 (d + 2) 56 [] [(0, (28, 0, y.1)), (1, (0, y.2.1, 0)), (3, (0, y.2.2.1, 0)), (4, (0, y.2.2.2.1, 0))] [] y.2.2.2.2 0 0 (some (Sum.inl y)) k56) (hr56 : ∀ q, k56 (Sum.inr q) = some q) (x0 : Nat) (x1 : Int) (x3 : Int) (x4 : Int) (s : gS) : Go X em_203 203 (d + 2) 56 [] [(0, (28, 0, x0)), (1, (0, x1, 0)), (3, (0, x3, 0)), (4, (0, x4, 0))] [] s 0 0 (sb_203_56 x0 x1 x3 x4 s) k56 := by
  delta sb_203_56
  refine g_rb gs_203 10 (cd' := gb_203_56) rfl rfl ?_
  refine g_iload ok rfl ?_
  refine g_aload_n ok rfl rfl ?_
  refine g_getr ok 6036 rfl rfl rfl ?_
  refine g_bipush ok (v := 6) rfl ?_
  refine g_ialoadc ok (n := 740) 6 rfl rfl rfl ?_
  refine g_ic_ge ok rfl (fun _ => ?_) (fun _ => ?_)
  · refine g_rb gs_203 11 (cd' := gb_203_68) rfl rfl ?_
    refine g_iload_n ok rfl ?_
    refine g_aload_n ok rfl rfl ?_
    refine g_iload ok rfl ?_
    refine g_iconst ok (v := 1) rfl ?_
    refine g_cv1 ok (me_160 hX) rfl rfl rfl rfl (t_160 ok hX _ x0 x4 1 s) (fun v8 s7 => ?_)
    refine g_iload_n ok rfl ?_
    refine g_csz ok (me_153 hX) rfl rfl rfl (t_153 ok hX _ v8 x1 s7) (fun v10 s9 hb11 => ?_)
    refine g_if_eq ok rfl (fun _ => ?_) (fun _ => ?_)
    · refine g_rb gs_203 13 (cd' := gb_203_90) rfl rfl ?_
      refine g_iconst ok (v := 0) rfl ?_
      refine g_rb gs_203 14 (cd' := gb_203_91) rfl rfl ?_
      refine g_ior ok ?_
      refine g_istore_n ok rfl (L' := [(0, (28, 0, x0)), (1, (0, x1, 0)), (3, (0, (gor x3 0), 0)), (4, (0, x4, 0))]) rfl ?_
      refine g_iinc ok rfl rfl (L' := [(0, (28, 0, x0)), (1, (0, x1, 0)), (3, (0, (gor x3 0), 0)), (4, (0, (g32 (x4 + 1)), 0))]) rfl ?_
      refine g_goto ok rfl ?_
      exact g_wk ok [(0, (28, 0, x0)), (1, (0, x1, 0)), (3, (0, (gor x3 0), 0)), (4, (0, (g32 (x4 + 1)), 0))] ⟨rfl, rfl, rfl, rfl, trivial⟩ (hl56 (x0, x1, (gor x3 0), (g32 (x4 + 1)), s9))
    · refine g_rb gs_203 12 (cd' := gb_203_83) rfl rfl ?_
      refine g_iconst ok (v := 1) rfl ?_
      refine g_iload ok rfl ?_
      refine g_ishl ok ?_
      refine g_goto ok rfl ?_
      refine g_rb gs_203 14 (cd' := gb_203_91) rfl rfl ?_
      refine g_ior ok ?_
      let v12 : Int := (gor x3 (gshl 1 x4))
      refine g_istore_n ok rfl (L' := [(0, (28, 0, x0)), (1, (0, x1, 0)), (3, (0, v12, 0)), (4, (0, x4, 0))]) rfl ?_
      refine g_iinc ok rfl rfl (L' := [(0, (28, 0, x0)), (1, (0, x1, 0)), (3, (0, v12, 0)), (4, (0, (g32 (x4 + 1)), 0))]) rfl ?_
      refine g_goto ok rfl ?_
      exact g_wk ok [(0, (28, 0, x0)), (1, (0, x1, 0)), (3, (0, v12, 0)), (4, (0, (g32 (x4 + 1)), 0))] ⟨rfl, rfl, rfl, rfl, trivial⟩ (hl56 (x0, x1, v12, (g32 (x4 + 1)), s9))
  · refine g_map hr56 ?_
    refine g_rb gs_203 15 (cd' := gb_203_99) rfl rfl ?_
    refine g_iload_n ok rfl ?_
    exact g_ireturn ok rfl rfl (rfl)
theorem tl_203_56 {X : gX} (ok : gOK X) (hX : gHX X) (d : Nat)  (y : (Nat × Int × Int × Int × gS)) : Go X em_203 203 (d + 2) 56 [] [(0, (28, 0, y.1)), (1, (0, y.2.1, 0)), (3, (0, y.2.2.1, 0)), (4, (0, y.2.2.2.1, 0))] [] y.2.2.2.2 0 0 (gloop (st_203_56) y) some :=
  g_loop (Lh := fun y => [(0, (28, 0, y.1)), (1, (0, y.2.1, 0)), (3, (0, y.2.2.1, 0)), (4, (0, y.2.2.2.1, 0))]) (sh := fun y => y.2.2.2.2) (fun k56 hl56 hr56 y => ts_203_56 ok hX d  hl56 hr56 y.1 y.2.1 y.2.2.1 y.2.2.2.1 y.2.2.2.2) y
theorem tb_203_27 {X : gX} (ok : gOK X) (hX : gHX X) (d : Nat)  (x0 : Nat) (x1 : Int) (x2 : Int) (w0 : Int) (w1 : Nat) (s : gS) : Go X em_203 203 (d + 2) 27 [] [(0, (28, 0, x0)), (1, (0, x1, 0)), (2, (0, x2, 0))] [(0, w0, 0), (28, 0, w1)] s 0 0 (fb_203_27 x0 x1 x2 w0 w1 s) some := by
  delta fb_203_27
  refine g_rb gs_203 5 (cd' := gb_203_27) rfl rfl ?_
  refine g_puti ok rfl rfl rfl ?_
  let s4 : gS := gw s w1 0 w0
  refine g_aload_n ok rfl rfl ?_
  refine g_geti ok rfl rfl ?_
  refine g_if_le ok rfl (fun _ => ?_) (fun _ => ?_)
  · refine g_rb gs_203 6 (cd' := gb_203_37) rfl rfl ?_
    refine g_iconst ok (v := 0) rfl ?_
    exact g_ireturn ok rfl rfl (rfl)
  · refine g_rb gs_203 7 (cd' := gb_203_39) rfl rfl ?_
    refine g_iload_n ok rfl ?_
    refine g_iconst ok (v := 3) rfl ?_
    refine g_ic_ge ok rfl (fun _ => ?_) (fun _ => ?_)
    · refine g_rb gs_203 8 (cd' := gb_203_44) rfl rfl ?_
      refine g_aload_n ok rfl rfl ?_
      refine g_iload_n ok rfl ?_
      refine g_iload_n ok rfl ?_
      refine g_cv1 ok (me_155 hX) rfl rfl rfl rfl (t_155 ok hX _ x0 x1 x2 s4) (fun v6 s5 => ?_)
      exact g_ireturn ok rfl rfl (rfl)
    · refine g_rb gs_203 9 (cd' := gb_203_51) rfl rfl ?_
      refine g_iconst ok (v := 0) rfl ?_
      refine g_istore_n ok rfl (L' := [(0, (28, 0, x0)), (1, (0, x1, 0)), (2, (0, x2, 0)), (3, (0, 0, 0))]) rfl ?_
      refine g_iconst ok (v := 0) rfl ?_
      refine g_istore ok rfl (L' := [(0, (28, 0, x0)), (1, (0, x1, 0)), (2, (0, x2, 0)), (3, (0, 0, 0)), (4, (0, 0, 0))]) rfl ?_
      exact g_wk ok [(0, (28, 0, x0)), (1, (0, x1, 0)), (3, (0, 0, 0)), (4, (0, 0, 0))] ⟨rfl, rfl, rfl, rfl, trivial⟩ (tl_203_56 ok hX d  (x0, x1, 0, 0, s4))
theorem t_203 {X : gX} (ok : gOK X) (hX : gHX X) (d : Nat) (a0 : Nat) (a1 : Int) (a2 : Int) (s : gS) : Go X em_203 203 (d + 2) 0 [] [(0, (28, 0, a0)), (1, (0, a1, 0)), (2, (0, a2, 0))] [] s 0 0 (f_203 a0 a1 a2 s) some := by
  delta f_203
  refine g_rb gs_203 0 (cd' := gb_203_0) rfl rfl ?_
  refine g_aload_n ok rfl rfl ?_
  refine g_aload_n ok rfl rfl ?_
  refine g_iload_n ok rfl ?_
  refine g_cvz ok (me_161 hX) rfl rfl rfl rfl (t_161 ok hX _ a0 a1 s) (fun v2 s1 hb3 => ?_)
  refine g_if_ne ok rfl (fun _ => ?_) (fun _ => ?_)
  · refine g_rb gs_203 1 (cd' := gb_203_9) rfl rfl ?_
    refine g_iconst ok (v := 1) rfl ?_
    refine g_goto ok rfl ?_
    exact g_wk ok [(0, (28, 0, a0)), (1, (0, a1, 0)), (2, (0, a2, 0))] ⟨rfl, rfl, rfl, trivial⟩ (tb_203_27 ok hX d  a0 a1 a2 1 a0 s1)
  · refine g_rb gs_203 2 (cd' := gb_203_13) rfl rfl ?_
    refine g_iload_n ok rfl ?_
    refine g_iconst ok (v := 0) rfl ?_
    refine g_iconst ok (v := 3) rfl ?_
    refine g_csz ok (me_150 hX) rfl rfl rfl (t_150 ok hX _ a2 0 3 s1) (fun v14 s13 hb15 => ?_)
    refine g_if_ne ok rfl (fun _ => ?_) (fun _ => ?_)
    · refine g_rb gs_203 3 (cd' := gb_203_22) rfl rfl ?_
      refine g_iconst ok (v := 2) rfl ?_
      refine g_goto ok rfl ?_
      exact g_wk ok [(0, (28, 0, a0)), (1, (0, a1, 0)), (2, (0, a2, 0))] ⟨rfl, rfl, rfl, trivial⟩ (tb_203_27 ok hX d  a0 a1 a2 2 a0 s13)
    · refine g_rb gs_203 4 (cd' := gb_203_26) rfl rfl ?_
      refine g_iconst ok (v := 0) rfl ?_
      exact g_wk ok [(0, (28, 0, a0)), (1, (0, a1, 0)), (2, (0, a2, 0))] ⟨rfl, rfl, rfl, trivial⟩ (tb_203_27 ok hX d  a0 a1 a2 0 a0 s13)
-- X12_left
theorem ts_204_10 {X : gX} (ok : gOK X) (hX : gHX X) (d : Nat) {k10 : (Nat × Int × Int × Int × gS) ⊕ gO → Option gO} (hl10 : ∀ y : (Nat × Int × Int × Int × gS), Go X em_204 204 (d + 1) 10 [] [(0, (28, 0, y.1)), (2, (0, y.2.1, 0)), (3, (0, y.2.2.1, 0)), (4, (0, y.2.2.2.1, 0))] [] y.2.2.2.2 0 0 (some (Sum.inl y)) k10) (hr10 : ∀ q, k10 (Sum.inr q) = some q) (x0 : Nat) (x2 : Int) (x3 : Int) (x4 : Int) (s : gS) : Go X em_204 204 (d + 1) 10 [] [(0, (28, 0, x0)), (2, (0, x2, 0)), (3, (0, x3, 0)), (4, (0, x4, 0))] [] s 0 0 (sb_204_10 x0 x2 x3 x4 s) k10 := by
  delta sb_204_10
  refine g_rb gs_204 1 (cd' := gb_204_10) rfl rfl ?_
  refine g_iload ok rfl ?_
  refine g_aload_n ok rfl rfl ?_
  refine g_getr ok 6036 rfl rfl rfl ?_
  refine g_iconst ok (v := 3) rfl ?_
  refine g_ialoadc ok (n := 740) 3 rfl rfl rfl ?_
  refine g_ic_ge ok rfl (fun _ => ?_) (fun _ => ?_)
  · refine g_rb gs_204 2 (cd' := gb_204_21) rfl rfl ?_
    refine g_iload_n ok rfl ?_
    refine g_aload_n ok rfl rfl ?_
    refine g_iload ok rfl ?_
    refine g_iload_n ok rfl ?_
    refine g_cv1 ok (me_155 hX) rfl rfl rfl rfl (t_155 ok hX _ x0 x4 x2 s) (fun v4 s3 => ?_)
    refine g_iadd ok ?_
    refine g_istore_n ok rfl (L' := [(0, (28, 0, x0)), (2, (0, x2, 0)), (3, (0, (g32 (x3 + v4)), 0)), (4, (0, x4, 0))]) rfl ?_
    refine g_iinc ok rfl rfl (L' := [(0, (28, 0, x0)), (2, (0, x2, 0)), (3, (0, (g32 (x3 + v4)), 0)), (4, (0, (g32 (x4 + 1)), 0))]) rfl ?_
    refine g_goto ok rfl ?_
    exact g_wk ok [(0, (28, 0, x0)), (2, (0, x2, 0)), (3, (0, (g32 (x3 + v4)), 0)), (4, (0, (g32 (x4 + 1)), 0))] ⟨rfl, rfl, rfl, rfl, trivial⟩ (hl10 (x0, x2, (g32 (x3 + v4)), (g32 (x4 + 1)), s3))
  · refine g_map hr10 ?_
    refine g_rb gs_204 3 (cd' := gb_204_37) rfl rfl ?_
    refine g_iload_n ok rfl ?_
    exact g_ireturn ok rfl rfl (rfl)
theorem tl_204_10 {X : gX} (ok : gOK X) (hX : gHX X) (d : Nat)  (y : (Nat × Int × Int × Int × gS)) : Go X em_204 204 (d + 1) 10 [] [(0, (28, 0, y.1)), (2, (0, y.2.1, 0)), (3, (0, y.2.2.1, 0)), (4, (0, y.2.2.2.1, 0))] [] y.2.2.2.2 0 0 (gloop (st_204_10) y) some :=
  g_loop (Lh := fun y => [(0, (28, 0, y.1)), (2, (0, y.2.1, 0)), (3, (0, y.2.2.1, 0)), (4, (0, y.2.2.2.1, 0))]) (sh := fun y => y.2.2.2.2) (fun k10 hl10 hr10 y => ts_204_10 ok hX d  hl10 hr10 y.1 y.2.1 y.2.2.1 y.2.2.2.1 y.2.2.2.2) y
theorem t_204 {X : gX} (ok : gOK X) (hX : gHX X) (d : Nat) (a0 : Nat) (a1 : Int) (a2 : Int) (s : gS) : Go X em_204 204 (d + 1) 0 [] [(0, (28, 0, a0)), (1, (0, a1, 0)), (2, (0, a2, 0))] [] s 0 0 (f_204 a0 a1 a2 s) some := by
  delta f_204
  refine g_rb gs_204 0 (cd' := gb_204_0) rfl rfl ?_
  refine g_iconst ok (v := 0) rfl ?_
  refine g_istore_n ok rfl (L' := [(0, (28, 0, a0)), (1, (0, a1, 0)), (2, (0, a2, 0)), (3, (0, 0, 0))]) rfl ?_
  refine g_aload_n ok rfl rfl ?_
  refine g_iload_n ok rfl ?_
  refine g_iconst ok (v := 3) rfl ?_
  refine g_cv1 ok (me_156 hX) rfl rfl rfl rfl (t_156 ok hX _ a0 a1 3 s) (fun v2 s1 => ?_)
  refine g_istore ok rfl (L' := [(0, (28, 0, a0)), (1, (0, a1, 0)), (2, (0, a2, 0)), (3, (0, 0, 0)), (4, (0, v2, 0))]) rfl ?_
  exact g_wk ok [(0, (28, 0, a0)), (2, (0, a2, 0)), (3, (0, 0, 0)), (4, (0, v2, 0))] ⟨rfl, rfl, rfl, rfl, trivial⟩ (tl_204_10 ok hX d  (a0, a2, 0, v2, s1))
-- X12_outlay
theorem t_205 {X : gX} (ok : gOK X) (hX : gHX X) (d : Nat) (a0 : Nat) (a1 : Int) (s : gS) : Go X em_205 205 (d + 2) 0 [] [(0, (28, 0, a0)), (1, (0, a1, 0))] [] s 0 0 (f_205 a0 a1 s) some := by
  delta f_205
  refine g_rb gs_205 0 (cd' := gb_205_0) rfl rfl ?_
  refine g_aload_n ok rfl rfl ?_
  refine g_iload_n ok rfl ?_
  refine g_iconst ok (v := 1) rfl ?_
  refine g_cv1 ok (me_204 hX) rfl rfl rfl rfl (t_204 ok hX _ a0 a1 1 s) (fun v2 s1 => ?_)
  refine g_aload_n ok rfl rfl ?_
  refine g_iload_n ok rfl ?_
  refine g_iconst ok (v := 4) rfl ?_
  refine g_cv1 ok (me_156 hX) rfl rfl rfl rfl (t_156 ok hX _ a0 a1 4 s1) (fun v4 s3 => ?_)
  refine g_if_le ok rfl (fun _ => ?_) (fun _ => ?_)
  · refine g_rb gs_205 1 (cd' := gb_205_15) rfl rfl ?_
    refine g_aload_n ok rfl rfl ?_
    refine g_aload_n ok rfl rfl ?_
    refine g_iload_n ok rfl ?_
    refine g_iconst ok (v := 3) rfl ?_
    refine g_cv1 ok (me_156 hX) rfl rfl rfl rfl (t_156 ok hX _ a0 a1 3 s3) (fun v6 s5 => ?_)
    refine g_iconst ok (v := 1) rfl ?_
    refine g_cv1 ok (me_155 hX) rfl rfl rfl rfl (t_155 ok hX _ a0 v6 1 s5) (fun v8 s7 => ?_)
    refine g_goto ok rfl ?_
    refine g_rb gs_205 3 (cd' := gb_205_30) rfl rfl ?_
    refine g_isub ok ?_
    exact g_ireturn ok rfl rfl (rfl)
  · refine g_rb gs_205 2 (cd' := gb_205_29) rfl rfl ?_
    refine g_iconst ok (v := 0) rfl ?_
    refine g_rb gs_205 3 (cd' := gb_205_30) rfl rfl ?_
    refine g_isub ok ?_
    exact g_ireturn ok rfl rfl (rfl)
-- X12_man
theorem tb_206_28 {X : gX} (ok : gOK X) (hX : gHX X) (d : Nat)  (x0 : Nat) (x1 : Int) (x2 : Int) (w0 : Int) (w1 : Nat) (s : gS) : Go X em_206 206 (d + 37) 28 [] [(0, (28, 0, x0)), (1, (0, x1, 0)), (2, (0, x2, 0))] [(0, w0, 0), (28, 0, w1)] s 0 0 (fb_206_28 x0 x1 x2 w0 w1 s) some := by
  delta fb_206_28
  refine g_rb gs_206 5 (cd' := gb_206_28) rfl rfl ?_
  refine g_puti ok rfl rfl rfl ?_
  let s4 : gS := gw s w1 0 w0
  refine g_aload_n ok rfl rfl ?_
  refine g_geti ok rfl rfl ?_
  refine g_if_le ok rfl (fun _ => ?_) (fun _ => ?_)
  · refine g_rb gs_206 6 (cd' := gb_206_38) rfl rfl ?_
    refine g_iconst ok (v := 0) rfl ?_
    exact g_ireturn ok rfl rfl (rfl)
  · refine g_rb gs_206 7 (cd' := gb_206_40) rfl rfl ?_
    refine g_iload_n ok rfl ?_
    refine g_bipush ok (v := 6) rfl ?_
    refine g_ic_ge ok rfl (fun _ => ?_) (fun _ => ?_)
    · refine g_rb gs_206 8 (cd' := gb_206_46) rfl rfl ?_
      refine g_aload_n ok rfl rfl ?_
      refine g_iload_n ok rfl ?_
      refine g_iload_n ok rfl ?_
      refine g_cv1 ok (me_156 hX) rfl rfl rfl rfl (t_156 ok hX _ x0 x1 x2 s4) (fun v6 s5 => ?_)
      exact g_ireturn ok rfl rfl (rfl)
    · refine g_rb gs_206 9 (cd' := gb_206_53) rfl rfl ?_
      refine g_iload_n ok rfl ?_
      refine g_bipush ok (v := 6) rfl ?_
      refine g_ic_ne ok rfl (fun _ => ?_) (fun _ => ?_)
      · refine g_rb gs_206 10 (cd' := gb_206_59) rfl rfl ?_
        refine g_aload_n ok rfl rfl ?_
        refine g_iload_n ok rfl ?_
        refine g_cv1 ok (me_198 hX) rfl rfl rfl rfl (t_198 ok hX _ x0 x1 s4) (fun v8 s7 => ?_)
        exact g_ireturn ok rfl rfl (rfl)
      · refine g_rb gs_206 11 (cd' := gb_206_65) rfl rfl ?_
        refine g_iload_n ok rfl ?_
        refine g_bipush ok (v := 7) rfl ?_
        refine g_ic_ne ok rfl (fun _ => ?_) (fun _ => ?_)
        · refine g_rb gs_206 12 (cd' := gb_206_71) rfl rfl ?_
          refine g_aload_n ok rfl rfl ?_
          refine g_iload_n ok rfl ?_
          refine g_cv1 ok (me_205 hX) rfl rfl rfl rfl (t_205 ok hX _ x0 x1 s4) (fun v10 s9 => ?_)
          exact g_ireturn ok rfl rfl (rfl)
        · refine g_rb gs_206 13 (cd' := gb_206_77) rfl rfl ?_
          refine g_iload_n ok rfl ?_
          refine g_bipush ok (v := 8) rfl ?_
          refine g_ic_ne ok rfl (fun _ => ?_) (fun _ => ?_)
          · refine g_rb gs_206 14 (cd' := gb_206_83) rfl rfl ?_
            refine g_aload_n ok rfl rfl ?_
            refine g_iload_n ok rfl ?_
            refine g_iconst ok (v := 0) rfl ?_
            refine g_cv1 ok (me_204 hX) rfl rfl rfl rfl (t_204 ok hX _ x0 x1 0 s4) (fun v12 s11 => ?_)
            refine g_aload_n ok rfl rfl ?_
            refine g_iload_n ok rfl ?_
            refine g_iconst ok (v := 4) rfl ?_
            refine g_cv1 ok (me_156 hX) rfl rfl rfl rfl (t_156 ok hX _ x0 x1 4 s11) (fun v14 s13 => ?_)
            refine g_isub ok ?_
            refine g_goto ok rfl ?_
            refine g_rb gs_206 16 (cd' := gb_206_111) rfl rfl ?_
            exact g_ireturn ok rfl rfl (rfl)
          · refine g_rb gs_206 15 (cd' := gb_206_99) rfl rfl ?_
            refine g_aload_n ok rfl rfl ?_
            refine g_iload_n ok rfl ?_
            refine g_iconst ok (v := 2) rfl ?_
            refine g_cv1 ok (me_204 hX) rfl rfl rfl rfl (t_204 ok hX _ x0 x1 2 s4) (fun v16 s15 => ?_)
            refine g_aload_n ok rfl rfl ?_
            refine g_iload_n ok rfl ?_
            refine g_cv1 ok (me_205 hX) rfl rfl rfl rfl (t_205 ok hX _ x0 x1 s15) (fun v18 s17 => ?_)
            refine g_isub ok ?_
            refine g_rb gs_206 16 (cd' := gb_206_111) rfl rfl ?_
            exact g_ireturn ok rfl rfl (rfl)
theorem t_206 {X : gX} (ok : gOK X) (hX : gHX X) (d : Nat) (a0 : Nat) (a1 : Int) (a2 : Int) (s : gS) : Go X em_206 206 (d + 37) 0 [] [(0, (28, 0, a0)), (1, (0, a1, 0)), (2, (0, a2, 0))] [] s 0 0 (f_206 a0 a1 a2 s) some := by
  delta f_206
  refine g_rb gs_206 0 (cd' := gb_206_0) rfl rfl ?_
  refine g_aload_n ok rfl rfl ?_
  refine g_aload_n ok rfl rfl ?_
  refine g_iload_n ok rfl ?_
  refine g_cvz ok (me_162 hX) rfl rfl rfl rfl (t_162 ok hX _ a0 a1 s) (fun v2 s1 hb3 => ?_)
  refine g_if_ne ok rfl (fun _ => ?_) (fun _ => ?_)
  · refine g_rb gs_206 1 (cd' := gb_206_9) rfl rfl ?_
    refine g_iconst ok (v := 1) rfl ?_
    refine g_goto ok rfl ?_
    exact g_wk ok [(0, (28, 0, a0)), (1, (0, a1, 0)), (2, (0, a2, 0))] ⟨rfl, rfl, rfl, trivial⟩ (tb_206_28 ok hX d  a0 a1 a2 1 a0 s1)
  · refine g_rb gs_206 2 (cd' := gb_206_13) rfl rfl ?_
    refine g_iload_n ok rfl ?_
    refine g_iconst ok (v := 0) rfl ?_
    refine g_bipush ok (v := 9) rfl ?_
    refine g_csz ok (me_150 hX) rfl rfl rfl (t_150 ok hX _ a2 0 9 s1) (fun v20 s19 hb21 => ?_)
    refine g_if_ne ok rfl (fun _ => ?_) (fun _ => ?_)
    · refine g_rb gs_206 3 (cd' := gb_206_23) rfl rfl ?_
      refine g_iconst ok (v := 2) rfl ?_
      refine g_goto ok rfl ?_
      exact g_wk ok [(0, (28, 0, a0)), (1, (0, a1, 0)), (2, (0, a2, 0))] ⟨rfl, rfl, rfl, trivial⟩ (tb_206_28 ok hX d  a0 a1 a2 2 a0 s19)
    · refine g_rb gs_206 4 (cd' := gb_206_27) rfl rfl ?_
      refine g_iconst ok (v := 0) rfl ?_
      exact g_wk ok [(0, (28, 0, a0)), (1, (0, a1, 0)), (2, (0, a2, 0))] ⟨rfl, rfl, rfl, trivial⟩ (tb_206_28 ok hX d  a0 a1 a2 0 a0 s19)
-- X12_test
theorem tb_207_14 {X : gX} (ok : gOK X) (hX : gHX X) (d : Nat)  (x0 : Nat) (x1 : Int) (x2 : Int) (w0 : Int) (w1 : Nat) (s : gS) : Go X em_207 207 (d + 2) 14 [] [(0, (28, 0, x0)), (1, (0, x1, 0)), (2, (0, x2, 0))] [(0, w0, 0), (28, 0, w1)] s 0 0 (fb_207_14 x0 x1 x2 w0 w1 s) some := by
  delta fb_207_14
  refine g_rb gs_207 3 (cd' := gb_207_14) rfl rfl ?_
  refine g_puti ok rfl rfl rfl ?_
  let s4 : gS := gw s w1 0 w0
  refine g_aload_n ok rfl rfl ?_
  refine g_geti ok rfl rfl ?_
  refine g_if_le ok rfl (fun _ => ?_) (fun _ => ?_)
  · refine g_rb gs_207 4 (cd' := gb_207_24) rfl rfl ?_
    refine g_iconst ok (v := 0) rfl ?_
    refine g_goto ok rfl ?_
    refine g_rb gs_207 8 (cd' := gb_207_45) rfl rfl ?_
    exact g_ireturn ok rfl rfl (rfl)
  · refine g_rb gs_207 5 (cd' := gb_207_28) rfl rfl ?_
    refine g_iload_n ok rfl ?_
    refine g_if_eq ok rfl (fun _ => ?_) (fun _ => ?_)
    · refine g_rb gs_207 7 (cd' := gb_207_40) rfl rfl ?_
      refine g_aload_n ok rfl rfl ?_
      refine g_iload_n ok rfl ?_
      refine g_cv1 ok (me_158 hX) rfl rfl rfl rfl (t_158 ok hX _ x0 x1 s4) (fun v6 s5 => ?_)
      refine g_rb gs_207 8 (cd' := gb_207_45) rfl rfl ?_
      exact g_ireturn ok rfl rfl (rfl)
    · refine g_rb gs_207 6 (cd' := gb_207_32) rfl rfl ?_
      refine g_aload_n ok rfl rfl ?_
      refine g_iload_n ok rfl ?_
      refine g_cv1 ok (me_159 hX) rfl rfl rfl rfl (t_159 ok hX _ x0 x1 s4) (fun v8 s7 => ?_)
      refine g_goto ok rfl ?_
      refine g_rb gs_207 8 (cd' := gb_207_45) rfl rfl ?_
      exact g_ireturn ok rfl rfl (rfl)
theorem t_207 {X : gX} (ok : gOK X) (hX : gHX X) (d : Nat) (a0 : Nat) (a1 : Int) (a2 : Int) (s : gS) : Go X em_207 207 (d + 2) 0 [] [(0, (28, 0, a0)), (1, (0, a1, 0)), (2, (0, a2, 0))] [] s 0 0 (f_207 a0 a1 a2 s) some := by
  delta f_207
  refine g_rb gs_207 0 (cd' := gb_207_0) rfl rfl ?_
  refine g_aload_n ok rfl rfl ?_
  refine g_aload_n ok rfl rfl ?_
  refine g_iload_n ok rfl ?_
  refine g_cvz ok (me_163 hX) rfl rfl rfl rfl (t_163 ok hX _ a0 a1 s) (fun v2 s1 hb3 => ?_)
  refine g_if_ne ok rfl (fun _ => ?_) (fun _ => ?_)
  · refine g_rb gs_207 1 (cd' := gb_207_9) rfl rfl ?_
    refine g_iconst ok (v := 1) rfl ?_
    refine g_goto ok rfl ?_
    exact g_wk ok [(0, (28, 0, a0)), (1, (0, a1, 0)), (2, (0, a2, 0))] ⟨rfl, rfl, rfl, trivial⟩ (tb_207_14 ok hX d  a0 a1 a2 1 a0 s1)
  · refine g_rb gs_207 2 (cd' := gb_207_13) rfl rfl ?_
    refine g_iconst ok (v := 0) rfl ?_
    exact g_wk ok [(0, (28, 0, a0)), (1, (0, a1, 0)), (2, (0, a2, 0))] ⟨rfl, rfl, rfl, trivial⟩ (tb_207_14 ok hX d  a0 a1 a2 0 a0 s1)
-- X12_rival
theorem tb_208_39 {X : gX} (ok : gOK X) (hX : gHX X) (d : Nat)  (w0 : Int) (w1 : Int) (w2 : Nat) (s : gS) : Go X em_208 208 (d + 2) 39 [] [] [(0, w0, 0), (0, w1, 0), (28, 0, w2)] s 0 0 (fb_208_39 w0 w1 w2 s) some := by
  delta fb_208_39
  refine g_rb gs_208 8 (cd' := gb_208_39) rfl rfl ?_
  refine g_cv1 ok (me_160 hX) rfl rfl rfl rfl (t_160 ok hX _ w2 w1 w0 s) (fun v6 s5 => ?_)
  refine g_rb gs_208 9 (cd' := gb_208_42) rfl rfl ?_
  exact g_ireturn ok rfl rfl (rfl)
theorem tb_208_14 {X : gX} (ok : gOK X) (hX : gHX X) (d : Nat)  (x0 : Nat) (x1 : Int) (x2 : Int) (w0 : Int) (w1 : Nat) (s : gS) : Go X em_208 208 (d + 2) 14 [] [(0, (28, 0, x0)), (1, (0, x1, 0)), (2, (0, x2, 0))] [(0, w0, 0), (28, 0, w1)] s 0 0 (fb_208_14 x0 x1 x2 w0 w1 s) some := by
  delta fb_208_14
  refine g_rb gs_208 3 (cd' := gb_208_14) rfl rfl ?_
  refine g_puti ok rfl rfl rfl ?_
  let s4 : gS := gw s w1 0 w0
  refine g_aload_n ok rfl rfl ?_
  refine g_geti ok rfl rfl ?_
  refine g_if_le ok rfl (fun _ => ?_) (fun _ => ?_)
  · refine g_rb gs_208 4 (cd' := gb_208_24) rfl rfl ?_
    refine g_iconst ok (v := 0) rfl ?_
    refine g_goto ok rfl ?_
    refine g_rb gs_208 9 (cd' := gb_208_42) rfl rfl ?_
    exact g_ireturn ok rfl rfl (rfl)
  · refine g_rb gs_208 5 (cd' := gb_208_28) rfl rfl ?_
    refine g_aload_n ok rfl rfl ?_
    refine g_iload_n ok rfl ?_
    refine g_iload_n ok rfl ?_
    refine g_if_eq ok rfl (fun _ => ?_) (fun _ => ?_)
    · refine g_rb gs_208 7 (cd' := gb_208_38) rfl rfl ?_
      refine g_iconst ok (v := 0) rfl ?_
      exact g_wk ok [] trivial (tb_208_39 ok hX d  0 x1 x0 s4)
    · refine g_rb gs_208 6 (cd' := gb_208_34) rfl rfl ?_
      refine g_iconst ok (v := 1) rfl ?_
      refine g_goto ok rfl ?_
      exact g_wk ok [] trivial (tb_208_39 ok hX d  1 x1 x0 s4)
theorem t_208 {X : gX} (ok : gOK X) (hX : gHX X) (d : Nat) (a0 : Nat) (a1 : Int) (a2 : Int) (s : gS) : Go X em_208 208 (d + 2) 0 [] [(0, (28, 0, a0)), (1, (0, a1, 0)), (2, (0, a2, 0))] [] s 0 0 (f_208 a0 a1 a2 s) some := by
  delta f_208
  refine g_rb gs_208 0 (cd' := gb_208_0) rfl rfl ?_
  refine g_aload_n ok rfl rfl ?_
  refine g_aload_n ok rfl rfl ?_
  refine g_iload_n ok rfl ?_
  refine g_cvz ok (me_164 hX) rfl rfl rfl rfl (t_164 ok hX _ a0 a1 s) (fun v2 s1 hb3 => ?_)
  refine g_if_ne ok rfl (fun _ => ?_) (fun _ => ?_)
  · refine g_rb gs_208 1 (cd' := gb_208_9) rfl rfl ?_
    refine g_iconst ok (v := 1) rfl ?_
    refine g_goto ok rfl ?_
    exact g_wk ok [(0, (28, 0, a0)), (1, (0, a1, 0)), (2, (0, a2, 0))] ⟨rfl, rfl, rfl, trivial⟩ (tb_208_14 ok hX d  a0 a1 a2 1 a0 s1)
  · refine g_rb gs_208 2 (cd' := gb_208_13) rfl rfl ?_
    refine g_iconst ok (v := 0) rfl ?_
    exact g_wk ok [(0, (28, 0, a0)), (1, (0, a1, 0)), (2, (0, a2, 0))] ⟨rfl, rfl, rfl, trivial⟩ (tb_208_14 ok hX d  a0 a1 a2 0 a0 s1)
-- X12_remembers
theorem ts_209_52 {X : gX} (ok : gOK X) (hX : gHX X) (d : Nat) {k52 : (Nat × Int × gS) ⊕ gO → Option gO} (hl52 : ∀ y : (Nat × Int × gS), Go X em_209 209 d 52 [] [(0, (28, 0, y.1)), (1, (0, y.2.1, 0))] [] y.2.2 0 0 (some (Sum.inl y)) k52) (hr52 : ∀ q, k52 (Sum.inr q) = some q) (x0 : Nat) (x1 : Int) (s : gS) : Go X em_209 209 d 52 [] [(0, (28, 0, x0)), (1, (0, x1, 0))] [] s 0 0 (sb_209_52 x0 x1 s) k52 := by
  delta sb_209_52
  refine g_rb gs_209 6 (cd' := gb_209_52) rfl rfl ?_
  refine g_iload_n ok rfl ?_
  refine g_sipush ok (v := 340) rfl ?_
  refine g_ic_ge ok rfl (fun _ => ?_) (fun _ => ?_)
  · refine g_rb gs_209 7 (cd' := gb_209_59) rfl rfl ?_
    refine g_aload_n ok rfl rfl ?_
    refine g_getr ok 32756 rfl rfl rfl ?_
    refine g_sipush ok (v := 340) rfl ?_
    refine g_aload_n ok rfl rfl ?_
    refine g_geti ok rfl rfl ?_
    refine g_imul ok ?_
    refine g_iload_n ok rfl ?_
    refine g_iadd ok ?_
    refine g_aload_n ok rfl rfl ?_
    refine g_getr ok 6036 rfl rfl rfl ?_
    refine g_iload_n ok rfl ?_
    refine g_iaload ok (n := 740) rfl rfl (fun _ _ => ?_)
    refine g_iastore ok (n := 4080) rfl rfl (fun _ _ => ?_)
    let s3 : gS := gw s (gR s x0 5) ((g32 ((g32 (340 * (gI s x0 6))) + x1)) : Int).toNat (gI s (gR s x0 1) (x1 : Int).toNat)
    refine g_iinc ok rfl rfl (L' := [(0, (28, 0, x0)), (1, (0, (g32 (x1 + 1)), 0))]) rfl ?_
    refine g_goto ok rfl ?_
    exact g_wk ok [(0, (28, 0, x0)), (1, (0, (g32 (x1 + 1)), 0))] ⟨rfl, rfl, trivial⟩ (hl52 (x0, (g32 (x1 + 1)), s3))
  · refine g_map hr52 ?_
    refine g_rb gs_209 8 (cd' := gb_209_86) rfl rfl ?_
    refine g_aload_n ok rfl rfl ?_
    refine g_dup ok rfl ?_
    refine g_geti ok rfl rfl ?_
    refine g_iconst ok (v := 1) rfl ?_
    refine g_iadd ok ?_
    refine g_puti ok rfl rfl rfl ?_
    let s4 : gS := gw s x0 6 (g32 ((gI s x0 6) + 1))
    exact g_return ok rfl rfl (rfl)
theorem tl_209_52 {X : gX} (ok : gOK X) (hX : gHX X) (d : Nat)  (y : (Nat × Int × gS)) : Go X em_209 209 d 52 [] [(0, (28, 0, y.1)), (1, (0, y.2.1, 0))] [] y.2.2 0 0 (gloop (st_209_52) y) some :=
  g_loop (Lh := fun y => [(0, (28, 0, y.1)), (1, (0, y.2.1, 0))]) (sh := fun y => y.2.2) (fun k52 hl52 hr52 y => ts_209_52 ok hX d  hl52 hr52 y.1 y.2.1 y.2.2) y
theorem tb_209_50 {X : gX} (ok : gOK X) (hX : gHX X) (d : Nat)  (x0 : Nat) (s : gS) : Go X em_209 209 d 50 [] [(0, (28, 0, x0))] [] s 0 0 (fb_209_50 x0 s) some := by
  delta fb_209_50
  refine g_rb gs_209 5 (cd' := gb_209_50) rfl rfl ?_
  refine g_iconst ok (v := 0) rfl ?_
  refine g_istore_n ok rfl (L' := [(0, (28, 0, x0)), (1, (0, 0, 0))]) rfl ?_
  exact g_wk ok [(0, (28, 0, x0)), (1, (0, 0, 0))] ⟨rfl, rfl, trivial⟩ (tl_209_52 ok hX d  (x0, 0, s))
theorem ts_209_11 {X : gX} (ok : gOK X) (hX : gHX X) (d : Nat) {k11 : (Nat × Int × gS) ⊕ gO → Option gO} (hl11 : ∀ y : (Nat × Int × gS), Go X em_209 209 d 11 [] [(0, (28, 0, y.1)), (1, (0, y.2.1, 0))] [] y.2.2 0 0 (some (Sum.inl y)) k11) (hr11 : ∀ q, k11 (Sum.inr q) = some q) (x0 : Nat) (x1 : Int) (s : gS) : Go X em_209 209 d 11 [] [(0, (28, 0, x0)), (1, (0, x1, 0))] [] s 0 0 (sb_209_11 x0 x1 s) k11 := by
  delta sb_209_11
  refine g_rb gs_209 2 (cd' := gb_209_11) rfl rfl ?_
  refine g_iload_n ok rfl ?_
  refine g_sipush ok (v := 3740) rfl ?_
  refine g_ic_ge ok rfl (fun _ => ?_) (fun _ => ?_)
  · refine g_rb gs_209 3 (cd' := gb_209_18) rfl rfl ?_
    refine g_aload_n ok rfl rfl ?_
    refine g_getr ok 32756 rfl rfl rfl ?_
    refine g_iload_n ok rfl ?_
    refine g_aload_n ok rfl rfl ?_
    refine g_getr ok 32756 rfl rfl rfl ?_
    refine g_iload_n ok rfl ?_
    refine g_sipush ok (v := 340) rfl ?_
    refine g_iadd ok ?_
    refine g_iaload ok (n := 4080) rfl rfl (fun _ _ => ?_)
    refine g_iastore ok (n := 4080) rfl rfl (fun _ _ => ?_)
    let s1 : gS := gw s (gR s x0 5) (x1 : Int).toNat (gI s (gR s x0 5) ((g32 (x1 + 340)) : Int).toNat)
    refine g_iinc ok rfl rfl (L' := [(0, (28, 0, x0)), (1, (0, (g32 (x1 + 1)), 0))]) rfl ?_
    refine g_goto ok rfl ?_
    exact g_wk ok [(0, (28, 0, x0)), (1, (0, (g32 (x1 + 1)), 0))] ⟨rfl, rfl, trivial⟩ (hl11 (x0, (g32 (x1 + 1)), s1))
  · refine g_map hr11 ?_
    refine g_rb gs_209 4 (cd' := gb_209_40) rfl rfl ?_
    refine g_aload_n ok rfl rfl ?_
    refine g_dup ok rfl ?_
    refine g_geti ok rfl rfl ?_
    refine g_iconst ok (v := 1) rfl ?_
    refine g_isub ok ?_
    refine g_puti ok rfl rfl rfl ?_
    let s2 : gS := gw s x0 6 (g32 ((gI s x0 6) - 1))
    exact g_wk ok [(0, (28, 0, x0))] ⟨rfl, trivial⟩ (tb_209_50 ok hX d  x0 s2)
theorem tl_209_11 {X : gX} (ok : gOK X) (hX : gHX X) (d : Nat)  (y : (Nat × Int × gS)) : Go X em_209 209 d 11 [] [(0, (28, 0, y.1)), (1, (0, y.2.1, 0))] [] y.2.2 0 0 (gloop (st_209_11) y) some :=
  g_loop (Lh := fun y => [(0, (28, 0, y.1)), (1, (0, y.2.1, 0))]) (sh := fun y => y.2.2) (fun k11 hl11 hr11 y => ts_209_11 ok hX d  hl11 hr11 y.1 y.2.1 y.2.2) y
theorem t_209 {X : gX} (ok : gOK X) (hX : gHX X) (d : Nat) (a0 : Nat) (s : gS) : Go X em_209 209 d 0 [] [(0, (28, 0, a0))] [] s 0 0 (f_209 a0 s) some := by
  delta f_209
  refine g_rb gs_209 0 (cd' := gb_209_0) rfl rfl ?_
  refine g_aload_n ok rfl rfl ?_
  refine g_geti ok rfl rfl ?_
  refine g_bipush ok (v := 12) rfl ?_
  refine g_ic_ne ok rfl (fun _ => ?_) (fun _ => ?_)
  · refine g_rb gs_209 1 (cd' := gb_209_9) rfl rfl ?_
    refine g_iconst ok (v := 0) rfl ?_
    refine g_istore_n ok rfl (L' := [(0, (28, 0, a0)), (1, (0, 0, 0))]) rfl ?_
    exact g_wk ok [(0, (28, 0, a0)), (1, (0, 0, 0))] ⟨rfl, rfl, trivial⟩ (tl_209_11 ok hX d  (a0, 0, s))
  · exact g_wk ok [(0, (28, 0, a0))] ⟨rfl, trivial⟩ (tb_209_50 ok hX d  a0 s)
-- X12_logs
theorem ts_210_4 {X : gX} (ok : gOK X) (hX : gHX X) (d : Nat) {k4 : (Nat × Int × Int × Int × gS) ⊕ gO → Option gO} (hl4 : ∀ y : (Nat × Int × Int × Int × gS), Go X em_210 210 (d + 1) 4 [] [(0, (28, 0, y.1)), (1, (0, y.2.1, 0)), (2, (0, y.2.2.1, 0)), (3, (0, y.2.2.2.1, 0))] [] y.2.2.2.2 0 0 (some (Sum.inl y)) k4) (hr4 : ∀ q, k4 (Sum.inr q) = some q) (x0 : Nat) (x1 : Int) (x2 : Int) (x3 : Int) (s : gS) : Go X em_210 210 (d + 1) 4 [] [(0, (28, 0, x0)), (1, (0, x1, 0)), (2, (0, x2, 0)), (3, (0, x3, 0))] [] s 0 0 (sb_210_4 x0 x1 x2 x3 s) k4 := by
  delta sb_210_4
  refine g_rb gs_210 1 (cd' := gb_210_4) rfl rfl ?_
  refine g_iload_n ok rfl ?_
  refine g_iconst ok (v := 4) rfl ?_
  refine g_ic_lt ok rfl (fun _ => ?_) (fun _ => ?_)
  · refine g_map hr4 ?_
    refine g_rb gs_210 3 (cd' := gb_210_35) rfl rfl ?_
    refine g_aload_n ok rfl rfl ?_
    refine g_getr ok 6036 rfl rfl rfl ?_
    refine g_bipush ok (v := 100) rfl ?_
    refine g_aload_n ok rfl rfl ?_
    refine g_getr ok 6036 rfl rfl rfl ?_
    refine g_bipush ok (v := 7) rfl ?_
    refine g_ialoadc ok (n := 740) 7 rfl rfl rfl ?_
    refine g_iastorec ok (n := 740) 100 rfl rfl rfl ?_
    let s1 : gS := gw s (gR s x0 1) 100 (gI s (gR s x0 1) 7)
    refine g_aload_n ok rfl rfl ?_
    refine g_getr ok 6036 rfl rfl rfl ?_
    refine g_bipush ok (v := 101) rfl ?_
    refine g_iload_n ok rfl ?_
    refine g_iastorec ok (n := 740) 101 rfl rfl rfl ?_
    let s2 : gS := gw s1 (gR s1 x0 1) 101 x1
    refine g_aload_n ok rfl rfl ?_
    refine g_getr ok 6036 rfl rfl rfl ?_
    refine g_bipush ok (v := 102) rfl ?_
    refine g_iload_n ok rfl ?_
    refine g_iastorec ok (n := 740) 102 rfl rfl rfl ?_
    let s3 : gS := gw s2 (gR s2 x0 1) 102 x2
    refine g_aload_n ok rfl rfl ?_
    refine g_getr ok 6036 rfl rfl rfl ?_
    refine g_bipush ok (v := 103) rfl ?_
    refine g_aload_n ok rfl rfl ?_
    refine g_iload_n ok rfl ?_
    refine g_iconst ok (v := 0) rfl ?_
    refine g_cv1 ok (me_156 hX) rfl rfl rfl rfl (t_156 ok hX _ x0 x1 0 s3) (fun v5 s4 => ?_)
    refine g_iastorec ok (n := 740) 103 rfl rfl rfl ?_
    let s6 : gS := gw s4 (gR s3 x0 1) 103 v5
    refine g_aload_n ok rfl rfl ?_
    refine g_getr ok 6036 rfl rfl rfl ?_
    refine g_bipush ok (v := 13) rfl ?_
    refine g_bipush ok (v := 60) rfl ?_
    refine g_aload_n ok rfl rfl ?_
    refine g_getr ok 6036 rfl rfl rfl ?_
    refine g_bipush ok (v := 13) rfl ?_
    refine g_ialoadc ok (n := 740) 13 rfl rfl rfl ?_
    refine g_iconst ok (v := 1) rfl ?_
    refine g_iadd ok ?_
    refine g_cs1 ok (me_151 hX) rfl rfl rfl (t_151 ok hX _ 60 (g32 ((gI s6 (gR s6 x0 1) 13) + 1)) s6) (fun v8 s7 => ?_)
    refine g_iastorec ok (n := 740) 13 rfl rfl rfl ?_
    let s9 : gS := gw s7 (gR s6 x0 1) 13 v8
    exact g_return ok rfl rfl (rfl)
  · refine g_rb gs_210 2 (cd' := gb_210_9) rfl rfl ?_
    refine g_aload_n ok rfl rfl ?_
    refine g_getr ok 6036 rfl rfl rfl ?_
    refine g_bipush ok (v := 100) rfl ?_
    refine g_iload_n ok rfl ?_
    refine g_iadd ok ?_
    refine g_aload_n ok rfl rfl ?_
    refine g_getr ok 6036 rfl rfl rfl ?_
    refine g_bipush ok (v := 100) rfl ?_
    refine g_iload_n ok rfl ?_
    refine g_iadd ok ?_
    refine g_iconst ok (v := 4) rfl ?_
    refine g_isub ok ?_
    refine g_iaload ok (n := 740) rfl rfl (fun _ _ => ?_)
    refine g_iastore ok (n := 740) rfl rfl (fun _ _ => ?_)
    let s10 : gS := gw s (gR s x0 1) ((g32 (100 + x3)) : Int).toNat (gI s (gR s x0 1) ((g32 ((g32 (100 + x3)) - 4)) : Int).toNat)
    refine g_iinc ok rfl rfl (L' := [(0, (28, 0, x0)), (1, (0, x1, 0)), (2, (0, x2, 0)), (3, (0, (g32 (x3 + (-1))), 0))]) rfl ?_
    refine g_goto ok rfl ?_
    exact g_wk ok [(0, (28, 0, x0)), (1, (0, x1, 0)), (2, (0, x2, 0)), (3, (0, (g32 (x3 + (-1))), 0))] ⟨rfl, rfl, rfl, rfl, trivial⟩ (hl4 (x0, x1, x2, (g32 (x3 + (-1))), s10))
theorem tl_210_4 {X : gX} (ok : gOK X) (hX : gHX X) (d : Nat)  (y : (Nat × Int × Int × Int × gS)) : Go X em_210 210 (d + 1) 4 [] [(0, (28, 0, y.1)), (1, (0, y.2.1, 0)), (2, (0, y.2.2.1, 0)), (3, (0, y.2.2.2.1, 0))] [] y.2.2.2.2 0 0 (gloop (st_210_4) y) some :=
  g_loop (Lh := fun y => [(0, (28, 0, y.1)), (1, (0, y.2.1, 0)), (2, (0, y.2.2.1, 0)), (3, (0, y.2.2.2.1, 0))]) (sh := fun y => y.2.2.2.2) (fun k4 hl4 hr4 y => ts_210_4 ok hX d  hl4 hr4 y.1 y.2.1 y.2.2.1 y.2.2.2.1 y.2.2.2.2) y
theorem t_210 {X : gX} (ok : gOK X) (hX : gHX X) (d : Nat) (a0 : Nat) (a1 : Int) (a2 : Int) (s : gS) : Go X em_210 210 (d + 1) 0 [] [(0, (28, 0, a0)), (1, (0, a1, 0)), (2, (0, a2, 0))] [] s 0 0 (f_210 a0 a1 a2 s) some := by
  delta f_210
  refine g_rb gs_210 0 (cd' := gb_210_0) rfl rfl ?_
  refine g_sipush ok (v := 239) rfl ?_
  refine g_istore_n ok rfl (L' := [(0, (28, 0, a0)), (1, (0, a1, 0)), (2, (0, a2, 0)), (3, (0, 239, 0))]) rfl ?_
  exact g_wk ok [(0, (28, 0, a0)), (1, (0, a1, 0)), (2, (0, a2, 0)), (3, (0, 239, 0))] ⟨rfl, rfl, rfl, rfl, trivial⟩ (tl_210_4 ok hX d  (a0, a1, a2, 239, s))
