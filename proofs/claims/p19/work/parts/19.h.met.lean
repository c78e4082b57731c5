-- X12_proof
theorem tb_211_35 {X : gX} (ok : gOK X) (hX : gHX X) (d : Nat)  (x0 : Nat) (x1 : Int) (w0 : Int) (w1 : Nat) (s : gS) : Go X em_211 211 (d + 2) 35 [] [(0, (28, 0, x0)), (1, (0, x1, 0))] [(0, w0, 0), (28, 0, w1)] s 0 0 (fb_211_35 x0 x1 w0 w1 s) some := by
  delta fb_211_35
  refine g_rb gs_211 6 (cd' := gb_211_35) rfl rfl ?_
  refine g_puti ok rfl rfl rfl ?_
  let s4 : gS := gw s w1 0 w0
  refine g_aload_n ok rfl rfl ?_
  refine g_geti ok rfl rfl ?_
  refine g_if_le ok rfl (fun _ => ?_) (fun _ => ?_)
  · refine g_rb gs_211 7 (cd' := gb_211_45) rfl rfl ?_
    refine g_iconst ok (v := 0) rfl ?_
    exact g_ireturn ok rfl rfl (rfl)
  · refine g_rb gs_211 8 (cd' := gb_211_47) rfl rfl ?_
    refine g_aload_n ok rfl rfl ?_
    refine g_cv0 ok (me_209 hX) rfl rfl rfl (t_209 ok hX _ x0 s4) (fun s5 => ?_)
    refine g_aload_n ok rfl rfl ?_
    refine g_iload_n ok rfl ?_
    refine g_iconst ok (v := 1) rfl ?_
    refine g_aload_n ok rfl rfl ?_
    refine g_iload_n ok rfl ?_
    refine g_iconst ok (v := 1) rfl ?_
    refine g_cv1 ok (me_156 hX) rfl rfl rfl rfl (t_156 ok hX _ x0 x1 1 s5) (fun v8 s7 => ?_)
    refine g_iconst ok (v := 1) rfl ?_
    refine g_isub ok ?_
    refine g_cv0 ok (me_157 hX) rfl rfl rfl (t_157 ok hX _ x0 x1 1 (g32 (v8 - 1)) s7) (fun s9 => ?_)
    refine g_aload_n ok rfl rfl ?_
    refine g_iload_n ok rfl ?_
    refine g_iconst ok (v := 0) rfl ?_
    refine g_bipush ok (v := 99) rfl ?_
    refine g_aload_n ok rfl rfl ?_
    refine g_iload_n ok rfl ?_
    refine g_iconst ok (v := 0) rfl ?_
    refine g_cv1 ok (me_156 hX) rfl rfl rfl rfl (t_156 ok hX _ x0 x1 0 s9) (fun v12 s11 => ?_)
    refine g_aload_n ok rfl rfl ?_
    refine g_getr ok 6036 rfl rfl rfl ?_
    refine g_bipush ok (v := 12) rfl ?_
    refine g_ialoadc ok (n := 740) 12 rfl rfl rfl ?_
    refine g_iadd ok ?_
    refine g_cs1 ok (me_151 hX) rfl rfl rfl (t_151 ok hX _ 99 (g32 (v12 + (gI s11 (gR s11 x0 1) 12))) s11) (fun v14 s13 => ?_)
    refine g_cv0 ok (me_157 hX) rfl rfl rfl (t_157 ok hX _ x0 x1 0 v14 s13) (fun s15 => ?_)
    refine g_aload_n ok rfl rfl ?_
    refine g_iload_n ok rfl ?_
    refine g_iconst ok (v := 0) rfl ?_
    refine g_cv0 ok (me_210 hX) rfl rfl rfl (t_210 ok hX _ x0 x1 0 s15) (fun s17 => ?_)
    refine g_aload_n ok rfl rfl ?_
    refine g_iload_n ok rfl ?_
    refine g_iconst ok (v := 0) rfl ?_
    refine g_cv1 ok (me_156 hX) rfl rfl rfl rfl (t_156 ok hX _ x0 x1 0 s17) (fun v20 s19 => ?_)
    exact g_ireturn ok rfl rfl (rfl)
theorem t_211 {X : gX} (ok : gOK X) (hX : gHX X) (d : Nat) (a0 : Nat) (a1 : Int) (s : gS) : Go X em_211 211 (d + 2) 0 [] [(0, (28, 0, a0)), (1, (0, a1, 0))] [] s 0 0 (f_211 a0 a1 s) some := by
  delta f_211
  refine g_rb gs_211 0 (cd' := gb_211_0) rfl rfl ?_
  refine g_aload_n ok rfl rfl ?_
  refine g_aload_n ok rfl rfl ?_
  refine g_iload_n ok rfl ?_
  refine g_cvz ok (me_162 hX) rfl rfl rfl rfl (t_162 ok hX _ a0 a1 s) (fun v2 s1 hb3 => ?_)
  refine g_if_ne ok rfl (fun _ => ?_) (fun _ => ?_)
  · refine g_rb gs_211 1 (cd' := gb_211_9) rfl rfl ?_
    refine g_iconst ok (v := 1) rfl ?_
    refine g_goto ok rfl ?_
    exact g_wk ok [(0, (28, 0, a0)), (1, (0, a1, 0))] ⟨rfl, rfl, trivial⟩ (tb_211_35 ok hX d  a0 a1 1 a0 s1)
  · refine g_rb gs_211 2 (cd' := gb_211_13) rfl rfl ?_
    refine g_aload_n ok rfl rfl ?_
    refine g_iload_n ok rfl ?_
    refine g_cvz ok (me_165 hX) rfl rfl rfl rfl (t_165 ok hX _ a0 a1 s1) (fun v22 s21 hb23 => ?_)
    refine g_if_eq ok rfl (fun _ => ?_) (fun _ => ?_)
    · refine g_rb gs_211 4 (cd' := gb_211_30) rfl rfl ?_
      refine g_iconst ok (v := 2) rfl ?_
      refine g_goto ok rfl ?_
      exact g_wk ok [(0, (28, 0, a0)), (1, (0, a1, 0))] ⟨rfl, rfl, trivial⟩ (tb_211_35 ok hX d  a0 a1 2 a0 s21)
    · refine g_rb gs_211 3 (cd' := gb_211_21) rfl rfl ?_
      refine g_aload_n ok rfl rfl ?_
      refine g_iload_n ok rfl ?_
      refine g_iconst ok (v := 1) rfl ?_
      refine g_cv1 ok (me_156 hX) rfl rfl rfl rfl (t_156 ok hX _ a0 a1 1 s21) (fun v25 s24 => ?_)
      refine g_if_ne ok rfl (fun _ => ?_) (fun _ => ?_)
      · refine g_rb gs_211 4 (cd' := gb_211_30) rfl rfl ?_
        refine g_iconst ok (v := 2) rfl ?_
        refine g_goto ok rfl ?_
        exact g_wk ok [(0, (28, 0, a0)), (1, (0, a1, 0))] ⟨rfl, rfl, trivial⟩ (tb_211_35 ok hX d  a0 a1 2 a0 s24)
      · refine g_rb gs_211 5 (cd' := gb_211_34) rfl rfl ?_
        refine g_iconst ok (v := 0) rfl ?_
        exact g_wk ok [(0, (28, 0, a0)), (1, (0, a1, 0))] ⟨rfl, rfl, trivial⟩ (tb_211_35 ok hX d  a0 a1 0 a0 s24)
-- X12_catches
theorem t_212 {X : gX} (ok : gOK X) (hX : gHX X) (d : Nat) (a0 : Nat) (a1 : Int) (a2 : Int) (s : gS) : Go X em_212 212 (d + 1) 0 [] [(0, (28, 0, a0)), (1, (0, a1, 0)), (2, (0, a2, 0))] [] s 0 0 (f_212 a0 a1 a2 s) some := by
  delta f_212
  refine g_rb gs_212 0 (cd' := gb_212_0) rfl rfl ?_
  refine g_iload_n ok rfl ?_
  refine g_aload_n ok rfl rfl ?_
  refine g_iload_n ok rfl ?_
  refine g_cv1 ok (me_159 hX) rfl rfl rfl rfl (t_159 ok hX _ a0 a1 s) (fun v2 s1 => ?_)
  refine g_iconst ok (v := (-1)) rfl ?_
  refine g_ixor ok ?_
  refine g_iand ok ?_
  refine g_if_ne ok rfl (fun _ => ?_) (fun _ => ?_)
  · refine g_rb gs_212 1 (cd' := gb_212_12) rfl rfl ?_
    refine g_iconst ok (v := 1) rfl ?_
    refine g_goto ok rfl ?_
    refine g_rb gs_212 3 (cd' := gb_212_17) rfl rfl ?_
    exact g_zreturn ok rfl (Or.inr rfl) rfl (rfl)
  · refine g_rb gs_212 2 (cd' := gb_212_16) rfl rfl ?_
    refine g_iconst ok (v := 0) rfl ?_
    refine g_rb gs_212 3 (cd' := gb_212_17) rfl rfl ?_
    exact g_zreturn ok rfl (Or.inl rfl) rfl (rfl)
-- X12_tried
theorem tb_213_139 {X : gX} (ok : gOK X) (hX : gHX X) (d : Nat)  (x3 : Int) (w0 : Int) (w1 : Int) (w2 : Nat) (s : gS) : Go X em_213 213 (d + 2) 139 [] [(3, (0, x3, 0))] [(0, w0, 0), (0, w1, 0), (28, 0, w2)] s 0 0 (fb_213_139 x3 w0 w1 w2 s) some := by
  delta fb_213_139
  refine g_rb gs_213 16 (cd' := gb_213_139) rfl rfl ?_
  refine g_cv0 ok (me_210 hX) rfl rfl rfl (t_210 ok hX _ w2 w1 w0 s) (fun s26 => ?_)
  refine g_iload_n ok rfl ?_
  exact g_zreturnb ok rfl rfl (rfl)
theorem tb_213_128 {X : gX} (ok : gOK X) (hX : gHX X) (d : Nat)  (x0 : Nat) (x1 : Int) (x3 : Int) (s : gS) : Go X em_213 213 (d + 2) 128 [] [(0, (28, 0, x0)), (1, (0, x1, 0)), (3, (0, x3, 0))] [] s 0 0 (fb_213_128 x0 x1 x3 s) some := by
  delta fb_213_128
  refine g_rb gs_213 13 (cd' := gb_213_128) rfl rfl ?_
  refine g_aload_n ok rfl rfl ?_
  refine g_iload_n ok rfl ?_
  refine g_iload_n ok rfl ?_
  refine g_if_eq ok rfl (fun _ => ?_) (fun _ => ?_)
  · refine g_rb gs_213 15 (cd' := gb_213_138) rfl rfl ?_
    refine g_iconst ok (v := 1) rfl ?_
    exact g_wk ok [(3, (0, x3, 0))] ⟨rfl, trivial⟩ (tb_213_139 ok hX d  x3 1 x1 x0 s)
  · refine g_rb gs_213 14 (cd' := gb_213_134) rfl rfl ?_
    refine g_iconst ok (v := 2) rfl ?_
    refine g_goto ok rfl ?_
    exact g_wk ok [(3, (0, x3, 0))] ⟨rfl, trivial⟩ (tb_213_139 ok hX d  x3 2 x1 x0 s)
theorem tb_213_102 {X : gX} (ok : gOK X) (hX : gHX X) (d : Nat)  (x0 : Nat) (x1 : Int) (x3 : Int) (w0 : Int) (w1 : Int) (w2 : Int) (w3 : Nat) (s : gS) : Go X em_213 213 (d + 2) 102 [] [(0, (28, 0, x0)), (1, (0, x1, 0)), (3, (0, x3, 0))] [(0, w0, 0), (0, w1, 0), (0, w2, 0), (28, 0, w3)] s 0 0 (fb_213_102 x0 x1 x3 w0 w1 w2 w3 s) some := by
  delta fb_213_102
  refine g_rb gs_213 11 (cd' := gb_213_102) rfl rfl ?_
  refine g_cv0 ok (me_157 hX) rfl rfl rfl (t_157 ok hX _ w3 w2 w1 w0 s) (fun s20 => ?_)
  refine g_aload_n ok rfl rfl ?_
  refine g_iload_n ok rfl ?_
  refine g_iconst ok (v := 0) rfl ?_
  refine g_cv1 ok (me_156 hX) rfl rfl rfl rfl (t_156 ok hX _ x0 x1 0 s20) (fun v23 s22 => ?_)
  refine g_aload_n ok rfl rfl ?_
  refine g_getr ok 6036 rfl rfl rfl ?_
  refine g_bipush ok (v := 10) rfl ?_
  refine g_ialoadc ok (n := 740) 10 rfl rfl rfl ?_
  refine g_ic_ge ok rfl (fun _ => ?_) (fun _ => ?_)
  · refine g_rb gs_213 12 (cd' := gb_213_121) rfl rfl ?_
    refine g_aload_n ok rfl rfl ?_
    refine g_iload_n ok rfl ?_
    refine g_iconst ok (v := 5) rfl ?_
    refine g_iconst ok (v := 1) rfl ?_
    refine g_cv0 ok (me_157 hX) rfl rfl rfl (t_157 ok hX _ x0 x1 5 1 s22) (fun s24 => ?_)
    exact g_wk ok [(0, (28, 0, x0)), (1, (0, x1, 0)), (3, (0, x3, 0))] ⟨rfl, rfl, rfl, trivial⟩ (tb_213_128 ok hX d  x0 x1 x3 s24)
  · exact g_wk ok [(0, (28, 0, x0)), (1, (0, x1, 0)), (3, (0, x3, 0))] ⟨rfl, rfl, rfl, trivial⟩ (tb_213_128 ok hX d  x0 x1 x3 s22)
theorem tb_213_34 {X : gX} (ok : gOK X) (hX : gHX X) (d : Nat)  (x0 : Nat) (x1 : Int) (x2 : Int) (w0 : Int) (w1 : Nat) (s : gS) : Go X em_213 213 (d + 2) 34 [] [(0, (28, 0, x0)), (1, (0, x1, 0)), (2, (0, x2, 0))] [(0, w0, 0), (28, 0, w1)] s 0 0 (fb_213_34 x0 x1 x2 w0 w1 s) some := by
  delta fb_213_34
  refine g_rb gs_213 6 (cd' := gb_213_34) rfl rfl ?_
  refine g_puti ok rfl rfl rfl ?_
  let s4 : gS := gw s w1 0 w0
  refine g_aload_n ok rfl rfl ?_
  refine g_geti ok rfl rfl ?_
  refine g_if_le ok rfl (fun _ => ?_) (fun _ => ?_)
  · refine g_rb gs_213 7 (cd' := gb_213_44) rfl rfl ?_
    refine g_iconst ok (v := 0) rfl ?_
    exact g_zreturn ok rfl (Or.inl rfl) rfl (rfl)
  · refine g_rb gs_213 8 (cd' := gb_213_46) rfl rfl ?_
    refine g_aload_n ok rfl rfl ?_
    refine g_cv0 ok (me_209 hX) rfl rfl rfl (t_209 ok hX _ x0 s4) (fun s5 => ?_)
    refine g_aload_n ok rfl rfl ?_
    refine g_aload_n ok rfl rfl ?_
    refine g_iload_n ok rfl ?_
    refine g_cv1 ok (me_158 hX) rfl rfl rfl rfl (t_158 ok hX _ x0 x2 s5) (fun v8 s7 => ?_)
    refine g_cv0 ok (me_200 hX) rfl rfl rfl (t_200 ok hX _ x0 v8 s7) (fun s9 => ?_)
    refine g_aload_n ok rfl rfl ?_
    refine g_iload_n ok rfl ?_
    refine g_aload_n ok rfl rfl ?_
    refine g_iload_n ok rfl ?_
    refine g_iconst ok (v := 2) rfl ?_
    refine g_cv1 ok (me_156 hX) rfl rfl rfl rfl (t_156 ok hX _ x0 x1 2 s9) (fun v12 s11 => ?_)
    refine g_cvz ok (me_212 hX) rfl rfl rfl rfl (t_212 ok hX _ x0 x2 v12 s11) (fun v14 s13 hb15 => ?_)
    refine g_istore_n ok rfl (L' := [(0, (28, 0, x0)), (1, (0, x1, 0)), (2, (0, x2, 0)), (3, (0, v14, 0))]) rfl ?_
    refine g_aload_n ok rfl rfl ?_
    refine g_iload_n ok rfl ?_
    refine g_iconst ok (v := 0) rfl ?_
    refine g_iload_n ok rfl ?_
    refine g_if_eq ok rfl (fun _ => ?_) (fun _ => ?_)
    · refine g_rb gs_213 10 (cd' := gb_213_89) rfl rfl ?_
      refine g_bipush ok (v := 99) rfl ?_
      refine g_aload_n ok rfl rfl ?_
      refine g_iload_n ok rfl ?_
      refine g_iconst ok (v := 0) rfl ?_
      refine g_cv1 ok (me_156 hX) rfl rfl rfl rfl (t_156 ok hX _ x0 x1 0 s13) (fun v17 s16 => ?_)
      refine g_iconst ok (v := 5) rfl ?_
      refine g_iadd ok ?_
      refine g_cs1 ok (me_151 hX) rfl rfl rfl (t_151 ok hX _ 99 (g32 (v17 + 5)) s16) (fun v19 s18 => ?_)
      exact g_wk ok [(0, (28, 0, x0)), (1, (0, x1, 0)), (3, (0, v14, 0))] ⟨rfl, rfl, rfl, trivial⟩ (tb_213_102 ok hX d  x0 x1 v14 v19 0 x1 x0 s18)
    · refine g_rb gs_213 9 (cd' := gb_213_78) rfl rfl ?_
      refine g_aload_n ok rfl rfl ?_
      refine g_iload_n ok rfl ?_
      refine g_iconst ok (v := 0) rfl ?_
      refine g_cv1 ok (me_156 hX) rfl rfl rfl rfl (t_156 ok hX _ x0 x1 0 s13) (fun v29 s28 => ?_)
      refine g_iconst ok (v := 2) rfl ?_
      refine g_idiv ok (by decide) ?_
      refine g_goto ok rfl ?_
      exact g_wk ok [(0, (28, 0, x0)), (1, (0, x1, 0)), (3, (0, v14, 0))] ⟨rfl, rfl, rfl, trivial⟩ (tb_213_102 ok hX d  x0 x1 v14 (gdiv v29 2) 0 x1 x0 s28)
theorem t_213 {X : gX} (ok : gOK X) (hX : gHX X) (d : Nat) (a0 : Nat) (a1 : Int) (a2 : Int) (s : gS) : Go X em_213 213 (d + 2) 0 [] [(0, (28, 0, a0)), (1, (0, a1, 0)), (2, (0, a2, 0))] [] s 0 0 (f_213 a0 a1 a2 s) some := by
  delta f_213
  refine g_rb gs_213 0 (cd' := gb_213_0) rfl rfl ?_
  refine g_aload_n ok rfl rfl ?_
  refine g_aload_n ok rfl rfl ?_
  refine g_iload_n ok rfl ?_
  refine g_cvz ok (me_162 hX) rfl rfl rfl rfl (t_162 ok hX _ a0 a1 s) (fun v2 s1 hb3 => ?_)
  refine g_if_eq ok rfl (fun _ => ?_) (fun _ => ?_)
  · refine g_rb gs_213 2 (cd' := gb_213_17) rfl rfl ?_
    refine g_iconst ok (v := 1) rfl ?_
    refine g_goto ok rfl ?_
    exact g_wk ok [(0, (28, 0, a0)), (1, (0, a1, 0)), (2, (0, a2, 0))] ⟨rfl, rfl, rfl, trivial⟩ (tb_213_34 ok hX d  a0 a1 a2 1 a0 s1)
  · refine g_rb gs_213 1 (cd' := gb_213_9) rfl rfl ?_
    refine g_aload_n ok rfl rfl ?_
    refine g_iload_n ok rfl ?_
    refine g_cvz ok (me_163 hX) rfl rfl rfl rfl (t_163 ok hX _ a0 a2 s1) (fun v31 s30 hb32 => ?_)
    refine g_if_ne ok rfl (fun _ => ?_) (fun _ => ?_)
    · refine g_rb gs_213 2 (cd' := gb_213_17) rfl rfl ?_
      refine g_iconst ok (v := 1) rfl ?_
      refine g_goto ok rfl ?_
      exact g_wk ok [(0, (28, 0, a0)), (1, (0, a1, 0)), (2, (0, a2, 0))] ⟨rfl, rfl, rfl, trivial⟩ (tb_213_34 ok hX d  a0 a1 a2 1 a0 s30)
    · refine g_rb gs_213 3 (cd' := gb_213_21) rfl rfl ?_
      refine g_aload_n ok rfl rfl ?_
      refine g_iload_n ok rfl ?_
      refine g_cvz ok (me_165 hX) rfl rfl rfl rfl (t_165 ok hX _ a0 a1 s30) (fun v34 s33 hb35 => ?_)
      refine g_if_ne ok rfl (fun _ => ?_) (fun _ => ?_)
      · refine g_rb gs_213 4 (cd' := gb_213_29) rfl rfl ?_
        refine g_iconst ok (v := 2) rfl ?_
        refine g_goto ok rfl ?_
        exact g_wk ok [(0, (28, 0, a0)), (1, (0, a1, 0)), (2, (0, a2, 0))] ⟨rfl, rfl, rfl, trivial⟩ (tb_213_34 ok hX d  a0 a1 a2 2 a0 s33)
      · refine g_rb gs_213 5 (cd' := gb_213_33) rfl rfl ?_
        refine g_iconst ok (v := 0) rfl ?_
        exact g_wk ok [(0, (28, 0, a0)), (1, (0, a1, 0)), (2, (0, a2, 0))] ⟨rfl, rfl, rfl, trivial⟩ (tb_213_34 ok hX d  a0 a1 a2 0 a0 s33)
-- X12_flee
theorem tb_214_35 {X : gX} (ok : gOK X) (hX : gHX X) (d : Nat)  (x0 : Nat) (x1 : Int) (w0 : Int) (w1 : Nat) (s : gS) : Go X em_214 214 (d + 2) 35 [] [(0, (28, 0, x0)), (1, (0, x1, 0))] [(0, w0, 0), (28, 0, w1)] s 0 0 (fb_214_35 x0 x1 w0 w1 s) some := by
  delta fb_214_35
  refine g_rb gs_214 6 (cd' := gb_214_35) rfl rfl ?_
  refine g_puti ok rfl rfl rfl ?_
  let s4 : gS := gw s w1 0 w0
  refine g_aload_n ok rfl rfl ?_
  refine g_geti ok rfl rfl ?_
  refine g_if_le ok rfl (fun _ => ?_) (fun _ => ?_)
  · refine g_rb gs_214 7 (cd' := gb_214_45) rfl rfl ?_
    refine g_iconst ok (v := 0) rfl ?_
    exact g_ireturn ok rfl rfl (rfl)
  · refine g_rb gs_214 8 (cd' := gb_214_47) rfl rfl ?_
    refine g_aload_n ok rfl rfl ?_
    refine g_cv0 ok (me_209 hX) rfl rfl rfl (t_209 ok hX _ x0 s4) (fun s5 => ?_)
    refine g_aload_n ok rfl rfl ?_
    refine g_iload_n ok rfl ?_
    refine g_iconst ok (v := 5) rfl ?_
    refine g_iconst ok (v := 2) rfl ?_
    refine g_cv0 ok (me_157 hX) rfl rfl rfl (t_157 ok hX _ x0 x1 5 2 s5) (fun s7 => ?_)
    refine g_aload_n ok rfl rfl ?_
    refine g_iload_n ok rfl ?_
    refine g_iconst ok (v := 0) rfl ?_
    refine g_cv1 ok (me_156 hX) rfl rfl rfl rfl (t_156 ok hX _ x0 x1 0 s7) (fun v10 s9 => ?_)
    exact g_ireturn ok rfl rfl (rfl)
theorem t_214 {X : gX} (ok : gOK X) (hX : gHX X) (d : Nat) (a0 : Nat) (a1 : Int) (s : gS) : Go X em_214 214 (d + 2) 0 [] [(0, (28, 0, a0)), (1, (0, a1, 0))] [] s 0 0 (f_214 a0 a1 s) some := by
  delta f_214
  refine g_rb gs_214 0 (cd' := gb_214_0) rfl rfl ?_
  refine g_aload_n ok rfl rfl ?_
  refine g_aload_n ok rfl rfl ?_
  refine g_iload_n ok rfl ?_
  refine g_cvz ok (me_162 hX) rfl rfl rfl rfl (t_162 ok hX _ a0 a1 s) (fun v2 s1 hb3 => ?_)
  refine g_if_ne ok rfl (fun _ => ?_) (fun _ => ?_)
  · refine g_rb gs_214 1 (cd' := gb_214_9) rfl rfl ?_
    refine g_iconst ok (v := 1) rfl ?_
    refine g_goto ok rfl ?_
    exact g_wk ok [(0, (28, 0, a0)), (1, (0, a1, 0))] ⟨rfl, rfl, trivial⟩ (tb_214_35 ok hX d  a0 a1 1 a0 s1)
  · refine g_rb gs_214 2 (cd' := gb_214_13) rfl rfl ?_
    refine g_aload_n ok rfl rfl ?_
    refine g_iload_n ok rfl ?_
    refine g_cvz ok (me_165 hX) rfl rfl rfl rfl (t_165 ok hX _ a0 a1 s1) (fun v12 s11 hb13 => ?_)
    refine g_if_eq ok rfl (fun _ => ?_) (fun _ => ?_)
    · refine g_rb gs_214 4 (cd' := gb_214_30) rfl rfl ?_
      refine g_iconst ok (v := 2) rfl ?_
      refine g_goto ok rfl ?_
      exact g_wk ok [(0, (28, 0, a0)), (1, (0, a1, 0))] ⟨rfl, rfl, trivial⟩ (tb_214_35 ok hX d  a0 a1 2 a0 s11)
    · refine g_rb gs_214 3 (cd' := gb_214_21) rfl rfl ?_
      refine g_aload_n ok rfl rfl ?_
      refine g_iload_n ok rfl ?_
      refine g_iconst ok (v := 4) rfl ?_
      refine g_cv1 ok (me_156 hX) rfl rfl rfl rfl (t_156 ok hX _ a0 a1 4 s11) (fun v15 s14 => ?_)
      refine g_if_le ok rfl (fun _ => ?_) (fun _ => ?_)
      · refine g_rb gs_214 4 (cd' := gb_214_30) rfl rfl ?_
        refine g_iconst ok (v := 2) rfl ?_
        refine g_goto ok rfl ?_
        exact g_wk ok [(0, (28, 0, a0)), (1, (0, a1, 0))] ⟨rfl, rfl, trivial⟩ (tb_214_35 ok hX d  a0 a1 2 a0 s14)
      · refine g_rb gs_214 5 (cd' := gb_214_34) rfl rfl ?_
        refine g_iconst ok (v := 0) rfl ?_
        exact g_wk ok [(0, (28, 0, a0)), (1, (0, a1, 0))] ⟨rfl, rfl, trivial⟩ (tb_214_35 ok hX d  a0 a1 0 a0 s14)
-- X12_sell
theorem tb_215_52 {X : gX} (ok : gOK X) (hX : gHX X) (d : Nat)  (x0 : Nat) (x1 : Int) (x2 : Int) (x3 : Int) (w0 : Int) (w1 : Nat) (s : gS) : Go X em_215 215 (d + 2) 52 [] [(0, (28, 0, x0)), (1, (0, x1, 0)), (2, (0, x2, 0)), (3, (0, x3, 0))] [(0, w0, 0), (28, 0, w1)] s 0 0 (fb_215_52 x0 x1 x2 x3 w0 w1 s) some := by
  delta fb_215_52
  refine g_rb gs_215 8 (cd' := gb_215_52) rfl rfl ?_
  refine g_puti ok rfl rfl rfl ?_
  let s4 : gS := gw s w1 0 w0
  refine g_aload_n ok rfl rfl ?_
  refine g_geti ok rfl rfl ?_
  refine g_if_le ok rfl (fun _ => ?_) (fun _ => ?_)
  · refine g_rb gs_215 9 (cd' := gb_215_62) rfl rfl ?_
    refine g_iconst ok (v := 0) rfl ?_
    exact g_ireturn ok rfl rfl (rfl)
  · refine g_rb gs_215 10 (cd' := gb_215_64) rfl rfl ?_
    refine g_aload_n ok rfl rfl ?_
    refine g_cv0 ok (me_209 hX) rfl rfl rfl (t_209 ok hX _ x0 s4) (fun s5 => ?_)
    refine g_aload_n ok rfl rfl ?_
    refine g_getr ok 6036 rfl rfl rfl ?_
    refine g_bipush ok (v := 88) rfl ?_
    refine g_iconst ok (v := 2) rfl ?_
    refine g_iload_n ok rfl ?_
    refine g_imul ok ?_
    refine g_iadd ok ?_
    refine g_iconst ok (v := 0) rfl ?_
    refine g_iadd ok ?_
    refine g_dup2 ok rfl rfl ?_
    refine g_iaload ok (n := 740) rfl rfl (fun _ _ => ?_)
    refine g_iload_n ok rfl ?_
    refine g_isub ok ?_
    refine g_iastore ok (n := 740) rfl rfl (fun _ _ => ?_)
    let s7 : gS := gw s5 (gR s5 x0 1) ((g32 ((g32 (88 + (g32 (2 * x2)))) + 0)) : Int).toNat (g32 ((gI s5 (gR s5 x0 1) ((g32 ((g32 (88 + (g32 (2 * x2)))) + 0)) : Int).toNat) - x3))
    refine g_aload_n ok rfl rfl ?_
    refine g_getr ok 6036 rfl rfl rfl ?_
    refine g_bipush ok (v := 88) rfl ?_
    refine g_iconst ok (v := 2) rfl ?_
    refine g_iload_n ok rfl ?_
    refine g_imul ok ?_
    refine g_iadd ok ?_
    refine g_iconst ok (v := 1) rfl ?_
    refine g_iadd ok ?_
    refine g_dup2 ok rfl rfl ?_
    refine g_iaload ok (n := 740) rfl rfl (fun _ _ => ?_)
    refine g_iconst ok (v := 1) rfl ?_
    refine g_aload_n ok rfl rfl ?_
    refine g_iload_n ok rfl ?_
    refine g_iconst ok (v := 3) rfl ?_
    refine g_cv1 ok (me_156 hX) rfl rfl rfl rfl (t_156 ok hX _ x0 x1 3 s7) (fun v9 s8 => ?_)
    refine g_ishl ok ?_
    refine g_iconst ok (v := 1) rfl ?_
    refine g_isub ok ?_
    refine g_ior ok ?_
    refine g_iastore ok (n := 740) rfl rfl (fun _ _ => ?_)
    let s10 : gS := gw s8 (gR s7 x0 1) ((g32 ((g32 (88 + (g32 (2 * x2)))) + 1)) : Int).toNat (gor (gI s7 (gR s7 x0 1) ((g32 ((g32 (88 + (g32 (2 * x2)))) + 1)) : Int).toNat) (g32 ((gshl 1 v9) - 1)))
    refine g_aload_n ok rfl rfl ?_
    refine g_getr ok 6036 rfl rfl rfl ?_
    refine g_bipush ok (v := 8) rfl ?_
    refine g_sipush ok (v := 9999) rfl ?_
    refine g_aload_n ok rfl rfl ?_
    refine g_getr ok 6036 rfl rfl rfl ?_
    refine g_bipush ok (v := 8) rfl ?_
    refine g_ialoadc ok (n := 740) 8 rfl rfl rfl ?_
    refine g_iload_n ok rfl ?_
    refine g_iadd ok ?_
    refine g_cs1 ok (me_151 hX) rfl rfl rfl (t_151 ok hX _ 9999 (g32 ((gI s10 (gR s10 x0 1) 8) + x3)) s10) (fun v12 s11 => ?_)
    refine g_iastorec ok (n := 740) 8 rfl rfl rfl ?_
    let s13 : gS := gw s11 (gR s10 x0 1) 8 v12
    refine g_aload_n ok rfl rfl ?_
    refine g_iload_n ok rfl ?_
    refine g_iconst ok (v := 5) rfl ?_
    refine g_iconst ok (v := 3) rfl ?_
    refine g_cv0 ok (me_157 hX) rfl rfl rfl (t_157 ok hX _ x0 x1 5 3 s13) (fun s14 => ?_)
    refine g_aload_n ok rfl rfl ?_
    refine g_getr ok 6036 rfl rfl rfl ?_
    refine g_bipush ok (v := 8) rfl ?_
    refine g_ialoadc ok (n := 740) 8 rfl rfl rfl ?_
    exact g_ireturn ok rfl rfl (rfl)
theorem t_215 {X : gX} (ok : gOK X) (hX : gHX X) (d : Nat) (a0 : Nat) (a1 : Int) (a2 : Int) (a3 : Int) (s : gS) : Go X em_215 215 (d + 2) 0 [] [(0, (28, 0, a0)), (1, (0, a1, 0)), (2, (0, a2, 0)), (3, (0, a3, 0))] [] s 0 0 (f_215 a0 a1 a2 a3 s) some := by
  delta f_215
  refine g_rb gs_215 0 (cd' := gb_215_0) rfl rfl ?_
  refine g_aload_n ok rfl rfl ?_
  refine g_aload_n ok rfl rfl ?_
  refine g_iload_n ok rfl ?_
  refine g_cvz ok (me_162 hX) rfl rfl rfl rfl (t_162 ok hX _ a0 a1 s) (fun v2 s1 hb3 => ?_)
  refine g_if_eq ok rfl (fun _ => ?_) (fun _ => ?_)
  · refine g_rb gs_215 2 (cd' := gb_215_17) rfl rfl ?_
    refine g_iconst ok (v := 1) rfl ?_
    refine g_goto ok rfl ?_
    exact g_wk ok [(0, (28, 0, a0)), (1, (0, a1, 0)), (2, (0, a2, 0)), (3, (0, a3, 0))] ⟨rfl, rfl, rfl, rfl, trivial⟩ (tb_215_52 ok hX d  a0 a1 a2 a3 1 a0 s1)
  · refine g_rb gs_215 1 (cd' := gb_215_9) rfl rfl ?_
    refine g_aload_n ok rfl rfl ?_
    refine g_iload_n ok rfl ?_
    refine g_cvz ok (me_164 hX) rfl rfl rfl rfl (t_164 ok hX _ a0 a2 s1) (fun v17 s16 hb18 => ?_)
    refine g_if_ne ok rfl (fun _ => ?_) (fun _ => ?_)
    · refine g_rb gs_215 2 (cd' := gb_215_17) rfl rfl ?_
      refine g_iconst ok (v := 1) rfl ?_
      refine g_goto ok rfl ?_
      exact g_wk ok [(0, (28, 0, a0)), (1, (0, a1, 0)), (2, (0, a2, 0)), (3, (0, a3, 0))] ⟨rfl, rfl, rfl, rfl, trivial⟩ (tb_215_52 ok hX d  a0 a1 a2 a3 1 a0 s16)
    · refine g_rb gs_215 3 (cd' := gb_215_21) rfl rfl ?_
      refine g_iload_n ok rfl ?_
      refine g_iconst ok (v := 0) rfl ?_
      refine g_aload_n ok rfl rfl ?_
      refine g_iload_n ok rfl ?_
      refine g_iconst ok (v := 0) rfl ?_
      refine g_cv1 ok (me_160 hX) rfl rfl rfl rfl (t_160 ok hX _ a0 a2 0 s16) (fun v20 s19 => ?_)
      refine g_csz ok (me_150 hX) rfl rfl rfl (t_150 ok hX _ a3 0 v20 s19) (fun v22 s21 hb23 => ?_)
      refine g_if_ne ok rfl (fun _ => ?_) (fun _ => ?_)
      · refine g_rb gs_215 4 (cd' := gb_215_35) rfl rfl ?_
        refine g_iconst ok (v := 2) rfl ?_
        refine g_goto ok rfl ?_
        exact g_wk ok [(0, (28, 0, a0)), (1, (0, a1, 0)), (2, (0, a2, 0)), (3, (0, a3, 0))] ⟨rfl, rfl, rfl, rfl, trivial⟩ (tb_215_52 ok hX d  a0 a1 a2 a3 2 a0 s21)
      · refine g_rb gs_215 5 (cd' := gb_215_39) rfl rfl ?_
        refine g_aload_n ok rfl rfl ?_
        refine g_iload_n ok rfl ?_
        refine g_cvz ok (me_165 hX) rfl rfl rfl rfl (t_165 ok hX _ a0 a1 s21) (fun v25 s24 hb26 => ?_)
        refine g_if_ne ok rfl (fun _ => ?_) (fun _ => ?_)
        · refine g_rb gs_215 6 (cd' := gb_215_47) rfl rfl ?_
          refine g_iconst ok (v := 3) rfl ?_
          refine g_goto ok rfl ?_
          exact g_wk ok [(0, (28, 0, a0)), (1, (0, a1, 0)), (2, (0, a2, 0)), (3, (0, a3, 0))] ⟨rfl, rfl, rfl, rfl, trivial⟩ (tb_215_52 ok hX d  a0 a1 a2 a3 3 a0 s24)
        · refine g_rb gs_215 7 (cd' := gb_215_51) rfl rfl ?_
          refine g_iconst ok (v := 0) rfl ?_
          exact g_wk ok [(0, (28, 0, a0)), (1, (0, a1, 0)), (2, (0, a2, 0)), (3, (0, a3, 0))] ⟨rfl, rfl, rfl, rfl, trivial⟩ (tb_215_52 ok hX d  a0 a1 a2 a3 0 a0 s24)
-- X12_part_
theorem tb_216_50 {X : gX} (ok : gOK X) (hX : gHX X) (d : Nat)  (x0 : Nat) (x1 : Int) (x2 : Int) (w0 : Int) (w1 : Nat) (s : gS) : Go X em_216 216 (d + 2) 50 [] [(0, (28, 0, x0)), (1, (0, x1, 0)), (2, (0, x2, 0))] [(0, w0, 0), (28, 0, w1)] s 0 0 (fb_216_50 x0 x1 x2 w0 w1 s) some := by
  delta fb_216_50
  refine g_rb gs_216 7 (cd' := gb_216_50) rfl rfl ?_
  refine g_puti ok rfl rfl rfl ?_
  let s4 : gS := gw s w1 0 w0
  refine g_aload_n ok rfl rfl ?_
  refine g_geti ok rfl rfl ?_
  refine g_if_le ok rfl (fun _ => ?_) (fun _ => ?_)
  · refine g_rb gs_216 8 (cd' := gb_216_60) rfl rfl ?_
    refine g_iconst ok (v := 0) rfl ?_
    exact g_ireturn ok rfl rfl (rfl)
  · refine g_rb gs_216 9 (cd' := gb_216_62) rfl rfl ?_
    refine g_aload_n ok rfl rfl ?_
    refine g_cv0 ok (me_209 hX) rfl rfl rfl (t_209 ok hX _ x0 s4) (fun s5 => ?_)
    refine g_aload_n ok rfl rfl ?_
    refine g_getr ok 6036 rfl rfl rfl ?_
    refine g_bipush ok (v := 88) rfl ?_
    refine g_iconst ok (v := 2) rfl ?_
    refine g_iload_n ok rfl ?_
    refine g_imul ok ?_
    refine g_iadd ok ?_
    refine g_iconst ok (v := 0) rfl ?_
    refine g_iadd ok ?_
    refine g_dup2 ok rfl rfl ?_
    refine g_iaload ok (n := 740) rfl rfl (fun _ _ => ?_)
    refine g_bipush ok (v := 20) rfl ?_
    refine g_isub ok ?_
    refine g_iastore ok (n := 740) rfl rfl (fun _ _ => ?_)
    let s7 : gS := gw s5 (gR s5 x0 1) ((g32 ((g32 (88 + (g32 (2 * x2)))) + 0)) : Int).toNat (g32 ((gI s5 (gR s5 x0 1) ((g32 ((g32 (88 + (g32 (2 * x2)))) + 0)) : Int).toNat) - 20))
    refine g_aload_n ok rfl rfl ?_
    refine g_getr ok 6036 rfl rfl rfl ?_
    refine g_bipush ok (v := 88) rfl ?_
    refine g_iconst ok (v := 2) rfl ?_
    refine g_iload_n ok rfl ?_
    refine g_imul ok ?_
    refine g_iadd ok ?_
    refine g_iconst ok (v := 1) rfl ?_
    refine g_iadd ok ?_
    refine g_dup2 ok rfl rfl ?_
    refine g_iaload ok (n := 740) rfl rfl (fun _ _ => ?_)
    refine g_iconst ok (v := 1) rfl ?_
    refine g_iload_n ok rfl ?_
    refine g_ishl ok ?_
    refine g_ior ok ?_
    refine g_iastore ok (n := 740) rfl rfl (fun _ _ => ?_)
    let s8 : gS := gw s7 (gR s7 x0 1) ((g32 ((g32 (88 + (g32 (2 * x2)))) + 1)) : Int).toNat (gor (gI s7 (gR s7 x0 1) ((g32 ((g32 (88 + (g32 (2 * x2)))) + 1)) : Int).toNat) (gshl 1 x1))
    refine g_aload_n ok rfl rfl ?_
    refine g_iload_n ok rfl ?_
    refine g_iconst ok (v := 1) rfl ?_
    refine g_cv1 ok (me_160 hX) rfl rfl rfl rfl (t_160 ok hX _ x0 x2 1 s8) (fun v10 s9 => ?_)
    exact g_ireturn ok rfl rfl (rfl)
theorem t_216 {X : gX} (ok : gOK X) (hX : gHX X) (d : Nat) (a0 : Nat) (a1 : Int) (a2 : Int) (s : gS) : Go X em_216 216 (d + 2) 0 [] [(0, (28, 0, a0)), (1, (0, a1, 0)), (2, (0, a2, 0))] [] s 0 0 (f_216 a0 a1 a2 s) some := by
  delta f_216
  refine g_rb gs_216 0 (cd' := gb_216_0) rfl rfl ?_
  refine g_aload_n ok rfl rfl ?_
  refine g_aload_n ok rfl rfl ?_
  refine g_iload_n ok rfl ?_
  refine g_cvz ok (me_161 hX) rfl rfl rfl rfl (t_161 ok hX _ a0 a1 s) (fun v2 s1 hb3 => ?_)
  refine g_if_eq ok rfl (fun _ => ?_) (fun _ => ?_)
  · refine g_rb gs_216 2 (cd' := gb_216_17) rfl rfl ?_
    refine g_iconst ok (v := 1) rfl ?_
    refine g_goto ok rfl ?_
    exact g_wk ok [(0, (28, 0, a0)), (1, (0, a1, 0)), (2, (0, a2, 0))] ⟨rfl, rfl, rfl, trivial⟩ (tb_216_50 ok hX d  a0 a1 a2 1 a0 s1)
  · refine g_rb gs_216 1 (cd' := gb_216_9) rfl rfl ?_
    refine g_aload_n ok rfl rfl ?_
    refine g_iload_n ok rfl ?_
    refine g_cvz ok (me_164 hX) rfl rfl rfl rfl (t_164 ok hX _ a0 a2 s1) (fun v12 s11 hb13 => ?_)
    refine g_if_ne ok rfl (fun _ => ?_) (fun _ => ?_)
    · refine g_rb gs_216 2 (cd' := gb_216_17) rfl rfl ?_
      refine g_iconst ok (v := 1) rfl ?_
      refine g_goto ok rfl ?_
      exact g_wk ok [(0, (28, 0, a0)), (1, (0, a1, 0)), (2, (0, a2, 0))] ⟨rfl, rfl, rfl, trivial⟩ (tb_216_50 ok hX d  a0 a1 a2 1 a0 s11)
    · refine g_rb gs_216 3 (cd' := gb_216_21) rfl rfl ?_
      refine g_aload_n ok rfl rfl ?_
      refine g_iload_n ok rfl ?_
      refine g_iconst ok (v := 1) rfl ?_
      refine g_cv1 ok (me_160 hX) rfl rfl rfl rfl (t_160 ok hX _ a0 a2 1 s11) (fun v15 s14 => ?_)
      refine g_iload_n ok rfl ?_
      refine g_csz ok (me_153 hX) rfl rfl rfl (t_153 ok hX _ v15 a1 s14) (fun v17 s16 hb18 => ?_)
      refine g_if_ne ok rfl (fun _ => ?_) (fun _ => ?_)
      · refine g_rb gs_216 4 (cd' := gb_216_34) rfl rfl ?_
        refine g_aload_n ok rfl rfl ?_
        refine g_iload_n ok rfl ?_
        refine g_iconst ok (v := 0) rfl ?_
        refine g_cv1 ok (me_160 hX) rfl rfl rfl rfl (t_160 ok hX _ a0 a2 0 s16) (fun v20 s19 => ?_)
        refine g_bipush ok (v := 20) rfl ?_
        refine g_ic_ge ok rfl (fun _ => ?_) (fun _ => ?_)
        · refine g_rb gs_216 5 (cd' := gb_216_45) rfl rfl ?_
          refine g_iconst ok (v := 2) rfl ?_
          refine g_goto ok rfl ?_
          exact g_wk ok [(0, (28, 0, a0)), (1, (0, a1, 0)), (2, (0, a2, 0))] ⟨rfl, rfl, rfl, trivial⟩ (tb_216_50 ok hX d  a0 a1 a2 2 a0 s19)
        · refine g_rb gs_216 6 (cd' := gb_216_49) rfl rfl ?_
          refine g_iconst ok (v := 0) rfl ?_
          exact g_wk ok [(0, (28, 0, a0)), (1, (0, a1, 0)), (2, (0, a2, 0))] ⟨rfl, rfl, rfl, trivial⟩ (tb_216_50 ok hX d  a0 a1 a2 0 a0 s19)
      · refine g_rb gs_216 5 (cd' := gb_216_45) rfl rfl ?_
        refine g_iconst ok (v := 2) rfl ?_
        refine g_goto ok rfl ?_
        exact g_wk ok [(0, (28, 0, a0)), (1, (0, a1, 0)), (2, (0, a2, 0))] ⟨rfl, rfl, rfl, trivial⟩ (tb_216_50 ok hX d  a0 a1 a2 2 a0 s16)
-- X12_pay
theorem tb_217_31 {X : gX} (ok : gOK X) (hX : gHX X) (d : Nat)  (x0 : Nat) (x1 : Int) (w0 : Int) (w1 : Nat) (s : gS) : Go X em_217 217 (d + 1) 31 [] [(0, (28, 0, x0)), (1, (0, x1, 0))] [(0, w0, 0), (28, 0, w1)] s 0 0 (fb_217_31 x0 x1 w0 w1 s) some := by
  delta fb_217_31
  refine g_rb gs_217 3 (cd' := gb_217_31) rfl rfl ?_
  refine g_puti ok rfl rfl rfl ?_
  let s6 : gS := gw s w1 0 w0
  refine g_aload_n ok rfl rfl ?_
  refine g_geti ok rfl rfl ?_
  refine g_if_le ok rfl (fun _ => ?_) (fun _ => ?_)
  · refine g_rb gs_217 4 (cd' := gb_217_41) rfl rfl ?_
    refine g_iconst ok (v := 0) rfl ?_
    exact g_ireturn ok rfl rfl (rfl)
  · refine g_rb gs_217 5 (cd' := gb_217_43) rfl rfl ?_
    refine g_aload_n ok rfl rfl ?_
    refine g_cv0 ok (me_209 hX) rfl rfl rfl (t_209 ok hX _ x0 s6) (fun s7 => ?_)
    refine g_aload_n ok rfl rfl ?_
    refine g_getr ok 6036 rfl rfl rfl ?_
    refine g_bipush ok (v := 8) rfl ?_
    refine g_dup2 ok rfl rfl ?_
    refine g_ialoadc ok (n := 740) 8 rfl rfl rfl ?_
    refine g_iload_n ok rfl ?_
    refine g_isub ok ?_
    refine g_iastorec ok (n := 740) 8 rfl rfl rfl ?_
    let s9 : gS := gw s7 (gR s7 x0 1) 8 (g32 ((gI s7 (gR s7 x0 1) 8) - x1))
    refine g_aload_n ok rfl rfl ?_
    refine g_getr ok 6036 rfl rfl rfl ?_
    refine g_bipush ok (v := 9) rfl ?_
    refine g_dup2 ok rfl rfl ?_
    refine g_ialoadc ok (n := 740) 9 rfl rfl rfl ?_
    refine g_iload_n ok rfl ?_
    refine g_isub ok ?_
    refine g_iastorec ok (n := 740) 9 rfl rfl rfl ?_
    let s10 : gS := gw s9 (gR s9 x0 1) 9 (g32 ((gI s9 (gR s9 x0 1) 9) - x1))
    refine g_aload_n ok rfl rfl ?_
    refine g_getr ok 6036 rfl rfl rfl ?_
    refine g_bipush ok (v := 9) rfl ?_
    refine g_ialoadc ok (n := 740) 9 rfl rfl rfl ?_
    exact g_ireturn ok rfl rfl (rfl)
theorem t_217 {X : gX} (ok : gOK X) (hX : gHX X) (d : Nat) (a0 : Nat) (a1 : Int) (s : gS) : Go X em_217 217 (d + 1) 0 [] [(0, (28, 0, a0)), (1, (0, a1, 0))] [] s 0 0 (f_217 a0 a1 s) some := by
  delta f_217
  refine g_rb gs_217 0 (cd' := gb_217_0) rfl rfl ?_
  refine g_aload_n ok rfl rfl ?_
  refine g_iload_n ok rfl ?_
  refine g_iconst ok (v := 1) rfl ?_
  refine g_aload_n ok rfl rfl ?_
  refine g_getr ok 6036 rfl rfl rfl ?_
  refine g_bipush ok (v := 9) rfl ?_
  refine g_ialoadc ok (n := 740) 9 rfl rfl rfl ?_
  refine g_aload_n ok rfl rfl ?_
  refine g_getr ok 6036 rfl rfl rfl ?_
  refine g_bipush ok (v := 8) rfl ?_
  refine g_ialoadc ok (n := 740) 8 rfl rfl rfl ?_
  refine g_cs1 ok (me_151 hX) rfl rfl rfl (t_151 ok hX _ (gI s (gR s a0 1) 9) (gI s (gR s a0 1) 8) s) (fun v2 s1 => ?_)
  refine g_csz ok (me_150 hX) rfl rfl rfl (t_150 ok hX _ a1 1 v2 s1) (fun v4 s3 hb5 => ?_)
  refine g_if_ne ok rfl (fun _ => ?_) (fun _ => ?_)
  · refine g_rb gs_217 1 (cd' := gb_217_26) rfl rfl ?_
    refine g_iconst ok (v := 1) rfl ?_
    refine g_goto ok rfl ?_
    exact g_wk ok [(0, (28, 0, a0)), (1, (0, a1, 0))] ⟨rfl, rfl, trivial⟩ (tb_217_31 ok hX d  a0 a1 1 a0 s3)
  · refine g_rb gs_217 2 (cd' := gb_217_30) rfl rfl ?_
    refine g_iconst ok (v := 0) rfl ?_
    exact g_wk ok [(0, (28, 0, a0)), (1, (0, a1, 0))] ⟨rfl, rfl, trivial⟩ (tb_217_31 ok hX d  a0 a1 0 a0 s3)
-- X12_days
theorem tb_218_17 {X : gX} (ok : gOK X) (hX : gHX X) (d : Nat)  (x0 : Nat) (x1 : Int) (w0 : Int) (w1 : Nat) (s : gS) : Go X em_218 218 (d + 38) 17 [] [(0, (28, 0, x0)), (1, (0, x1, 0))] [(0, w0, 0), (28, 0, w1)] s 0 0 (fb_218_17 x0 x1 w0 w1 s) some := by
  delta fb_218_17
  refine g_rb gs_218 3 (cd' := gb_218_17) rfl rfl ?_
  refine g_puti ok rfl rfl rfl ?_
  let s4 : gS := gw s w1 0 w0
  refine g_aload_n ok rfl rfl ?_
  refine g_geti ok rfl rfl ?_
  refine g_if_le ok rfl (fun _ => ?_) (fun _ => ?_)
  · refine g_rb gs_218 4 (cd' := gb_218_27) rfl rfl ?_
    refine g_iconst ok (v := 0) rfl ?_
    exact g_ireturn ok rfl rfl (rfl)
  · refine g_rb gs_218 5 (cd' := gb_218_29) rfl rfl ?_
    refine g_aload_n ok rfl rfl ?_
    refine g_cv0 ok (me_209 hX) rfl rfl rfl (t_209 ok hX _ x0 s4) (fun s5 => ?_)
    refine g_aload_n ok rfl rfl ?_
    refine g_iload_n ok rfl ?_
    refine g_iconst ok (v := 1) rfl ?_
    refine g_cv1 ok (me_202 hX) rfl rfl rfl rfl (t_202 ok hX _ x0 x1 1 s5) (fun v8 s7 => ?_)
    exact g_ireturn ok rfl rfl (rfl)
theorem t_218 {X : gX} (ok : gOK X) (hX : gHX X) (d : Nat) (a0 : Nat) (a1 : Int) (s : gS) : Go X em_218 218 (d + 38) 0 [] [(0, (28, 0, a0)), (1, (0, a1, 0))] [] s 0 0 (f_218 a0 a1 s) some := by
  delta f_218
  refine g_rb gs_218 0 (cd' := gb_218_0) rfl rfl ?_
  refine g_aload_n ok rfl rfl ?_
  refine g_iload_n ok rfl ?_
  refine g_iconst ok (v := 1) rfl ?_
  refine g_sipush ok (v := 200) rfl ?_
  refine g_csz ok (me_150 hX) rfl rfl rfl (t_150 ok hX _ a1 1 200 s) (fun v2 s1 hb3 => ?_)
  refine g_if_ne ok rfl (fun _ => ?_) (fun _ => ?_)
  · refine g_rb gs_218 1 (cd' := gb_218_12) rfl rfl ?_
    refine g_iconst ok (v := 1) rfl ?_
    refine g_goto ok rfl ?_
    exact g_wk ok [(0, (28, 0, a0)), (1, (0, a1, 0))] ⟨rfl, rfl, trivial⟩ (tb_218_17 ok hX d  a0 a1 1 a0 s1)
  · refine g_rb gs_218 2 (cd' := gb_218_16) rfl rfl ?_
    refine g_iconst ok (v := 0) rfl ?_
    exact g_wk ok [(0, (28, 0, a0)), (1, (0, a1, 0))] ⟨rfl, rfl, trivial⟩ (tb_218_17 ok hX d  a0 a1 0 a0 s1)
-- X12_ahead
theorem tb_219_113 {X : gX} (ok : gOK X) (hX : gHX X) (d : Nat)  (x0 : Nat) (w0 : Int) (s : gS) : Go X em_219 219 (d + 38) 113 [] [(0, (28, 0, x0))] [(0, w0, 0)] s 0 0 (fb_219_113 x0 w0 s) some := by
  delta fb_219_113
  refine g_rb gs_219 16 (cd' := gb_219_113) rfl rfl ?_
  refine g_istore ok rfl (L' := [(0, (28, 0, x0)), (5, (0, w0, 0))]) rfl ?_
  refine g_aload_n ok rfl rfl ?_
  refine g_cv0 ok (me_186 hX) rfl rfl rfl (t_186 ok hX _ x0 s) (fun s11 => ?_)
  refine g_iload ok rfl ?_
  exact g_ireturn ok rfl rfl (rfl)
theorem tb_219_42 {X : gX} (ok : gOK X) (hX : gHX X) (d : Nat)  (x0 : Nat) (x1 : Int) (x2 : Int) (x3 : Int) (w0 : Int) (w1 : Nat) (s : gS) : Go X em_219 219 (d + 38) 42 [] [(0, (28, 0, x0)), (1, (0, x1, 0)), (2, (0, x2, 0)), (3, (0, x3, 0))] [(0, w0, 0), (28, 0, w1)] s 0 0 (fb_219_42 x0 x1 x2 x3 w0 w1 s) some := by
  delta fb_219_42
  refine g_rb gs_219 7 (cd' := gb_219_42) rfl rfl ?_
  refine g_puti ok rfl rfl rfl ?_
  let s4 : gS := gw s w1 0 w0
  refine g_aload_n ok rfl rfl ?_
  refine g_geti ok rfl rfl ?_
  refine g_if_le ok rfl (fun _ => ?_) (fun _ => ?_)
  · refine g_rb gs_219 8 (cd' := gb_219_52) rfl rfl ?_
    refine g_iconst ok (v := 0) rfl ?_
    exact g_ireturn ok rfl rfl (rfl)
  · refine g_rb gs_219 9 (cd' := gb_219_54) rfl rfl ?_
    refine g_aload_n ok rfl rfl ?_
    refine g_cv0 ok (me_185 hX) rfl rfl rfl (t_185 ok hX _ x0 s4) (fun s5 => ?_)
    refine g_aload_n ok rfl rfl ?_
    refine g_iload_n ok rfl ?_
    refine g_iconst ok (v := 0) rfl ?_
    refine g_cv1 ok (me_202 hX) rfl rfl rfl rfl (t_202 ok hX _ x0 x2 0 s5) (fun v8 s7 => ?_)
    refine g_istore ok rfl (L' := [(0, (28, 0, x0)), (1, (0, x1, 0)), (2, (0, x2, 0)), (3, (0, x3, 0)), (4, (0, v8, 0))]) rfl ?_
    refine g_iload_n ok rfl ?_
    refine g_if_ne ok rfl (fun _ => ?_) (fun _ => ?_)
    · refine g_rb gs_219 10 (cd' := gb_219_70) rfl rfl ?_
      refine g_aload_n ok rfl rfl ?_
      refine g_iload_n ok rfl ?_
      refine g_iconst ok (v := 0) rfl ?_
      refine g_cv1 ok (me_156 hX) rfl rfl rfl rfl (t_156 ok hX _ x0 x1 0 s7) (fun v10 s9 => ?_)
      refine g_goto ok rfl ?_
      exact g_wk ok [(0, (28, 0, x0))] ⟨rfl, trivial⟩ (tb_219_113 ok hX d  x0 v10 s9)
    · refine g_rb gs_219 11 (cd' := gb_219_79) rfl rfl ?_
      refine g_iload_n ok rfl ?_
      refine g_iconst ok (v := 1) rfl ?_
      refine g_ic_ne ok rfl (fun _ => ?_) (fun _ => ?_)
      · refine g_rb gs_219 12 (cd' := gb_219_84) rfl rfl ?_
        refine g_aload_n ok rfl rfl ?_
        refine g_iload_n ok rfl ?_
        refine g_iconst ok (v := 3) rfl ?_
        refine g_cv1 ok (me_156 hX) rfl rfl rfl rfl (t_156 ok hX _ x0 x1 3 s7) (fun v14 s13 => ?_)
        refine g_goto ok rfl ?_
        exact g_wk ok [(0, (28, 0, x0))] ⟨rfl, trivial⟩ (tb_219_113 ok hX d  x0 v14 s13)
      · refine g_rb gs_219 13 (cd' := gb_219_93) rfl rfl ?_
        refine g_iload_n ok rfl ?_
        refine g_iconst ok (v := 2) rfl ?_
        refine g_ic_ne ok rfl (fun _ => ?_) (fun _ => ?_)
        · refine g_rb gs_219 14 (cd' := gb_219_98) rfl rfl ?_
          refine g_aload_n ok rfl rfl ?_
          refine g_iload_n ok rfl ?_
          refine g_iconst ok (v := 4) rfl ?_
          refine g_cv1 ok (me_156 hX) rfl rfl rfl rfl (t_156 ok hX _ x0 x1 4 s7) (fun v16 s15 => ?_)
          refine g_goto ok rfl ?_
          exact g_wk ok [(0, (28, 0, x0))] ⟨rfl, trivial⟩ (tb_219_113 ok hX d  x0 v16 s15)
        · refine g_rb gs_219 15 (cd' := gb_219_107) rfl rfl ?_
          refine g_aload_n ok rfl rfl ?_
          refine g_iload_n ok rfl ?_
          refine g_iconst ok (v := 5) rfl ?_
          refine g_cv1 ok (me_156 hX) rfl rfl rfl rfl (t_156 ok hX _ x0 x1 5 s7) (fun v18 s17 => ?_)
          exact g_wk ok [(0, (28, 0, x0))] ⟨rfl, trivial⟩ (tb_219_113 ok hX d  x0 v18 s17)
theorem t_219 {X : gX} (ok : gOK X) (hX : gHX X) (d : Nat) (a0 : Nat) (a1 : Int) (a2 : Int) (a3 : Int) (s : gS) : Go X em_219 219 (d + 38) 0 [] [(0, (28, 0, a0)), (1, (0, a1, 0)), (2, (0, a2, 0)), (3, (0, a3, 0))] [] s 0 0 (f_219 a0 a1 a2 a3 s) some := by
  delta f_219
  refine g_rb gs_219 0 (cd' := gb_219_0) rfl rfl ?_
  refine g_aload_n ok rfl rfl ?_
  refine g_aload_n ok rfl rfl ?_
  refine g_iload_n ok rfl ?_
  refine g_cvz ok (me_162 hX) rfl rfl rfl rfl (t_162 ok hX _ a0 a1 s) (fun v2 s1 hb3 => ?_)
  refine g_if_ne ok rfl (fun _ => ?_) (fun _ => ?_)
  · refine g_rb gs_219 1 (cd' := gb_219_9) rfl rfl ?_
    refine g_iconst ok (v := 1) rfl ?_
    refine g_goto ok rfl ?_
    exact g_wk ok [(0, (28, 0, a0)), (1, (0, a1, 0)), (2, (0, a2, 0)), (3, (0, a3, 0))] ⟨rfl, rfl, rfl, rfl, trivial⟩ (tb_219_42 ok hX d  a0 a1 a2 a3 1 a0 s1)
  · refine g_rb gs_219 2 (cd' := gb_219_13) rfl rfl ?_
    refine g_iload_n ok rfl ?_
    refine g_iconst ok (v := 0) rfl ?_
    refine g_sipush ok (v := 200) rfl ?_
    refine g_csz ok (me_150 hX) rfl rfl rfl (t_150 ok hX _ a2 0 200 s1) (fun v20 s19 hb21 => ?_)
    refine g_if_ne ok rfl (fun _ => ?_) (fun _ => ?_)
    · refine g_rb gs_219 3 (cd' := gb_219_24) rfl rfl ?_
      refine g_iconst ok (v := 2) rfl ?_
      refine g_goto ok rfl ?_
      exact g_wk ok [(0, (28, 0, a0)), (1, (0, a1, 0)), (2, (0, a2, 0)), (3, (0, a3, 0))] ⟨rfl, rfl, rfl, rfl, trivial⟩ (tb_219_42 ok hX d  a0 a1 a2 a3 2 a0 s19)
    · refine g_rb gs_219 4 (cd' := gb_219_28) rfl rfl ?_
      refine g_iload_n ok rfl ?_
      refine g_iconst ok (v := 0) rfl ?_
      refine g_iconst ok (v := 3) rfl ?_
      refine g_csz ok (me_150 hX) rfl rfl rfl (t_150 ok hX _ a3 0 3 s19) (fun v23 s22 hb24 => ?_)
      refine g_if_ne ok rfl (fun _ => ?_) (fun _ => ?_)
      · refine g_rb gs_219 5 (cd' := gb_219_37) rfl rfl ?_
        refine g_iconst ok (v := 3) rfl ?_
        refine g_goto ok rfl ?_
        exact g_wk ok [(0, (28, 0, a0)), (1, (0, a1, 0)), (2, (0, a2, 0)), (3, (0, a3, 0))] ⟨rfl, rfl, rfl, rfl, trivial⟩ (tb_219_42 ok hX d  a0 a1 a2 a3 3 a0 s22)
      · refine g_rb gs_219 6 (cd' := gb_219_41) rfl rfl ?_
        refine g_iconst ok (v := 0) rfl ?_
        exact g_wk ok [(0, (28, 0, a0)), (1, (0, a1, 0)), (2, (0, a2, 0)), (3, (0, a3, 0))] ⟨rfl, rfl, rfl, rfl, trivial⟩ (tb_219_42 ok hX d  a0 a1 a2 a3 0 a0 s22)
-- X12_owes
theorem tb_220_17 {X : gX} (ok : gOK X) (hX : gHX X) (d : Nat)  (x0 : Nat) (x1 : Int) (w0 : Int) (w1 : Nat) (s : gS) : Go X em_220 220 (d + 38) 17 [] [(0, (28, 0, x0)), (1, (0, x1, 0))] [(0, w0, 0), (28, 0, w1)] s 0 0 (fb_220_17 x0 x1 w0 w1 s) some := by
  delta fb_220_17
  refine g_rb gs_220 3 (cd' := gb_220_17) rfl rfl ?_
  refine g_puti ok rfl rfl rfl ?_
  let s4 : gS := gw s w1 0 w0
  refine g_aload_n ok rfl rfl ?_
  refine g_geti ok rfl rfl ?_
  refine g_if_le ok rfl (fun _ => ?_) (fun _ => ?_)
  · refine g_rb gs_220 4 (cd' := gb_220_27) rfl rfl ?_
    refine g_iconst ok (v := 0) rfl ?_
    exact g_ireturn ok rfl rfl (rfl)
  · refine g_rb gs_220 5 (cd' := gb_220_29) rfl rfl ?_
    refine g_aload_n ok rfl rfl ?_
    refine g_cv0 ok (me_185 hX) rfl rfl rfl (t_185 ok hX _ x0 s4) (fun s5 => ?_)
    refine g_aload_n ok rfl rfl ?_
    refine g_iload_n ok rfl ?_
    refine g_iconst ok (v := 0) rfl ?_
    refine g_cv1 ok (me_202 hX) rfl rfl rfl rfl (t_202 ok hX _ x0 x1 0 s5) (fun v8 s7 => ?_)
    refine g_istore_n ok rfl (L' := [(0, (28, 0, x0)), (1, (0, x1, 0)), (2, (0, v8, 0))]) rfl ?_
    refine g_aload_n ok rfl rfl ?_
    refine g_getr ok 6036 rfl rfl rfl ?_
    refine g_bipush ok (v := 9) rfl ?_
    refine g_ialoadc ok (n := 740) 9 rfl rfl rfl ?_
    let v9 : Int := (gI s7 (gR s7 x0 1) 9)
    refine g_istore_n ok rfl (L' := [(0, (28, 0, x0)), (1, (0, x1, 0)), (2, (0, v8, 0)), (3, (0, v9, 0))]) rfl ?_
    refine g_aload_n ok rfl rfl ?_
    refine g_cv0 ok (me_186 hX) rfl rfl rfl (t_186 ok hX _ x0 s7) (fun s10 => ?_)
    refine g_iload_n ok rfl ?_
    exact g_ireturn ok rfl rfl (rfl)
theorem t_220 {X : gX} (ok : gOK X) (hX : gHX X) (d : Nat) (a0 : Nat) (a1 : Int) (s : gS) : Go X em_220 220 (d + 38) 0 [] [(0, (28, 0, a0)), (1, (0, a1, 0))] [] s 0 0 (f_220 a0 a1 s) some := by
  delta f_220
  refine g_rb gs_220 0 (cd' := gb_220_0) rfl rfl ?_
  refine g_aload_n ok rfl rfl ?_
  refine g_iload_n ok rfl ?_
  refine g_iconst ok (v := 0) rfl ?_
  refine g_sipush ok (v := 200) rfl ?_
  refine g_csz ok (me_150 hX) rfl rfl rfl (t_150 ok hX _ a1 0 200 s) (fun v2 s1 hb3 => ?_)
  refine g_if_ne ok rfl (fun _ => ?_) (fun _ => ?_)
  · refine g_rb gs_220 1 (cd' := gb_220_12) rfl rfl ?_
    refine g_iconst ok (v := 1) rfl ?_
    refine g_goto ok rfl ?_
    exact g_wk ok [(0, (28, 0, a0)), (1, (0, a1, 0))] ⟨rfl, rfl, trivial⟩ (tb_220_17 ok hX d  a0 a1 1 a0 s1)
  · refine g_rb gs_220 2 (cd' := gb_220_16) rfl rfl ?_
    refine g_iconst ok (v := 0) rfl ?_
    exact g_wk ok [(0, (28, 0, a0)), (1, (0, a1, 0))] ⟨rfl, rfl, trivial⟩ (tb_220_17 ok hX d  a0 a1 0 a0 s1)
-- X12_chest
theorem tb_221_17 {X : gX} (ok : gOK X) (hX : gHX X) (d : Nat)  (x0 : Nat) (x1 : Int) (w0 : Int) (w1 : Nat) (s : gS) : Go X em_221 221 (d + 38) 17 [] [(0, (28, 0, x0)), (1, (0, x1, 0))] [(0, w0, 0), (28, 0, w1)] s 0 0 (fb_221_17 x0 x1 w0 w1 s) some := by
  delta fb_221_17
  refine g_rb gs_221 3 (cd' := gb_221_17) rfl rfl ?_
  refine g_puti ok rfl rfl rfl ?_
  let s4 : gS := gw s w1 0 w0
  refine g_aload_n ok rfl rfl ?_
  refine g_geti ok rfl rfl ?_
  refine g_if_le ok rfl (fun _ => ?_) (fun _ => ?_)
  · refine g_rb gs_221 4 (cd' := gb_221_27) rfl rfl ?_
    refine g_iconst ok (v := 0) rfl ?_
    exact g_ireturn ok rfl rfl (rfl)
  · refine g_rb gs_221 5 (cd' := gb_221_29) rfl rfl ?_
    refine g_aload_n ok rfl rfl ?_
    refine g_cv0 ok (me_185 hX) rfl rfl rfl (t_185 ok hX _ x0 s4) (fun s5 => ?_)
    refine g_aload_n ok rfl rfl ?_
    refine g_iload_n ok rfl ?_
    refine g_iconst ok (v := 0) rfl ?_
    refine g_cv1 ok (me_202 hX) rfl rfl rfl rfl (t_202 ok hX _ x0 x1 0 s5) (fun v8 s7 => ?_)
    refine g_istore_n ok rfl (L' := [(0, (28, 0, x0)), (1, (0, x1, 0)), (2, (0, v8, 0))]) rfl ?_
    refine g_aload_n ok rfl rfl ?_
    refine g_getr ok 6036 rfl rfl rfl ?_
    refine g_bipush ok (v := 8) rfl ?_
    refine g_ialoadc ok (n := 740) 8 rfl rfl rfl ?_
    let v9 : Int := (gI s7 (gR s7 x0 1) 8)
    refine g_istore_n ok rfl (L' := [(0, (28, 0, x0)), (1, (0, x1, 0)), (2, (0, v8, 0)), (3, (0, v9, 0))]) rfl ?_
    refine g_aload_n ok rfl rfl ?_
    refine g_cv0 ok (me_186 hX) rfl rfl rfl (t_186 ok hX _ x0 s7) (fun s10 => ?_)
    refine g_iload_n ok rfl ?_
    exact g_ireturn ok rfl rfl (rfl)
theorem t_221 {X : gX} (ok : gOK X) (hX : gHX X) (d : Nat) (a0 : Nat) (a1 : Int) (s : gS) : Go X em_221 221 (d + 38) 0 [] [(0, (28, 0, a0)), (1, (0, a1, 0))] [] s 0 0 (f_221 a0 a1 s) some := by
  delta f_221
  refine g_rb gs_221 0 (cd' := gb_221_0) rfl rfl ?_
  refine g_aload_n ok rfl rfl ?_
  refine g_iload_n ok rfl ?_
  refine g_iconst ok (v := 0) rfl ?_
  refine g_sipush ok (v := 200) rfl ?_
  refine g_csz ok (me_150 hX) rfl rfl rfl (t_150 ok hX _ a1 0 200 s) (fun v2 s1 hb3 => ?_)
  refine g_if_ne ok rfl (fun _ => ?_) (fun _ => ?_)
  · refine g_rb gs_221 1 (cd' := gb_221_12) rfl rfl ?_
    refine g_iconst ok (v := 1) rfl ?_
    refine g_goto ok rfl ?_
    exact g_wk ok [(0, (28, 0, a0)), (1, (0, a1, 0))] ⟨rfl, rfl, trivial⟩ (tb_221_17 ok hX d  a0 a1 1 a0 s1)
  · refine g_rb gs_221 2 (cd' := gb_221_16) rfl rfl ?_
    refine g_iconst ok (v := 0) rfl ?_
    exact g_wk ok [(0, (28, 0, a0)), (1, (0, a1, 0))] ⟨rfl, rfl, trivial⟩ (tb_221_17 ok hX d  a0 a1 0 a0 s1)
-- X12_by
theorem tb_222_89 {X : gX} (ok : gOK X) (hX : gHX X) (d : Nat)  (x0 : Nat) (x3 : Int) (s : gS) : Go X em_222 222 (d + 38) 89 [] [(0, (28, 0, x0)), (3, (0, x3, 0))] [] s 0 0 (fb_222_89 x0 x3 s) some := by
  delta fb_222_89
  refine g_rb gs_222 12 (cd' := gb_222_89) rfl rfl ?_
  refine g_aload_n ok rfl rfl ?_
  refine g_cv0 ok (me_186 hX) rfl rfl rfl (t_186 ok hX _ x0 s) (fun s6 => ?_)
  refine g_iload_n ok rfl ?_
  exact g_ireturn ok rfl rfl (rfl)
theorem tb_222_75 {X : gX} (ok : gOK X) (hX : gHX X) (d : Nat) {k19 : (Nat × Int × Int × Int × Int × gS) ⊕ gO → Option gO} (hl19 : ∀ y : (Nat × Int × Int × Int × Int × gS), Go X em_222 222 (d + 38) 19 [] [(0, (28, 0, y.1)), (1, (0, y.2.1, 0)), (2, (0, y.2.2.1, 0)), (3, (0, y.2.2.2.1, 0)), (4, (0, y.2.2.2.2.1, 0))] [] y.2.2.2.2.2 0 0 (some (Sum.inl y)) k19) (hr19 : ∀ q, k19 (Sum.inr q) = some q) (x0 : Nat) (x1 : Int) (x2 : Int) (x3 : Int) (x4 : Int) (s : gS) : Go X em_222 222 (d + 38) 75 [] [(0, (28, 0, x0)), (1, (0, x1, 0)), (2, (0, x2, 0)), (3, (0, x3, 0)), (4, (0, x4, 0))] [] s 0 0 (fb_222_75 x0 x1 x2 x3 x4 s) k19 := by
  delta fb_222_75
  refine g_rb gs_222 11 (cd' := gb_222_75) rfl rfl ?_
  refine g_aload_n ok rfl rfl ?_
  refine g_iconst ok (v := 1) rfl ?_
  refine g_iconst ok (v := 0) rfl ?_
  refine g_cv1 ok (me_202 hX) rfl rfl rfl rfl (t_202 ok hX _ x0 1 0 s) (fun v11 s10 => ?_)
  refine g_istore ok rfl (L' := [(0, (28, 0, x0)), (1, (0, x1, 0)), (2, (0, x2, 0)), (3, (0, x3, 0)), (4, (0, x4, 0)), (5, (0, v11, 0))]) rfl ?_
  refine g_iinc ok rfl rfl (L' := [(0, (28, 0, x0)), (1, (0, x1, 0)), (2, (0, x2, 0)), (3, (0, x3, 0)), (4, (0, (g32 (x4 + 1)), 0)), (5, (0, v11, 0))]) rfl ?_
  refine g_goto ok rfl ?_
  exact g_wk ok [(0, (28, 0, x0)), (1, (0, x1, 0)), (2, (0, x2, 0)), (3, (0, x3, 0)), (4, (0, (g32 (x4 + 1)), 0))] ⟨rfl, rfl, rfl, rfl, rfl, trivial⟩ (hl19 (x0, x1, x2, x3, (g32 (x4 + 1)), s10))
theorem tb_222_72 {X : gX} (ok : gOK X) (hX : gHX X) (d : Nat) {k19 : (Nat × Int × Int × Int × Int × gS) ⊕ gO → Option gO} (hl19 : ∀ y : (Nat × Int × Int × Int × Int × gS), Go X em_222 222 (d + 38) 19 [] [(0, (28, 0, y.1)), (1, (0, y.2.1, 0)), (2, (0, y.2.2.1, 0)), (3, (0, y.2.2.2.1, 0)), (4, (0, y.2.2.2.2.1, 0))] [] y.2.2.2.2.2 0 0 (some (Sum.inl y)) k19) (hr19 : ∀ q, k19 (Sum.inr q) = some q) (x0 : Nat) (x1 : Int) (x2 : Int) (x4 : Int) (s : gS) : Go X em_222 222 (d + 38) 72 [] [(0, (28, 0, x0)), (1, (0, x1, 0)), (2, (0, x2, 0)), (4, (0, x4, 0))] [] s 0 0 (fb_222_72 x0 x1 x2 x4 s) k19 := by
  delta fb_222_72
  refine g_rb gs_222 10 (cd' := gb_222_72) rfl rfl ?_
  refine g_iload ok rfl ?_
  refine g_istore_n ok rfl (L' := [(0, (28, 0, x0)), (1, (0, x1, 0)), (2, (0, x2, 0)), (4, (0, x4, 0)), (3, (0, x4, 0))]) rfl ?_
  exact g_wk ok [(0, (28, 0, x0)), (1, (0, x1, 0)), (2, (0, x2, 0)), (3, (0, x4, 0)), (4, (0, x4, 0))] ⟨rfl, rfl, rfl, rfl, rfl, trivial⟩ (tb_222_75 ok hX d hl19 hr19 x0 x1 x2 x4 x4 s)
theorem ts_222_19 {X : gX} (ok : gOK X) (hX : gHX X) (d : Nat) {k19 : (Nat × Int × Int × Int × Int × gS) ⊕ gO → Option gO} (hl19 : ∀ y : (Nat × Int × Int × Int × Int × gS), Go X em_222 222 (d + 38) 19 [] [(0, (28, 0, y.1)), (1, (0, y.2.1, 0)), (2, (0, y.2.2.1, 0)), (3, (0, y.2.2.2.1, 0)), (4, (0, y.2.2.2.2.1, 0))] [] y.2.2.2.2.2 0 0 (some (Sum.inl y)) k19) (hr19 : ∀ q, k19 (Sum.inr q) = some q) (x0 : Nat) (x1 : Int) (x2 : Int) (x3 : Int) (x4 : Int) (s : gS) : Go X em_222 222 (d + 38) 19 [] [(0, (28, 0, x0)), (1, (0, x1, 0)), (2, (0, x2, 0)), (3, (0, x3, 0)), (4, (0, x4, 0))] [] s 0 0 (sb_222_19 x0 x1 x2 x3 x4 s) k19 := by
  delta sb_222_19
  refine g_rb gs_222 3 (cd' := gb_222_19) rfl rfl ?_
  refine g_iload ok rfl ?_
  refine g_sipush ok (v := 200) rfl ?_
  refine g_ic_gt ok rfl (fun _ => ?_) (fun _ => ?_)
  · refine g_map hr19 ?_
    exact g_wk ok [(0, (28, 0, x0)), (3, (0, x3, 0))] ⟨rfl, rfl, trivial⟩ (tb_222_89 ok hX d  x0 x3 s)
  · refine g_rb gs_222 4 (cd' := gb_222_27) rfl rfl ?_
    refine g_iload_n ok rfl ?_
    refine g_iconst ok (v := (-1)) rfl ?_
    refine g_ic_ne ok rfl (fun _ => ?_) (fun _ => ?_)
    · refine g_rb gs_222 5 (cd' := gb_222_32) rfl rfl ?_
      refine g_iload_n ok rfl ?_
      refine g_if_eq ok rfl (fun _ => ?_) (fun _ => ?_)
      · refine g_rb gs_222 9 (cd' := gb_222_62) rfl rfl ?_
        refine g_aload_n ok rfl rfl ?_
        refine g_iload_n ok rfl ?_
        refine g_iconst ok (v := 5) rfl ?_
        refine g_cv1 ok (me_156 hX) rfl rfl rfl rfl (t_156 ok hX _ x0 x1 5 s) (fun v9 s8 => ?_)
        refine g_iconst ok (v := 1) rfl ?_
        refine g_ic_ne ok rfl (fun _ => ?_) (fun _ => ?_)
        · exact g_wk ok [(0, (28, 0, x0)), (1, (0, x1, 0)), (2, (0, x2, 0)), (4, (0, x4, 0))] ⟨rfl, rfl, rfl, rfl, trivial⟩ (tb_222_72 ok hX d hl19 hr19 x0 x1 x2 x4 s8)
        · exact g_wk ok [(0, (28, 0, x0)), (1, (0, x1, 0)), (2, (0, x2, 0)), (3, (0, x3, 0)), (4, (0, x4, 0))] ⟨rfl, rfl, rfl, rfl, rfl, trivial⟩ (tb_222_75 ok hX d hl19 hr19 x0 x1 x2 x3 x4 s8)
      · refine g_rb gs_222 6 (cd' := gb_222_36) rfl rfl ?_
        refine g_aload_n ok rfl rfl ?_
        refine g_iload_n ok rfl ?_
        refine g_cvz ok (me_165 hX) rfl rfl rfl rfl (t_165 ok hX _ x0 x1 s) (fun v13 s12 hb14 => ?_)
        refine g_if_eq ok rfl (fun _ => ?_) (fun _ => ?_)
        · exact g_wk ok [(0, (28, 0, x0)), (1, (0, x1, 0)), (2, (0, x2, 0)), (3, (0, x3, 0)), (4, (0, x4, 0))] ⟨rfl, rfl, rfl, rfl, rfl, trivial⟩ (tb_222_75 ok hX d hl19 hr19 x0 x1 x2 x3 x4 s12)
        · refine g_rb gs_222 7 (cd' := gb_222_44) rfl rfl ?_
          refine g_aload_n ok rfl rfl ?_
          refine g_iload_n ok rfl ?_
          refine g_iconst ok (v := 3) rfl ?_
          refine g_cv1 ok (me_156 hX) rfl rfl rfl rfl (t_156 ok hX _ x0 x1 3 s12) (fun v16 s15 => ?_)
          refine g_aload_n ok rfl rfl ?_
          refine g_getr ok 6036 rfl rfl rfl ?_
          refine g_iconst ok (v := 3) rfl ?_
          refine g_ialoadc ok (n := 740) 3 rfl rfl rfl ?_
          refine g_ic_lt ok rfl (fun _ => ?_) (fun _ => ?_)
          · exact g_wk ok [(0, (28, 0, x0)), (1, (0, x1, 0)), (2, (0, x2, 0)), (3, (0, x3, 0)), (4, (0, x4, 0))] ⟨rfl, rfl, rfl, rfl, rfl, trivial⟩ (tb_222_75 ok hX d hl19 hr19 x0 x1 x2 x3 x4 s15)
          · refine g_rb gs_222 8 (cd' := gb_222_59) rfl rfl ?_
            refine g_goto ok rfl ?_
            exact g_wk ok [(0, (28, 0, x0)), (1, (0, x1, 0)), (2, (0, x2, 0)), (4, (0, x4, 0))] ⟨rfl, rfl, rfl, rfl, trivial⟩ (tb_222_72 ok hX d hl19 hr19 x0 x1 x2 x4 s15)
    · refine g_map hr19 ?_
      exact g_wk ok [(0, (28, 0, x0)), (3, (0, x3, 0))] ⟨rfl, rfl, trivial⟩ (tb_222_89 ok hX d  x0 x3 s)
theorem tl_222_19 {X : gX} (ok : gOK X) (hX : gHX X) (d : Nat)  (y : (Nat × Int × Int × Int × Int × gS)) : Go X em_222 222 (d + 38) 19 [] [(0, (28, 0, y.1)), (1, (0, y.2.1, 0)), (2, (0, y.2.2.1, 0)), (3, (0, y.2.2.2.1, 0)), (4, (0, y.2.2.2.2.1, 0))] [] y.2.2.2.2.2 0 0 (gloop (st_222_19) y) some :=
  g_loop (Lh := fun y => [(0, (28, 0, y.1)), (1, (0, y.2.1, 0)), (2, (0, y.2.2.1, 0)), (3, (0, y.2.2.2.1, 0)), (4, (0, y.2.2.2.2.1, 0))]) (sh := fun y => y.2.2.2.2.2) (fun k19 hl19 hr19 y => ts_222_19 ok hX d  hl19 hr19 y.1 y.2.1 y.2.2.1 y.2.2.2.1 y.2.2.2.2.1 y.2.2.2.2.2) y
theorem t_222 {X : gX} (ok : gOK X) (hX : gHX X) (d : Nat) (a0 : Nat) (a1 : Int) (a2 : Int) (s : gS) : Go X em_222 222 (d + 38) 0 [] [(0, (28, 0, a0)), (1, (0, a1, 0)), (2, (0, a2, 0))] [] s 0 0 (f_222 a0 a1 a2 s) some := by
  delta f_222
  refine g_rb gs_222 0 (cd' := gb_222_0) rfl rfl ?_
  refine g_aload_n ok rfl rfl ?_
  refine g_iload_n ok rfl ?_
  refine g_cvz ok (me_165 hX) rfl rfl rfl rfl (t_165 ok hX _ a0 a1 s) (fun v2 s1 hb3 => ?_)
  refine g_if_ne ok rfl (fun _ => ?_) (fun _ => ?_)
  · refine g_rb gs_222 1 (cd' := gb_222_8) rfl rfl ?_
    refine g_iconst ok (v := (-1)) rfl ?_
    exact g_ireturn ok rfl rfl (rfl)
  · refine g_rb gs_222 2 (cd' := gb_222_10) rfl rfl ?_
    refine g_aload_n ok rfl rfl ?_
    refine g_cv0 ok (me_185 hX) rfl rfl rfl (t_185 ok hX _ a0 s1) (fun s4 => ?_)
    refine g_iconst ok (v := (-1)) rfl ?_
    refine g_istore_n ok rfl (L' := [(0, (28, 0, a0)), (1, (0, a1, 0)), (2, (0, a2, 0)), (3, (0, (-1), 0))]) rfl ?_
    refine g_iconst ok (v := 0) rfl ?_
    refine g_istore ok rfl (L' := [(0, (28, 0, a0)), (1, (0, a1, 0)), (2, (0, a2, 0)), (3, (0, (-1), 0)), (4, (0, 0, 0))]) rfl ?_
    exact g_wk ok [(0, (28, 0, a0)), (1, (0, a1, 0)), (2, (0, a2, 0)), (3, (0, (-1), 0)), (4, (0, 0, 0))] ⟨rfl, rfl, rfl, rfl, rfl, trivial⟩ (tl_222_19 ok hX d  (a0, a1, a2, (-1), 0, s4))
-- X12_lives
theorem tb_223_14 {X : gX} (ok : gOK X) (hX : gHX X) (d : Nat)  (x0 : Nat) (x1 : Int) (w0 : Int) (w1 : Nat) (s : gS) : Go X em_223 223 (d + 39) 14 [] [(0, (28, 0, x0)), (1, (0, x1, 0))] [(0, w0, 0), (28, 0, w1)] s 0 0 (fb_223_14 x0 x1 w0 w1 s) some := by
  delta fb_223_14
  refine g_rb gs_223 3 (cd' := gb_223_14) rfl rfl ?_
  refine g_puti ok rfl rfl rfl ?_
  let s4 : gS := gw s w1 0 w0
  refine g_aload_n ok rfl rfl ?_
  refine g_geti ok rfl rfl ?_
  refine g_if_le ok rfl (fun _ => ?_) (fun _ => ?_)
  · refine g_rb gs_223 4 (cd' := gb_223_24) rfl rfl ?_
    refine g_iconst ok (v := 0) rfl ?_
    refine g_goto ok rfl ?_
    refine g_rb gs_223 6 (cd' := gb_223_34) rfl rfl ?_
    exact g_ireturn ok rfl rfl (rfl)
  · refine g_rb gs_223 5 (cd' := gb_223_28) rfl rfl ?_
    refine g_aload_n ok rfl rfl ?_
    refine g_iload_n ok rfl ?_
    refine g_iconst ok (v := 0) rfl ?_
    refine g_cv1 ok (me_222 hX) rfl rfl rfl rfl (t_222 ok hX _ x0 x1 0 s4) (fun v6 s5 => ?_)
    refine g_rb gs_223 6 (cd' := gb_223_34) rfl rfl ?_
    exact g_ireturn ok rfl rfl (rfl)
theorem t_223 {X : gX} (ok : gOK X) (hX : gHX X) (d : Nat) (a0 : Nat) (a1 : Int) (s : gS) : Go X em_223 223 (d + 39) 0 [] [(0, (28, 0, a0)), (1, (0, a1, 0))] [] s 0 0 (f_223 a0 a1 s) some := by
  delta f_223
  refine g_rb gs_223 0 (cd' := gb_223_0) rfl rfl ?_
  refine g_aload_n ok rfl rfl ?_
  refine g_aload_n ok rfl rfl ?_
  refine g_iload_n ok rfl ?_
  refine g_cvz ok (me_162 hX) rfl rfl rfl rfl (t_162 ok hX _ a0 a1 s) (fun v2 s1 hb3 => ?_)
  refine g_if_ne ok rfl (fun _ => ?_) (fun _ => ?_)
  · refine g_rb gs_223 1 (cd' := gb_223_9) rfl rfl ?_
    refine g_iconst ok (v := 1) rfl ?_
    refine g_goto ok rfl ?_
    exact g_wk ok [(0, (28, 0, a0)), (1, (0, a1, 0))] ⟨rfl, rfl, trivial⟩ (tb_223_14 ok hX d  a0 a1 1 a0 s1)
  · refine g_rb gs_223 2 (cd' := gb_223_13) rfl rfl ?_
    refine g_iconst ok (v := 0) rfl ?_
    exact g_wk ok [(0, (28, 0, a0)), (1, (0, a1, 0))] ⟨rfl, rfl, trivial⟩ (tb_223_14 ok hX d  a0 a1 0 a0 s1)
-- X12_done
theorem tb_224_14 {X : gX} (ok : gOK X) (hX : gHX X) (d : Nat)  (x0 : Nat) (x1 : Int) (w0 : Int) (w1 : Nat) (s : gS) : Go X em_224 224 (d + 39) 14 [] [(0, (28, 0, x0)), (1, (0, x1, 0))] [(0, w0, 0), (28, 0, w1)] s 0 0 (fb_224_14 x0 x1 w0 w1 s) some := by
  delta fb_224_14
  refine g_rb gs_224 3 (cd' := gb_224_14) rfl rfl ?_
  refine g_puti ok rfl rfl rfl ?_
  let s4 : gS := gw s w1 0 w0
  refine g_aload_n ok rfl rfl ?_
  refine g_geti ok rfl rfl ?_
  refine g_if_le ok rfl (fun _ => ?_) (fun _ => ?_)
  · refine g_rb gs_224 4 (cd' := gb_224_24) rfl rfl ?_
    refine g_iconst ok (v := 0) rfl ?_
    refine g_goto ok rfl ?_
    refine g_rb gs_224 6 (cd' := gb_224_34) rfl rfl ?_
    exact g_ireturn ok rfl rfl (rfl)
  · refine g_rb gs_224 5 (cd' := gb_224_28) rfl rfl ?_
    refine g_aload_n ok rfl rfl ?_
    refine g_iload_n ok rfl ?_
    refine g_iconst ok (v := 1) rfl ?_
    refine g_cv1 ok (me_222 hX) rfl rfl rfl rfl (t_222 ok hX _ x0 x1 1 s4) (fun v6 s5 => ?_)
    refine g_rb gs_224 6 (cd' := gb_224_34) rfl rfl ?_
    exact g_ireturn ok rfl rfl (rfl)
theorem t_224 {X : gX} (ok : gOK X) (hX : gHX X) (d : Nat) (a0 : Nat) (a1 : Int) (s : gS) : Go X em_224 224 (d + 39) 0 [] [(0, (28, 0, a0)), (1, (0, a1, 0))] [] s 0 0 (f_224 a0 a1 s) some := by
  delta f_224
  refine g_rb gs_224 0 (cd' := gb_224_0) rfl rfl ?_
  refine g_aload_n ok rfl rfl ?_
  refine g_aload_n ok rfl rfl ?_
  refine g_iload_n ok rfl ?_
  refine g_cvz ok (me_162 hX) rfl rfl rfl rfl (t_162 ok hX _ a0 a1 s) (fun v2 s1 hb3 => ?_)
  refine g_if_ne ok rfl (fun _ => ?_) (fun _ => ?_)
  · refine g_rb gs_224 1 (cd' := gb_224_9) rfl rfl ?_
    refine g_iconst ok (v := 1) rfl ?_
    refine g_goto ok rfl ?_
    exact g_wk ok [(0, (28, 0, a0)), (1, (0, a1, 0))] ⟨rfl, rfl, trivial⟩ (tb_224_14 ok hX d  a0 a1 1 a0 s1)
  · refine g_rb gs_224 2 (cd' := gb_224_13) rfl rfl ?_
    refine g_iconst ok (v := 0) rfl ?_
    exact g_wk ok [(0, (28, 0, a0)), (1, (0, a1, 0))] ⟨rfl, rfl, trivial⟩ (tb_224_14 ok hX d  a0 a1 0 a0 s1)
-- X12_looks
theorem tb_225_130 {X : gX} (ok : gOK X) (hX : gHX X) (d : Nat) {k59 : (Nat × Int × Int × Int × gS) ⊕ gO → Option gO} (hl59 : ∀ y : (Nat × Int × Int × Int × gS), Go X em_225 225 (d + 38) 59 [] [(0, (28, 0, y.1)), (2, (0, y.2.1, 0)), (3, (0, y.2.2.1, 0)), (4, (0, y.2.2.2.1, 0))] [] y.2.2.2.2 0 0 (some (Sum.inl y)) k59) (hr59 : ∀ q, k59 (Sum.inr q) = some q) (x0 : Nat) (x2 : Int) (x3 : Int) (x4 : Int) (s : gS) : Go X em_225 225 (d + 38) 130 [] [(0, (28, 0, x0)), (2, (0, x2, 0)), (3, (0, x3, 0)), (4, (0, x4, 0))] [] s 0 0 (fb_225_130 x0 x2 x3 x4 s) k59 := by
  delta fb_225_130
  refine g_rb gs_225 11 (cd' := gb_225_130) rfl rfl ?_
  refine g_aload_n ok rfl rfl ?_
  refine g_getr ok 356 rfl rfl rfl ?_
  refine g_iload ok rfl ?_
  refine g_iload_n ok rfl ?_
  refine g_iastore ok (n := 30) rfl rfl (fun _ _ => ?_)
  let s15 : gS := gw s (gR s x0 19) (x4 : Int).toNat x2
  refine g_aload_n ok rfl rfl ?_
  refine g_getr ok 356 rfl rfl rfl ?_
  refine g_iload ok rfl ?_
  refine g_iload_n ok rfl ?_
  refine g_iastore ok (n := 30) rfl rfl (fun _ _ => ?_)
  let s16 : gS := gw s15 (gR s15 x0 20) (x4 : Int).toNat x3
  refine g_iinc ok rfl rfl (L' := [(0, (28, 0, x0)), (2, (0, x2, 0)), (3, (0, x3, 0)), (4, (0, (g32 (x4 + 1)), 0))]) rfl ?_
  refine g_goto ok rfl ?_
  exact g_wk ok [(0, (28, 0, x0)), (2, (0, x2, 0)), (3, (0, x3, 0)), (4, (0, (g32 (x4 + 1)), 0))] ⟨rfl, rfl, rfl, rfl, trivial⟩ (hl59 (x0, x2, x3, (g32 (x4 + 1)), s16))
theorem tb_225_90 {X : gX} (ok : gOK X) (hX : gHX X) (d : Nat) {k59 : (Nat × Int × Int × Int × gS) ⊕ gO → Option gO} (hl59 : ∀ y : (Nat × Int × Int × Int × gS), Go X em_225 225 (d + 38) 59 [] [(0, (28, 0, y.1)), (2, (0, y.2.1, 0)), (3, (0, y.2.2.1, 0)), (4, (0, y.2.2.2.1, 0))] [] y.2.2.2.2 0 0 (some (Sum.inl y)) k59) (hr59 : ∀ q, k59 (Sum.inr q) = some q) (x0 : Nat) (x2 : Int) (x4 : Int) (w0 : Int) (w1 : Int) (s : gS) : Go X em_225 225 (d + 38) 90 [] [(0, (28, 0, x0)), (2, (0, x2, 0)), (4, (0, x4, 0))] [(0, w0, 0), (0, w1, 0)] s 0 0 (fb_225_90 x0 x2 x4 w0 w1 s) k59 := by
  delta fb_225_90
  refine g_rb gs_225 8 (cd' := gb_225_90) rfl rfl ?_
  refine g_iadd ok ?_
  refine g_istore_n ok rfl (L' := [(0, (28, 0, x0)), (2, (0, x2, 0)), (4, (0, x4, 0)), (3, (0, (g32 (w1 + w0)), 0))]) rfl ?_
  refine g_iload_n ok rfl ?_
  refine g_aload_n ok rfl rfl ?_
  refine g_getr ok 6036 rfl rfl rfl ?_
  refine g_iconst ok (v := 3) rfl ?_
  refine g_ialoadc ok (n := 740) 3 rfl rfl rfl ?_
  refine g_ic_ge ok rfl (fun _ => ?_) (fun _ => ?_)
  · refine g_rb gs_225 9 (cd' := gb_225_102) rfl rfl ?_
    refine g_iload_n ok rfl ?_
    refine g_aload_n ok rfl rfl ?_
    refine g_iload_n ok rfl ?_
    refine g_iconst ok (v := 0) rfl ?_
    refine g_cv1 ok (me_155 hX) rfl rfl rfl rfl (t_155 ok hX _ x0 x2 0 s) (fun v14 s13 => ?_)
    refine g_ic_lt ok rfl (fun _ => ?_) (fun _ => ?_)
    · exact g_wk ok [(0, (28, 0, x0)), (2, (0, x2, 0)), (3, (0, (g32 (w1 + w0)), 0)), (4, (0, x4, 0))] ⟨rfl, rfl, rfl, rfl, trivial⟩ (tb_225_130 ok hX d hl59 hr59 x0 x2 (g32 (w1 + w0)) x4 s13)
    · refine g_rb gs_225 10 (cd' := gb_225_112) rfl rfl ?_
      refine g_aload_n ok rfl rfl ?_
      refine g_getr ok 356 rfl rfl rfl ?_
      refine g_iload ok rfl ?_
      refine g_aload_n ok rfl rfl ?_
      refine g_iload_n ok rfl ?_
      refine g_iconst ok (v := 2) rfl ?_
      refine g_cv1 ok (me_155 hX) rfl rfl rfl rfl (t_155 ok hX _ x0 x2 2 s13) (fun v18 s17 => ?_)
      refine g_iastore ok (n := 30) rfl rfl (fun _ _ => ?_)
      let s19 : gS := gw s17 (gR s13 x0 21) (x4 : Int).toNat v18
      refine g_iinc ok rfl rfl (L' := [(0, (28, 0, x0)), (2, (0, (g32 (x2 + 1)), 0)), (4, (0, x4, 0)), (3, (0, (g32 (w1 + w0)), 0))]) rfl ?_
      refine g_iconst ok (v := 0) rfl ?_
      refine g_istore_n ok rfl (L' := [(0, (28, 0, x0)), (2, (0, (g32 (x2 + 1)), 0)), (4, (0, x4, 0)), (3, (0, 0, 0))]) rfl ?_
      exact g_wk ok [(0, (28, 0, x0)), (2, (0, (g32 (x2 + 1)), 0)), (3, (0, 0, 0)), (4, (0, x4, 0))] ⟨rfl, rfl, rfl, rfl, trivial⟩ (tb_225_130 ok hX d hl59 hr59 x0 (g32 (x2 + 1)) 0 x4 s19)
  · exact g_wk ok [(0, (28, 0, x0)), (2, (0, x2, 0)), (3, (0, (g32 (w1 + w0)), 0)), (4, (0, x4, 0))] ⟨rfl, rfl, rfl, rfl, trivial⟩ (tb_225_130 ok hX d hl59 hr59 x0 x2 (g32 (w1 + w0)) x4 s)
theorem ts_225_155 {X : gX} (ok : gOK X) (hX : gHX X) (d : Nat) {k155 : (Nat × Int × gS) ⊕ gO → Option gO} (hl155 : ∀ y : (Nat × Int × gS), Go X em_225 225 (d + 38) 155 [] [(0, (28, 0, y.1)), (4, (0, y.2.1, 0))] [] y.2.2 0 0 (some (Sum.inl y)) k155) (hr155 : ∀ q, k155 (Sum.inr q) = some q) (x0 : Nat) (x4 : Int) (s : gS) : Go X em_225 225 (d + 38) 155 [] [(0, (28, 0, x0)), (4, (0, x4, 0))] [] s 0 0 (sb_225_155 x0 x4 s) k155 := by
  delta sb_225_155
  refine g_rb gs_225 13 (cd' := gb_225_155) rfl rfl ?_
  refine g_iload ok rfl ?_
  refine g_sipush ok (v := 31000) rfl ?_
  refine g_ic_ge ok rfl (fun _ => ?_) (fun _ => ?_)
  · refine g_rb gs_225 14 (cd' := gb_225_163) rfl rfl ?_
    refine g_aload_n ok rfl rfl ?_
    refine g_getr ok 248116 rfl rfl rfl ?_
    refine g_iload ok rfl ?_
    refine g_iconst ok (v := (-1)) rfl ?_
    refine g_iastore ok (n := 31000) rfl rfl (fun _ _ => ?_)
    let s20 : gS := gw s (gR s x0 22) (x4 : Int).toNat (-1)
    refine g_iinc ok rfl rfl (L' := [(0, (28, 0, x0)), (4, (0, (g32 (x4 + 1)), 0))]) rfl ?_
    refine g_goto ok rfl ?_
    exact g_wk ok [(0, (28, 0, x0)), (4, (0, (g32 (x4 + 1)), 0))] ⟨rfl, rfl, trivial⟩ (hl155 (x0, (g32 (x4 + 1)), s20))
  · refine g_map hr155 ?_
    refine g_rb gs_225 15 (cd' := gb_225_177) rfl rfl ?_
    exact g_return ok rfl rfl (rfl)
theorem tl_225_155 {X : gX} (ok : gOK X) (hX : gHX X) (d : Nat)  (y : (Nat × Int × gS)) : Go X em_225 225 (d + 38) 155 [] [(0, (28, 0, y.1)), (4, (0, y.2.1, 0))] [] y.2.2 0 0 (gloop (st_225_155) y) some :=
  g_loop (Lh := fun y => [(0, (28, 0, y.1)), (4, (0, y.2.1, 0))]) (sh := fun y => y.2.2) (fun k155 hl155 hr155 y => ts_225_155 ok hX d  hl155 hr155 y.1 y.2.1 y.2.2) y
theorem ts_225_59 {X : gX} (ok : gOK X) (hX : gHX X) (d : Nat) {k59 : (Nat × Int × Int × Int × gS) ⊕ gO → Option gO} (hl59 : ∀ y : (Nat × Int × Int × Int × gS), Go X em_225 225 (d + 38) 59 [] [(0, (28, 0, y.1)), (2, (0, y.2.1, 0)), (3, (0, y.2.2.1, 0)), (4, (0, y.2.2.2.1, 0))] [] y.2.2.2.2 0 0 (some (Sum.inl y)) k59) (hr59 : ∀ q, k59 (Sum.inr q) = some q) (x0 : Nat) (x2 : Int) (x3 : Int) (x4 : Int) (s : gS) : Go X em_225 225 (d + 38) 59 [] [(0, (28, 0, x0)), (2, (0, x2, 0)), (3, (0, x3, 0)), (4, (0, x4, 0))] [] s 0 0 (sb_225_59 x0 x2 x3 x4 s) k59 := by
  delta sb_225_59
  refine g_rb gs_225 4 (cd' := gb_225_59) rfl rfl ?_
  refine g_iload ok rfl ?_
  refine g_bipush ok (v := 30) rfl ?_
  refine g_ic_ge ok rfl (fun _ => ?_) (fun _ => ?_)
  · refine g_rb gs_225 5 (cd' := gb_225_66) rfl rfl ?_
    refine g_aload_n ok rfl rfl ?_
    refine g_getr ok 356 rfl rfl rfl ?_
    refine g_iload ok rfl ?_
    refine g_iconst ok (v := 0) rfl ?_
    refine g_iastore ok (n := 30) rfl rfl (fun _ _ => ?_)
    let s12 : gS := gw s (gR s x0 21) (x4 : Int).toNat 0
    refine g_iload_n ok rfl ?_
    refine g_iload_n ok rfl ?_
    refine g_aload_n ok rfl rfl ?_
    refine g_getr ok 6036 rfl rfl rfl ?_
    refine g_iconst ok (v := 3) rfl ?_
    refine g_ialoadc ok (n := 740) 3 rfl rfl rfl ?_
    refine g_ic_ge ok rfl (fun _ => ?_) (fun _ => ?_)
    · refine g_rb gs_225 6 (cd' := gb_225_85) rfl rfl ?_
      refine g_iconst ok (v := 1) rfl ?_
      refine g_goto ok rfl ?_
      exact g_wk ok [(0, (28, 0, x0)), (2, (0, x2, 0)), (4, (0, x4, 0))] ⟨rfl, rfl, rfl, trivial⟩ (tb_225_90 ok hX d hl59 hr59 x0 x2 x4 1 x3 s12)
    · refine g_rb gs_225 7 (cd' := gb_225_89) rfl rfl ?_
      refine g_iconst ok (v := 0) rfl ?_
      exact g_wk ok [(0, (28, 0, x0)), (2, (0, x2, 0)), (4, (0, x4, 0))] ⟨rfl, rfl, rfl, trivial⟩ (tb_225_90 ok hX d hl59 hr59 x0 x2 x4 0 x3 s12)
  · refine g_map hr59 ?_
    refine g_rb gs_225 12 (cd' := gb_225_152) rfl rfl ?_
    refine g_iconst ok (v := 0) rfl ?_
    refine g_istore ok rfl (L' := [(0, (28, 0, x0)), (2, (0, x2, 0)), (3, (0, x3, 0)), (4, (0, 0, 0))]) rfl ?_
    exact g_wk ok [(0, (28, 0, x0)), (4, (0, 0, 0))] ⟨rfl, rfl, trivial⟩ (tl_225_155 ok hX d  (x0, 0, s))
theorem tl_225_59 {X : gX} (ok : gOK X) (hX : gHX X) (d : Nat)  (y : (Nat × Int × Int × Int × gS)) : Go X em_225 225 (d + 38) 59 [] [(0, (28, 0, y.1)), (2, (0, y.2.1, 0)), (3, (0, y.2.2.1, 0)), (4, (0, y.2.2.2.1, 0))] [] y.2.2.2.2 0 0 (gloop (st_225_59) y) some :=
  g_loop (Lh := fun y => [(0, (28, 0, y.1)), (2, (0, y.2.1, 0)), (3, (0, y.2.2.1, 0)), (4, (0, y.2.2.2.1, 0))]) (sh := fun y => y.2.2.2.2) (fun k59 hl59 hr59 y => ts_225_59 ok hX d  hl59 hr59 y.1 y.2.1 y.2.2.1 y.2.2.2.1 y.2.2.2.2) y
theorem ts_225_6 {X : gX} (ok : gOK X) (hX : gHX X) (d : Nat) {k6 : (Nat × Int × Int × gS) ⊕ gO → Option gO} (hl6 : ∀ y : (Nat × Int × Int × gS), Go X em_225 225 (d + 38) 6 [] [(0, (28, 0, y.1)), (1, (0, y.2.1, 0)), (2, (0, y.2.2.1, 0))] [] y.2.2.2 0 0 (some (Sum.inl y)) k6) (hr6 : ∀ q, k6 (Sum.inr q) = some q) (x0 : Nat) (x1 : Int) (x2 : Int) (s : gS) : Go X em_225 225 (d + 38) 6 [] [(0, (28, 0, x0)), (1, (0, x1, 0)), (2, (0, x2, 0))] [] s 0 0 (sb_225_6 x0 x1 x2 s) k6 := by
  delta sb_225_6
  refine g_rb gs_225 1 (cd' := gb_225_6) rfl rfl ?_
  refine g_iload_n ok rfl ?_
  refine g_bipush ok (v := 30) rfl ?_
  refine g_ic_ge ok rfl (fun _ => ?_) (fun _ => ?_)
  · refine g_rb gs_225 2 (cd' := gb_225_12) rfl rfl ?_
    refine g_aload_n ok rfl rfl ?_
    refine g_getr ok 356 rfl rfl rfl ?_
    refine g_iload_n ok rfl ?_
    refine g_aload_n ok rfl rfl ?_
    refine g_getr ok 6036 rfl rfl rfl ?_
    refine g_bipush ok (v := 9) rfl ?_
    refine g_ialoadc ok (n := 740) 9 rfl rfl rfl ?_
    refine g_iastore ok (n := 30) rfl rfl (fun _ _ => ?_)
    let s3 : gS := gw s (gR s x0 18) (x2 : Int).toNat (gI s (gR s x0 1) 9)
    refine g_aload_n ok rfl rfl ?_
    refine g_iconst ok (v := 1) rfl ?_
    refine g_iconst ok (v := 0) rfl ?_
    refine g_cv1 ok (me_202 hX) rfl rfl rfl rfl (t_202 ok hX _ x0 1 0 s3) (fun v5 s4 => ?_)
    refine g_istore_n ok rfl (L' := [(0, (28, 0, x0)), (1, (0, x1, 0)), (2, (0, x2, 0)), (3, (0, v5, 0))]) rfl ?_
    refine g_iinc ok rfl rfl (L' := [(0, (28, 0, x0)), (1, (0, x1, 0)), (2, (0, (g32 (x2 + 1)), 0)), (3, (0, v5, 0))]) rfl ?_
    refine g_goto ok rfl ?_
    exact g_wk ok [(0, (28, 0, x0)), (1, (0, x1, 0)), (2, (0, (g32 (x2 + 1)), 0))] ⟨rfl, rfl, rfl, trivial⟩ (hl6 (x0, x1, (g32 (x2 + 1)), s4))
  · refine g_map hr6 ?_
    refine g_rb gs_225 3 (cd' := gb_225_38) rfl rfl ?_
    refine g_aload_n ok rfl rfl ?_
    refine g_cv0 ok (me_186 hX) rfl rfl rfl (t_186 ok hX _ x0 s) (fun s6 => ?_)
    refine g_aload_n ok rfl rfl ?_
    refine g_iload_n ok rfl ?_
    refine g_iconst ok (v := 3) rfl ?_
    refine g_cv1 ok (me_156 hX) rfl rfl rfl rfl (t_156 ok hX _ x0 x1 3 s6) (fun v9 s8 => ?_)
    refine g_istore_n ok rfl (L' := [(0, (28, 0, x0)), (1, (0, x1, 0)), (2, (0, v9, 0))]) rfl ?_
    refine g_aload_n ok rfl rfl ?_
    refine g_iload_n ok rfl ?_
    refine g_iconst ok (v := 4) rfl ?_
    refine g_cv1 ok (me_156 hX) rfl rfl rfl rfl (t_156 ok hX _ x0 x1 4 s8) (fun v11 s10 => ?_)
    refine g_istore_n ok rfl (L' := [(0, (28, 0, x0)), (1, (0, x1, 0)), (2, (0, v9, 0)), (3, (0, v11, 0))]) rfl ?_
    refine g_iconst ok (v := 0) rfl ?_
    refine g_istore ok rfl (L' := [(0, (28, 0, x0)), (1, (0, x1, 0)), (2, (0, v9, 0)), (3, (0, v11, 0)), (4, (0, 0, 0))]) rfl ?_
    exact g_wk ok [(0, (28, 0, x0)), (2, (0, v9, 0)), (3, (0, v11, 0)), (4, (0, 0, 0))] ⟨rfl, rfl, rfl, rfl, trivial⟩ (tl_225_59 ok hX d  (x0, v9, v11, 0, s10))
theorem tl_225_6 {X : gX} (ok : gOK X) (hX : gHX X) (d : Nat)  (y : (Nat × Int × Int × gS)) : Go X em_225 225 (d + 38) 6 [] [(0, (28, 0, y.1)), (1, (0, y.2.1, 0)), (2, (0, y.2.2.1, 0))] [] y.2.2.2 0 0 (gloop (st_225_6) y) some :=
  g_loop (Lh := fun y => [(0, (28, 0, y.1)), (1, (0, y.2.1, 0)), (2, (0, y.2.2.1, 0))]) (sh := fun y => y.2.2.2) (fun k6 hl6 hr6 y => ts_225_6 ok hX d  hl6 hr6 y.1 y.2.1 y.2.2.1 y.2.2.2) y
theorem t_225 {X : gX} (ok : gOK X) (hX : gHX X) (d : Nat) (a0 : Nat) (a1 : Int) (s : gS) : Go X em_225 225 (d + 38) 0 [] [(0, (28, 0, a0)), (1, (0, a1, 0))] [] s 0 0 (f_225 a0 a1 s) some := by
  delta f_225
  refine g_rb gs_225 0 (cd' := gb_225_0) rfl rfl ?_
  refine g_aload_n ok rfl rfl ?_
  refine g_cv0 ok (me_185 hX) rfl rfl rfl (t_185 ok hX _ a0 s) (fun s1 => ?_)
  refine g_iconst ok (v := 0) rfl ?_
  refine g_istore_n ok rfl (L' := [(0, (28, 0, a0)), (1, (0, a1, 0)), (2, (0, 0, 0))]) rfl ?_
  exact g_wk ok [(0, (28, 0, a0)), (1, (0, a1, 0)), (2, (0, 0, 0))] ⟨rfl, rfl, rfl, trivial⟩ (tl_225_6 ok hX d  (a0, a1, 0, s1))
-- X12_behind
theorem t_228 {X : gX} (ok : gOK X) (hX : gHX X) (d : Nat) (a0 : Nat) (a1 : Int) (a2 : Int) (a3 : Int) (a4 : Int) (s : gS) : Go X em_228 228 (d + 36) 0 [] [(0, (28, 0, a0)), (1, (0, a1, 0)), (2, (0, a2, 0)), (3, (0, a3, 0)), (4, (0, a4, 0))] [] s 0 0 (f_228 a0 a1 a2 a3 a4 s) some := by
  delta f_228
  refine g_rb gs_228 0 (cd' := gb_228_0) rfl rfl ?_
  refine g_bipush ok (v := 99) rfl ?_
  refine g_iload_n ok rfl ?_
  refine g_aload_n ok rfl rfl ?_
  refine g_getr ok 356 rfl rfl rfl ?_
  refine g_iload_n ok rfl ?_
  refine g_iaload ok (n := 30) rfl rfl (fun _ _ => ?_)
  refine g_iadd ok ?_
  refine g_cs1 ok (me_151 hX) rfl rfl rfl (t_151 ok hX _ 99 (g32 (a3 + (gI s (gR s a0 21) (a2 : Int).toNat))) s) (fun v2 s1 => ?_)
  refine g_istore ok rfl (L' := [(0, (28, 0, a0)), (1, (0, a1, 0)), (2, (0, a2, 0)), (3, (0, a3, 0)), (4, (0, a4, 0)), (5, (0, v2, 0))]) rfl ?_
  refine g_iconst ok (v := 0) rfl ?_
  refine g_bipush ok (v := 99) rfl ?_
  refine g_iload ok rfl ?_
  refine g_aload_n ok rfl rfl ?_
  refine g_iload_n ok rfl ?_
  refine g_iload ok rfl ?_
  refine g_iload ok rfl ?_
  refine g_aload_n ok rfl rfl ?_
  refine g_getr ok 356 rfl rfl rfl ?_
  refine g_iload_n ok rfl ?_
  refine g_iaload ok (n := 30) rfl rfl (fun _ _ => ?_)
  refine g_aload_n ok rfl rfl ?_
  refine g_getr ok 356 rfl rfl rfl ?_
  refine g_iload_n ok rfl ?_
  refine g_iaload ok (n := 30) rfl rfl (fun _ _ => ?_)
  refine g_aload_n ok rfl rfl ?_
  refine g_getr ok 356 rfl rfl rfl ?_
  refine g_iload_n ok rfl ?_
  refine g_iaload ok (n := 30) rfl rfl (fun _ _ => ?_)
  refine g_sipush ok (v := 9999) rfl ?_
  refine g_aload_n ok rfl rfl ?_
  refine g_getr ok 6036 rfl rfl rfl ?_
  refine g_bipush ok (v := 7) rfl ?_
  refine g_ialoadc ok (n := 740) 7 rfl rfl rfl ?_
  refine g_iload_n ok rfl ?_
  refine g_iadd ok ?_
  refine g_cs1 ok (me_151 hX) rfl rfl rfl (t_151 ok hX _ 9999 (g32 ((gI s1 (gR s1 a0 1) 7) + a2)) s1) (fun v4 s3 => ?_)
  refine g_cv1 ok (me_197 hX) rfl rfl rfl rfl (t_197 ok hX _ a0 a1 v2 a4 (gI s1 (gR s1 a0 19) (a2 : Int).toNat) (gI s1 (gR s1 a0 20) (a2 : Int).toNat) (gI s1 (gR s1 a0 18) (a2 : Int).toNat) v4 s3) (fun v6 s5 => ?_)
  refine g_iadd ok ?_
  refine g_cs1 ok (me_151 hX) rfl rfl rfl (t_151 ok hX _ 99 (g32 (v2 + v6)) s5) (fun v8 s7 => ?_)
  refine g_cs1 ok (me_152 hX) rfl rfl rfl (t_152 ok hX _ 0 v8 s7) (fun v10 s9 => ?_)
  exact g_ireturn ok rfl rfl (rfl)
-- X12_from+X12_using
theorem ts_226_48 {X : gX} (ok : gOK X) (hX : gHX X) (d : Nat) {r_227 : Nat → Int → Int → Int → Int → Int → gS → Option gO} (hrc_227 : ∀ (a0 : Nat) (a1 : Int) (a2 : Int) (a3 : Int) (a4 : Int) (a5 : Int) (s : gS), Go X em_227 227 (d + 36) 0 [] [(0, (28, 0, a0)), (1, (0, a1, 0)), (2, (0, a2, 0)), (3, (0, a3, 0)), (4, (0, a4, 0)), (5, (0, a5, 0))] [] s 0 0 (r_227 a0 a1 a2 a3 a4 a5 s) some) {k48 : (Nat × Int × Int × Int × Int × Int × Int × Int × gS) ⊕ gO → Option gO} (hl48 : ∀ y : (Nat × Int × Int × Int × Int × Int × Int × Int × gS), Go X em_226 226 (d + 37) 48 [] [(0, (28, 0, y.1)), (1, (0, y.2.1, 0)), (2, (0, y.2.2.1, 0)), (3, (0, y.2.2.2.1, 0)), (4, (0, y.2.2.2.2.1, 0)), (5, (0, y.2.2.2.2.2.1, 0)), (6, (0, y.2.2.2.2.2.2.1, 0)), (7, (0, y.2.2.2.2.2.2.2.1, 0))] [] y.2.2.2.2.2.2.2.2 0 0 (some (Sum.inl y)) k48) (hr48 : ∀ q, k48 (Sum.inr q) = some q) (x0 : Nat) (x1 : Int) (x2 : Int) (x3 : Int) (x4 : Int) (x5 : Int) (x6 : Int) (x7 : Int) (s : gS) : Go X em_226 226 (d + 37) 48 [] [(0, (28, 0, x0)), (1, (0, x1, 0)), (2, (0, x2, 0)), (3, (0, x3, 0)), (4, (0, x4, 0)), (5, (0, x5, 0)), (6, (0, x6, 0)), (7, (0, x7, 0))] [] s 0 0 (sb_226_48 r_227 x0 x1 x2 x3 x4 x5 x6 x7 s) k48 := by
  delta sb_226_48
  refine g_rb gs_226 5 (cd' := gb_226_48) rfl rfl ?_
  refine g_iload ok rfl ?_
  refine g_iload ok rfl ?_
  refine g_ic_gt ok rfl (fun _ => ?_) (fun _ => ?_)
  · refine g_map hr48 ?_
    refine g_rb gs_226 7 (cd' := gb_226_79) rfl rfl ?_
    refine g_aload_n ok rfl rfl ?_
    refine g_getr ok 248116 rfl rfl rfl ?_
    refine g_iload ok rfl ?_
    refine g_iload ok rfl ?_
    refine g_iastore ok (n := 31000) rfl rfl (fun _ _ => ?_)
    let s2 : gS := gw s (gR s x0 22) (x5 : Int).toNat x6
    refine g_iload ok rfl ?_
    exact g_ireturn ok rfl rfl (rfl)
  · refine g_rb gs_226 6 (cd' := gb_226_55) rfl rfl ?_
    refine g_iload ok rfl ?_
    refine g_aload_n ok rfl rfl ?_
    refine g_iload_n ok rfl ?_
    refine g_iload_n ok rfl ?_
    refine g_iload_n ok rfl ?_
    refine g_iload ok rfl ?_
    refine g_iload ok rfl ?_
    refine g_cv1 ok (me_227 hX) rfl rfl rfl rfl (hrc_227 x0 x1 x2 x3 x4 x7 s) (fun v4 s3 => ?_)
    refine g_cs1 ok (me_152 hX) rfl rfl rfl (t_152 ok hX _ x6 v4 s3) (fun v6 s5 => ?_)
    refine g_istore ok rfl (L' := [(0, (28, 0, x0)), (1, (0, x1, 0)), (2, (0, x2, 0)), (3, (0, x3, 0)), (4, (0, x4, 0)), (5, (0, x5, 0)), (6, (0, v6, 0)), (7, (0, x7, 0))]) rfl ?_
    refine g_iinc ok rfl rfl (L' := [(0, (28, 0, x0)), (1, (0, x1, 0)), (2, (0, x2, 0)), (3, (0, x3, 0)), (4, (0, x4, 0)), (5, (0, x5, 0)), (6, (0, v6, 0)), (7, (0, (g32 (x7 + 1)), 0))]) rfl ?_
    refine g_goto ok rfl ?_
    exact g_wk ok [(0, (28, 0, x0)), (1, (0, x1, 0)), (2, (0, x2, 0)), (3, (0, x3, 0)), (4, (0, x4, 0)), (5, (0, x5, 0)), (6, (0, v6, 0)), (7, (0, (g32 (x7 + 1)), 0))] ⟨rfl, rfl, rfl, rfl, rfl, rfl, rfl, rfl, trivial⟩ (hl48 (x0, x1, x2, x3, x4, x5, v6, (g32 (x7 + 1)), s5))
theorem tl_226_48 {X : gX} (ok : gOK X) (hX : gHX X) (d : Nat) {r_227 : Nat → Int → Int → Int → Int → Int → gS → Option gO} (hrc_227 : ∀ (a0 : Nat) (a1 : Int) (a2 : Int) (a3 : Int) (a4 : Int) (a5 : Int) (s : gS), Go X em_227 227 (d + 36) 0 [] [(0, (28, 0, a0)), (1, (0, a1, 0)), (2, (0, a2, 0)), (3, (0, a3, 0)), (4, (0, a4, 0)), (5, (0, a5, 0))] [] s 0 0 (r_227 a0 a1 a2 a3 a4 a5 s) some)  (y : (Nat × Int × Int × Int × Int × Int × Int × Int × gS)) : Go X em_226 226 (d + 37) 48 [] [(0, (28, 0, y.1)), (1, (0, y.2.1, 0)), (2, (0, y.2.2.1, 0)), (3, (0, y.2.2.2.1, 0)), (4, (0, y.2.2.2.2.1, 0)), (5, (0, y.2.2.2.2.2.1, 0)), (6, (0, y.2.2.2.2.2.2.1, 0)), (7, (0, y.2.2.2.2.2.2.2.1, 0))] [] y.2.2.2.2.2.2.2.2 0 0 (gloop (st_226_48 r_227) y) some :=
  g_loop (Lh := fun y => [(0, (28, 0, y.1)), (1, (0, y.2.1, 0)), (2, (0, y.2.2.1, 0)), (3, (0, y.2.2.2.1, 0)), (4, (0, y.2.2.2.2.1, 0)), (5, (0, y.2.2.2.2.2.1, 0)), (6, (0, y.2.2.2.2.2.2.1, 0)), (7, (0, y.2.2.2.2.2.2.2.1, 0))]) (sh := fun y => y.2.2.2.2.2.2.2.2) (fun k48 hl48 hr48 y => ts_226_48 ok hX d hrc_227  hl48 hr48 y.1 y.2.1 y.2.2.1 y.2.2.2.1 y.2.2.2.2.1 y.2.2.2.2.2.1 y.2.2.2.2.2.2.1 y.2.2.2.2.2.2.2.1 y.2.2.2.2.2.2.2.2) y
theorem to_226 {X : gX} (ok : gOK X) (hX : gHX X) (d : Nat) {r_227 : Nat → Int → Int → Int → Int → Int → gS → Option gO} (hrc_227 : ∀ (a0 : Nat) (a1 : Int) (a2 : Int) (a3 : Int) (a4 : Int) (a5 : Int) (s : gS), Go X em_227 227 (d + 36) 0 [] [(0, (28, 0, a0)), (1, (0, a1, 0)), (2, (0, a2, 0)), (3, (0, a3, 0)), (4, (0, a4, 0)), (5, (0, a5, 0))] [] s 0 0 (r_227 a0 a1 a2 a3 a4 a5 s) some) (a0 : Nat) (a1 : Int) (a2 : Int) (a3 : Int) (a4 : Int) (s : gS) : Go X em_226 226 (d + 37) 0 [] [(0, (28, 0, a0)), (1, (0, a1, 0)), (2, (0, a2, 0)), (3, (0, a3, 0)), (4, (0, a4, 0))] [] s 0 0 (fo_226 r_227 a0 a1 a2 a3 a4 s) some := by
  delta fo_226
  refine g_rb gs_226 0 (cd' := gb_226_0) rfl rfl ?_
  refine g_iload_n ok rfl ?_
  refine g_bipush ok (v := 30) rfl ?_
  refine g_ic_ne ok rfl (fun _ => ?_) (fun _ => ?_)
  · refine g_rb gs_226 1 (cd' := gb_226_6) rfl rfl ?_
    refine g_iconst ok (v := 0) rfl ?_
    exact g_ireturn ok rfl rfl (rfl)
  · refine g_rb gs_226 2 (cd' := gb_226_8) rfl rfl ?_
    refine g_sipush ok (v := 1000) rfl ?_
    refine g_iload_n ok rfl ?_
    refine g_imul ok ?_
    refine g_bipush ok (v := 10) rfl ?_
    refine g_iload_n ok rfl ?_
    refine g_imul ok ?_
    refine g_iadd ok ?_
    refine g_iload ok rfl ?_
    refine g_iadd ok ?_
    let v1 : Int := (g32 ((g32 ((g32 (1000 * a2)) + (g32 (10 * a3)))) + a4))
    refine g_istore ok rfl (L' := [(0, (28, 0, a0)), (1, (0, a1, 0)), (2, (0, a2, 0)), (3, (0, a3, 0)), (4, (0, a4, 0)), (5, (0, v1, 0))]) rfl ?_
    refine g_aload_n ok rfl rfl ?_
    refine g_getr ok 248116 rfl rfl rfl ?_
    refine g_iload ok rfl ?_
    refine g_iaload ok (n := 31000) rfl rfl (fun _ _ => ?_)
    refine g_iconst ok (v := (-1)) rfl ?_
    refine g_ic_eq ok rfl (fun _ => ?_) (fun _ => ?_)
    · refine g_rb gs_226 4 (cd' := gb_226_42) rfl rfl ?_
      refine g_iconst ok (v := 0) rfl ?_
      refine g_istore ok rfl (L' := [(0, (28, 0, a0)), (1, (0, a1, 0)), (2, (0, a2, 0)), (3, (0, a3, 0)), (4, (0, a4, 0)), (5, (0, v1, 0)), (6, (0, 0, 0))]) rfl ?_
      refine g_iconst ok (v := 0) rfl ?_
      refine g_istore ok rfl (L' := [(0, (28, 0, a0)), (1, (0, a1, 0)), (2, (0, a2, 0)), (3, (0, a3, 0)), (4, (0, a4, 0)), (5, (0, v1, 0)), (6, (0, 0, 0)), (7, (0, 0, 0))]) rfl ?_
      exact g_wk ok [(0, (28, 0, a0)), (1, (0, a1, 0)), (2, (0, a2, 0)), (3, (0, a3, 0)), (4, (0, a4, 0)), (5, (0, v1, 0)), (6, (0, 0, 0)), (7, (0, 0, 0))] ⟨rfl, rfl, rfl, rfl, rfl, rfl, rfl, rfl, trivial⟩ (tl_226_48 ok hX d hrc_227  (a0, a1, a2, a3, a4, v1, 0, 0, s))
    · refine g_rb gs_226 3 (cd' := gb_226_34) rfl rfl ?_
      refine g_aload_n ok rfl rfl ?_
      refine g_getr ok 248116 rfl rfl rfl ?_
      refine g_iload ok rfl ?_
      refine g_iaload ok (n := 31000) rfl rfl (fun _ _ => ?_)
      exact g_ireturn ok rfl rfl (rfl)
theorem to_227 {X : gX} (ok : gOK X) (hX : gHX X) (d : Nat) {r_226 : Nat → Int → Int → Int → Int → gS → Option gO} (hrc_226 : ∀ (a0 : Nat) (a1 : Int) (a2 : Int) (a3 : Int) (a4 : Int) (s : gS), Go X em_226 226 (d + 36) 0 [] [(0, (28, 0, a0)), (1, (0, a1, 0)), (2, (0, a2, 0)), (3, (0, a3, 0)), (4, (0, a4, 0))] [] s 0 0 (r_226 a0 a1 a2 a3 a4 s) some) (a0 : Nat) (a1 : Int) (a2 : Int) (a3 : Int) (a4 : Int) (a5 : Int) (s : gS) : Go X em_227 227 (d + 37) 0 [] [(0, (28, 0, a0)), (1, (0, a1, 0)), (2, (0, a2, 0)), (3, (0, a3, 0)), (4, (0, a4, 0)), (5, (0, a5, 0))] [] s 0 0 (fo_227 r_226 a0 a1 a2 a3 a4 a5 s) some := by
  delta fo_227
  refine g_rb gs_227 0 (cd' := gb_227_0) rfl rfl ?_
  refine g_aload_n ok rfl rfl ?_
  refine g_iload_n ok rfl ?_
  refine g_iload_n ok rfl ?_
  refine g_bipush ok (v := 99) rfl ?_
  refine g_iload_n ok rfl ?_
  refine g_aload_n ok rfl rfl ?_
  refine g_getr ok 6036 rfl rfl rfl ?_
  refine g_bipush ok (v := 12) rfl ?_
  refine g_ialoadc ok (n := 740) 12 rfl rfl rfl ?_
  refine g_iload ok rfl ?_
  refine g_imul ok ?_
  refine g_iadd ok ?_
  refine g_cs1 ok (me_151 hX) rfl rfl rfl (t_151 ok hX _ 99 (g32 (a3 + (g32 ((gI s (gR s a0 1) 12) * a5)))) s) (fun v2 s1 => ?_)
  refine g_iload ok rfl ?_
  refine g_iload ok rfl ?_
  refine g_isub ok ?_
  refine g_cv1 ok (me_228 hX) rfl rfl rfl rfl (t_228 ok hX _ a0 a1 a2 v2 (g32 (a4 - a5)) s1) (fun v4 s3 => ?_)
  refine g_istore ok rfl (L' := [(0, (28, 0, a0)), (1, (0, a1, 0)), (2, (0, a2, 0)), (3, (0, a3, 0)), (4, (0, a4, 0)), (5, (0, a5, 0)), (6, (0, v4, 0))]) rfl ?_
  refine g_iload ok rfl ?_
  refine g_aload_n ok rfl rfl ?_
  refine g_getr ok 6036 rfl rfl rfl ?_
  refine g_bipush ok (v := 10) rfl ?_
  refine g_ialoadc ok (n := 740) 10 rfl rfl rfl ?_
  refine g_ic_ge ok rfl (fun _ => ?_) (fun _ => ?_)
  · refine g_rb gs_227 1 (cd' := gb_227_42) rfl rfl ?_
    refine g_iconst ok (v := 0) rfl ?_
    refine g_goto ok rfl ?_
    refine g_rb gs_227 3 (cd' := gb_227_63) rfl rfl ?_
    exact g_ireturn ok rfl rfl (rfl)
  · refine g_rb gs_227 2 (cd' := gb_227_46) rfl rfl ?_
    refine g_iconst ok (v := 1) rfl ?_
    refine g_aload_n ok rfl rfl ?_
    refine g_iload_n ok rfl ?_
    refine g_iload_n ok rfl ?_
    refine g_iconst ok (v := 1) rfl ?_
    refine g_iadd ok ?_
    refine g_iload ok rfl ?_
    refine g_iload ok rfl ?_
    refine g_iload ok rfl ?_
    refine g_isub ok ?_
    refine g_cv1 ok (me_226 hX) rfl rfl rfl rfl (hrc_226 a0 a1 (g32 (a2 + 1)) v4 (g32 (a4 - a5)) s3) (fun v6 s5 => ?_)
    refine g_iadd ok ?_
    refine g_rb gs_227 3 (cd' := gb_227_63) rfl rfl ?_
    exact g_ireturn ok rfl rfl (rfl)
theorem tr_226 {X : gX} (ok : gOK X) (hX : gHX X) (d : Nat) : ∀ n : Nat, (∀ (a0 : Nat) (a1 : Int) (a2 : Int) (a3 : Int) (a4 : Int) (s : gS), Go X em_226 226 (d + 37 + n) 0 [] [(0, (28, 0, a0)), (1, (0, a1, 0)), (2, (0, a2, 0)), (3, (0, a3, 0)), (4, (0, a4, 0))] [] s 0 0 (fn_226 n a0 a1 a2 a3 a4 s) some) ∧ (∀ (a0 : Nat) (a1 : Int) (a2 : Int) (a3 : Int) (a4 : Int) (a5 : Int) (s : gS), Go X em_227 227 (d + 37 + n) 0 [] [(0, (28, 0, a0)), (1, (0, a1, 0)), (2, (0, a2, 0)), (3, (0, a3, 0)), (4, (0, a4, 0)), (5, (0, a5, 0))] [] s 0 0 (fn_227 n a0 a1 a2 a3 a4 a5 s) some)
  | 0 => ⟨fun _ _ _ _ _ _ => g_none, fun _ _ _ _ _ _ _ => g_none⟩
  | n + 1 => by
    obtain ⟨h226, h227⟩ := tr_226 ok hX d n
    have e1 : d + 37 + (n + 1) = d + n + 1 + 37 := by omega
    have e2 : d + 37 + n = d + n + 1 + 36 := by omega
    rw [e2] at h226 h227
    rw [e1]
    exact ⟨fun b0 b1 b2 b3 b4 b5 => to_226 ok hX (d + n + 1) h227 b0 b1 b2 b3 b4 b5, fun b0 b1 b2 b3 b4 b5 b6 => to_227 ok hX (d + n + 1) h226 b0 b1 b2 b3 b4 b5 b6⟩
theorem t_226 {X : gX} (ok : gOK X) (hX : gHX X) (d : Nat) : ∀ (a0 : Nat) (a1 : Int) (a2 : Int) (a3 : Int) (a4 : Int) (s : gS), Go X em_226 226 (d + 101) 0 [] [(0, (28, 0, a0)), (1, (0, a1, 0)), (2, (0, a2, 0)), (3, (0, a3, 0)), (4, (0, a4, 0))] [] s 0 0 (f_226 a0 a1 a2 a3 a4 s) some := (tr_226 ok hX d 64).1
theorem t_227 {X : gX} (ok : gOK X) (hX : gHX X) (d : Nat) : ∀ (a0 : Nat) (a1 : Int) (a2 : Int) (a3 : Int) (a4 : Int) (a5 : Int) (s : gS), Go X em_227 227 (d + 101) 0 [] [(0, (28, 0, a0)), (1, (0, a1, 0)), (2, (0, a2, 0)), (3, (0, a3, 0)), (4, (0, a4, 0)), (5, (0, a5, 0))] [] s 0 0 (f_227 a0 a1 a2 a3 a4 a5 s) some := (tr_226 ok hX d 64).2
-- X12_longest
theorem ts_229_102 {X : gX} (ok : gOK X) (hX : gHX X) (d : Nat) {k93 : (Nat × Int × Int × Int × Int × Int × gS) ⊕ gO → Option gO} (hl93 : ∀ y : (Nat × Int × Int × Int × Int × Int × gS), Go X em_229 229 (d + 102) 93 [] [(0, (28, 0, y.1)), (1, (0, y.2.1, 0)), (2, (0, y.2.2.1, 0)), (3, (0, y.2.2.2.1, 0)), (4, (0, y.2.2.2.2.1, 0)), (5, (0, y.2.2.2.2.2.1, 0))] [] y.2.2.2.2.2.2 0 0 (some (Sum.inl y)) k93) (hr93 : ∀ q, k93 (Sum.inr q) = some q) {k102 : (Nat × Int × Int × Int × Int × Int × Int × gS) ⊕ ((Nat × Int × Int × Int × Int × Int × gS) ⊕ gO) → Option gO} (hl102 : ∀ y : (Nat × Int × Int × Int × Int × Int × Int × gS), Go X em_229 229 (d + 102) 102 [] [(0, (28, 0, y.1)), (1, (0, y.2.1, 0)), (2, (0, y.2.2.1, 0)), (3, (0, y.2.2.2.1, 0)), (4, (0, y.2.2.2.2.1, 0)), (5, (0, y.2.2.2.2.2.1, 0)), (6, (0, y.2.2.2.2.2.2.1, 0))] [] y.2.2.2.2.2.2.2 0 0 (some (Sum.inl y)) k102) (hr102 : ∀ q, k102 (Sum.inr q) = k93 q) (x0 : Nat) (x1 : Int) (x2 : Int) (x3 : Int) (x4 : Int) (x5 : Int) (x6 : Int) (s : gS) : Go X em_229 229 (d + 102) 102 [] [(0, (28, 0, x0)), (1, (0, x1, 0)), (2, (0, x2, 0)), (3, (0, x3, 0)), (4, (0, x4, 0)), (5, (0, x5, 0)), (6, (0, x6, 0))] [] s 0 0 (sb_229_102 x0 x1 x2 x3 x4 x5 x6 s) k102 := by
  delta sb_229_102
  refine g_rb gs_229 15 (cd' := gb_229_102) rfl rfl ?_
  refine g_aload_n ok rfl rfl ?_
  refine g_iload_n ok rfl ?_
  refine g_iload ok rfl ?_
  refine g_iload_n ok rfl ?_
  refine g_iload ok rfl ?_
  refine g_iload ok rfl ?_
  refine g_cv1 ok (me_227 hX) rfl rfl rfl rfl (t_227 ok hX _ x0 x1 x5 x3 x4 x6 s) (fun v17 s16 => ?_)
  refine g_aload_n ok rfl rfl ?_
  refine g_iload_n ok rfl ?_
  refine g_iload ok rfl ?_
  refine g_iload_n ok rfl ?_
  refine g_iload ok rfl ?_
  refine g_cv1 ok (me_226 hX) rfl rfl rfl rfl (t_226 ok hX _ x0 x1 x5 x3 x4 s16) (fun v19 s18 => ?_)
  refine g_ic_eq ok rfl (fun _ => ?_) (fun _ => ?_)
  · refine g_map hr102 ?_
    refine g_rb gs_229 17 (cd' := gb_229_133) rfl rfl ?_
    refine g_iload ok rfl ?_
    refine g_iload_n ok rfl ?_
    refine g_ic_ne ok rfl (fun _ => ?_) (fun _ => ?_)
    · refine g_map hr93 ?_
      refine g_rb gs_229 18 (cd' := gb_229_139) rfl rfl ?_
      refine g_iload ok rfl ?_
      exact g_ireturn ok rfl rfl (rfl)
    · refine g_rb gs_229 19 (cd' := gb_229_142) rfl rfl ?_
      refine g_aload_n ok rfl rfl ?_
      refine g_iload_n ok rfl ?_
      refine g_iload ok rfl ?_
      refine g_bipush ok (v := 99) rfl ?_
      refine g_iload_n ok rfl ?_
      refine g_aload_n ok rfl rfl ?_
      refine g_getr ok 6036 rfl rfl rfl ?_
      refine g_bipush ok (v := 12) rfl ?_
      refine g_ialoadc ok (n := 740) 12 rfl rfl rfl ?_
      refine g_iload ok rfl ?_
      refine g_imul ok ?_
      refine g_iadd ok ?_
      refine g_cs1 ok (me_151 hX) rfl rfl rfl (t_151 ok hX _ 99 (g32 (x3 + (g32 ((gI s18 (gR s18 x0 1) 12) * x6)))) s18) (fun v21 s20 => ?_)
      refine g_iload ok rfl ?_
      refine g_iload ok rfl ?_
      refine g_isub ok ?_
      refine g_cv1 ok (me_228 hX) rfl rfl rfl rfl (t_228 ok hX _ x0 x1 x5 v21 (g32 (x4 - x6)) s20) (fun v23 s22 => ?_)
      refine g_istore_n ok rfl (L' := [(0, (28, 0, x0)), (1, (0, x1, 0)), (2, (0, x2, 0)), (3, (0, v23, 0)), (4, (0, x4, 0)), (5, (0, x5, 0)), (6, (0, x6, 0))]) rfl ?_
      refine g_iload ok rfl ?_
      refine g_iload ok rfl ?_
      refine g_isub ok ?_
      refine g_istore ok rfl (L' := [(0, (28, 0, x0)), (1, (0, x1, 0)), (2, (0, x2, 0)), (3, (0, v23, 0)), (4, (0, (g32 (x4 - x6)), 0)), (5, (0, x5, 0)), (6, (0, x6, 0))]) rfl ?_
      refine g_iload_n ok rfl ?_
      refine g_aload_n ok rfl rfl ?_
      refine g_getr ok 6036 rfl rfl rfl ?_
      refine g_bipush ok (v := 10) rfl ?_
      refine g_ialoadc ok (n := 740) 10 rfl rfl rfl ?_
      refine g_ic_ge ok rfl (fun _ => ?_) (fun _ => ?_)
      · refine g_map hr93 ?_
        refine g_rb gs_229 20 (cd' := gb_229_190) rfl rfl ?_
        refine g_iconst ok (v := 0) rfl ?_
        exact g_ireturn ok rfl rfl (rfl)
      · refine g_rb gs_229 21 (cd' := gb_229_192) rfl rfl ?_
        refine g_iinc ok rfl rfl (L' := [(0, (28, 0, x0)), (1, (0, x1, 0)), (2, (0, x2, 0)), (3, (0, v23, 0)), (4, (0, (g32 (x4 - x6)), 0)), (5, (0, (g32 (x5 + 1)), 0)), (6, (0, x6, 0))]) rfl ?_
        refine g_goto ok rfl ?_
        exact g_wk ok [(0, (28, 0, x0)), (1, (0, x1, 0)), (2, (0, x2, 0)), (3, (0, v23, 0)), (4, (0, (g32 (x4 - x6)), 0)), (5, (0, (g32 (x5 + 1)), 0))] ⟨rfl, rfl, rfl, rfl, rfl, rfl, trivial⟩ (hl93 (x0, x1, x2, v23, (g32 (x4 - x6)), (g32 (x5 + 1)), s22))
  · refine g_rb gs_229 16 (cd' := gb_229_127) rfl rfl ?_
    refine g_iinc ok rfl rfl (L' := [(0, (28, 0, x0)), (1, (0, x1, 0)), (2, (0, x2, 0)), (3, (0, x3, 0)), (4, (0, x4, 0)), (5, (0, x5, 0)), (6, (0, (g32 (x6 + 1)), 0))]) rfl ?_
    refine g_goto ok rfl ?_
    exact g_wk ok [(0, (28, 0, x0)), (1, (0, x1, 0)), (2, (0, x2, 0)), (3, (0, x3, 0)), (4, (0, x4, 0)), (5, (0, x5, 0)), (6, (0, (g32 (x6 + 1)), 0))] ⟨rfl, rfl, rfl, rfl, rfl, rfl, rfl, trivial⟩ (hl102 (x0, x1, x2, x3, x4, x5, (g32 (x6 + 1)), s18))
theorem tl_229_102 {X : gX} (ok : gOK X) (hX : gHX X) (d : Nat) {k93 : (Nat × Int × Int × Int × Int × Int × gS) ⊕ gO → Option gO} (hl93 : ∀ y : (Nat × Int × Int × Int × Int × Int × gS), Go X em_229 229 (d + 102) 93 [] [(0, (28, 0, y.1)), (1, (0, y.2.1, 0)), (2, (0, y.2.2.1, 0)), (3, (0, y.2.2.2.1, 0)), (4, (0, y.2.2.2.2.1, 0)), (5, (0, y.2.2.2.2.2.1, 0))] [] y.2.2.2.2.2.2 0 0 (some (Sum.inl y)) k93) (hr93 : ∀ q, k93 (Sum.inr q) = some q) (y : (Nat × Int × Int × Int × Int × Int × Int × gS)) : Go X em_229 229 (d + 102) 102 [] [(0, (28, 0, y.1)), (1, (0, y.2.1, 0)), (2, (0, y.2.2.1, 0)), (3, (0, y.2.2.2.1, 0)), (4, (0, y.2.2.2.2.1, 0)), (5, (0, y.2.2.2.2.2.1, 0)), (6, (0, y.2.2.2.2.2.2.1, 0))] [] y.2.2.2.2.2.2.2 0 0 (gloop (st_229_102) y) k93 :=
  g_loop (Lh := fun y => [(0, (28, 0, y.1)), (1, (0, y.2.1, 0)), (2, (0, y.2.2.1, 0)), (3, (0, y.2.2.2.1, 0)), (4, (0, y.2.2.2.2.1, 0)), (5, (0, y.2.2.2.2.2.1, 0)), (6, (0, y.2.2.2.2.2.2.1, 0))]) (sh := fun y => y.2.2.2.2.2.2.2) (fun k102 hl102 hr102 y => ts_229_102 ok hX d hl93 hr93 hl102 hr102 y.1 y.2.1 y.2.2.1 y.2.2.2.1 y.2.2.2.2.1 y.2.2.2.2.2.1 y.2.2.2.2.2.2.1 y.2.2.2.2.2.2.2) y
theorem ts_229_93 {X : gX} (ok : gOK X) (hX : gHX X) (d : Nat) {k93 : (Nat × Int × Int × Int × Int × Int × gS) ⊕ gO → Option gO} (hl93 : ∀ y : (Nat × Int × Int × Int × Int × Int × gS), Go X em_229 229 (d + 102) 93 [] [(0, (28, 0, y.1)), (1, (0, y.2.1, 0)), (2, (0, y.2.2.1, 0)), (3, (0, y.2.2.2.1, 0)), (4, (0, y.2.2.2.2.1, 0)), (5, (0, y.2.2.2.2.2.1, 0))] [] y.2.2.2.2.2.2 0 0 (some (Sum.inl y)) k93) (hr93 : ∀ q, k93 (Sum.inr q) = some q) (x0 : Nat) (x1 : Int) (x2 : Int) (x3 : Int) (x4 : Int) (x5 : Int) (s : gS) : Go X em_229 229 (d + 102) 93 [] [(0, (28, 0, x0)), (1, (0, x1, 0)), (2, (0, x2, 0)), (3, (0, x3, 0)), (4, (0, x4, 0)), (5, (0, x5, 0))] [] s 0 0 (sb_229_93 x0 x1 x2 x3 x4 x5 s) k93 := by
  delta sb_229_93
  refine g_rb gs_229 13 (cd' := gb_229_93) rfl rfl ?_
  refine g_iload ok rfl ?_
  refine g_iload_n ok rfl ?_
  refine g_ic_gt ok rfl (fun _ => ?_) (fun _ => ?_)
  · refine g_map hr93 ?_
    refine g_rb gs_229 22 (cd' := gb_229_198) rfl rfl ?_
    refine g_iconst ok (v := 0) rfl ?_
    exact g_ireturn ok rfl rfl (rfl)
  · refine g_rb gs_229 14 (cd' := gb_229_99) rfl rfl ?_
    refine g_iconst ok (v := 0) rfl ?_
    refine g_istore ok rfl (L' := [(0, (28, 0, x0)), (1, (0, x1, 0)), (2, (0, x2, 0)), (3, (0, x3, 0)), (4, (0, x4, 0)), (5, (0, x5, 0)), (6, (0, 0, 0))]) rfl ?_
    exact g_wk ok [(0, (28, 0, x0)), (1, (0, x1, 0)), (2, (0, x2, 0)), (3, (0, x3, 0)), (4, (0, x4, 0)), (5, (0, x5, 0)), (6, (0, 0, 0))] ⟨rfl, rfl, rfl, rfl, rfl, rfl, rfl, trivial⟩ (tl_229_102 ok hX d hl93 hr93 (x0, x1, x2, x3, x4, x5, 0, s))
theorem tl_229_93 {X : gX} (ok : gOK X) (hX : gHX X) (d : Nat)  (y : (Nat × Int × Int × Int × Int × Int × gS)) : Go X em_229 229 (d + 102) 93 [] [(0, (28, 0, y.1)), (1, (0, y.2.1, 0)), (2, (0, y.2.2.1, 0)), (3, (0, y.2.2.2.1, 0)), (4, (0, y.2.2.2.2.1, 0)), (5, (0, y.2.2.2.2.2.1, 0))] [] y.2.2.2.2.2.2 0 0 (gloop (st_229_93) y) some :=
  g_loop (Lh := fun y => [(0, (28, 0, y.1)), (1, (0, y.2.1, 0)), (2, (0, y.2.2.1, 0)), (3, (0, y.2.2.2.1, 0)), (4, (0, y.2.2.2.2.1, 0)), (5, (0, y.2.2.2.2.2.1, 0))]) (sh := fun y => y.2.2.2.2.2.2) (fun k93 hl93 hr93 y => ts_229_93 ok hX d  hl93 hr93 y.1 y.2.1 y.2.2.1 y.2.2.2.1 y.2.2.2.2.1 y.2.2.2.2.2.1 y.2.2.2.2.2.2) y
theorem tb_229_33 {X : gX} (ok : gOK X) (hX : gHX X) (d : Nat)  (x0 : Nat) (x1 : Int) (x2 : Int) (w0 : Int) (w1 : Nat) (s : gS) : Go X em_229 229 (d + 102) 33 [] [(0, (28, 0, x0)), (1, (0, x1, 0)), (2, (0, x2, 0))] [(0, w0, 0), (28, 0, w1)] s 0 0 (fb_229_33 x0 x1 x2 w0 w1 s) some := by
  delta fb_229_33
  refine g_rb gs_229 6 (cd' := gb_229_33) rfl rfl ?_
  refine g_puti ok rfl rfl rfl ?_
  let s4 : gS := gw s w1 0 w0
  refine g_aload_n ok rfl rfl ?_
  refine g_geti ok rfl rfl ?_
  refine g_if_le ok rfl (fun _ => ?_) (fun _ => ?_)
  · refine g_rb gs_229 7 (cd' := gb_229_43) rfl rfl ?_
    refine g_iconst ok (v := 0) rfl ?_
    exact g_ireturn ok rfl rfl (rfl)
  · refine g_rb gs_229 8 (cd' := gb_229_45) rfl rfl ?_
    refine g_aload_n ok rfl rfl ?_
    refine g_iload_n ok rfl ?_
    refine g_cvz ok (me_165 hX) rfl rfl rfl rfl (t_165 ok hX _ x0 x1 s4) (fun v6 s5 hb7 => ?_)
    refine g_if_ne ok rfl (fun _ => ?_) (fun _ => ?_)
    · refine g_rb gs_229 9 (cd' := gb_229_53) rfl rfl ?_
      refine g_iconst ok (v := (-1)) rfl ?_
      exact g_ireturn ok rfl rfl (rfl)
    · refine g_rb gs_229 10 (cd' := gb_229_55) rfl rfl ?_
      refine g_aload_n ok rfl rfl ?_
      refine g_iload_n ok rfl ?_
      refine g_cv0 ok (me_225 hX) rfl rfl rfl (t_225 ok hX _ x0 x1 s5) (fun s8 => ?_)
      refine g_aload_n ok rfl rfl ?_
      refine g_iload_n ok rfl ?_
      refine g_iconst ok (v := 0) rfl ?_
      refine g_cv1 ok (me_156 hX) rfl rfl rfl rfl (t_156 ok hX _ x0 x1 0 s8) (fun v11 s10 => ?_)
      refine g_istore_n ok rfl (L' := [(0, (28, 0, x0)), (1, (0, x1, 0)), (2, (0, x2, 0)), (3, (0, v11, 0))]) rfl ?_
      refine g_aload_n ok rfl rfl ?_
      refine g_iload_n ok rfl ?_
      refine g_iconst ok (v := 1) rfl ?_
      refine g_cv1 ok (me_156 hX) rfl rfl rfl rfl (t_156 ok hX _ x0 x1 1 s10) (fun v13 s12 => ?_)
      refine g_istore ok rfl (L' := [(0, (28, 0, x0)), (1, (0, x1, 0)), (2, (0, x2, 0)), (3, (0, v11, 0)), (4, (0, v13, 0))]) rfl ?_
      refine g_iload_n ok rfl ?_
      refine g_iconst ok (v := (-1)) rfl ?_
      refine g_ic_ne ok rfl (fun _ => ?_) (fun _ => ?_)
      · refine g_rb gs_229 11 (cd' := gb_229_80) rfl rfl ?_
        refine g_aload_n ok rfl rfl ?_
        refine g_iload_n ok rfl ?_
        refine g_iconst ok (v := 0) rfl ?_
        refine g_iload_n ok rfl ?_
        refine g_iload ok rfl ?_
        refine g_cv1 ok (me_226 hX) rfl rfl rfl rfl (t_226 ok hX _ x0 x1 0 v11 v13 s12) (fun v15 s14 => ?_)
        exact g_ireturn ok rfl rfl (rfl)
      · refine g_rb gs_229 12 (cd' := gb_229_90) rfl rfl ?_
        refine g_iconst ok (v := 0) rfl ?_
        refine g_istore ok rfl (L' := [(0, (28, 0, x0)), (1, (0, x1, 0)), (2, (0, x2, 0)), (3, (0, v11, 0)), (4, (0, v13, 0)), (5, (0, 0, 0))]) rfl ?_
        exact g_wk ok [(0, (28, 0, x0)), (1, (0, x1, 0)), (2, (0, x2, 0)), (3, (0, v11, 0)), (4, (0, v13, 0)), (5, (0, 0, 0))] ⟨rfl, rfl, rfl, rfl, rfl, rfl, trivial⟩ (tl_229_93 ok hX d  (x0, x1, x2, v11, v13, 0, s12))
theorem tb_229_32 {X : gX} (ok : gOK X) (hX : gHX X) (d : Nat)  (x0 : Nat) (x1 : Int) (x2 : Int) (w0 : Nat) (s : gS) : Go X em_229 229 (d + 102) 32 [] [(0, (28, 0, x0)), (1, (0, x1, 0)), (2, (0, x2, 0))] [(28, 0, w0)] s 0 0 (fb_229_32 x0 x1 x2 w0 s) some := by
  delta fb_229_32
  refine g_rb gs_229 5 (cd' := gb_229_32) rfl rfl ?_
  refine g_iconst ok (v := 0) rfl ?_
  exact g_wk ok [(0, (28, 0, x0)), (1, (0, x1, 0)), (2, (0, x2, 0))] ⟨rfl, rfl, rfl, trivial⟩ (tb_229_33 ok hX d  x0 x1 x2 0 w0 s)
theorem t_229 {X : gX} (ok : gOK X) (hX : gHX X) (d : Nat) (a0 : Nat) (a1 : Int) (a2 : Int) (s : gS) : Go X em_229 229 (d + 102) 0 [] [(0, (28, 0, a0)), (1, (0, a1, 0)), (2, (0, a2, 0))] [] s 0 0 (f_229 a0 a1 a2 s) some := by
  delta f_229
  refine g_rb gs_229 0 (cd' := gb_229_0) rfl rfl ?_
  refine g_aload_n ok rfl rfl ?_
  refine g_aload_n ok rfl rfl ?_
  refine g_iload_n ok rfl ?_
  refine g_cvz ok (me_162 hX) rfl rfl rfl rfl (t_162 ok hX _ a0 a1 s) (fun v2 s1 hb3 => ?_)
  refine g_if_ne ok rfl (fun _ => ?_) (fun _ => ?_)
  · refine g_rb gs_229 1 (cd' := gb_229_9) rfl rfl ?_
    refine g_iconst ok (v := 1) rfl ?_
    refine g_goto ok rfl ?_
    exact g_wk ok [(0, (28, 0, a0)), (1, (0, a1, 0)), (2, (0, a2, 0))] ⟨rfl, rfl, rfl, trivial⟩ (tb_229_33 ok hX d  a0 a1 a2 1 a0 s1)
  · refine g_rb gs_229 2 (cd' := gb_229_13) rfl rfl ?_
    refine g_iload_n ok rfl ?_
    refine g_iconst ok (v := (-1)) rfl ?_
    refine g_ic_eq ok rfl (fun _ => ?_) (fun _ => ?_)
    · exact g_wk ok [(0, (28, 0, a0)), (1, (0, a1, 0)), (2, (0, a2, 0))] ⟨rfl, rfl, rfl, trivial⟩ (tb_229_32 ok hX d  a0 a1 a2 a0 s1)
    · refine g_rb gs_229 3 (cd' := gb_229_18) rfl rfl ?_
      refine g_iload_n ok rfl ?_
      refine g_iconst ok (v := 0) rfl ?_
      refine g_bipush ok (v := 29) rfl ?_
      refine g_csz ok (me_150 hX) rfl rfl rfl (t_150 ok hX _ a2 0 29 s1) (fun v25 s24 hb26 => ?_)
      refine g_if_ne ok rfl (fun _ => ?_) (fun _ => ?_)
      · refine g_rb gs_229 4 (cd' := gb_229_28) rfl rfl ?_
        refine g_iconst ok (v := 2) rfl ?_
        refine g_goto ok rfl ?_
        exact g_wk ok [(0, (28, 0, a0)), (1, (0, a1, 0)), (2, (0, a2, 0))] ⟨rfl, rfl, rfl, trivial⟩ (tb_229_33 ok hX d  a0 a1 a2 2 a0 s24)
      · exact g_wk ok [(0, (28, 0, a0)), (1, (0, a1, 0)), (2, (0, a2, 0))] ⟨rfl, rfl, rfl, trivial⟩ (tb_229_32 ok hX d  a0 a1 a2 a0 s24)
-- X12_needs
theorem ts_230_57 {X : gX} (ok : gOK X) (hX : gHX X) (d : Nat) {k57 : (Nat × Int × Int × Int × gS) ⊕ gO → Option gO} (hl57 : ∀ y : (Nat × Int × Int × Int × gS), Go X em_230 230 (d + 102) 57 [] [(0, (28, 0, y.1)), (1, (0, y.2.1, 0)), (2, (0, y.2.2.1, 0)), (3, (0, y.2.2.2.1, 0))] [] y.2.2.2.2 0 0 (some (Sum.inl y)) k57) (hr57 : ∀ q, k57 (Sum.inr q) = some q) (x0 : Nat) (x1 : Int) (x2 : Int) (x3 : Int) (s : gS) : Go X em_230 230 (d + 102) 57 [] [(0, (28, 0, x0)), (1, (0, x1, 0)), (2, (0, x2, 0)), (3, (0, x3, 0))] [] s 0 0 (sb_230_57 x0 x1 x2 x3 s) k57 := by
  delta sb_230_57
  refine g_rb gs_230 10 (cd' := gb_230_57) rfl rfl ?_
  refine g_iload_n ok rfl ?_
  refine g_bipush ok (v := 9) rfl ?_
  refine g_ic_gt ok rfl (fun _ => ?_) (fun _ => ?_)
  · refine g_map hr57 ?_
    refine g_rb gs_230 14 (cd' := gb_230_88) rfl rfl ?_
    refine g_iconst ok (v := (-1)) rfl ?_
    exact g_ireturn ok rfl rfl (rfl)
  · refine g_rb gs_230 11 (cd' := gb_230_63) rfl rfl ?_
    refine g_aload_n ok rfl rfl ?_
    refine g_iload_n ok rfl ?_
    refine g_iconst ok (v := 0) rfl ?_
    refine g_aload_n ok rfl rfl ?_
    refine g_iload_n ok rfl ?_
    refine g_iconst ok (v := 0) rfl ?_
    refine g_cv1 ok (me_156 hX) rfl rfl rfl rfl (t_156 ok hX _ x0 x1 0 s) (fun v11 s10 => ?_)
    refine g_iload_n ok rfl ?_
    refine g_cv1 ok (me_226 hX) rfl rfl rfl rfl (t_226 ok hX _ x0 x1 0 v11 x3 s10) (fun v13 s12 => ?_)
    refine g_iload_n ok rfl ?_
    refine g_ic_lt ok rfl (fun _ => ?_) (fun _ => ?_)
    · refine g_rb gs_230 13 (cd' := gb_230_82) rfl rfl ?_
      refine g_iinc ok rfl rfl (L' := [(0, (28, 0, x0)), (1, (0, x1, 0)), (2, (0, x2, 0)), (3, (0, (g32 (x3 + 1)), 0))]) rfl ?_
      refine g_goto ok rfl ?_
      exact g_wk ok [(0, (28, 0, x0)), (1, (0, x1, 0)), (2, (0, x2, 0)), (3, (0, (g32 (x3 + 1)), 0))] ⟨rfl, rfl, rfl, rfl, trivial⟩ (hl57 (x0, x1, x2, (g32 (x3 + 1)), s12))
    · refine g_map hr57 ?_
      refine g_rb gs_230 12 (cd' := gb_230_80) rfl rfl ?_
      refine g_iload_n ok rfl ?_
      exact g_ireturn ok rfl rfl (rfl)
theorem tl_230_57 {X : gX} (ok : gOK X) (hX : gHX X) (d : Nat)  (y : (Nat × Int × Int × Int × gS)) : Go X em_230 230 (d + 102) 57 [] [(0, (28, 0, y.1)), (1, (0, y.2.1, 0)), (2, (0, y.2.2.1, 0)), (3, (0, y.2.2.2.1, 0))] [] y.2.2.2.2 0 0 (gloop (st_230_57) y) some :=
  g_loop (Lh := fun y => [(0, (28, 0, y.1)), (1, (0, y.2.1, 0)), (2, (0, y.2.2.1, 0)), (3, (0, y.2.2.2.1, 0))]) (sh := fun y => y.2.2.2.2) (fun k57 hl57 hr57 y => ts_230_57 ok hX d  hl57 hr57 y.1 y.2.1 y.2.2.1 y.2.2.2.1 y.2.2.2.2) y
theorem tb_230_28 {X : gX} (ok : gOK X) (hX : gHX X) (d : Nat)  (x0 : Nat) (x1 : Int) (x2 : Int) (w0 : Int) (w1 : Nat) (s : gS) : Go X em_230 230 (d + 102) 28 [] [(0, (28, 0, x0)), (1, (0, x1, 0)), (2, (0, x2, 0))] [(0, w0, 0), (28, 0, w1)] s 0 0 (fb_230_28 x0 x1 x2 w0 w1 s) some := by
  delta fb_230_28
  refine g_rb gs_230 5 (cd' := gb_230_28) rfl rfl ?_
  refine g_puti ok rfl rfl rfl ?_
  let s4 : gS := gw s w1 0 w0
  refine g_aload_n ok rfl rfl ?_
  refine g_geti ok rfl rfl ?_
  refine g_if_le ok rfl (fun _ => ?_) (fun _ => ?_)
  · refine g_rb gs_230 6 (cd' := gb_230_38) rfl rfl ?_
    refine g_iconst ok (v := 0) rfl ?_
    exact g_ireturn ok rfl rfl (rfl)
  · refine g_rb gs_230 7 (cd' := gb_230_40) rfl rfl ?_
    refine g_aload_n ok rfl rfl ?_
    refine g_iload_n ok rfl ?_
    refine g_cvz ok (me_165 hX) rfl rfl rfl rfl (t_165 ok hX _ x0 x1 s4) (fun v6 s5 hb7 => ?_)
    refine g_if_ne ok rfl (fun _ => ?_) (fun _ => ?_)
    · refine g_rb gs_230 8 (cd' := gb_230_48) rfl rfl ?_
      refine g_iconst ok (v := (-1)) rfl ?_
      exact g_ireturn ok rfl rfl (rfl)
    · refine g_rb gs_230 9 (cd' := gb_230_50) rfl rfl ?_
      refine g_aload_n ok rfl rfl ?_
      refine g_iload_n ok rfl ?_
      refine g_cv0 ok (me_225 hX) rfl rfl rfl (t_225 ok hX _ x0 x1 s5) (fun s8 => ?_)
      refine g_iconst ok (v := 0) rfl ?_
      refine g_istore_n ok rfl (L' := [(0, (28, 0, x0)), (1, (0, x1, 0)), (2, (0, x2, 0)), (3, (0, 0, 0))]) rfl ?_
      exact g_wk ok [(0, (28, 0, x0)), (1, (0, x1, 0)), (2, (0, x2, 0)), (3, (0, 0, 0))] ⟨rfl, rfl, rfl, rfl, trivial⟩ (tl_230_57 ok hX d  (x0, x1, x2, 0, s8))
theorem t_230 {X : gX} (ok : gOK X) (hX : gHX X) (d : Nat) (a0 : Nat) (a1 : Int) (a2 : Int) (s : gS) : Go X em_230 230 (d + 102) 0 [] [(0, (28, 0, a0)), (1, (0, a1, 0)), (2, (0, a2, 0))] [] s 0 0 (f_230 a0 a1 a2 s) some := by
  delta f_230
  refine g_rb gs_230 0 (cd' := gb_230_0) rfl rfl ?_
  refine g_aload_n ok rfl rfl ?_
  refine g_aload_n ok rfl rfl ?_
  refine g_iload_n ok rfl ?_
  refine g_cvz ok (me_162 hX) rfl rfl rfl rfl (t_162 ok hX _ a0 a1 s) (fun v2 s1 hb3 => ?_)
  refine g_if_ne ok rfl (fun _ => ?_) (fun _ => ?_)
  · refine g_rb gs_230 1 (cd' := gb_230_9) rfl rfl ?_
    refine g_iconst ok (v := 1) rfl ?_
    refine g_goto ok rfl ?_
    exact g_wk ok [(0, (28, 0, a0)), (1, (0, a1, 0)), (2, (0, a2, 0))] ⟨rfl, rfl, rfl, trivial⟩ (tb_230_28 ok hX d  a0 a1 a2 1 a0 s1)
  · refine g_rb gs_230 2 (cd' := gb_230_13) rfl rfl ?_
    refine g_iload_n ok rfl ?_
    refine g_iconst ok (v := 1) rfl ?_
    refine g_bipush ok (v := 30) rfl ?_
    refine g_csz ok (me_150 hX) rfl rfl rfl (t_150 ok hX _ a2 1 30 s1) (fun v15 s14 hb16 => ?_)
    refine g_if_ne ok rfl (fun _ => ?_) (fun _ => ?_)
    · refine g_rb gs_230 3 (cd' := gb_230_23) rfl rfl ?_
      refine g_iconst ok (v := 2) rfl ?_
      refine g_goto ok rfl ?_
      exact g_wk ok [(0, (28, 0, a0)), (1, (0, a1, 0)), (2, (0, a2, 0))] ⟨rfl, rfl, rfl, trivial⟩ (tb_230_28 ok hX d  a0 a1 a2 2 a0 s14)
    · refine g_rb gs_230 4 (cd' := gb_230_27) rfl rfl ?_
      refine g_iconst ok (v := 0) rfl ?_
      exact g_wk ok [(0, (28, 0, a0)), (1, (0, a1, 0)), (2, (0, a2, 0))] ⟨rfl, rfl, rfl, trivial⟩ (tb_230_28 ok hX d  a0 a1 a2 0 a0 s14)
-- X12_stopped
theorem ts_231_4 {X : gX} (ok : gOK X) (hX : gHX X) (d : Nat) {k4 : (Nat × Int × Int × Int × gS) ⊕ gO → Option gO} (hl4 : ∀ y : (Nat × Int × Int × Int × gS), Go X em_231 231 (d + 1) 4 [] [(0, (28, 0, y.1)), (1, (0, y.2.1, 0)), (2, (0, y.2.2.1, 0)), (3, (0, y.2.2.2.1, 0))] [] y.2.2.2.2 0 0 (some (Sum.inl y)) k4) (hr4 : ∀ q, k4 (Sum.inr q) = some q) (x0 : Nat) (x1 : Int) (x2 : Int) (x3 : Int) (s : gS) : Go X em_231 231 (d + 1) 4 [] [(0, (28, 0, x0)), (1, (0, x1, 0)), (2, (0, x2, 0)), (3, (0, x3, 0))] [] s 0 0 (sb_231_4 x0 x1 x2 x3 s) k4 := by
  delta sb_231_4
  refine g_rb gs_231 1 (cd' := gb_231_4) rfl rfl ?_
  refine g_iload_n ok rfl ?_
  refine g_aload_n ok rfl rfl ?_
  refine g_getr ok 6036 rfl rfl rfl ?_
  refine g_iconst ok (v := 5) rfl ?_
  refine g_ialoadc ok (n := 740) 5 rfl rfl rfl ?_
  refine g_ic_ge ok rfl (fun _ => ?_) (fun _ => ?_)
  · refine g_rb gs_231 2 (cd' := gb_231_14) rfl rfl ?_
    refine g_iload_n ok rfl ?_
    refine g_iload_n ok rfl ?_
    refine g_iload_n ok rfl ?_
    refine g_csz ok (me_153 hX) rfl rfl rfl (t_153 ok hX _ x1 x3 s) (fun v2 s1 hb3 => ?_)
    refine g_if_eq ok rfl (fun _ => ?_) (fun _ => ?_)
    · refine g_rb gs_231 4 (cd' := gb_231_31) rfl rfl ?_
      refine g_iconst ok (v := 0) rfl ?_
      refine g_rb gs_231 5 (cd' := gb_231_32) rfl rfl ?_
      refine g_ior ok ?_
      refine g_istore_n ok rfl (L' := [(0, (28, 0, x0)), (1, (0, x1, 0)), (2, (0, (gor x2 0), 0)), (3, (0, x3, 0))]) rfl ?_
      refine g_iinc ok rfl rfl (L' := [(0, (28, 0, x0)), (1, (0, x1, 0)), (2, (0, (gor x2 0), 0)), (3, (0, (g32 (x3 + 1)), 0))]) rfl ?_
      refine g_goto ok rfl ?_
      exact g_wk ok [(0, (28, 0, x0)), (1, (0, x1, 0)), (2, (0, (gor x2 0), 0)), (3, (0, (g32 (x3 + 1)), 0))] ⟨rfl, rfl, rfl, rfl, trivial⟩ (hl4 (x0, x1, (gor x2 0), (g32 (x3 + 1)), s1))
    · refine g_rb gs_231 3 (cd' := gb_231_23) rfl rfl ?_
      refine g_aload_n ok rfl rfl ?_
      refine g_iload_n ok rfl ?_
      refine g_cv1 ok (me_159 hX) rfl rfl rfl rfl (t_159 ok hX _ x0 x3 s1) (fun v5 s4 => ?_)
      refine g_goto ok rfl ?_
      refine g_rb gs_231 5 (cd' := gb_231_32) rfl rfl ?_
      refine g_ior ok ?_
      refine g_istore_n ok rfl (L' := [(0, (28, 0, x0)), (1, (0, x1, 0)), (2, (0, (gor x2 v5), 0)), (3, (0, x3, 0))]) rfl ?_
      refine g_iinc ok rfl rfl (L' := [(0, (28, 0, x0)), (1, (0, x1, 0)), (2, (0, (gor x2 v5), 0)), (3, (0, (g32 (x3 + 1)), 0))]) rfl ?_
      refine g_goto ok rfl ?_
      exact g_wk ok [(0, (28, 0, x0)), (1, (0, x1, 0)), (2, (0, (gor x2 v5), 0)), (3, (0, (g32 (x3 + 1)), 0))] ⟨rfl, rfl, rfl, rfl, trivial⟩ (hl4 (x0, x1, (gor x2 v5), (g32 (x3 + 1)), s4))
  · refine g_map hr4 ?_
    refine g_rb gs_231 6 (cd' := gb_231_40) rfl rfl ?_
    refine g_iload_n ok rfl ?_
    exact g_ireturn ok rfl rfl (rfl)
theorem tl_231_4 {X : gX} (ok : gOK X) (hX : gHX X) (d : Nat)  (y : (Nat × Int × Int × Int × gS)) : Go X em_231 231 (d + 1) 4 [] [(0, (28, 0, y.1)), (1, (0, y.2.1, 0)), (2, (0, y.2.2.1, 0)), (3, (0, y.2.2.2.1, 0))] [] y.2.2.2.2 0 0 (gloop (st_231_4) y) some :=
  g_loop (Lh := fun y => [(0, (28, 0, y.1)), (1, (0, y.2.1, 0)), (2, (0, y.2.2.1, 0)), (3, (0, y.2.2.2.1, 0))]) (sh := fun y => y.2.2.2.2) (fun k4 hl4 hr4 y => ts_231_4 ok hX d  hl4 hr4 y.1 y.2.1 y.2.2.1 y.2.2.2.1 y.2.2.2.2) y
theorem t_231 {X : gX} (ok : gOK X) (hX : gHX X) (d : Nat) (a0 : Nat) (a1 : Int) (s : gS) : Go X em_231 231 (d + 1) 0 [] [(0, (28, 0, a0)), (1, (0, a1, 0))] [] s 0 0 (f_231 a0 a1 s) some := by
  delta f_231
  refine g_rb gs_231 0 (cd' := gb_231_0) rfl rfl ?_
  refine g_iconst ok (v := 0) rfl ?_
  refine g_istore_n ok rfl (L' := [(0, (28, 0, a0)), (1, (0, a1, 0)), (2, (0, 0, 0))]) rfl ?_
  refine g_iconst ok (v := 0) rfl ?_
  refine g_istore_n ok rfl (L' := [(0, (28, 0, a0)), (1, (0, a1, 0)), (2, (0, 0, 0)), (3, (0, 0, 0))]) rfl ?_
  exact g_wk ok [(0, (28, 0, a0)), (1, (0, a1, 0)), (2, (0, 0, 0)), (3, (0, 0, 0))] ⟨rfl, rfl, rfl, rfl, trivial⟩ (tl_231_4 ok hX d  (a0, a1, 0, 0, s))
-- X12_costs
theorem ts_232_4 {X : gX} (ok : gOK X) (hX : gHX X) (d : Nat) {k4 : (Nat × Int × Int × Int × gS) ⊕ gO → Option gO} (hl4 : ∀ y : (Nat × Int × Int × Int × gS), Go X em_232 232 (d + 1) 4 [] [(0, (28, 0, y.1)), (1, (0, y.2.1, 0)), (2, (0, y.2.2.1, 0)), (3, (0, y.2.2.2.1, 0))] [] y.2.2.2.2 0 0 (some (Sum.inl y)) k4) (hr4 : ∀ q, k4 (Sum.inr q) = some q) (x0 : Nat) (x1 : Int) (x2 : Int) (x3 : Int) (s : gS) : Go X em_232 232 (d + 1) 4 [] [(0, (28, 0, x0)), (1, (0, x1, 0)), (2, (0, x2, 0)), (3, (0, x3, 0))] [] s 0 0 (sb_232_4 x0 x1 x2 x3 s) k4 := by
  delta sb_232_4
  refine g_rb gs_232 1 (cd' := gb_232_4) rfl rfl ?_
  refine g_iload_n ok rfl ?_
  refine g_aload_n ok rfl rfl ?_
  refine g_getr ok 6036 rfl rfl rfl ?_
  refine g_iconst ok (v := 5) rfl ?_
  refine g_ialoadc ok (n := 740) 5 rfl rfl rfl ?_
  refine g_ic_ge ok rfl (fun _ => ?_) (fun _ => ?_)
  · refine g_rb gs_232 2 (cd' := gb_232_14) rfl rfl ?_
    refine g_iload_n ok rfl ?_
    refine g_iload_n ok rfl ?_
    refine g_iload_n ok rfl ?_
    refine g_csz ok (me_153 hX) rfl rfl rfl (t_153 ok hX _ x1 x3 s) (fun v2 s1 hb3 => ?_)
    refine g_if_eq ok rfl (fun _ => ?_) (fun _ => ?_)
    · refine g_rb gs_232 4 (cd' := gb_232_31) rfl rfl ?_
      refine g_iconst ok (v := 0) rfl ?_
      refine g_rb gs_232 5 (cd' := gb_232_32) rfl rfl ?_
      refine g_iadd ok ?_
      refine g_istore_n ok rfl (L' := [(0, (28, 0, x0)), (1, (0, x1, 0)), (2, (0, (g32 (x2 + 0)), 0)), (3, (0, x3, 0))]) rfl ?_
      refine g_iinc ok rfl rfl (L' := [(0, (28, 0, x0)), (1, (0, x1, 0)), (2, (0, (g32 (x2 + 0)), 0)), (3, (0, (g32 (x3 + 1)), 0))]) rfl ?_
      refine g_goto ok rfl ?_
      exact g_wk ok [(0, (28, 0, x0)), (1, (0, x1, 0)), (2, (0, (g32 (x2 + 0)), 0)), (3, (0, (g32 (x3 + 1)), 0))] ⟨rfl, rfl, rfl, rfl, trivial⟩ (hl4 (x0, x1, (g32 (x2 + 0)), (g32 (x3 + 1)), s1))
    · refine g_rb gs_232 3 (cd' := gb_232_23) rfl rfl ?_
      refine g_aload_n ok rfl rfl ?_
      refine g_iload_n ok rfl ?_
      refine g_cv1 ok (me_158 hX) rfl rfl rfl rfl (t_158 ok hX _ x0 x3 s1) (fun v5 s4 => ?_)
      refine g_goto ok rfl ?_
      refine g_rb gs_232 5 (cd' := gb_232_32) rfl rfl ?_
      refine g_iadd ok ?_
      refine g_istore_n ok rfl (L' := [(0, (28, 0, x0)), (1, (0, x1, 0)), (2, (0, (g32 (x2 + v5)), 0)), (3, (0, x3, 0))]) rfl ?_
      refine g_iinc ok rfl rfl (L' := [(0, (28, 0, x0)), (1, (0, x1, 0)), (2, (0, (g32 (x2 + v5)), 0)), (3, (0, (g32 (x3 + 1)), 0))]) rfl ?_
      refine g_goto ok rfl ?_
      exact g_wk ok [(0, (28, 0, x0)), (1, (0, x1, 0)), (2, (0, (g32 (x2 + v5)), 0)), (3, (0, (g32 (x3 + 1)), 0))] ⟨rfl, rfl, rfl, rfl, trivial⟩ (hl4 (x0, x1, (g32 (x2 + v5)), (g32 (x3 + 1)), s4))
  · refine g_map hr4 ?_
    refine g_rb gs_232 6 (cd' := gb_232_40) rfl rfl ?_
    refine g_iload_n ok rfl ?_
    exact g_ireturn ok rfl rfl (rfl)
theorem tl_232_4 {X : gX} (ok : gOK X) (hX : gHX X) (d : Nat)  (y : (Nat × Int × Int × Int × gS)) : Go X em_232 232 (d + 1) 4 [] [(0, (28, 0, y.1)), (1, (0, y.2.1, 0)), (2, (0, y.2.2.1, 0)), (3, (0, y.2.2.2.1, 0))] [] y.2.2.2.2 0 0 (gloop (st_232_4) y) some :=
  g_loop (Lh := fun y => [(0, (28, 0, y.1)), (1, (0, y.2.1, 0)), (2, (0, y.2.2.1, 0)), (3, (0, y.2.2.2.1, 0))]) (sh := fun y => y.2.2.2.2) (fun k4 hl4 hr4 y => ts_232_4 ok hX d  hl4 hr4 y.1 y.2.1 y.2.2.1 y.2.2.2.1 y.2.2.2.2) y
theorem t_232 {X : gX} (ok : gOK X) (hX : gHX X) (d : Nat) (a0 : Nat) (a1 : Int) (s : gS) : Go X em_232 232 (d + 1) 0 [] [(0, (28, 0, a0)), (1, (0, a1, 0))] [] s 0 0 (f_232 a0 a1 s) some := by
  delta f_232
  refine g_rb gs_232 0 (cd' := gb_232_0) rfl rfl ?_
  refine g_iconst ok (v := 0) rfl ?_
  refine g_istore_n ok rfl (L' := [(0, (28, 0, a0)), (1, (0, a1, 0)), (2, (0, 0, 0))]) rfl ?_
  refine g_iconst ok (v := 0) rfl ?_
  refine g_istore_n ok rfl (L' := [(0, (28, 0, a0)), (1, (0, a1, 0)), (2, (0, 0, 0)), (3, (0, 0, 0))]) rfl ?_
  exact g_wk ok [(0, (28, 0, a0)), (1, (0, a1, 0)), (2, (0, 0, 0)), (3, (0, 0, 0))] ⟨rfl, rfl, rfl, rfl, trivial⟩ (tl_232_4 ok hX d  (a0, a1, 0, 0, s))
-- X12_stopped_
theorem tb_233_45 {X : gX} (ok : gOK X) (hX : gHX X) (d : Nat)   (s : gS) : Go X em_233 233 (d + 2) 45 [] [] [] s 0 0 (fb_233_45  s) some := by
  delta fb_233_45
  refine g_rb gs_233 6 (cd' := gb_233_45) rfl rfl ?_
  refine g_iconst ok (v := 0) rfl ?_
  refine g_rb gs_233 7 (cd' := gb_233_46) rfl rfl ?_
  exact g_zreturn ok rfl (Or.inl rfl) rfl (rfl)
theorem tb_233_14 {X : gX} (ok : gOK X) (hX : gHX X) (d : Nat)  (x0 : Nat) (x1 : Int) (x2 : Int) (w0 : Int) (w1 : Nat) (s : gS) : Go X em_233 233 (d + 2) 14 [] [(0, (28, 0, x0)), (1, (0, x1, 0)), (2, (0, x2, 0))] [(0, w0, 0), (28, 0, w1)] s 0 0 (fb_233_14 x0 x1 x2 w0 w1 s) some := by
  delta fb_233_14
  refine g_rb gs_233 3 (cd' := gb_233_14) rfl rfl ?_
  refine g_puti ok rfl rfl rfl ?_
  let s4 : gS := gw s w1 0 w0
  refine g_aload_n ok rfl rfl ?_
  refine g_geti ok rfl rfl ?_
  refine g_if_ne ok rfl (fun _ => ?_) (fun _ => ?_)
  · refine g_rb gs_233 4 (cd' := gb_233_24) rfl rfl ?_
    refine g_aload_n ok rfl rfl ?_
    refine g_iload_n ok rfl ?_
    refine g_iconst ok (v := 2) rfl ?_
    refine g_cv1 ok (me_156 hX) rfl rfl rfl rfl (t_156 ok hX _ x0 x1 2 s4) (fun v6 s5 => ?_)
    refine g_aload_n ok rfl rfl ?_
    refine g_iload_n ok rfl ?_
    refine g_cv1 ok (me_231 hX) rfl rfl rfl rfl (t_231 ok hX _ x0 x2 s5) (fun v8 s7 => ?_)
    refine g_iconst ok (v := (-1)) rfl ?_
    refine g_ixor ok ?_
    refine g_iand ok ?_
    refine g_if_ne ok rfl (fun _ => ?_) (fun _ => ?_)
    · refine g_rb gs_233 5 (cd' := gb_233_41) rfl rfl ?_
      refine g_iconst ok (v := 1) rfl ?_
      refine g_goto ok rfl ?_
      refine g_rb gs_233 7 (cd' := gb_233_46) rfl rfl ?_
      exact g_zreturn ok rfl (Or.inr rfl) rfl (rfl)
    · exact g_wk ok [] trivial (tb_233_45 ok hX d   s7)
  · exact g_wk ok [] trivial (tb_233_45 ok hX d   s4)
theorem t_233 {X : gX} (ok : gOK X) (hX : gHX X) (d : Nat) (a0 : Nat) (a1 : Int) (a2 : Int) (s : gS) : Go X em_233 233 (d + 2) 0 [] [(0, (28, 0, a0)), (1, (0, a1, 0)), (2, (0, a2, 0))] [] s 0 0 (f_233 a0 a1 a2 s) some := by
  delta f_233
  refine g_rb gs_233 0 (cd' := gb_233_0) rfl rfl ?_
  refine g_aload_n ok rfl rfl ?_
  refine g_aload_n ok rfl rfl ?_
  refine g_iload_n ok rfl ?_
  refine g_cvz ok (me_162 hX) rfl rfl rfl rfl (t_162 ok hX _ a0 a1 s) (fun v2 s1 hb3 => ?_)
  refine g_if_ne ok rfl (fun _ => ?_) (fun _ => ?_)
  · refine g_rb gs_233 1 (cd' := gb_233_9) rfl rfl ?_
    refine g_iconst ok (v := 1) rfl ?_
    refine g_goto ok rfl ?_
    exact g_wk ok [(0, (28, 0, a0)), (1, (0, a1, 0)), (2, (0, a2, 0))] ⟨rfl, rfl, rfl, trivial⟩ (tb_233_14 ok hX d  a0 a1 a2 1 a0 s1)
  · refine g_rb gs_233 2 (cd' := gb_233_13) rfl rfl ?_
    refine g_iconst ok (v := 0) rfl ?_
    exact g_wk ok [(0, (28, 0, a0)), (1, (0, a1, 0)), (2, (0, a2, 0))] ⟨rfl, rfl, rfl, trivial⟩ (tb_233_14 ok hX d  a0 a1 a2 0 a0 s1)
