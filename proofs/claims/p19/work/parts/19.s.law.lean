-- L_book
theorem t_276 {X : gX} (ok : gOK X) (hX : gHX X) (d : Nat) (a0 : Nat) (a1 : Nat) (s : gS) : Go X em_276 276 (d + 11) 0 [] [(0, (27, 0, a0)), (1, (125, 0, a1))] [] s 0 0 (f_276 a0 a1 s) some := by
  delta f_276
  refine g_rb gs_276 0 (cd' := gb_276_0) rfl rfl ?_
  refine g_aload_n ok rfl rfl ?_
  refine g_iconst ok (v := 0) rfl ?_
  refine g_aload_n ok rfl rfl ?_
  refine g_cvc ok (me_89 hX) rfl rfl rfl (Or.inl rfl) (by decide) (t_89 ok hX _ a0 s) (fun v2 s1 hb => ?_) (fun k s1 r => ?_)
  · refine g_i2l ok ?_
    refine g_lastore ok (n := 1) rfl rfl (fun _ _ => ?_)
    let s3 : gS := gw s1 a1 (0 : Int).toNat v2
    refine g_goto ok rfl ?_
    refine g_rb gs_276 3 (cd' := gb_276_17) rfl rfl ?_
    refine g_iconst ok (v := 0) rfl ?_
    exact g_ireturn ok rfl rfl (rfl)
  · refine g_kxc (c := 0) (h := 11) rfl rfl ?_ (g_kxc (c := 1) (h := 14) rfl rfl ?_ (g_kxn))
    · refine g_rb gs_276 1 (cd' := gb_276_11) rfl rfl ?_
      refine g_astore_n ok rfl rfl (L' := [(0, (27, 0, a0)), (1, (125, 0, a1)), (2, (7, 0, 0))]) rfl ?_
      refine g_iconst ok (v := 1) rfl ?_
      exact g_ireturn ok rfl rfl (rfl)
    · refine g_rb gs_276 2 (cd' := gb_276_14) rfl rfl ?_
      refine g_astore_n ok rfl rfl (L' := [(0, (27, 0, a0)), (1, (125, 0, a1)), (2, (7, 0, 0))]) rfl ?_
      refine g_iconst ok (v := 2) rfl ?_
      exact g_ireturn ok rfl rfl (rfl)
-- L_law
theorem t_277 {X : gX} (ok : gOK X) (hX : gHX X) (d : Nat) (a0 : Nat) (a1 : Nat) (s : gS) : Go X em_277 277 (d + 36) 0 [] [(0, (27, 0, a0)), (1, (125, 0, a1))] [] s 0 0 (f_277 a0 a1 s) some := by
  delta f_277
  refine g_rb gs_277 0 (cd' := gb_277_0) rfl rfl ?_
  refine g_aload_n ok rfl rfl ?_
  refine g_iconst ok (v := 0) rfl ?_
  refine g_aload_n ok rfl rfl ?_
  refine g_cvc ok (me_90 hX) rfl rfl rfl (Or.inl rfl) (by decide) (t_90 ok hX _ a0 s) (fun v2 s1 hb => ?_) (fun k s1 r => ?_)
  · refine g_i2l ok ?_
    refine g_lastore ok (n := 1) rfl rfl (fun _ _ => ?_)
    let s3 : gS := gw s1 a1 (0 : Int).toNat v2
    refine g_goto ok rfl ?_
    refine g_rb gs_277 2 (cd' := gb_277_14) rfl rfl ?_
    refine g_iconst ok (v := 0) rfl ?_
    exact g_ireturn ok rfl rfl (rfl)
  · refine g_kxc (c := 0) (h := 11) rfl rfl ?_ (g_kxn)
    · refine g_rb gs_277 1 (cd' := gb_277_11) rfl rfl ?_
      refine g_astore_n ok rfl rfl (L' := [(0, (27, 0, a0)), (1, (125, 0, a1)), (2, (7, 0, 0))]) rfl ?_
      refine g_iconst ok (v := 1) rfl ?_
      exact g_ireturn ok rfl rfl (rfl)
-- L_step
theorem t_278 {X : gX} (ok : gOK X) (hX : gHX X) (d : Nat) (a0 : Nat) (a1 : Int) (a2 : Int) (a3 : Nat) (s : gS) : Go X em_278 278 (d + 2) 0 [] [(0, (27, 0, a0)), (1, (0, a1, 0)), (2, (0, a2, 0)), (3, (125, 0, a3))] [] s 0 0 (f_278 a0 a1 a2 a3 s) some := by
  delta f_278
  refine g_rb gs_278 0 (cd' := gb_278_0) rfl rfl ?_
  refine g_aload_n ok rfl rfl ?_
  refine g_iconst ok (v := 0) rfl ?_
  refine g_aload_n ok rfl rfl ?_
  refine g_iload_n ok rfl ?_
  refine g_iload_n ok rfl ?_
  refine g_cvc ok (me_92 hX) rfl rfl rfl (Or.inl rfl) (by decide) (t_92 ok hX _ a0 a1 a2 s) (fun v2 s1 hb => ?_) (fun k s1 r => ?_)
  · refine g_i2l ok ?_
    refine g_lastore ok (n := 1) rfl rfl (fun _ _ => ?_)
    let s3 : gS := gw s1 a3 (0 : Int).toNat v2
    refine g_goto ok rfl ?_
    refine g_rb gs_278 3 (cd' := gb_278_21) rfl rfl ?_
    refine g_iconst ok (v := 0) rfl ?_
    exact g_ireturn ok rfl rfl (rfl)
  · refine g_kxc (c := 3) (h := 13) rfl rfl ?_ (g_kxc (c := 2) (h := 17) rfl rfl ?_ (g_kxn))
    · refine g_rb gs_278 1 (cd' := gb_278_13) rfl rfl ?_
      refine g_astore ok rfl rfl (L' := [(0, (27, 0, a0)), (1, (0, a1, 0)), (2, (0, a2, 0)), (3, (125, 0, a3)), (4, (7, 0, 0))]) rfl ?_
      refine g_iconst ok (v := 1) rfl ?_
      exact g_ireturn ok rfl rfl (rfl)
    · refine g_rb gs_278 2 (cd' := gb_278_17) rfl rfl ?_
      refine g_astore ok rfl rfl (L' := [(0, (27, 0, a0)), (1, (0, a1, 0)), (2, (0, a2, 0)), (3, (125, 0, a3)), (4, (7, 0, 0))]) rfl ?_
      refine g_iconst ok (v := 2) rfl ?_
      exact g_ireturn ok rfl rfl (rfl)
-- L_man
theorem t_279 {X : gX} (ok : gOK X) (hX : gHX X) (d : Nat) (a0 : Nat) (a1 : Int) (a2 : Int) (a3 : Nat) (s : gS) : Go X em_279 279 (d + 5) 0 [] [(0, (27, 0, a0)), (1, (0, a1, 0)), (2, (0, a2, 0)), (3, (125, 0, a3))] [] s 0 0 (f_279 a0 a1 a2 a3 s) some := by
  delta f_279
  refine g_rb gs_279 0 (cd' := gb_279_0) rfl rfl ?_
  refine g_aload_n ok rfl rfl ?_
  refine g_iconst ok (v := 0) rfl ?_
  refine g_aload_n ok rfl rfl ?_
  refine g_iload_n ok rfl ?_
  refine g_iload_n ok rfl ?_
  refine g_cvc ok (me_93 hX) rfl rfl rfl (Or.inl rfl) (by decide) (t_93 ok hX _ a0 a1 a2 s) (fun v2 s1 hb => ?_) (fun k s1 r => ?_)
  · refine g_i2l ok ?_
    refine g_lastore ok (n := 1) rfl rfl (fun _ _ => ?_)
    let s3 : gS := gw s1 a3 (0 : Int).toNat v2
    refine g_goto ok rfl ?_
    refine g_rb gs_279 3 (cd' := gb_279_21) rfl rfl ?_
    refine g_iconst ok (v := 0) rfl ?_
    exact g_ireturn ok rfl rfl (rfl)
  · refine g_kxc (c := 3) (h := 13) rfl rfl ?_ (g_kxc (c := 2) (h := 17) rfl rfl ?_ (g_kxn))
    · refine g_rb gs_279 1 (cd' := gb_279_13) rfl rfl ?_
      refine g_astore ok rfl rfl (L' := [(0, (27, 0, a0)), (1, (0, a1, 0)), (2, (0, a2, 0)), (3, (125, 0, a3)), (4, (7, 0, 0))]) rfl ?_
      refine g_iconst ok (v := 1) rfl ?_
      exact g_ireturn ok rfl rfl (rfl)
    · refine g_rb gs_279 2 (cd' := gb_279_17) rfl rfl ?_
      refine g_astore ok rfl rfl (L' := [(0, (27, 0, a0)), (1, (0, a1, 0)), (2, (0, a2, 0)), (3, (125, 0, a3)), (4, (7, 0, 0))]) rfl ?_
      refine g_iconst ok (v := 2) rfl ?_
      exact g_ireturn ok rfl rfl (rfl)
-- L_test
theorem t_280 {X : gX} (ok : gOK X) (hX : gHX X) (d : Nat) (a0 : Nat) (a1 : Int) (a2 : Int) (a3 : Nat) (s : gS) : Go X em_280 280 (d + 2) 0 [] [(0, (27, 0, a0)), (1, (0, a1, 0)), (2, (0, a2, 0)), (3, (125, 0, a3))] [] s 0 0 (f_280 a0 a1 a2 a3 s) some := by
  delta f_280
  refine g_rb gs_280 0 (cd' := gb_280_0) rfl rfl ?_
  refine g_aload_n ok rfl rfl ?_
  refine g_iconst ok (v := 0) rfl ?_
  refine g_aload_n ok rfl rfl ?_
  refine g_iload_n ok rfl ?_
  refine g_iload_n ok rfl ?_
  refine g_cvc ok (me_94 hX) rfl rfl rfl (Or.inl rfl) (by decide) (t_94 ok hX _ a0 a1 a2 s) (fun v2 s1 hb => ?_) (fun k s1 r => ?_)
  · refine g_i2l ok ?_
    refine g_lastore ok (n := 1) rfl rfl (fun _ _ => ?_)
    let s3 : gS := gw s1 a3 (0 : Int).toNat v2
    refine g_goto ok rfl ?_
    refine g_rb gs_280 2 (cd' := gb_280_17) rfl rfl ?_
    refine g_iconst ok (v := 0) rfl ?_
    exact g_ireturn ok rfl rfl (rfl)
  · refine g_kxc (c := 3) (h := 13) rfl rfl ?_ (g_kxn)
    · refine g_rb gs_280 1 (cd' := gb_280_13) rfl rfl ?_
      refine g_astore ok rfl rfl (L' := [(0, (27, 0, a0)), (1, (0, a1, 0)), (2, (0, a2, 0)), (3, (125, 0, a3)), (4, (7, 0, 0))]) rfl ?_
      refine g_iconst ok (v := 1) rfl ?_
      exact g_ireturn ok rfl rfl (rfl)
-- L_rival
theorem t_281 {X : gX} (ok : gOK X) (hX : gHX X) (d : Nat) (a0 : Nat) (a1 : Int) (a2 : Int) (a3 : Nat) (s : gS) : Go X em_281 281 (d + 2) 0 [] [(0, (27, 0, a0)), (1, (0, a1, 0)), (2, (0, a2, 0)), (3, (125, 0, a3))] [] s 0 0 (f_281 a0 a1 a2 a3 s) some := by
  delta f_281
  refine g_rb gs_281 0 (cd' := gb_281_0) rfl rfl ?_
  refine g_aload_n ok rfl rfl ?_
  refine g_iconst ok (v := 0) rfl ?_
  refine g_aload_n ok rfl rfl ?_
  refine g_iload_n ok rfl ?_
  refine g_iload_n ok rfl ?_
  refine g_cvc ok (me_95 hX) rfl rfl rfl (Or.inl rfl) (by decide) (t_95 ok hX _ a0 a1 a2 s) (fun v2 s1 hb => ?_) (fun k s1 r => ?_)
  · refine g_i2l ok ?_
    refine g_lastore ok (n := 1) rfl rfl (fun _ _ => ?_)
    let s3 : gS := gw s1 a3 (0 : Int).toNat v2
    refine g_goto ok rfl ?_
    refine g_rb gs_281 2 (cd' := gb_281_17) rfl rfl ?_
    refine g_iconst ok (v := 0) rfl ?_
    exact g_ireturn ok rfl rfl (rfl)
  · refine g_kxc (c := 3) (h := 13) rfl rfl ?_ (g_kxn)
    · refine g_rb gs_281 1 (cd' := gb_281_13) rfl rfl ?_
      refine g_astore ok rfl rfl (L' := [(0, (27, 0, a0)), (1, (0, a1, 0)), (2, (0, a2, 0)), (3, (125, 0, a3)), (4, (7, 0, 0))]) rfl ?_
      refine g_iconst ok (v := 1) rfl ?_
      exact g_ireturn ok rfl rfl (rfl)
-- L_proof
theorem t_282 {X : gX} (ok : gOK X) (hX : gHX X) (d : Nat) (a0 : Nat) (a1 : Int) (a2 : Nat) (s : gS) : Go X em_282 282 (d + 5) 0 [] [(0, (27, 0, a0)), (1, (0, a1, 0)), (2, (125, 0, a2))] [] s 0 0 (f_282 a0 a1 a2 s) some := by
  delta f_282
  refine g_rb gs_282 0 (cd' := gb_282_0) rfl rfl ?_
  refine g_aload_n ok rfl rfl ?_
  refine g_iconst ok (v := 0) rfl ?_
  refine g_aload_n ok rfl rfl ?_
  refine g_iload_n ok rfl ?_
  refine g_cvc ok (me_96 hX) rfl rfl rfl (Or.inl rfl) (by decide) (t_96 ok hX _ a0 a1 s) (fun v2 s1 hb => ?_) (fun k s1 r => ?_)
  · refine g_i2l ok ?_
    refine g_lastore ok (n := 1) rfl rfl (fun _ _ => ?_)
    let s3 : gS := gw s1 a2 (0 : Int).toNat v2
    refine g_goto ok rfl ?_
    refine g_rb gs_282 3 (cd' := gb_282_18) rfl rfl ?_
    refine g_iconst ok (v := 0) rfl ?_
    exact g_ireturn ok rfl rfl (rfl)
  · refine g_kxc (c := 3) (h := 12) rfl rfl ?_ (g_kxc (c := 4) (h := 15) rfl rfl ?_ (g_kxn))
    · refine g_rb gs_282 1 (cd' := gb_282_12) rfl rfl ?_
      refine g_astore_n ok rfl rfl (L' := [(0, (27, 0, a0)), (1, (0, a1, 0)), (2, (125, 0, a2)), (3, (7, 0, 0))]) rfl ?_
      refine g_iconst ok (v := 1) rfl ?_
      exact g_ireturn ok rfl rfl (rfl)
    · refine g_rb gs_282 2 (cd' := gb_282_15) rfl rfl ?_
      refine g_astore_n ok rfl rfl (L' := [(0, (27, 0, a0)), (1, (0, a1, 0)), (2, (125, 0, a2)), (3, (7, 0, 0))]) rfl ?_
      refine g_iconst ok (v := 2) rfl ?_
      exact g_ireturn ok rfl rfl (rfl)
-- L_tried
theorem t_283 {X : gX} (ok : gOK X) (hX : gHX X) (d : Nat) (a0 : Nat) (a1 : Int) (a2 : Int) (a3 : Nat) (s : gS) : Go X em_283 283 (d + 5) 0 [] [(0, (27, 0, a0)), (1, (0, a1, 0)), (2, (0, a2, 0)), (3, (125, 0, a3))] [] s 0 0 (f_283 a0 a1 a2 a3 s) some := by
  delta f_283
  refine g_rb gs_283 0 (cd' := gb_283_0) rfl rfl ?_
  refine g_aload_n ok rfl rfl ?_
  refine g_iconst ok (v := 0) rfl ?_
  refine g_aload_n ok rfl rfl ?_
  refine g_iload_n ok rfl ?_
  refine g_iload_n ok rfl ?_
  refine g_cvc ok (me_97 hX) rfl rfl rfl (Or.inr rfl) (by decide) (t_97 ok hX _ a0 a1 a2 s) (fun v2 s1 hb => ?_) (fun k s1 r => ?_)
  · replace hb := hb rfl
    refine g_if_eq ok rfl (fun _ => ?_) (fun _ => ?_)
    · refine g_rb gs_283 2 (cd' := gb_283_15) rfl rfl ?_
      refine g_lconst ok (v := 0) rfl ?_
      refine g_rb gs_283 3 (cd' := gb_283_16) rfl rfl ?_
      refine g_lastore ok (n := 1) rfl rfl (fun _ _ => ?_)
      let s3 : gS := gw s1 a3 (0 : Int).toNat 0
      refine g_goto ok rfl ?_
      refine g_rb gs_283 6 (cd' := gb_283_28) rfl rfl ?_
      refine g_iconst ok (v := 0) rfl ?_
      exact g_ireturn ok rfl rfl (rfl)
    · refine g_rb gs_283 1 (cd' := gb_283_11) rfl rfl ?_
      refine g_lconst ok (v := 1) rfl ?_
      refine g_goto ok rfl ?_
      refine g_rb gs_283 3 (cd' := gb_283_16) rfl rfl ?_
      refine g_lastore ok (n := 1) rfl rfl (fun _ _ => ?_)
      let s4 : gS := gw s1 a3 (0 : Int).toNat 1
      refine g_goto ok rfl ?_
      refine g_rb gs_283 6 (cd' := gb_283_28) rfl rfl ?_
      refine g_iconst ok (v := 0) rfl ?_
      exact g_ireturn ok rfl rfl (rfl)
  · refine g_kxc (c := 3) (h := 20) rfl rfl ?_ (g_kxc (c := 4) (h := 24) rfl rfl ?_ (g_kxn))
    · refine g_rb gs_283 4 (cd' := gb_283_20) rfl rfl ?_
      refine g_astore ok rfl rfl (L' := [(0, (27, 0, a0)), (1, (0, a1, 0)), (2, (0, a2, 0)), (3, (125, 0, a3)), (4, (7, 0, 0))]) rfl ?_
      refine g_iconst ok (v := 1) rfl ?_
      exact g_ireturn ok rfl rfl (rfl)
    · refine g_rb gs_283 5 (cd' := gb_283_24) rfl rfl ?_
      refine g_astore ok rfl rfl (L' := [(0, (27, 0, a0)), (1, (0, a1, 0)), (2, (0, a2, 0)), (3, (125, 0, a3)), (4, (7, 0, 0))]) rfl ?_
      refine g_iconst ok (v := 2) rfl ?_
      exact g_ireturn ok rfl rfl (rfl)
-- L_flee
theorem t_284 {X : gX} (ok : gOK X) (hX : gHX X) (d : Nat) (a0 : Nat) (a1 : Int) (a2 : Nat) (s : gS) : Go X em_284 284 (d + 5) 0 [] [(0, (27, 0, a0)), (1, (0, a1, 0)), (2, (125, 0, a2))] [] s 0 0 (f_284 a0 a1 a2 s) some := by
  delta f_284
  refine g_rb gs_284 0 (cd' := gb_284_0) rfl rfl ?_
  refine g_aload_n ok rfl rfl ?_
  refine g_iconst ok (v := 0) rfl ?_
  refine g_aload_n ok rfl rfl ?_
  refine g_iload_n ok rfl ?_
  refine g_cvc ok (me_98 hX) rfl rfl rfl (Or.inl rfl) (by decide) (t_98 ok hX _ a0 a1 s) (fun v2 s1 hb => ?_) (fun k s1 r => ?_)
  · refine g_i2l ok ?_
    refine g_lastore ok (n := 1) rfl rfl (fun _ _ => ?_)
    let s3 : gS := gw s1 a2 (0 : Int).toNat v2
    refine g_goto ok rfl ?_
    refine g_rb gs_284 3 (cd' := gb_284_18) rfl rfl ?_
    refine g_iconst ok (v := 0) rfl ?_
    exact g_ireturn ok rfl rfl (rfl)
  · refine g_kxc (c := 3) (h := 12) rfl rfl ?_ (g_kxc (c := 4) (h := 15) rfl rfl ?_ (g_kxn))
    · refine g_rb gs_284 1 (cd' := gb_284_12) rfl rfl ?_
      refine g_astore_n ok rfl rfl (L' := [(0, (27, 0, a0)), (1, (0, a1, 0)), (2, (125, 0, a2)), (3, (7, 0, 0))]) rfl ?_
      refine g_iconst ok (v := 1) rfl ?_
      exact g_ireturn ok rfl rfl (rfl)
    · refine g_rb gs_284 2 (cd' := gb_284_15) rfl rfl ?_
      refine g_astore_n ok rfl rfl (L' := [(0, (27, 0, a0)), (1, (0, a1, 0)), (2, (125, 0, a2)), (3, (7, 0, 0))]) rfl ?_
      refine g_iconst ok (v := 2) rfl ?_
      exact g_ireturn ok rfl rfl (rfl)
-- L_sell
theorem t_285 {X : gX} (ok : gOK X) (hX : gHX X) (d : Nat) (a0 : Nat) (a1 : Int) (a2 : Int) (a3 : Int) (a4 : Nat) (s : gS) : Go X em_285 285 (d + 5) 0 [] [(0, (27, 0, a0)), (1, (0, a1, 0)), (2, (0, a2, 0)), (3, (0, a3, 0)), (4, (125, 0, a4))] [] s 0 0 (f_285 a0 a1 a2 a3 a4 s) some := by
  delta f_285
  refine g_rb gs_285 0 (cd' := gb_285_0) rfl rfl ?_
  refine g_aload ok rfl rfl ?_
  refine g_iconst ok (v := 0) rfl ?_
  refine g_aload_n ok rfl rfl ?_
  refine g_iload_n ok rfl ?_
  refine g_iload_n ok rfl ?_
  refine g_iload_n ok rfl ?_
  refine g_cvc ok (me_99 hX) rfl rfl rfl (Or.inl rfl) (by decide) (t_99 ok hX _ a0 a1 a2 a3 s) (fun v2 s1 hb => ?_) (fun k s1 r => ?_)
  · refine g_i2l ok ?_
    refine g_lastore ok (n := 1) rfl rfl (fun _ _ => ?_)
    let s3 : gS := gw s1 a4 (0 : Int).toNat v2
    refine g_goto ok rfl ?_
    refine g_rb gs_285 4 (cd' := gb_285_27) rfl rfl ?_
    refine g_iconst ok (v := 0) rfl ?_
    exact g_ireturn ok rfl rfl (rfl)
  · refine g_kxc (c := 3) (h := 15) rfl rfl ?_ (g_kxc (c := 0) (h := 19) rfl rfl ?_ (g_kxc (c := 4) (h := 23) rfl rfl ?_ (g_kxn)))
    · refine g_rb gs_285 1 (cd' := gb_285_15) rfl rfl ?_
      refine g_astore ok rfl rfl (L' := [(0, (27, 0, a0)), (1, (0, a1, 0)), (2, (0, a2, 0)), (3, (0, a3, 0)), (4, (125, 0, a4)), (5, (7, 0, 0))]) rfl ?_
      refine g_iconst ok (v := 1) rfl ?_
      exact g_ireturn ok rfl rfl (rfl)
    · refine g_rb gs_285 2 (cd' := gb_285_19) rfl rfl ?_
      refine g_astore ok rfl rfl (L' := [(0, (27, 0, a0)), (1, (0, a1, 0)), (2, (0, a2, 0)), (3, (0, a3, 0)), (4, (125, 0, a4)), (5, (7, 0, 0))]) rfl ?_
      refine g_iconst ok (v := 2) rfl ?_
      exact g_ireturn ok rfl rfl (rfl)
    · refine g_rb gs_285 3 (cd' := gb_285_23) rfl rfl ?_
      refine g_astore ok rfl rfl (L' := [(0, (27, 0, a0)), (1, (0, a1, 0)), (2, (0, a2, 0)), (3, (0, a3, 0)), (4, (125, 0, a4)), (5, (7, 0, 0))]) rfl ?_
      refine g_iconst ok (v := 3) rfl ?_
      exact g_ireturn ok rfl rfl (rfl)
-- L_part
theorem t_286 {X : gX} (ok : gOK X) (hX : gHX X) (d : Nat) (a0 : Nat) (a1 : Int) (a2 : Int) (a3 : Nat) (s : gS) : Go X em_286 286 (d + 5) 0 [] [(0, (27, 0, a0)), (1, (0, a1, 0)), (2, (0, a2, 0)), (3, (125, 0, a3))] [] s 0 0 (f_286 a0 a1 a2 a3 s) some := by
  delta f_286
  refine g_rb gs_286 0 (cd' := gb_286_0) rfl rfl ?_
  refine g_aload_n ok rfl rfl ?_
  refine g_iconst ok (v := 0) rfl ?_
  refine g_aload_n ok rfl rfl ?_
  refine g_iload_n ok rfl ?_
  refine g_iload_n ok rfl ?_
  refine g_cvc ok (me_100 hX) rfl rfl rfl (Or.inl rfl) (by decide) (t_100 ok hX _ a0 a1 a2 s) (fun v2 s1 hb => ?_) (fun k s1 r => ?_)
  · refine g_i2l ok ?_
    refine g_lastore ok (n := 1) rfl rfl (fun _ _ => ?_)
    let s3 : gS := gw s1 a3 (0 : Int).toNat v2
    refine g_goto ok rfl ?_
    refine g_rb gs_286 3 (cd' := gb_286_21) rfl rfl ?_
    refine g_iconst ok (v := 0) rfl ?_
    exact g_ireturn ok rfl rfl (rfl)
  · refine g_kxc (c := 3) (h := 13) rfl rfl ?_ (g_kxc (c := 4) (h := 17) rfl rfl ?_ (g_kxn))
    · refine g_rb gs_286 1 (cd' := gb_286_13) rfl rfl ?_
      refine g_astore ok rfl rfl (L' := [(0, (27, 0, a0)), (1, (0, a1, 0)), (2, (0, a2, 0)), (3, (125, 0, a3)), (4, (7, 0, 0))]) rfl ?_
      refine g_iconst ok (v := 1) rfl ?_
      exact g_ireturn ok rfl rfl (rfl)
    · refine g_rb gs_286 2 (cd' := gb_286_17) rfl rfl ?_
      refine g_astore ok rfl rfl (L' := [(0, (27, 0, a0)), (1, (0, a1, 0)), (2, (0, a2, 0)), (3, (125, 0, a3)), (4, (7, 0, 0))]) rfl ?_
      refine g_iconst ok (v := 2) rfl ?_
      exact g_ireturn ok rfl rfl (rfl)
-- L_pay
theorem t_287 {X : gX} (ok : gOK X) (hX : gHX X) (d : Nat) (a0 : Nat) (a1 : Int) (a2 : Nat) (s : gS) : Go X em_287 287 (d + 5) 0 [] [(0, (27, 0, a0)), (1, (0, a1, 0)), (2, (125, 0, a2))] [] s 0 0 (f_287 a0 a1 a2 s) some := by
  delta f_287
  refine g_rb gs_287 0 (cd' := gb_287_0) rfl rfl ?_
  refine g_aload_n ok rfl rfl ?_
  refine g_iconst ok (v := 0) rfl ?_
  refine g_aload_n ok rfl rfl ?_
  refine g_iload_n ok rfl ?_
  refine g_cvc ok (me_101 hX) rfl rfl rfl (Or.inl rfl) (by decide) (t_101 ok hX _ a0 a1 s) (fun v2 s1 hb => ?_) (fun k s1 r => ?_)
  · refine g_i2l ok ?_
    refine g_lastore ok (n := 1) rfl rfl (fun _ _ => ?_)
    let s3 : gS := gw s1 a2 (0 : Int).toNat v2
    refine g_goto ok rfl ?_
    refine g_rb gs_287 2 (cd' := gb_287_15) rfl rfl ?_
    refine g_iconst ok (v := 0) rfl ?_
    exact g_ireturn ok rfl rfl (rfl)
  · refine g_kxc (c := 0) (h := 12) rfl rfl ?_ (g_kxn)
    · refine g_rb gs_287 1 (cd' := gb_287_12) rfl rfl ?_
      refine g_astore_n ok rfl rfl (L' := [(0, (27, 0, a0)), (1, (0, a1, 0)), (2, (125, 0, a2)), (3, (7, 0, 0))]) rfl ?_
      refine g_iconst ok (v := 1) rfl ?_
      exact g_ireturn ok rfl rfl (rfl)
-- L_days
theorem t_288 {X : gX} (ok : gOK X) (hX : gHX X) (d : Nat) (a0 : Nat) (a1 : Int) (a2 : Nat) (s : gS) : Go X em_288 288 (d + 7) 0 [] [(0, (27, 0, a0)), (1, (0, a1, 0)), (2, (125, 0, a2))] [] s 0 0 (f_288 a0 a1 a2 s) some := by
  delta f_288
  refine g_rb gs_288 0 (cd' := gb_288_0) rfl rfl ?_
  refine g_aload_n ok rfl rfl ?_
  refine g_iconst ok (v := 0) rfl ?_
  refine g_aload_n ok rfl rfl ?_
  refine g_iload_n ok rfl ?_
  refine g_cvc ok (me_102 hX) rfl rfl rfl (Or.inl rfl) (by decide) (t_102 ok hX _ a0 a1 s) (fun v2 s1 hb => ?_) (fun k s1 r => ?_)
  · refine g_i2l ok ?_
    refine g_lastore ok (n := 1) rfl rfl (fun _ _ => ?_)
    let s3 : gS := gw s1 a2 (0 : Int).toNat v2
    refine g_goto ok rfl ?_
    refine g_rb gs_288 2 (cd' := gb_288_15) rfl rfl ?_
    refine g_iconst ok (v := 0) rfl ?_
    exact g_ireturn ok rfl rfl (rfl)
  · refine g_kxc (c := 0) (h := 12) rfl rfl ?_ (g_kxn)
    · refine g_rb gs_288 1 (cd' := gb_288_12) rfl rfl ?_
      refine g_astore_n ok rfl rfl (L' := [(0, (27, 0, a0)), (1, (0, a1, 0)), (2, (125, 0, a2)), (3, (7, 0, 0))]) rfl ?_
      refine g_iconst ok (v := 1) rfl ?_
      exact g_ireturn ok rfl rfl (rfl)
-- L_ahead
theorem t_289 {X : gX} (ok : gOK X) (hX : gHX X) (d : Nat) (a0 : Nat) (a1 : Int) (a2 : Int) (a3 : Int) (a4 : Nat) (s : gS) : Go X em_289 289 (d + 8) 0 [] [(0, (27, 0, a0)), (1, (0, a1, 0)), (2, (0, a2, 0)), (3, (0, a3, 0)), (4, (125, 0, a4))] [] s 0 0 (f_289 a0 a1 a2 a3 a4 s) some := by
  delta f_289
  refine g_rb gs_289 0 (cd' := gb_289_0) rfl rfl ?_
  refine g_aload ok rfl rfl ?_
  refine g_iconst ok (v := 0) rfl ?_
  refine g_aload_n ok rfl rfl ?_
  refine g_iload_n ok rfl ?_
  refine g_iload_n ok rfl ?_
  refine g_iload_n ok rfl ?_
  refine g_cvc ok (me_103 hX) rfl rfl rfl (Or.inl rfl) (by decide) (t_103 ok hX _ a0 a1 a2 a3 s) (fun v2 s1 hb => ?_) (fun k s1 r => ?_)
  · refine g_i2l ok ?_
    refine g_lastore ok (n := 1) rfl rfl (fun _ _ => ?_)
    let s3 : gS := gw s1 a4 (0 : Int).toNat v2
    refine g_goto ok rfl ?_
    refine g_rb gs_289 4 (cd' := gb_289_27) rfl rfl ?_
    refine g_iconst ok (v := 0) rfl ?_
    exact g_ireturn ok rfl rfl (rfl)
  · refine g_kxc (c := 3) (h := 15) rfl rfl ?_ (g_kxc (c := 0) (h := 19) rfl rfl ?_ (g_kxc (c := 2) (h := 23) rfl rfl ?_ (g_kxn)))
    · refine g_rb gs_289 1 (cd' := gb_289_15) rfl rfl ?_
      refine g_astore ok rfl rfl (L' := [(0, (27, 0, a0)), (1, (0, a1, 0)), (2, (0, a2, 0)), (3, (0, a3, 0)), (4, (125, 0, a4)), (5, (7, 0, 0))]) rfl ?_
      refine g_iconst ok (v := 1) rfl ?_
      exact g_ireturn ok rfl rfl (rfl)
    · refine g_rb gs_289 2 (cd' := gb_289_19) rfl rfl ?_
      refine g_astore ok rfl rfl (L' := [(0, (27, 0, a0)), (1, (0, a1, 0)), (2, (0, a2, 0)), (3, (0, a3, 0)), (4, (125, 0, a4)), (5, (7, 0, 0))]) rfl ?_
      refine g_iconst ok (v := 2) rfl ?_
      exact g_ireturn ok rfl rfl (rfl)
    · refine g_rb gs_289 3 (cd' := gb_289_23) rfl rfl ?_
      refine g_astore ok rfl rfl (L' := [(0, (27, 0, a0)), (1, (0, a1, 0)), (2, (0, a2, 0)), (3, (0, a3, 0)), (4, (125, 0, a4)), (5, (7, 0, 0))]) rfl ?_
      refine g_iconst ok (v := 3) rfl ?_
      exact g_ireturn ok rfl rfl (rfl)
-- L_owes
theorem t_290 {X : gX} (ok : gOK X) (hX : gHX X) (d : Nat) (a0 : Nat) (a1 : Int) (a2 : Nat) (s : gS) : Go X em_290 290 (d + 8) 0 [] [(0, (27, 0, a0)), (1, (0, a1, 0)), (2, (125, 0, a2))] [] s 0 0 (f_290 a0 a1 a2 s) some := by
  delta f_290
  refine g_rb gs_290 0 (cd' := gb_290_0) rfl rfl ?_
  refine g_aload_n ok rfl rfl ?_
  refine g_iconst ok (v := 0) rfl ?_
  refine g_aload_n ok rfl rfl ?_
  refine g_iload_n ok rfl ?_
  refine g_cvc ok (me_104 hX) rfl rfl rfl (Or.inl rfl) (by decide) (t_104 ok hX _ a0 a1 s) (fun v2 s1 hb => ?_) (fun k s1 r => ?_)
  · refine g_i2l ok ?_
    refine g_lastore ok (n := 1) rfl rfl (fun _ _ => ?_)
    let s3 : gS := gw s1 a2 (0 : Int).toNat v2
    refine g_goto ok rfl ?_
    refine g_rb gs_290 2 (cd' := gb_290_15) rfl rfl ?_
    refine g_iconst ok (v := 0) rfl ?_
    exact g_ireturn ok rfl rfl (rfl)
  · refine g_kxc (c := 0) (h := 12) rfl rfl ?_ (g_kxn)
    · refine g_rb gs_290 1 (cd' := gb_290_12) rfl rfl ?_
      refine g_astore_n ok rfl rfl (L' := [(0, (27, 0, a0)), (1, (0, a1, 0)), (2, (125, 0, a2)), (3, (7, 0, 0))]) rfl ?_
      refine g_iconst ok (v := 1) rfl ?_
      exact g_ireturn ok rfl rfl (rfl)
-- L_chest
theorem t_291 {X : gX} (ok : gOK X) (hX : gHX X) (d : Nat) (a0 : Nat) (a1 : Int) (a2 : Nat) (s : gS) : Go X em_291 291 (d + 8) 0 [] [(0, (27, 0, a0)), (1, (0, a1, 0)), (2, (125, 0, a2))] [] s 0 0 (f_291 a0 a1 a2 s) some := by
  delta f_291
  refine g_rb gs_291 0 (cd' := gb_291_0) rfl rfl ?_
  refine g_aload_n ok rfl rfl ?_
  refine g_iconst ok (v := 0) rfl ?_
  refine g_aload_n ok rfl rfl ?_
  refine g_iload_n ok rfl ?_
  refine g_cvc ok (me_105 hX) rfl rfl rfl (Or.inl rfl) (by decide) (t_105 ok hX _ a0 a1 s) (fun v2 s1 hb => ?_) (fun k s1 r => ?_)
  · refine g_i2l ok ?_
    refine g_lastore ok (n := 1) rfl rfl (fun _ _ => ?_)
    let s3 : gS := gw s1 a2 (0 : Int).toNat v2
    refine g_goto ok rfl ?_
    refine g_rb gs_291 2 (cd' := gb_291_15) rfl rfl ?_
    refine g_iconst ok (v := 0) rfl ?_
    exact g_ireturn ok rfl rfl (rfl)
  · refine g_kxc (c := 0) (h := 12) rfl rfl ?_ (g_kxn)
    · refine g_rb gs_291 1 (cd' := gb_291_12) rfl rfl ?_
      refine g_astore_n ok rfl rfl (L' := [(0, (27, 0, a0)), (1, (0, a1, 0)), (2, (125, 0, a2)), (3, (7, 0, 0))]) rfl ?_
      refine g_iconst ok (v := 1) rfl ?_
      exact g_ireturn ok rfl rfl (rfl)
-- L_lives
theorem t_292 {X : gX} (ok : gOK X) (hX : gHX X) (d : Nat) (a0 : Nat) (a1 : Int) (a2 : Nat) (s : gS) : Go X em_292 292 (d + 7) 0 [] [(0, (27, 0, a0)), (1, (0, a1, 0)), (2, (125, 0, a2))] [] s 0 0 (f_292 a0 a1 a2 s) some := by
  delta f_292
  refine g_rb gs_292 0 (cd' := gb_292_0) rfl rfl ?_
  refine g_aload_n ok rfl rfl ?_
  refine g_iconst ok (v := 0) rfl ?_
  refine g_aload_n ok rfl rfl ?_
  refine g_iload_n ok rfl ?_
  refine g_cvc ok (me_106 hX) rfl rfl rfl (Or.inl rfl) (by decide) (t_106 ok hX _ a0 a1 s) (fun v2 s1 hb => ?_) (fun k s1 r => ?_)
  · refine g_i2l ok ?_
    refine g_lastore ok (n := 1) rfl rfl (fun _ _ => ?_)
    let s3 : gS := gw s1 a2 (0 : Int).toNat v2
    refine g_goto ok rfl ?_
    refine g_rb gs_292 2 (cd' := gb_292_15) rfl rfl ?_
    refine g_iconst ok (v := 0) rfl ?_
    exact g_ireturn ok rfl rfl (rfl)
  · refine g_kxc (c := 3) (h := 12) rfl rfl ?_ (g_kxn)
    · refine g_rb gs_292 1 (cd' := gb_292_12) rfl rfl ?_
      refine g_astore_n ok rfl rfl (L' := [(0, (27, 0, a0)), (1, (0, a1, 0)), (2, (125, 0, a2)), (3, (7, 0, 0))]) rfl ?_
      refine g_iconst ok (v := 1) rfl ?_
      exact g_ireturn ok rfl rfl (rfl)
-- L_done
theorem t_293 {X : gX} (ok : gOK X) (hX : gHX X) (d : Nat) (a0 : Nat) (a1 : Int) (a2 : Nat) (s : gS) : Go X em_293 293 (d + 7) 0 [] [(0, (27, 0, a0)), (1, (0, a1, 0)), (2, (125, 0, a2))] [] s 0 0 (f_293 a0 a1 a2 s) some := by
  delta f_293
  refine g_rb gs_293 0 (cd' := gb_293_0) rfl rfl ?_
  refine g_aload_n ok rfl rfl ?_
  refine g_iconst ok (v := 0) rfl ?_
  refine g_aload_n ok rfl rfl ?_
  refine g_iload_n ok rfl ?_
  refine g_cvc ok (me_107 hX) rfl rfl rfl (Or.inl rfl) (by decide) (t_107 ok hX _ a0 a1 s) (fun v2 s1 hb => ?_) (fun k s1 r => ?_)
  · refine g_i2l ok ?_
    refine g_lastore ok (n := 1) rfl rfl (fun _ _ => ?_)
    let s3 : gS := gw s1 a2 (0 : Int).toNat v2
    refine g_goto ok rfl ?_
    refine g_rb gs_293 2 (cd' := gb_293_15) rfl rfl ?_
    refine g_iconst ok (v := 0) rfl ?_
    exact g_ireturn ok rfl rfl (rfl)
  · refine g_kxc (c := 3) (h := 12) rfl rfl ?_ (g_kxn)
    · refine g_rb gs_293 1 (cd' := gb_293_12) rfl rfl ?_
      refine g_astore_n ok rfl rfl (L' := [(0, (27, 0, a0)), (1, (0, a1, 0)), (2, (125, 0, a2)), (3, (7, 0, 0))]) rfl ?_
      refine g_iconst ok (v := 1) rfl ?_
      exact g_ireturn ok rfl rfl (rfl)
-- L_longest
theorem t_294 {X : gX} (ok : gOK X) (hX : gHX X) (d : Nat) (a0 : Nat) (a1 : Int) (a2 : Int) (a3 : Nat) (s : gS) : Go X em_294 294 (d + 87) 0 [] [(0, (27, 0, a0)), (1, (0, a1, 0)), (2, (0, a2, 0)), (3, (125, 0, a3))] [] s 0 0 (f_294 a0 a1 a2 a3 s) some := by
  delta f_294
  refine g_rb gs_294 0 (cd' := gb_294_0) rfl rfl ?_
  refine g_aload_n ok rfl rfl ?_
  refine g_iconst ok (v := 0) rfl ?_
  refine g_aload_n ok rfl rfl ?_
  refine g_iload_n ok rfl ?_
  refine g_iload_n ok rfl ?_
  refine g_cvc ok (me_108 hX) rfl rfl rfl (Or.inl rfl) (by decide) (t_108 ok hX _ a0 a1 a2 s) (fun v2 s1 hb => ?_) (fun k s1 r => ?_)
  · refine g_i2l ok ?_
    refine g_lastore ok (n := 1) rfl rfl (fun _ _ => ?_)
    let s3 : gS := gw s1 a3 (0 : Int).toNat v2
    refine g_goto ok rfl ?_
    refine g_rb gs_294 3 (cd' := gb_294_21) rfl rfl ?_
    refine g_iconst ok (v := 0) rfl ?_
    exact g_ireturn ok rfl rfl (rfl)
  · refine g_kxc (c := 3) (h := 13) rfl rfl ?_ (g_kxc (c := 0) (h := 17) rfl rfl ?_ (g_kxn))
    · refine g_rb gs_294 1 (cd' := gb_294_13) rfl rfl ?_
      refine g_astore ok rfl rfl (L' := [(0, (27, 0, a0)), (1, (0, a1, 0)), (2, (0, a2, 0)), (3, (125, 0, a3)), (4, (7, 0, 0))]) rfl ?_
      refine g_iconst ok (v := 1) rfl ?_
      exact g_ireturn ok rfl rfl (rfl)
    · refine g_rb gs_294 2 (cd' := gb_294_17) rfl rfl ?_
      refine g_astore ok rfl rfl (L' := [(0, (27, 0, a0)), (1, (0, a1, 0)), (2, (0, a2, 0)), (3, (125, 0, a3)), (4, (7, 0, 0))]) rfl ?_
      refine g_iconst ok (v := 2) rfl ?_
      exact g_ireturn ok rfl rfl (rfl)
-- L_needs
theorem t_295 {X : gX} (ok : gOK X) (hX : gHX X) (d : Nat) (a0 : Nat) (a1 : Int) (a2 : Int) (a3 : Nat) (s : gS) : Go X em_295 295 (d + 87) 0 [] [(0, (27, 0, a0)), (1, (0, a1, 0)), (2, (0, a2, 0)), (3, (125, 0, a3))] [] s 0 0 (f_295 a0 a1 a2 a3 s) some := by
  delta f_295
  refine g_rb gs_295 0 (cd' := gb_295_0) rfl rfl ?_
  refine g_aload_n ok rfl rfl ?_
  refine g_iconst ok (v := 0) rfl ?_
  refine g_aload_n ok rfl rfl ?_
  refine g_iload_n ok rfl ?_
  refine g_iload_n ok rfl ?_
  refine g_cvc ok (me_109 hX) rfl rfl rfl (Or.inl rfl) (by decide) (t_109 ok hX _ a0 a1 a2 s) (fun v2 s1 hb => ?_) (fun k s1 r => ?_)
  · refine g_i2l ok ?_
    refine g_lastore ok (n := 1) rfl rfl (fun _ _ => ?_)
    let s3 : gS := gw s1 a3 (0 : Int).toNat v2
    refine g_goto ok rfl ?_
    refine g_rb gs_295 3 (cd' := gb_295_21) rfl rfl ?_
    refine g_iconst ok (v := 0) rfl ?_
    exact g_ireturn ok rfl rfl (rfl)
  · refine g_kxc (c := 3) (h := 13) rfl rfl ?_ (g_kxc (c := 0) (h := 17) rfl rfl ?_ (g_kxn))
    · refine g_rb gs_295 1 (cd' := gb_295_13) rfl rfl ?_
      refine g_astore ok rfl rfl (L' := [(0, (27, 0, a0)), (1, (0, a1, 0)), (2, (0, a2, 0)), (3, (125, 0, a3)), (4, (7, 0, 0))]) rfl ?_
      refine g_iconst ok (v := 1) rfl ?_
      exact g_ireturn ok rfl rfl (rfl)
    · refine g_rb gs_295 2 (cd' := gb_295_17) rfl rfl ?_
      refine g_astore ok rfl rfl (L' := [(0, (27, 0, a0)), (1, (0, a1, 0)), (2, (0, a2, 0)), (3, (125, 0, a3)), (4, (7, 0, 0))]) rfl ?_
      refine g_iconst ok (v := 2) rfl ?_
      exact g_ireturn ok rfl rfl (rfl)
-- L_stopped
theorem t_296 {X : gX} (ok : gOK X) (hX : gHX X) (d : Nat) (a0 : Nat) (a1 : Int) (a2 : Int) (a3 : Nat) (s : gS) : Go X em_296 296 (d + 2) 0 [] [(0, (27, 0, a0)), (1, (0, a1, 0)), (2, (0, a2, 0)), (3, (125, 0, a3))] [] s 0 0 (f_296 a0 a1 a2 a3 s) some := by
  delta f_296
  refine g_rb gs_296 0 (cd' := gb_296_0) rfl rfl ?_
  refine g_aload_n ok rfl rfl ?_
  refine g_iconst ok (v := 0) rfl ?_
  refine g_aload_n ok rfl rfl ?_
  refine g_iload_n ok rfl ?_
  refine g_iload_n ok rfl ?_
  refine g_cvc ok (me_110 hX) rfl rfl rfl (Or.inr rfl) (by decide) (t_110 ok hX _ a0 a1 a2 s) (fun v2 s1 hb => ?_) (fun k s1 r => ?_)
  · replace hb := hb rfl
    refine g_if_eq ok rfl (fun _ => ?_) (fun _ => ?_)
    · refine g_rb gs_296 2 (cd' := gb_296_15) rfl rfl ?_
      refine g_lconst ok (v := 0) rfl ?_
      refine g_rb gs_296 3 (cd' := gb_296_16) rfl rfl ?_
      refine g_lastore ok (n := 1) rfl rfl (fun _ _ => ?_)
      let s3 : gS := gw s1 a3 (0 : Int).toNat 0
      refine g_goto ok rfl ?_
      refine g_rb gs_296 5 (cd' := gb_296_24) rfl rfl ?_
      refine g_iconst ok (v := 0) rfl ?_
      exact g_ireturn ok rfl rfl (rfl)
    · refine g_rb gs_296 1 (cd' := gb_296_11) rfl rfl ?_
      refine g_lconst ok (v := 1) rfl ?_
      refine g_goto ok rfl ?_
      refine g_rb gs_296 3 (cd' := gb_296_16) rfl rfl ?_
      refine g_lastore ok (n := 1) rfl rfl (fun _ _ => ?_)
      let s4 : gS := gw s1 a3 (0 : Int).toNat 1
      refine g_goto ok rfl ?_
      refine g_rb gs_296 5 (cd' := gb_296_24) rfl rfl ?_
      refine g_iconst ok (v := 0) rfl ?_
      exact g_ireturn ok rfl rfl (rfl)
  · refine g_kxc (c := 3) (h := 20) rfl rfl ?_ (g_kxn)
    · refine g_rb gs_296 4 (cd' := gb_296_20) rfl rfl ?_
      refine g_astore ok rfl rfl (L' := [(0, (27, 0, a0)), (1, (0, a1, 0)), (2, (0, a2, 0)), (3, (125, 0, a3)), (4, (7, 0, 0))]) rfl ?_
      refine g_iconst ok (v := 1) rfl ?_
      exact g_ireturn ok rfl rfl (rfl)
-- L_fewest
theorem t_297 {X : gX} (ok : gOK X) (hX : gHX X) (d : Nat) (a0 : Nat) (a1 : Int) (a2 : Nat) (s : gS) : Go X em_297 297 (d + 2) 0 [] [(0, (27, 0, a0)), (1, (0, a1, 0)), (2, (125, 0, a2))] [] s 0 0 (f_297 a0 a1 a2 s) some := by
  delta f_297
  refine g_rb gs_297 0 (cd' := gb_297_0) rfl rfl ?_
  refine g_aload_n ok rfl rfl ?_
  refine g_iconst ok (v := 0) rfl ?_
  refine g_aload_n ok rfl rfl ?_
  refine g_iload_n ok rfl ?_
  refine g_cvc ok (me_111 hX) rfl rfl rfl (Or.inl rfl) (by decide) (t_111 ok hX _ a0 a1 s) (fun v2 s1 hb => ?_) (fun k s1 r => ?_)
  · refine g_i2l ok ?_
    refine g_lastore ok (n := 1) rfl rfl (fun _ _ => ?_)
    let s3 : gS := gw s1 a2 (0 : Int).toNat v2
    refine g_goto ok rfl ?_
    refine g_rb gs_297 2 (cd' := gb_297_15) rfl rfl ?_
    refine g_iconst ok (v := 0) rfl ?_
    exact g_ireturn ok rfl rfl (rfl)
  · refine g_kxc (c := 3) (h := 12) rfl rfl ?_ (g_kxn)
    · refine g_rb gs_297 1 (cd' := gb_297_12) rfl rfl ?_
      refine g_astore_n ok rfl rfl (L' := [(0, (27, 0, a0)), (1, (0, a1, 0)), (2, (125, 0, a2)), (3, (7, 0, 0))]) rfl ?_
      refine g_iconst ok (v := 1) rfl ?_
      exact g_ireturn ok rfl rfl (rfl)
-- L_cheapest
theorem t_298 {X : gX} (ok : gOK X) (hX : gHX X) (d : Nat) (a0 : Nat) (a1 : Int) (a2 : Int) (a3 : Nat) (s : gS) : Go X em_298 298 (d + 2) 0 [] [(0, (27, 0, a0)), (1, (0, a1, 0)), (2, (0, a2, 0)), (3, (125, 0, a3))] [] s 0 0 (f_298 a0 a1 a2 a3 s) some := by
  delta f_298
  refine g_rb gs_298 0 (cd' := gb_298_0) rfl rfl ?_
  refine g_aload_n ok rfl rfl ?_
  refine g_iconst ok (v := 0) rfl ?_
  refine g_aload_n ok rfl rfl ?_
  refine g_iload_n ok rfl ?_
  refine g_iload_n ok rfl ?_
  refine g_cvc ok (me_112 hX) rfl rfl rfl (Or.inl rfl) (by decide) (t_112 ok hX _ a0 a1 a2 s) (fun v2 s1 hb => ?_) (fun k s1 r => ?_)
  · refine g_i2l ok ?_
    refine g_lastore ok (n := 1) rfl rfl (fun _ _ => ?_)
    let s3 : gS := gw s1 a3 (0 : Int).toNat v2
    refine g_goto ok rfl ?_
    refine g_rb gs_298 2 (cd' := gb_298_17) rfl rfl ?_
    refine g_iconst ok (v := 0) rfl ?_
    exact g_ireturn ok rfl rfl (rfl)
  · refine g_kxc (c := 3) (h := 13) rfl rfl ?_ (g_kxn)
    · refine g_rb gs_298 1 (cd' := gb_298_13) rfl rfl ?_
      refine g_astore ok rfl rfl (L' := [(0, (27, 0, a0)), (1, (0, a1, 0)), (2, (0, a2, 0)), (3, (125, 0, a3)), (4, (7, 0, 0))]) rfl ?_
      refine g_iconst ok (v := 1) rfl ?_
      exact g_ireturn ok rfl rfl (rfl)
-- L_slips
theorem t_299 {X : gX} (ok : gOK X) (hX : gHX X) (d : Nat) (a0 : Nat) (a1 : Int) (a2 : Nat) (s : gS) : Go X em_299 299 (d + 2) 0 [] [(0, (27, 0, a0)), (1, (0, a1, 0)), (2, (125, 0, a2))] [] s 0 0 (f_299 a0 a1 a2 s) some := by
  delta f_299
  refine g_rb gs_299 0 (cd' := gb_299_0) rfl rfl ?_
  refine g_aload_n ok rfl rfl ?_
  refine g_iconst ok (v := 0) rfl ?_
  refine g_aload_n ok rfl rfl ?_
  refine g_iload_n ok rfl ?_
  refine g_cvc ok (me_113 hX) rfl rfl rfl (Or.inl rfl) (by decide) (t_113 ok hX _ a0 a1 s) (fun v2 s1 hb => ?_) (fun k s1 r => ?_)
  · refine g_i2l ok ?_
    refine g_lastore ok (n := 1) rfl rfl (fun _ _ => ?_)
    let s3 : gS := gw s1 a2 (0 : Int).toNat v2
    refine g_goto ok rfl ?_
    refine g_rb gs_299 2 (cd' := gb_299_15) rfl rfl ?_
    refine g_iconst ok (v := 0) rfl ?_
    exact g_ireturn ok rfl rfl (rfl)
  · refine g_kxc (c := 3) (h := 12) rfl rfl ?_ (g_kxn)
    · refine g_rb gs_299 1 (cd' := gb_299_12) rfl rfl ?_
      refine g_astore_n ok rfl rfl (L' := [(0, (27, 0, a0)), (1, (0, a1, 0)), (2, (125, 0, a2)), (3, (7, 0, 0))]) rfl ?_
      refine g_iconst ok (v := 1) rfl ?_
      exact g_ireturn ok rfl rfl (rfl)
-- L_seen
theorem t_300 {X : gX} (ok : gOK X) (hX : gHX X) (d : Nat) (a0 : Nat) (a1 : Int) (a2 : Nat) (s : gS) : Go X em_300 300 (d + 4) 0 [] [(0, (27, 0, a0)), (1, (0, a1, 0)), (2, (125, 0, a2))] [] s 0 0 (f_300 a0 a1 a2 s) some := by
  delta f_300
  refine g_rb gs_300 0 (cd' := gb_300_0) rfl rfl ?_
  refine g_aload_n ok rfl rfl ?_
  refine g_iconst ok (v := 0) rfl ?_
  refine g_aload_n ok rfl rfl ?_
  refine g_iload_n ok rfl ?_
  refine g_cvc ok (me_114 hX) rfl rfl rfl (Or.inl rfl) (by decide) (t_114 ok hX _ a0 a1 s) (fun v2 s1 hb => ?_) (fun k s1 r => ?_)
  · refine g_i2l ok ?_
    refine g_lastore ok (n := 1) rfl rfl (fun _ _ => ?_)
    let s3 : gS := gw s1 a2 (0 : Int).toNat v2
    refine g_goto ok rfl ?_
    refine g_rb gs_300 2 (cd' := gb_300_15) rfl rfl ?_
    refine g_iconst ok (v := 0) rfl ?_
    exact g_ireturn ok rfl rfl (rfl)
  · refine g_kxc (c := 0) (h := 12) rfl rfl ?_ (g_kxn)
    · refine g_rb gs_300 1 (cd' := gb_300_12) rfl rfl ?_
      refine g_astore_n ok rfl rfl (L' := [(0, (27, 0, a0)), (1, (0, a1, 0)), (2, (125, 0, a2)), (3, (7, 0, 0))]) rfl ?_
      refine g_iconst ok (v := 1) rfl ?_
      exact g_ireturn ok rfl rfl (rfl)
-- L_ask
theorem t_301 {X : gX} (ok : gOK X) (hX : gHX X) (d : Nat) (a0 : Nat) (a1 : Nat) (s : gS) : Go X em_301 301 (d + 4) 0 [] [(0, (27, 0, a0)), (1, (125, 0, a1))] [] s 0 0 (f_301 a0 a1 s) some := by
  delta f_301
  refine g_rb gs_301 0 (cd' := gb_301_0) rfl rfl ?_
  refine g_aload_n ok rfl rfl ?_
  refine g_iconst ok (v := 0) rfl ?_
  refine g_aload_n ok rfl rfl ?_
  refine g_cvc ok (me_115 hX) rfl rfl rfl (Or.inl rfl) (by decide) (t_115 ok hX _ a0 s) (fun v2 s1 hb => ?_) (fun k s1 r => ?_)
  · refine g_i2l ok ?_
    refine g_lastore ok (n := 1) rfl rfl (fun _ _ => ?_)
    let s3 : gS := gw s1 a1 (0 : Int).toNat v2
    refine g_goto ok rfl ?_
    refine g_rb gs_301 2 (cd' := gb_301_14) rfl rfl ?_
    refine g_iconst ok (v := 0) rfl ?_
    exact g_ireturn ok rfl rfl (rfl)
  · refine g_kxc (c := 0) (h := 11) rfl rfl ?_ (g_kxn)
    · refine g_rb gs_301 1 (cd' := gb_301_11) rfl rfl ?_
      refine g_astore_n ok rfl rfl (L' := [(0, (27, 0, a0)), (1, (125, 0, a1)), (2, (7, 0, 0))]) rfl ?_
      refine g_iconst ok (v := 1) rfl ?_
      exact g_ireturn ok rfl rfl (rfl)
-- L_rests
theorem t_302 {X : gX} (ok : gOK X) (hX : gHX X) (d : Nat) (a0 : Nat) (a1 : Int) (a2 : Int) (a3 : Nat) (s : gS) : Go X em_302 302 (d + 2) 0 [] [(0, (27, 0, a0)), (1, (0, a1, 0)), (2, (0, a2, 0)), (3, (125, 0, a3))] [] s 0 0 (f_302 a0 a1 a2 a3 s) some := by
  delta f_302
  refine g_rb gs_302 0 (cd' := gb_302_0) rfl rfl ?_
  refine g_aload_n ok rfl rfl ?_
  refine g_iconst ok (v := 0) rfl ?_
  refine g_aload_n ok rfl rfl ?_
  refine g_iload_n ok rfl ?_
  refine g_iload_n ok rfl ?_
  refine g_cvc ok (me_116 hX) rfl rfl rfl (Or.inl rfl) (by decide) (t_116 ok hX _ a0 a1 a2 s) (fun v2 s1 hb => ?_) (fun k s1 r => ?_)
  · refine g_i2l ok ?_
    refine g_lastore ok (n := 1) rfl rfl (fun _ _ => ?_)
    let s3 : gS := gw s1 a3 (0 : Int).toNat v2
    refine g_goto ok rfl ?_
    refine g_rb gs_302 2 (cd' := gb_302_17) rfl rfl ?_
    refine g_iconst ok (v := 0) rfl ?_
    exact g_ireturn ok rfl rfl (rfl)
  · refine g_kxc (c := 3) (h := 13) rfl rfl ?_ (g_kxn)
    · refine g_rb gs_302 1 (cd' := gb_302_13) rfl rfl ?_
      refine g_astore ok rfl rfl (L' := [(0, (27, 0, a0)), (1, (0, a1, 0)), (2, (0, a2, 0)), (3, (125, 0, a3)), (4, (7, 0, 0))]) rfl ?_
      refine g_iconst ok (v := 1) rfl ?_
      exact g_ireturn ok rfl rfl (rfl)
-- L_odds
theorem t_303 {X : gX} (ok : gOK X) (hX : gHX X) (d : Nat) (a0 : Nat) (a1 : Int) (a2 : Int) (a3 : Nat) (s : gS) : Go X em_303 303 (d + 2) 0 [] [(0, (27, 0, a0)), (1, (0, a1, 0)), (2, (0, a2, 0)), (3, (125, 0, a3))] [] s 0 0 (f_303 a0 a1 a2 a3 s) some := by
  delta f_303
  refine g_rb gs_303 0 (cd' := gb_303_0) rfl rfl ?_
  refine g_aload_n ok rfl rfl ?_
  refine g_iconst ok (v := 0) rfl ?_
  refine g_aload_n ok rfl rfl ?_
  refine g_iload_n ok rfl ?_
  refine g_iload_n ok rfl ?_
  refine g_cvc ok (me_117 hX) rfl rfl rfl (Or.inl rfl) (by decide) (t_117 ok hX _ a0 a1 a2 s) (fun v2 s1 hb => ?_) (fun k s1 r => ?_)
  · refine g_i2l ok ?_
    refine g_lastore ok (n := 1) rfl rfl (fun _ _ => ?_)
    let s3 : gS := gw s1 a3 (0 : Int).toNat v2
    refine g_goto ok rfl ?_
    refine g_rb gs_303 2 (cd' := gb_303_17) rfl rfl ?_
    refine g_iconst ok (v := 0) rfl ?_
    exact g_ireturn ok rfl rfl (rfl)
  · refine g_kxc (c := 0) (h := 13) rfl rfl ?_ (g_kxn)
    · refine g_rb gs_303 1 (cd' := gb_303_13) rfl rfl ?_
      refine g_astore ok rfl rfl (L' := [(0, (27, 0, a0)), (1, (0, a1, 0)), (2, (0, a2, 0)), (3, (125, 0, a3)), (4, (7, 0, 0))]) rfl ?_
      refine g_iconst ok (v := 1) rfl ?_
      exact g_ireturn ok rfl rfl (rfl)
-- L_sold
theorem t_304 {X : gX} (ok : gOK X) (hX : gHX X) (d : Nat) (a0 : Nat) (a1 : Int) (a2 : Nat) (s : gS) : Go X em_304 304 (d + 3) 0 [] [(0, (27, 0, a0)), (1, (0, a1, 0)), (2, (125, 0, a2))] [] s 0 0 (f_304 a0 a1 a2 s) some := by
  delta f_304
  refine g_rb gs_304 0 (cd' := gb_304_0) rfl rfl ?_
  refine g_aload_n ok rfl rfl ?_
  refine g_iconst ok (v := 0) rfl ?_
  refine g_aload_n ok rfl rfl ?_
  refine g_iload_n ok rfl ?_
  refine g_cvc ok (me_119 hX) rfl rfl rfl (Or.inl rfl) (by decide) (t_119 ok hX _ a0 a1 s) (fun v2 s1 hb => ?_) (fun k s1 r => ?_)
  · refine g_i2l ok ?_
    refine g_lastore ok (n := 1) rfl rfl (fun _ _ => ?_)
    let s3 : gS := gw s1 a2 (0 : Int).toNat v2
    refine g_goto ok rfl ?_
    refine g_rb gs_304 2 (cd' := gb_304_15) rfl rfl ?_
    refine g_iconst ok (v := 0) rfl ?_
    exact g_ireturn ok rfl rfl (rfl)
  · refine g_kxc (c := 3) (h := 12) rfl rfl ?_ (g_kxn)
    · refine g_rb gs_304 1 (cd' := gb_304_12) rfl rfl ?_
      refine g_astore_n ok rfl rfl (L' := [(0, (27, 0, a0)), (1, (0, a1, 0)), (2, (125, 0, a2)), (3, (7, 0, 0))]) rfl ?_
      refine g_iconst ok (v := 1) rfl ?_
      exact g_ireturn ok rfl rfl (rfl)
-- L_knows
theorem t_305 {X : gX} (ok : gOK X) (hX : gHX X) (d : Nat) (a0 : Nat) (a1 : Int) (a2 : Nat) (s : gS) : Go X em_305 305 (d + 2) 0 [] [(0, (27, 0, a0)), (1, (0, a1, 0)), (2, (125, 0, a2))] [] s 0 0 (f_305 a0 a1 a2 s) some := by
  delta f_305
  refine g_rb gs_305 0 (cd' := gb_305_0) rfl rfl ?_
  refine g_aload_n ok rfl rfl ?_
  refine g_iconst ok (v := 0) rfl ?_
  refine g_aload_n ok rfl rfl ?_
  refine g_iload_n ok rfl ?_
  refine g_cvc ok (me_122 hX) rfl rfl rfl (Or.inl rfl) (by decide) (t_122 ok hX _ a0 a1 s) (fun v2 s1 hb => ?_) (fun k s1 r => ?_)
  · refine g_i2l ok ?_
    refine g_lastore ok (n := 1) rfl rfl (fun _ _ => ?_)
    let s3 : gS := gw s1 a2 (0 : Int).toNat v2
    refine g_goto ok rfl ?_
    refine g_rb gs_305 2 (cd' := gb_305_15) rfl rfl ?_
    refine g_iconst ok (v := 0) rfl ?_
    exact g_ireturn ok rfl rfl (rfl)
  · refine g_kxc (c := 0) (h := 12) rfl rfl ?_ (g_kxn)
    · refine g_rb gs_305 1 (cd' := gb_305_12) rfl rfl ?_
      refine g_astore_n ok rfl rfl (L' := [(0, (27, 0, a0)), (1, (0, a1, 0)), (2, (125, 0, a2)), (3, (7, 0, 0))]) rfl ?_
      refine g_iconst ok (v := 1) rfl ?_
      exact g_ireturn ok rfl rfl (rfl)
-- L_trial
theorem t_306 {X : gX} (ok : gOK X) (hX : gHX X) (d : Nat) (a0 : Nat) (a1 : Int) (a2 : Int) (a3 : Nat) (s : gS) : Go X em_306 306 (d + 8) 0 [] [(0, (27, 0, a0)), (1, (0, a1, 0)), (2, (0, a2, 0)), (3, (125, 0, a3))] [] s 0 0 (f_306 a0 a1 a2 a3 s) some := by
  delta f_306
  refine g_rb gs_306 0 (cd' := gb_306_0) rfl rfl ?_
  refine g_aload_n ok rfl rfl ?_
  refine g_iconst ok (v := 0) rfl ?_
  refine g_aload_n ok rfl rfl ?_
  refine g_iload_n ok rfl ?_
  refine g_iload_n ok rfl ?_
  refine g_cvc ok (me_125 hX) rfl rfl rfl (Or.inl rfl) (by decide) (t_125 ok hX _ a0 a1 a2 s) (fun v2 s1 hb => ?_) (fun k s1 r => ?_)
  · refine g_i2l ok ?_
    refine g_lastore ok (n := 1) rfl rfl (fun _ _ => ?_)
    let s3 : gS := gw s1 a3 (0 : Int).toNat v2
    refine g_goto ok rfl ?_
    refine g_rb gs_306 2 (cd' := gb_306_17) rfl rfl ?_
    refine g_iconst ok (v := 0) rfl ?_
    exact g_ireturn ok rfl rfl (rfl)
  · refine g_kxc (c := 0) (h := 13) rfl rfl ?_ (g_kxn)
    · refine g_rb gs_306 1 (cd' := gb_306_13) rfl rfl ?_
      refine g_astore ok rfl rfl (L' := [(0, (27, 0, a0)), (1, (0, a1, 0)), (2, (0, a2, 0)), (3, (125, 0, a3)), (4, (7, 0, 0))]) rfl ?_
      refine g_iconst ok (v := 1) rfl ?_
      exact g_ireturn ok rfl rfl (rfl)
-- L_span
theorem t_307 {X : gX} (ok : gOK X) (hX : gHX X) (d : Nat) (a0 : Nat) (a1 : Int) (a2 : Int) (a3 : Nat) (s : gS) : Go X em_307 307 (d + 8) 0 [] [(0, (27, 0, a0)), (1, (0, a1, 0)), (2, (0, a2, 0)), (3, (125, 0, a3))] [] s 0 0 (f_307 a0 a1 a2 a3 s) some := by
  delta f_307
  refine g_rb gs_307 0 (cd' := gb_307_0) rfl rfl ?_
  refine g_aload_n ok rfl rfl ?_
  refine g_iconst ok (v := 0) rfl ?_
  refine g_aload_n ok rfl rfl ?_
  refine g_iload_n ok rfl ?_
  refine g_iload_n ok rfl ?_
  refine g_cvc ok (me_126 hX) rfl rfl rfl (Or.inl rfl) (by decide) (t_126 ok hX _ a0 a1 a2 s) (fun v2 s1 hb => ?_) (fun k s1 r => ?_)
  · refine g_i2l ok ?_
    refine g_lastore ok (n := 1) rfl rfl (fun _ _ => ?_)
    let s3 : gS := gw s1 a3 (0 : Int).toNat v2
    refine g_goto ok rfl ?_
    refine g_rb gs_307 2 (cd' := gb_307_17) rfl rfl ?_
    refine g_iconst ok (v := 0) rfl ?_
    exact g_ireturn ok rfl rfl (rfl)
  · refine g_kxc (c := 0) (h := 13) rfl rfl ?_ (g_kxn)
    · refine g_rb gs_307 1 (cd' := gb_307_13) rfl rfl ?_
      refine g_astore ok rfl rfl (L' := [(0, (27, 0, a0)), (1, (0, a1, 0)), (2, (0, a2, 0)), (3, (125, 0, a3)), (4, (7, 0, 0))]) rfl ?_
      refine g_iconst ok (v := 1) rfl ?_
      exact g_ireturn ok rfl rfl (rfl)
-- L_led
theorem t_308 {X : gX} (ok : gOK X) (hX : gHX X) (d : Nat) (a0 : Nat) (a1 : Int) (a2 : Int) (a3 : Nat) (s : gS) : Go X em_308 308 (d + 2) 0 [] [(0, (27, 0, a0)), (1, (0, a1, 0)), (2, (0, a2, 0)), (3, (125, 0, a3))] [] s 0 0 (f_308 a0 a1 a2 a3 s) some := by
  delta f_308
  refine g_rb gs_308 0 (cd' := gb_308_0) rfl rfl ?_
  refine g_aload_n ok rfl rfl ?_
  refine g_iconst ok (v := 0) rfl ?_
  refine g_aload_n ok rfl rfl ?_
  refine g_iload_n ok rfl ?_
  refine g_iload_n ok rfl ?_
  refine g_cvc ok (me_127 hX) rfl rfl rfl (Or.inl rfl) (by decide) (t_127 ok hX _ a0 a1 a2 s) (fun v2 s1 hb => ?_) (fun k s1 r => ?_)
  · refine g_i2l ok ?_
    refine g_lastore ok (n := 1) rfl rfl (fun _ _ => ?_)
    let s3 : gS := gw s1 a3 (0 : Int).toNat v2
    refine g_goto ok rfl ?_
    refine g_rb gs_308 2 (cd' := gb_308_17) rfl rfl ?_
    refine g_iconst ok (v := 0) rfl ?_
    exact g_ireturn ok rfl rfl (rfl)
  · refine g_kxc (c := 3) (h := 13) rfl rfl ?_ (g_kxn)
    · refine g_rb gs_308 1 (cd' := gb_308_13) rfl rfl ?_
      refine g_astore ok rfl rfl (L' := [(0, (27, 0, a0)), (1, (0, a1, 0)), (2, (0, a2, 0)), (3, (125, 0, a3)), (4, (7, 0, 0))]) rfl ?_
      refine g_iconst ok (v := 1) rfl ?_
      exact g_ireturn ok rfl rfl (rfl)
-- L_log
theorem t_309 {X : gX} (ok : gOK X) (hX : gHX X) (d : Nat) (a0 : Nat) (a1 : Int) (a2 : Int) (a3 : Nat) (s : gS) : Go X em_309 309 (d + 2) 0 [] [(0, (27, 0, a0)), (1, (0, a1, 0)), (2, (0, a2, 0)), (3, (125, 0, a3))] [] s 0 0 (f_309 a0 a1 a2 a3 s) some := by
  delta f_309
  refine g_rb gs_309 0 (cd' := gb_309_0) rfl rfl ?_
  refine g_aload_n ok rfl rfl ?_
  refine g_iconst ok (v := 0) rfl ?_
  refine g_aload_n ok rfl rfl ?_
  refine g_iload_n ok rfl ?_
  refine g_iload_n ok rfl ?_
  refine g_cvc ok (me_128 hX) rfl rfl rfl (Or.inl rfl) (by decide) (t_128 ok hX _ a0 a1 a2 s) (fun v2 s1 hb => ?_) (fun k s1 r => ?_)
  · refine g_i2l ok ?_
    refine g_lastore ok (n := 1) rfl rfl (fun _ _ => ?_)
    let s3 : gS := gw s1 a3 (0 : Int).toNat v2
    refine g_goto ok rfl ?_
    refine g_rb gs_309 2 (cd' := gb_309_17) rfl rfl ?_
    refine g_iconst ok (v := 0) rfl ?_
    exact g_ireturn ok rfl rfl (rfl)
  · refine g_kxc (c := 2) (h := 13) rfl rfl ?_ (g_kxn)
    · refine g_rb gs_309 1 (cd' := gb_309_13) rfl rfl ?_
      refine g_astore ok rfl rfl (L' := [(0, (27, 0, a0)), (1, (0, a1, 0)), (2, (0, a2, 0)), (3, (125, 0, a3)), (4, (7, 0, 0))]) rfl ?_
      refine g_iconst ok (v := 1) rfl ?_
      exact g_ireturn ok rfl rfl (rfl)
