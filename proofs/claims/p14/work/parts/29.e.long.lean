theorem c_225 {p : gP} {a0 : Nat} {a1 : Int} {s : gS} (hp : -1 ≤ p.1 ∧ p.1 ≤ 0) (h : J p s) (t0 : T 12 a0) (r1 : 0 ≤ a1 ∧ a1 ≤ 5) : gT (f_225 a0 a1 s) (fun r => r.1 = 0 ∧ J p r.2.2.2 ∧ ∀ i : Nat, i < 31000 → gI r.2.2.2 228 i = -1) := by
  unfold f_225
  refine gT_v0 (A := fun u9 => J p u9) (d_185 hp h t0) (fun s1 h1 => ?_)
  have hJ2 := h1
  refine gT_loop (fun y => T 12 y.1 ∧ (0 ≤ y.2.1 ∧ y.2.1 ≤ 5) ∧ (0 ≤ y.2.2.1 ∧ y.2.2.1 ≤ 30) ∧ y.2.1 = a1 ∧ J p y.2.2.2) (fun y => (30 - y.2.2.1).toNat) (fun y hy => ?_) ?_
  · obtain ⟨x0, x1, x2, s⟩ := y
    obtain ⟨t3, r4, r5, e6, hJ7⟩ := hy
    dsimp only at t3 r4 r5 e6 hJ7
    show gT (sb_225_6 x0 x1 x2 s) _
    unfold sb_225_6
    extract_lets -merge s3
    refine gT_ite (fun h8 => ?_) (fun h9 => ?_)
    · refine gT_chk (by omega) (by omega) ?_
      have hJ10 : J p s3 := (J_wmo hJ7 hJ7 t3 (by decide))
      refine gT_v1 (A := fun w9 u9 => True ∧ J p u9) (d_202 hp hJ10 t3 (show (0 : Int) ≤ 1 ∧ 1 ≤ 200 by constructor <;> omega) (show (0 : Int) ≤ 0 ∧ 0 ≤ 1 by constructor <;> omega)) (fun v5 s4 h11 => ?_)
      obtain ⟨h11r, hJ12⟩ := h11
      exact gT_ret ⟨⟨t3, (show (0 : Int) ≤ x1 ∧ x1 ≤ 5 by constructor <;> omega), (show (0 : Int) ≤ (g32 (x2 + 1)) ∧ (g32 (x2 + 1)) ≤ 30 by have := g32_eq (v := (x2 + 1)) (by omega) (by omega); constructor <;> omega), (by first | assumption | omega | (dsimp only; omega)), hJ12⟩, by dsimp only; have := g32_eq (v := (x2 + 1)) (by omega) (by omega); omega⟩
    · refine gT_map ?_
      refine gT_v0 (A := fun u9 => J p u9) (d_186 hp hJ7 t3) (fun s6 h13 => ?_)
      have hJ14 := h13
      refine gT_v1 (A := fun w9 u9 => (0 ≤ w9 ∧ w9 ≤ 8) ∧ J p u9) (d_156_3 hp hJ14 t3 (show (0 : Int) ≤ x1 ∧ x1 ≤ 5 by constructor <;> omega)) (fun v9 s8 h15 => ?_)
      obtain ⟨h15r, hJ16⟩ := h15
      refine gT_v1 (A := fun w9 u9 => True ∧ J p u9) (d_156_4 hp hJ16 t3 (show (0 : Int) ≤ x1 ∧ x1 ≤ 5 by constructor <;> omega)) (fun v11 s10 h17 => ?_)
      obtain ⟨h17r, hJ18⟩ := h17
      refine gT_loop (fun y => T 12 y.1 ∧ (0 ≤ y.2.1 ∧ y.2.1 ≤ 8) ∧ (0 ≤ y.2.2.2.1 ∧ y.2.2.2.1 ≤ 30) ∧ J p y.2.2.2.2) (fun y => (30 - y.2.2.2.1).toNat) (fun y hy => ?_) ?_
      · obtain ⟨x0, x2, x3, x4, s⟩ := y
        obtain ⟨t19, r20, r21, hJ22⟩ := hy
        dsimp only at t19 r20 r21 hJ22
        show gT (sb_225_59 x0 x2 x3 x4 s) _
        unfold sb_225_59
        extract_lets -merge s12
        refine gT_ite (fun h23 => ?_) (fun h24 => ?_)
        · refine gT_chk (by omega) (by omega) ?_
          have hJ25 : J p s12 := (J_wmo hJ22 hJ22 t19 (by decide))
          refine gT_ite (fun h26 => ?_) (fun h27 => ?_)
          · have := rd_T (a := (gR s12 x0 1)) (k := 3) (show s12 = (gw s (gR s x0 21) (x4 : Int).toNat 0) from rfl) (T_f (i := 1) hJ25 t19 (by decide) rfl rfl) (T_f (i := 21) hJ22 t19 (by decide) rfl rfl) (by decide)
            have := J_m (k := 3) hJ22 hJ25 t19 rfl
            unfold fb_225_90
            refine gT_ite (fun h28 => ?_) (fun h29 => ?_)
            · have := rd_T (a := (gR s12 x0 1)) (k := 3) (show s12 = (gw s (gR s x0 21) (x4 : Int).toNat 0) from rfl) (T_f (i := 1) hJ25 t19 (by decide) rfl rfl) (T_f (i := 21) hJ22 t19 (by decide) rfl rfl) (by decide)
              have := J_m (k := 3) hJ22 hJ25 t19 rfl
              refine gT_v1 (A := fun w9 u9 => True ∧ J p u9) (d_155 hp hJ25 t19 (show (0 : Int) ≤ x2 ∧ x2 ≤ 8 by constructor <;> omega) (show (0 : Int) ≤ 0 ∧ 0 ≤ 2 by constructor <;> omega)) (fun v14 s13 h30 => ?_)
              obtain ⟨h30r, hJ31⟩ := h30
              refine gT_ite (fun h32 => ?_) (fun h33 => ?_)
              · unfold fb_225_130
                extract_lets -merge s15 s16
                refine gT_chk (by omega) (by omega) ?_
                have hJ34 : J p s15 := (J_wmo hJ31 hJ31 t19 (by decide))
                refine gT_chk (by omega) (by omega) ?_
                have hJ35 : J p s16 := (J_wmo hJ34 hJ34 t19 (by decide))
                exact gT_ret ⟨⟨t19, (show (0 : Int) ≤ x2 ∧ x2 ≤ 8 by constructor <;> omega), (show (0 : Int) ≤ (g32 (x4 + 1)) ∧ (g32 (x4 + 1)) ≤ 30 by have := g32_eq (v := (x4 + 1)) (by omega) (by omega); constructor <;> omega), hJ35⟩, by dsimp only; have := g32_eq (v := (x4 + 1)) (by omega) (by omega); omega⟩
              · refine gT_v1 (A := fun w9 u9 => (0 ≤ w9 ∧ w9 ≤ 50) ∧ J p u9) (d_155_2 hp hJ31 t19 (show (0 : Int) ≤ x2 ∧ x2 ≤ 7 by constructor <;> omega)) (fun v18 s17 h36 => ?_)
                obtain ⟨h36r, hJ37⟩ := h36
                extract_lets -merge s19
                refine gT_chk (by omega) (by omega) ?_
                have hJ38 : J p s19 := (J_wmo hJ37 hJ31 t19 (by decide))
                unfold fb_225_130
                extract_lets -merge s15 s16
                refine gT_chk (by omega) (by omega) ?_
                have hJ39 : J p s15 := (J_wmo hJ38 hJ38 t19 (by decide))
                refine gT_chk (by omega) (by omega) ?_
                have hJ40 : J p s16 := (J_wmo hJ39 hJ39 t19 (by decide))
                exact gT_ret ⟨⟨t19, (show (0 : Int) ≤ (g32 (x2 + 1)) ∧ (g32 (x2 + 1)) ≤ 8 by have := g32_eq (v := (x2 + 1)) (by omega) (by omega); constructor <;> omega), (show (0 : Int) ≤ (g32 (x4 + 1)) ∧ (g32 (x4 + 1)) ≤ 30 by have := g32_eq (v := (x4 + 1)) (by omega) (by omega); constructor <;> omega), hJ40⟩, by dsimp only; have := g32_eq (v := (x4 + 1)) (by omega) (by omega); omega⟩
            · have := rd_T (a := (gR s12 x0 1)) (k := 3) (show s12 = (gw s (gR s x0 21) (x4 : Int).toNat 0) from rfl) (T_f (i := 1) hJ25 t19 (by decide) rfl rfl) (T_f (i := 21) hJ22 t19 (by decide) rfl rfl) (by decide)
              have := J_m (k := 3) hJ22 hJ25 t19 rfl
              unfold fb_225_130
              extract_lets -merge s15 s16
              refine gT_chk (by omega) (by omega) ?_
              have hJ41 : J p s15 := (J_wmo hJ25 hJ25 t19 (by decide))
              refine gT_chk (by omega) (by omega) ?_
              have hJ42 : J p s16 := (J_wmo hJ41 hJ41 t19 (by decide))
              exact gT_ret ⟨⟨t19, (show (0 : Int) ≤ x2 ∧ x2 ≤ 8 by constructor <;> omega), (show (0 : Int) ≤ (g32 (x4 + 1)) ∧ (g32 (x4 + 1)) ≤ 30 by have := g32_eq (v := (x4 + 1)) (by omega) (by omega); constructor <;> omega), hJ42⟩, by dsimp only; have := g32_eq (v := (x4 + 1)) (by omega) (by omega); omega⟩
          · have := rd_T (a := (gR s12 x0 1)) (k := 3) (show s12 = (gw s (gR s x0 21) (x4 : Int).toNat 0) from rfl) (T_f (i := 1) hJ25 t19 (by decide) rfl rfl) (T_f (i := 21) hJ22 t19 (by decide) rfl rfl) (by decide)
            have := J_m (k := 3) hJ22 hJ25 t19 rfl
            unfold fb_225_90
            refine gT_ite (fun h43 => ?_) (fun h44 => ?_)
            · have := rd_T (a := (gR s12 x0 1)) (k := 3) (show s12 = (gw s (gR s x0 21) (x4 : Int).toNat 0) from rfl) (T_f (i := 1) hJ25 t19 (by decide) rfl rfl) (T_f (i := 21) hJ22 t19 (by decide) rfl rfl) (by decide)
              have := J_m (k := 3) hJ22 hJ25 t19 rfl
              refine gT_v1 (A := fun w9 u9 => True ∧ J p u9) (d_155 hp hJ25 t19 (show (0 : Int) ≤ x2 ∧ x2 ≤ 8 by constructor <;> omega) (show (0 : Int) ≤ 0 ∧ 0 ≤ 2 by constructor <;> omega)) (fun v14 s13 h45 => ?_)
              obtain ⟨h45r, hJ46⟩ := h45
              refine gT_ite (fun h47 => ?_) (fun h48 => ?_)
              · unfold fb_225_130
                extract_lets -merge s15 s16
                refine gT_chk (by omega) (by omega) ?_
                have hJ49 : J p s15 := (J_wmo hJ46 hJ46 t19 (by decide))
                refine gT_chk (by omega) (by omega) ?_
                have hJ50 : J p s16 := (J_wmo hJ49 hJ49 t19 (by decide))
                exact gT_ret ⟨⟨t19, (show (0 : Int) ≤ x2 ∧ x2 ≤ 8 by constructor <;> omega), (show (0 : Int) ≤ (g32 (x4 + 1)) ∧ (g32 (x4 + 1)) ≤ 30 by have := g32_eq (v := (x4 + 1)) (by omega) (by omega); constructor <;> omega), hJ50⟩, by dsimp only; have := g32_eq (v := (x4 + 1)) (by omega) (by omega); omega⟩
              · refine gT_v1 (A := fun w9 u9 => (0 ≤ w9 ∧ w9 ≤ 50) ∧ J p u9) (d_155_2 hp hJ46 t19 (show (0 : Int) ≤ x2 ∧ x2 ≤ 7 by constructor <;> omega)) (fun v18 s17 h51 => ?_)
                obtain ⟨h51r, hJ52⟩ := h51
                extract_lets -merge s19
                refine gT_chk (by omega) (by omega) ?_
                have hJ53 : J p s19 := (J_wmo hJ52 hJ46 t19 (by decide))
                unfold fb_225_130
                extract_lets -merge s15 s16
                refine gT_chk (by omega) (by omega) ?_
                have hJ54 : J p s15 := (J_wmo hJ53 hJ53 t19 (by decide))
                refine gT_chk (by omega) (by omega) ?_
                have hJ55 : J p s16 := (J_wmo hJ54 hJ54 t19 (by decide))
                exact gT_ret ⟨⟨t19, (show (0 : Int) ≤ (g32 (x2 + 1)) ∧ (g32 (x2 + 1)) ≤ 8 by have := g32_eq (v := (x2 + 1)) (by omega) (by omega); constructor <;> omega), (show (0 : Int) ≤ (g32 (x4 + 1)) ∧ (g32 (x4 + 1)) ≤ 30 by have := g32_eq (v := (x4 + 1)) (by omega) (by omega); constructor <;> omega), hJ55⟩, by dsimp only; have := g32_eq (v := (x4 + 1)) (by omega) (by omega); omega⟩
            · have := rd_T (a := (gR s12 x0 1)) (k := 3) (show s12 = (gw s (gR s x0 21) (x4 : Int).toNat 0) from rfl) (T_f (i := 1) hJ25 t19 (by decide) rfl rfl) (T_f (i := 21) hJ22 t19 (by decide) rfl rfl) (by decide)
              have := J_m (k := 3) hJ22 hJ25 t19 rfl
              unfold fb_225_130
              extract_lets -merge s15 s16
              refine gT_chk (by omega) (by omega) ?_
              have hJ56 : J p s15 := (J_wmo hJ25 hJ25 t19 (by decide))
              refine gT_chk (by omega) (by omega) ?_
              have hJ57 : J p s16 := (J_wmo hJ56 hJ56 t19 (by decide))
              exact gT_ret ⟨⟨t19, (show (0 : Int) ≤ x2 ∧ x2 ≤ 8 by constructor <;> omega), (show (0 : Int) ≤ (g32 (x4 + 1)) ∧ (g32 (x4 + 1)) ≤ 30 by have := g32_eq (v := (x4 + 1)) (by omega) (by omega); constructor <;> omega), hJ57⟩, by dsimp only; have := g32_eq (v := (x4 + 1)) (by omega) (by omega); omega⟩
        · refine gT_map ?_
          refine gT_loop (fun y => T 12 y.1 ∧ (0 ≤ y.2.1 ∧ y.2.1 ≤ 31000) ∧ J p y.2.2 ∧ ∀ i : Nat, (i : Int) < y.2.1 → gI y.2.2 228 i = -1) (fun y => (31000 - y.2.1).toNat) (fun y hy => ?_) ?_
          · obtain ⟨x0, x4, s⟩ := y
            obtain ⟨t58, r59, hJ60, hm⟩ := hy
            dsimp only at t58 r59 hJ60 hm
            show gT (sb_225_155 x0 x4 s) _
            unfold sb_225_155
            extract_lets -merge s20
            refine gT_ite (fun h61 => ?_) (fun h62 => ?_)
            · refine gT_chk (by omega) (by omega) ?_
              have hJ63 : J p s20 := (J_wa hJ60 (T_f (i := 22) hJ60 t58 (by decide) rfl rfl) rfl)
              exact gT_ret ⟨⟨t58, (show (0 : Int) ≤ (g32 (x4 + 1)) ∧ (g32 (x4 + 1)) ≤ 31000 by have := g32_eq (v := (x4 + 1)) (by omega) (by omega); constructor <;> omega), hJ63, fun i hi => by
                dsimp only at hi
                have hg := g32_eq (v := (x4 + 1)) (by omega) (by omega)
                have e20 : s20 = gw s 228 x4.toNat (-1) := by
                  show gw s (gR s x0 22) _ _ = _
                  rw [T_12 t58, (r_on hJ60).2.2.2.2]
                dsimp only
                by_cases e : i = x4.toNat
                · rw [e]; exact rd_same e20
                · rw [rd_k (a := 228) (k := i) e20 e]; exact hm i (by omega)⟩, by dsimp only; have := g32_eq (v := (x4 + 1)) (by omega) (by omega); omega⟩
            · refine gT_map ?_
              exact gT_ret ⟨rfl, hJ60, fun i hi => hm i (by omega)⟩
          · exact ⟨t19, (show (0 : Int) ≤ 0 ∧ 0 ≤ 31000 by constructor <;> omega), hJ22, fun i hi => by dsimp only at hi; omega⟩
      · exact ⟨t3, (show (0 : Int) ≤ v9 ∧ v9 ≤ 8 by constructor <;> omega), (show (0 : Int) ≤ 0 ∧ 0 ≤ 30 by constructor <;> omega), hJ18⟩
  · exact ⟨t0, (show (0 : Int) ≤ a1 ∧ a1 ≤ 5 by constructor <;> omega), (show (0 : Int) ≤ 0 ∧ 0 ≤ 30 by constructor <;> omega), rfl, hJ2⟩
section Lo
variable {p : gP} {g s : gS} {a0 : Nat} {x : Int}
theorem Iv_0 (h : J p s) (hm : ∀ i : Nat, i < 31000 → gI s 228 i = -1) : Iv p s x s := ⟨h, Em_r h, fun j t n h1 h2 h3 h4 => Or.inl (hm _ (by omega))⟩
theorem l229_a {a2 : Int} (hp : -1 ≤ p.1 ∧ p.1 ≤ 0) (hg : J p g) (ha : 0 ≤ a2 ∧ a2 ≤ 29) {t n : Int} (ht : 0 ≤ t ∧ t ≤ 99) (hn : 0 ≤ n ∧ n ≤ 9) (h : Iv p g x s) : gT (gloop st_229_93 (217, x, a2, t, n, 0, s)) (fun r => r.1 = 1 ∧ True ∧ J p r.2.2.2) := by
  refine gT_loop (fun y => (y.1 = 217 ∧ y.2.1 = x ∧ y.2.2.1 = a2) ∧ (0 ≤ y.2.2.2.1 ∧ y.2.2.2.1 ≤ 99) ∧ (0 ≤ y.2.2.2.2.1 ∧ y.2.2.2.2.1 ≤ 9) ∧ (0 ≤ y.2.2.2.2.2.1 ∧ y.2.2.2.2.2.1 ≤ 30) ∧ Iv p g x y.2.2.2.2.2.2) (fun y => (30 - y.2.2.2.2.2.1).toNat) (fun y hy => ?_) ⟨⟨rfl, rfl, rfl⟩, ht, hn, by dsimp only; omega, h⟩
  obtain ⟨x0, x1, x2, x3, x4, x5, z⟩ := y
  obtain ⟨⟨q0, q1, q2⟩, r3, r4, r5, hz⟩ := hy
  dsimp only at q0 q1 q2 r3 r4 r5 hz
  subst q0 q1 q2
  show gT (sb_229_93 217 x1 x2 x3 x4 x5 z) _
  unfold sb_229_93
  refine gT_ite (fun _ => gT_map (gT_ret ⟨rfl, trivial, hz.1⟩)) (fun hx => ?_)
  have r5' : 0 ≤ x5 ∧ x5 ≤ 29 := by omega
  obtain ⟨u0, hu0, hu1, hu2⟩ := k_ex (g := g) (x := x1) (i := (29 - x5).toNat) (t := x3) (n := x4) r4.1
  rw [show (29 - x5).toNat + 1 = (30 - x5).toNat by omega] at hu2
  refine gT_loop (fun y => (y.1 = 217 ∧ y.2.1 = x1 ∧ y.2.2.1 = x2 ∧ y.2.2.2.1 = x3 ∧ y.2.2.2.2.1 = x4 ∧ y.2.2.2.2.2.1 = x5) ∧ (0 ≤ y.2.2.2.2.2.2.1 ∧ y.2.2.2.2.2.2.1 ≤ u0) ∧ Iv p g x1 y.2.2.2.2.2.2.2) (fun y => (u0 - y.2.2.2.2.2.2.1).toNat) (fun y hy => ?_) ⟨⟨rfl, rfl, rfl, rfl, rfl, rfl⟩, by dsimp only; omega, hz⟩
  obtain ⟨y0, y1, y2, y3, y4, y5, y6, w⟩ := y
  obtain ⟨⟨q0, q1, q2, q3, q4, q5⟩, r6, hw⟩ := hy
  dsimp only at q0 q1 q2 q3 q4 q5 r6 hw
  subst q0 q1 q2 q3 q4 q5
  show gT (sb_229_102 217 y1 y2 y3 y4 y5 y6 w) _
  unfold sb_229_102
  refine gT_v1 (A := fun v o => v = kU g y1 (29 - y5).toNat y3 y4 y6 ∧ Iv p g y1 o) (z_227 hp hg r5' r3 r4 (by omega) hw) (fun v17 s16 h16 => ?_)
  refine gT_v1 (A := fun v o => v = kV g y1 (30 - y5).toNat y3 y4 ∧ Iv p g y1 o) (z_226 hp hg (by omega) r3 r4 h16.2) (fun v19 s18 h18 => ?_)
  obtain ⟨e19, i18⟩ := h18
  have g6 := g32_eq (v := y6 + 1) (by omega) (by omega)
  refine gT_ite (fun _ => gT_map ?_) (fun hne => ?_)
  · refine gT_ite (fun _ => gT_map (gT_ret ⟨rfl, trivial, i18.1⟩)) (fun hk => ?_)
    refine gT_v1 (A := fun v o => o = s18) (gT_mono e_151 (fun r hr => ⟨hr.1, hr.2.2⟩)) (fun v21 s20 e20 => ?_)
    subst e20
    have g7 := g32_eq (v := y4 - y6) (by omega) (by omega)
    rw [g7]
    refine gT_v1 (A := fun v o => v = bv g y1 y5 v21 (y4 - y6) ∧ J p o ∧ Em g o ∧ ∀ k, gI o 228 k = gI s20 228 k) (w_228 hp hg i18.1 i18.2.1 r5') (fun v23 s22 h22 => ?_)
    obtain ⟨e23, j22, m22, k22⟩ := h22
    have rb := bv_r (g := g) (x := y1) (k := y5) (t := v21) (n := y4 - y6)
    rw [← e23] at rb
    have g8 := g32_eq (v := y5 + 1) (by omega) (by omega)
    refine gT_ite (fun _ => gT_map (gT_ret ⟨rfl, trivial, j22⟩)) (fun _ => ?_)
    exact gT_ret ⟨⟨⟨rfl, rfl, rfl⟩, rb, by dsimp only; omega, by dsimp only; omega, Iv_m i18 j22 m22 k22⟩, by dsimp only; omega⟩
  · have hlt : y6 < u0 := by
      by_cases e : y6 = u0
      · exfalso
        apply hne
        rw [h16.1, e19, e]
        exact hu2
      · omega
    exact gT_ret ⟨⟨⟨rfl, rfl, rfl, rfl, rfl, rfl⟩, by dsimp only; omega, i18⟩, by dsimp only; omega⟩
theorem d_229 {a1 a2 : Int} (hp : -1 ≤ p.1 ∧ p.1 ≤ 0) (h : J p s) (t0 : T 12 a0) : gT (f_229 a0 a1 a2 s) (fun r => r.1 = 1 ∧ True ∧ J p r.2.2.2) := by
  rw [T_12 t0]
  have hth : ∀ (w : Int) (z : gS), (0 < w ∨ (w = 0 ∧ (0 ≤ a1 ∧ a1 ≤ 5) ∧ (a2 = -1 ∨ (0 ≤ a2 ∧ a2 ≤ 29)))) → J p z → gT (fb_229_33 217 a1 a2 w 217 z) (fun r => r.1 = 1 ∧ True ∧ J p r.2.2.2) := by
    intro w z hw jz
    unfold fb_229_33
    extract_lets s4
    have j4 : J p s4 := J_wf jz t12 rfl (by decide) (by decide) (fun q hq => by cases hq)
    have e4 : gI s4 217 0 = w := rd_same (show s4 = gw z 217 0 w from rfl)
    refine gT_ite (fun _ => gT_ret ⟨rfl, trivial, j4⟩) (fun hn => ?_)
    have hw : (0 ≤ a1 ∧ a1 ≤ 5) ∧ (a2 = -1 ∨ (0 ≤ a2 ∧ a2 ≤ 29)) := by omega
    clear_value s4
    refine gT_v1 (A := fun v u => (0 ≤ v ∧ v ≤ 1) ∧ J p u) (d_165 hp j4 t12 hw.1) (fun v6 s5 h5 => ?_)
    refine gT_ite (fun _ => gT_ret ⟨rfl, trivial, h5.2⟩) (fun _ => ?_)
    refine gT_v0 (A := fun u => J p u ∧ ∀ i : Nat, i < 31000 → gI u 228 i = -1) (c_225 hp h5.2 t12 hw.1) (fun s8 h8 => ?_)
    have iv := Iv_0 (x := a1) h8.1 h8.2
    refine gT_v1 (A := fun v u => (0 ≤ v ∧ v ≤ 99) ∧ u = s8) (gT_mono (c_156 h8.1 t12 hw.1 (by decide)) (fun r hr => ⟨hr.1, hr.2.1.1 rfl, hr.2.2.2⟩)) (fun v11 s10 h10 => ?_)
    obtain ⟨r11, e10⟩ := h10
    subst e10
    refine gT_v1 (A := fun v u => (0 ≤ v ∧ v ≤ 9) ∧ u = s10) (gT_mono (c_156 h8.1 t12 hw.1 (by decide)) (fun r hr => ⟨hr.1, hr.2.1.2.1 rfl, hr.2.2.2⟩)) (fun v13 s12 h12 => ?_)
    obtain ⟨r13, e12⟩ := h12
    subst e12
    refine gT_ite (fun _ => ?_) (fun hk => ?_)
    · refine gT_v1 (A := fun v u => v = kV s12 a1 (30 - (0 : Int)).toNat v11 v13 ∧ Iv p s12 a1 u) (z_226 hp h8.1 (by decide) r11 r13 iv) (fun v15 s14 h14 => ?_)
      exact gT_ret ⟨rfl, trivial, h14.2.1⟩
    · exact l229_a hp h8.1 (by omega) r11 r13 iv
  unfold f_229
  refine gT_v1 (A := fun v u => (v = 1 → 0 ≤ a1 ∧ a1 ≤ 5) ∧ (0 ≤ v ∧ v ≤ 1) ∧ J p u) (d_162 hp h t12) (fun v2 s1 h1 => ?_)
  refine gT_ite (fun _ => hth _ _ (Or.inl (by decide)) h1.2.2) (fun hn => ?_)
  have r1 := h1.1 (by omega)
  refine gT_ite (fun hk => hth _ _ (Or.inr ⟨rfl, r1, Or.inl hk⟩) h1.2.2) (fun hk => ?_)
  refine gT_v1 (A := fun v u => ((v = 1 ∧ 0 ≤ a2 ∧ a2 ≤ 29) ∨ (v = 0 ∧ (a2 < 0 ∨ 29 < a2))) ∧ u = s1) e_150 (fun v25 s24 h24 => ?_)
  obtain ⟨r25, e24⟩ := h24
  subst e24
  exact gT_ite (fun _ => hth _ _ (Or.inl (by decide)) h1.2.2) (fun hn => hth _ _ (Or.inr ⟨rfl, r1, Or.inr (by omega)⟩) h1.2.2)
theorem d_230 {a1 a2 : Int} (hp : -1 ≤ p.1 ∧ p.1 ≤ 0) (h : J p s) (t0 : T 12 a0) : gT (f_230 a0 a1 a2 s) (fun r => r.1 = 1 ∧ True ∧ J p r.2.2.2) := by
  rw [T_12 t0]
  have hth : ∀ (w : Int) (z : gS), (0 < w ∨ (w = 0 ∧ (0 ≤ a1 ∧ a1 ≤ 5))) → J p z → gT (fb_230_28 217 a1 a2 w 217 z) (fun r => r.1 = 1 ∧ True ∧ J p r.2.2.2) := by
    intro w z hw jz
    unfold fb_230_28
    extract_lets s4
    have j4 : J p s4 := J_wf jz t12 rfl (by decide) (by decide) (fun q hq => by cases hq)
    have e4 : gI s4 217 0 = w := rd_same (show s4 = gw z 217 0 w from rfl)
    refine gT_ite (fun _ => gT_ret ⟨rfl, trivial, j4⟩) (fun hn => ?_)
    have hw : (0 ≤ a1 ∧ a1 ≤ 5) := by omega
    clear_value s4
    refine gT_v1 (A := fun v u => (0 ≤ v ∧ v ≤ 1) ∧ J p u) (d_165 hp j4 t12 hw) (fun v6 s5 h5 => ?_)
    refine gT_ite (fun _ => gT_ret ⟨rfl, trivial, h5.2⟩) (fun _ => ?_)
    refine gT_v0 (A := fun u => J p u ∧ ∀ i : Nat, i < 31000 → gI u 228 i = -1) (c_225 hp h5.2 t12 hw) (fun s8 h8 => ?_)
    have iv := Iv_0 (x := a1) h8.1 h8.2
    refine gT_loop (fun y => (y.1 = 217 ∧ y.2.1 = a1 ∧ y.2.2.1 = a2) ∧ (0 ≤ y.2.2.2.1 ∧ y.2.2.2.1 ≤ 10) ∧ Iv p s8 a1 y.2.2.2.2) (fun y => (10 - y.2.2.2.1).toNat) (fun y hy => ?_) ⟨⟨rfl, rfl, rfl⟩, by dsimp only; omega, iv⟩
    obtain ⟨x0, x1, x2, x3, u⟩ := y
    obtain ⟨⟨q0, q1, q2⟩, r3, iu⟩ := hy
    dsimp only at q0 q1 q2 r3 iu
    subst q0 q1 q2
    have g1 := g32_eq (v := x3 + 1) (by omega) (by omega)
    show gT (sb_230_57 217 x1 x2 x3 u) _
    unfold sb_230_57
    refine gT_ite (fun _ => gT_map (gT_ret ⟨rfl, trivial, iu.1⟩)) (fun _ => ?_)
    refine gT_v1 (A := fun v o => (0 ≤ v ∧ v ≤ 99) ∧ o = u) (gT_mono (c_156 iu.1 t12 hw (by decide)) (fun r hr => ⟨hr.1, hr.2.1.1 rfl, hr.2.2.2⟩)) (fun v11 s10 h10 => ?_)
    obtain ⟨r11, e10⟩ := h10
    subst e10
    refine gT_v1 (A := fun v o => v = kV s8 x1 (30 - (0 : Int)).toNat v11 x3 ∧ Iv p s8 x1 o) (z_226 hp h8.1 (by decide) r11 (by omega) iu) (fun v13 s12 h12 => ?_)
    exact gT_ite (fun _ => gT_ret ⟨⟨⟨rfl, rfl, rfl⟩, by dsimp only; omega, h12.2⟩, by dsimp only; omega⟩) (fun _ => gT_map (gT_ret ⟨rfl, trivial, h12.2.1⟩))
  unfold f_230
  refine gT_v1 (A := fun v u => (v = 1 → 0 ≤ a1 ∧ a1 ≤ 5) ∧ (0 ≤ v ∧ v ≤ 1) ∧ J p u) (d_162 hp h t12) (fun v2 s1 h1 => ?_)
  refine gT_ite (fun _ => hth _ _ (Or.inl (by decide)) h1.2.2) (fun hn => ?_)
  have r1 := h1.1 (by omega)
  refine gT_v1 (A := fun v u => ((v = 1 ∧ 1 ≤ a2 ∧ a2 ≤ 30) ∨ (v = 0 ∧ (a2 < 1 ∨ 30 < a2))) ∧ u = s1) e_150 (fun v25 s24 h24 => ?_)
  obtain ⟨r25, e24⟩ := h24
  subst e24
  exact gT_ite (fun _ => hth _ _ (Or.inl (by decide)) h1.2.2) (fun hn => hth _ _ (Or.inr ⟨rfl, r1⟩) h1.2.2)
end Lo
