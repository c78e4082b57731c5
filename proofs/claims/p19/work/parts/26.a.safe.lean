-- X3_turnOf
theorem d_34 {p : gP} {a0 : Nat} {a1 : Int} {a2 : Nat} {a3 : Nat} {s : gS} (hp : -1 ≤ p.1 ∧ p.1 ≤ 0) (h : J p s) (t0 : T 3 a0) (t2 : T 0 a2) (t3 : T 2 a3) (r1 : 0 ≤ a1 ∧ a1 ≤ 5) : gT (f_34 a0 a1 a2 a3 s) (fun r => r.1 = 1 ∧ True ∧ J p r.2.2.2) := by
  unfold f_34
  refine gT_chk (by omega) (by omega) ?_
  refine gT_v0 (A := fun u9 => J p u9) (d_35 hp h t0 (T_man (i := (a1 : Int).toNat) h (T_f (i := 0) h t3 (by decide) rfl rfl) (by omega))) (fun s1 h1 => ?_)
  have hJ2 := h1
  refine gT_v0 (A := fun u9 => J p u9) (d_36 hp hJ2 t0) (fun s3 h3 => ?_)
  have hJ4 := h3
  refine gT_v1 (A := fun w9 u9 => True ∧ J p u9) (d_37 hp hJ4 t0 (J_law hJ4 t2)) (fun v6 s5 h5 => ?_)
  obtain ⟨h5r, hJ6⟩ := h5
  exact gT_ret ⟨rfl, trivial, hJ6⟩
-- X2_passDayOf
theorem d_28 {p : gP} {a0 : Nat} {a1 : Int} {a2 : Nat} {a3 : Nat} {s : gS} (hp : -1 ≤ p.1 ∧ p.1 ≤ 0) (h : J p s) (t0 : T 2 a0) (t2 : T 0 a2) (t3 : T 3 a3) (r1 : 0 ≤ a1 ∧ a1 ≤ 5) : gT (f_28 a0 a1 a2 a3 s) (fun r => r.1 = 0 ∧ J p r.2.2.2) := by
  unfold f_28
  extract_lets -merge v1
  refine gT_chk (by omega) (by omega) ?_
  have hT1 : T 7 v1 := (T_man (i := (a1 : Int).toNat) h (T_f (i := 0) h t0 (by decide) rfl rfl) (by omega))
  refine gT_ite (fun h2 => ?_) (fun h3 => ?_)
  · refine gT_ite (fun h4 => ?_) (fun h5 => ?_)
    · have := J_f (i := 3) h hT1 rfl (by decide) rfl
      have := J_f (i := 5) h t2 rfl (by decide) rfl
      refine gT_chk (by have := J_f (i := 3) h hT1 rfl (by decide) rfl; omega) (by have := J_f (i := 3) h hT1 rfl (by decide) rfl; omega) ?_
      refine gT_v0 (A := fun u9 => J p u9) (d_26 hp h t0) (fun s2 h6 => ?_)
      have hJ7 := h6
      unfold fb_28_42
      refine gT_v1 (A := fun w9 u9 => True ∧ J p u9) (d_61 hp hJ7 hT1 t2) (fun v5 s4 h8 => ?_)
      obtain ⟨h8r, hJ9⟩ := h8
      refine gT_v0 (A := fun u9 => J p u9) (d_60 hp hJ9 hT1) (fun s6 h10 => ?_)
      have hJ11 := h10
      refine gT_v1 (A := fun w9 u9 => True ∧ J p u9) (d_34 hp hJ11 t3 t2 t0 (show (0 : Int) ≤ a1 ∧ a1 ≤ 5 by constructor <;> omega)) (fun v9 s8 h12 => ?_)
      obtain ⟨h12r, hJ13⟩ := h12
      refine gT_v0 (A := fun u9 => J p u9) (d_60 hp hJ13 hT1) (fun s10 h14 => ?_)
      have hJ15 := h14
      extract_lets -merge s12
      refine gT_ite (fun h16 => ?_) (fun h17 => ?_)
      · have := J_f (i := 0) hJ15 hT1 rfl (by decide) rfl
        have hJ18 : J p s12 := (J_wf hJ15 hT1 rfl (by decide) (by decide) (fun q hq => by cases hq))
        exact gT_ret ⟨rfl, hJ18⟩
      · have := J_f (i := 0) hJ15 hT1 rfl (by decide) rfl
        exact gT_ret ⟨rfl, hJ15⟩
    · have := J_f (i := 3) h hT1 rfl (by decide) rfl
      have := J_f (i := 5) h t2 rfl (by decide) rfl
      unfold fb_28_42
      refine gT_v1 (A := fun w9 u9 => True ∧ J p u9) (d_61 hp h hT1 t2) (fun v5 s4 h19 => ?_)
      obtain ⟨h19r, hJ20⟩ := h19
      refine gT_v0 (A := fun u9 => J p u9) (d_60 hp hJ20 hT1) (fun s6 h21 => ?_)
      have hJ22 := h21
      refine gT_v1 (A := fun w9 u9 => True ∧ J p u9) (d_34 hp hJ22 t3 t2 t0 (show (0 : Int) ≤ a1 ∧ a1 ≤ 5 by constructor <;> omega)) (fun v9 s8 h23 => ?_)
      obtain ⟨h23r, hJ24⟩ := h23
      refine gT_v0 (A := fun u9 => J p u9) (d_60 hp hJ24 hT1) (fun s10 h25 => ?_)
      have hJ26 := h25
      extract_lets -merge s12
      refine gT_ite (fun h27 => ?_) (fun h28 => ?_)
      · have := J_f (i := 0) hJ26 hT1 rfl (by decide) rfl
        have hJ29 : J p s12 := (J_wf hJ26 hT1 rfl (by decide) (by decide) (fun q hq => by cases hq))
        exact gT_ret ⟨rfl, hJ29⟩
      · have := J_f (i := 0) hJ26 hT1 rfl (by decide) rfl
        exact gT_ret ⟨rfl, hJ26⟩
  · unfold fb_28_42
    refine gT_v1 (A := fun w9 u9 => True ∧ J p u9) (d_61 hp h hT1 t2) (fun v5 s4 h30 => ?_)
    obtain ⟨h30r, hJ31⟩ := h30
    refine gT_v0 (A := fun u9 => J p u9) (d_60 hp hJ31 hT1) (fun s6 h32 => ?_)
    have hJ33 := h32
    refine gT_v1 (A := fun w9 u9 => True ∧ J p u9) (d_34 hp hJ33 t3 t2 t0 (show (0 : Int) ≤ a1 ∧ a1 ≤ 5 by constructor <;> omega)) (fun v9 s8 h34 => ?_)
    obtain ⟨h34r, hJ35⟩ := h34
    refine gT_v0 (A := fun u9 => J p u9) (d_60 hp hJ35 hT1) (fun s10 h36 => ?_)
    have hJ37 := h36
    extract_lets -merge s12
    refine gT_ite (fun h38 => ?_) (fun h39 => ?_)
    · have := J_f (i := 0) hJ37 hT1 rfl (by decide) rfl
      have hJ40 : J p s12 := (J_wf hJ37 hT1 rfl (by decide) (by decide) (fun q hq => by cases hq))
      exact gT_ret ⟨rfl, hJ40⟩
    · have := J_f (i := 0) hJ37 hT1 rfl (by decide) rfl
      exact gT_ret ⟨rfl, hJ37⟩
-- X2_passDay
theorem d_27 {p : gP} {a0 : Nat} {a1 : Nat} {a2 : Nat} {a3 : Int} {s : gS} (hp : -1 ≤ p.1 ∧ p.1 ≤ 0) (h : J p s) (t0 : T 2 a0) (t1 : T 0 a1) (t2 : T 3 a2) : gT (f_27 a0 a1 a2 a3 s) (fun r => r.1 = 1 ∧ True ∧ J p r.2.2.2) := by
  unfold f_27
  refine gT_loop (fun y => T 2 y.1 ∧ T 0 y.2.1 ∧ T 3 y.2.2.1 ∧ (0 ≤ y.2.2.2.2.2.1 ∧ y.2.2.2.2.2.1 ≤ 6) ∧ y.2.2.2.1 = a3 ∧ J p y.2.2.2.2.2.2) (fun y => (6 - y.2.2.2.2.2.1).toNat) (fun y hy => ?_) ?_
  · obtain ⟨x0, x1, x2, x3, x4, x5, s⟩ := y
    obtain ⟨t1, t2, t3, r4, e5, hJ6⟩ := hy
    dsimp only at t1 t2 t3 r4 e5 hJ6
    show gT (sb_27_6 x0 x1 x2 x3 x4 x5 s) _
    unfold sb_27_6
    extract_lets -merge s3 v4
    refine gT_ite (fun h7 => ?_) (fun h8 => ?_)
    · have := J_f (i := 4) hJ6 t1 rfl (by decide) rfl
      refine gT_chk (by omega) (by omega) ?_
      refine gT_ite (fun h9 => ?_) (fun h10 => ?_)
      · refine gT_v0 (A := fun u9 => J p u9) (d_28 hp hJ6 t1 t2 t3 (show (0 : Int) ≤ x5 ∧ x5 ≤ 5 by constructor <;> omega)) (fun s1 h11 => ?_)
        have hJ12 := h11
        refine gT_chk (by omega) (by omega) ?_
        refine gT_ite (fun h13 => ?_) (fun h14 => ?_)
        · unfold fb_27_57
          exact gT_ret ⟨⟨t1, t2, t3, (show (0 : Int) ≤ (g32 (x5 + 1)) ∧ (g32 (x5 + 1)) ≤ 6 by have := g32_eq (v := (x5 + 1)) (by omega) (by omega); constructor <;> omega), (by first | assumption | omega | (dsimp only; omega)), hJ12⟩, by dsimp only; have := g32_eq (v := (x5 + 1)) (by omega) (by omega); omega⟩
        · unfold fb_27_57
          exact gT_ret ⟨⟨t1, t2, t3, (show (0 : Int) ≤ (g32 (x5 + 1)) ∧ (g32 (x5 + 1)) ≤ 6 by have := g32_eq (v := (x5 + 1)) (by omega) (by omega); constructor <;> omega), (by first | assumption | omega | (dsimp only; omega)), hJ12⟩, by dsimp only; have := g32_eq (v := (x5 + 1)) (by omega) (by omega); omega⟩
      · exact gT_ret ⟨⟨t1, t2, t3, (show (0 : Int) ≤ (g32 (x5 + 1)) ∧ (g32 (x5 + 1)) ≤ 6 by have := g32_eq (v := (x5 + 1)) (by omega) (by omega); constructor <;> omega), (by first | assumption | omega | (dsimp only; omega)), hJ6⟩, by dsimp only; have := g32_eq (v := (x5 + 1)) (by omega) (by omega); omega⟩
    · have := J_f (i := 4) hJ6 t1 rfl (by decide) rfl
      refine gT_map ?_
      have hJ15 : J p s3 := (J_wf hJ6 t1 rfl (by decide) (by decide) (fun q hq => by cases hq))
      have := rd_same (show s3 = (gw s x0 9 (g32 ((g32 (1103515245 * (gI s x0 9))) + 12345))) from rfl)
      have := gand_le (x := (gshr (gI s3 x0 9) 16)) (m := 32767) (by omega) (by omega)
      have hv16 : v4 = (gand (gshr (gI s3 x0 9) 16) 32767) := rfl
      refine gT_ite (fun h17 => ?_) (fun h18 => ?_)
      · have := grem_eq (x := v4) (c := 100) (by constructor <;> omega) (by decide)
        refine gT_v1 (A := fun w9 u9 => True ∧ J p u9) (d_29 hp hJ15 t1) (fun v6 s5 h19 => ?_)
        obtain ⟨h19r, hJ20⟩ := h19
        extract_lets -merge s8
        refine gT_ite (fun h21 => ?_) (fun h22 => ?_)
        · unfold fb_27_128
          extract_lets -merge s7
          have hJ23 : J p s7 := (J_wf hJ20 t1 rfl (by decide) (by decide) (fun q hq => by cases hq))
          exact gT_ret ⟨rfl, trivial, hJ23⟩
        · have hJ24 : J p s8 := (J_wf hJ20 t1 rfl (by decide) (by decide) (fun q hq => by cases hq))
          unfold fb_27_128
          extract_lets -merge s7
          have hJ25 : J p s7 := (J_wf hJ24 t1 rfl (by decide) (by decide) (fun q hq => by cases hq))
          exact gT_ret ⟨rfl, trivial, hJ25⟩
      · have := grem_eq (x := v4) (c := 100) (by constructor <;> omega) (by decide)
        unfold fb_27_128
        extract_lets -merge s7
        have hJ26 : J p s7 := (J_wf hJ15 t1 rfl (by decide) (by decide) (fun q hq => by cases hq))
        exact gT_ret ⟨rfl, trivial, hJ26⟩
  · exact ⟨t0, t1, t2, (show (0 : Int) ≤ 0 ∧ 0 ≤ 6 by constructor <;> omega), rfl, h⟩
-- X9_lookAt
theorem d_68 {p : gP} {a0 : Nat} {a1 : Int} {a2 : Nat} {a3 : Int} {s : gS} (hp : -1 ≤ p.1 ∧ p.1 ≤ 0) (h : J p s) (t0 : T 9 a0) (t2 : T 2 a2) (r1 : 0 ≤ a1 ∧ a1 ≤ 5) (r3 : 0 ≤ a3 ∧ a3 ≤ 30) : gT (f_68 a0 a1 a2 a3 s) (fun r => r.1 = 0 ∧ J p r.2.2.2) := by
  unfold f_68
  extract_lets -merge s1 s2 s3
  have hJ1 : J p s1 := (J_wf h t0 rfl (by decide) (by decide) (fun q hq => by cases hq))
  have hJ2 : J p s2 := (J_wf hJ1 t0 rfl (by decide) (by decide) (fun q hq => by cases hq; dsimp only; constructor <;> omega))
  have hJ3 : J p s3 := (J_wf hJ2 t0 rfl (by decide) (by decide) (fun q hq => by cases hq))
  refine gT_v0 (A := fun u9 => J p u9) (d_272 hp hJ3 (T_f (i := 7) hJ3 t0 (by decide) rfl rfl)) (fun s4 h4 => ?_)
  have hJ5 := h4
  refine gT_chk (by omega) (by omega) ?_
  refine gT_v0 (A := fun u9 => J p u9) (d_59 hp hJ5 (T_f (i := 2) hJ5 t0 (by decide) rfl rfl) (T_man (i := (a1 : Int).toNat) hJ5 (T_f (i := 0) hJ5 t2 (by decide) rfl rfl) (by omega))) (fun s6 h6 => ?_)
  have hJ7 := h6
  refine gT_loop (fun y => T 9 y.1 ∧ T 2 y.2.1 ∧ (0 ≤ y.2.2.1 ∧ y.2.2.1 ≤ 30) ∧ J p y.2.2.2) (fun y => (30 - y.2.2.1).toNat) (fun y hy => ?_) ?_
  · obtain ⟨x0, x2, x4, s⟩ := y
    obtain ⟨t8, t9, r10, hJ11⟩ := hy
    dsimp only at t8 t9 r10 hJ11
    show gT (sb_68_47 x0 x2 x4 s) _
    unfold sb_68_47
    extract_lets -merge s8
    refine gT_ite (fun h12 => ?_) (fun h13 => ?_)
    · have := J_f (i := 8) hJ11 t8 rfl (by decide) rfl
      refine gT_chk (by omega) (by omega) ?_
      have hJ14 : J p s8 := (J_wpl hJ11 hJ11 t8 (by decide))
      refine gT_v1 (A := fun w9 u9 => True ∧ J p u9) (d_27 hp hJ14 t9 (T_f (i := 1) hJ14 t8 (by decide) rfl rfl) (T_f (i := 0) hJ14 t8 (by decide) rfl rfl)) (fun v10 s9 h15 => ?_)
      obtain ⟨h15r, hJ16⟩ := h15
      refine gT_v1 (A := fun w9 u9 => True ∧ J p u9) (d_61 hp hJ16 (T_f (i := 2) hJ16 t8 (by decide) rfl rfl) (T_f (i := 1) hJ16 t8 (by decide) rfl rfl)) (fun v12 s11 h17 => ?_)
      obtain ⟨h17r, hJ18⟩ := h17
      extract_lets -merge s13 s14 s15
      refine gT_chk (by omega) (by omega) ?_
      have hJ19 : J p s13 := (J_wpl hJ18 hJ16 t8 (by decide))
      refine gT_chk (by omega) (by omega) ?_
      have hJ20 : J p s14 := (J_wat hJ19 hJ19 t8 (by have := rd_T (a := (gR s13 x0 2)) (k := 3) (show s13 = (gw s11 (gR s9 x0 6) (x4 : Int).toNat v12) from rfl) (T_f (i := 2) hJ19 t8 (by decide) rfl rfl) (T_f (i := 6) hJ16 t8 (by decide) rfl rfl) (by decide); have := J_f (i := 3) hJ18 (T_f (i := 2) hJ19 t8 (by decide) rfl rfl) rfl (by decide) rfl; constructor <;> omega))
      refine gT_chk (by omega) (by omega) ?_
      have hJ21 : J p s15 := (J_wpl hJ20 hJ20 t8 (by decide))
      exact gT_ret ⟨⟨t8, t9, (show (0 : Int) ≤ (g32 (x4 + 1)) ∧ (g32 (x4 + 1)) ≤ 30 by have := g32_eq (v := (x4 + 1)) (by omega) (by omega); constructor <;> omega), hJ21⟩, by dsimp only; have := g32_eq (v := (x4 + 1)) (by omega) (by omega); omega⟩
    · have := J_f (i := 8) hJ11 t8 rfl (by decide) rfl
      refine gT_map ?_
      exact gT_ret ⟨rfl, hJ11⟩
  · exact ⟨t0, t2, (show (0 : Int) ≤ 0 ∧ 0 ≤ 30 by constructor <;> omega), hJ7⟩
-- X9_trustBehind
theorem d_73 {p : gP} {a0 : Nat} {a1 : Int} {a2 : Int} {a3 : Int} {s : gS} (hp : -1 ≤ p.1 ∧ p.1 ≤ 0) (h : J p s) (t0 : T 9 a0) (r1 : 0 ≤ a1 ∧ a1 ≤ 29) (r2 : 0 ≤ a2 ∧ a2 ≤ 9) (r3 : 0 ≤ a3 ∧ a3 ≤ 99) : gT (f_73 a0 a1 a2 a3 s) (fun r => r.1 = 1 ∧ (0 ≤ r.2.1 ∧ r.2.1 ≤ 99) ∧ J p r.2.2.2) := by
  unfold f_73
  extract_lets -merge s1 s2 s3 s4
  have hJ1 : J p s1 := (J_wf h (T_f (i := 2) h t0 (by decide) rfl rfl) rfl (by decide) (by decide) (fun q hq => by cases hq; dsimp only; constructor <;> omega))
  have hJ2 : J p s2 := (J_wf hJ1 (T_f (i := 2) hJ1 t0 (by decide) rfl rfl) rfl (by decide) (by decide) (fun q hq => by cases hq; dsimp only; constructor <;> omega))
  refine gT_chk (by omega) (by omega) ?_
  have hJ3 : J p s3 := (J_wf hJ2 (T_f (i := 2) hJ2 t0 (by decide) rfl rfl) rfl (by decide) (by decide) (fun q hq => by cases hq; dsimp only; have := rd_T (a := (gR s2 a0 4)) (k := (a1 : Int).toNat) (show s2 = (gw s1 (gR s1 a0 2) 1 a2) from rfl) (T_f (i := 4) hJ2 t0 (by decide) rfl rfl) (T_f (i := 2) hJ1 t0 (by decide) rfl rfl) (by decide); have := rd_T (a := (gR s2 a0 4)) (k := (a1 : Int).toNat) (show s1 = (gw s (gR s a0 2) 0 a3) from rfl) (T_f (i := 4) hJ2 t0 (by decide) rfl rfl) (T_f (i := 2) h t0 (by decide) rfl rfl) (by decide); have := J_at (k := (a1 : Int).toNat) h hJ2 t0; constructor <;> omega))
  refine gT_chk (by omega) (by omega) ?_
  have hJ4 : J p s4 := (J_wf hJ3 (T_f (i := 2) hJ3 t0 (by decide) rfl rfl) rfl (by decide) (by decide) (fun q hq => by cases hq))
  refine gT_chk (by omega) (by omega) ?_
  refine gT_v0 (A := fun u9 => J p u9) (d_60 hp hJ4 (T_f (i := 2) hJ4 t0 (by decide) rfl rfl)) (fun s5 h5 => ?_)
  have hJ6 := h5
  refine gT_v0 (A := fun u9 => J p u9) (d_35 hp hJ6 (T_f (i := 0) hJ6 t0 (by decide) rfl rfl) (T_f (i := 2) hJ6 t0 (by decide) rfl rfl)) (fun s7 h7 => ?_)
  have hJ8 := h7
  refine gT_chk (by omega) (by omega) ?_
  refine gT_v0 (A := fun u9 => J p u9) (d_36 hp hJ8 (T_f (i := 0) hJ8 t0 (by decide) rfl rfl)) (fun s9 h9 => ?_)
  have hJ10 := h9
  refine gT_v1 (A := fun w9 u9 => True ∧ J p u9) (d_37 hp hJ10 (T_f (i := 0) hJ10 t0 (by decide) rfl rfl) (J_law hJ10 (T_f (i := 1) hJ10 t0 (by decide) rfl rfl))) (fun v12 s11 h11 => ?_)
  obtain ⟨h11r, hJ12⟩ := h11
  refine gT_v0 (A := fun u9 => J p u9) (d_60 hp hJ12 (T_f (i := 2) hJ10 t0 (by decide) rfl rfl)) (fun s13 h13 => ?_)
  have hJ14 := h13
  exact gT_ret ⟨rfl, (by have := J_f (i := 0) hJ14 (T_f (i := 2) hJ14 t0 (by decide) rfl rfl) rfl (by decide) rfl; dsimp only; constructor <;> omega), hJ14⟩
-- X11_man
theorem d_93 {p : gP} {a0 : Nat} {a1 : Int} {a2 : Int} {s : gS} (hp : -1 ≤ p.1 ∧ p.1 ≤ 0) (h : J p s) (t0 : T 11 a0) : gT (f_93 a0 a1 a2 s) (fun r => (r.1 = 1 ∧ True ∧ J p r.2.2.2) ∨ (2 ≤ r.1 ∧ r.1 ≤ 6 ∧ (r.1 = 4 ∨ r.1 = 5) ∧ J p r.2.2.2)) := by
  unfold f_93
  refine gT_t0 (A := fun u9 => (0 ≤ a1 ∧ a1 ≤ 5) ∧ J p u9) (B := fun t9 u9 => (t9 = 5) ∧ J p u9) (d_135 hp h t0) (fun s1 h1 => ?_) (fun t s h1 h2 h3 => Or.inr ⟨h1, h2, by have := h3.1; dsimp only; omega, h3.2⟩)
  obtain ⟨h1e, hJ2⟩ := h1
  extract_lets -merge v3
  refine gT_chk (by omega) (by omega) ?_
  have hT3 : T 7 v3 := (T_man (i := (a1 : Int).toNat) hJ2 (T_f (i := 0) hJ2 (T_f (i := 5) hJ2 t0 (by decide) rfl rfl) (by decide) rfl rfl) (by omega))
  refine gT_ite (fun h4 => ?_) (fun h5 => ?_)
  · exact gT_ret (Or.inr ⟨Nat.le_of_ble_eq_true rfl, Nat.le_of_ble_eq_true rfl, by simp, (J_nw hJ2)⟩)
  · refine gT_ite (fun h6 => ?_) (fun h7 => ?_)
    · exact gT_ret (Or.inl ⟨rfl, trivial, hJ2⟩)
    · refine gT_ite (fun h8 => ?_) (fun h9 => ?_)
      · exact gT_ret (Or.inl ⟨rfl, trivial, hJ2⟩)
      · refine gT_ite (fun h10 => ?_) (fun h11 => ?_)
        · exact gT_ret (Or.inl ⟨rfl, trivial, hJ2⟩)
        · refine gT_ite (fun h12 => ?_) (fun h13 => ?_)
          · exact gT_ret (Or.inl ⟨rfl, trivial, hJ2⟩)
          · refine gT_ite (fun h14 => ?_) (fun h15 => ?_)
            · exact gT_ret (Or.inl ⟨rfl, trivial, hJ2⟩)
            · refine gT_ite (fun h16 => ?_) (fun h17 => ?_)
              · exact gT_ret (Or.inl ⟨rfl, trivial, hJ2⟩)
              · refine gT_ite (fun h18 => ?_) (fun h19 => ?_)
                · refine gT_v1 (A := fun w9 u9 => True ∧ J p u9) (d_34 hp hJ2 (T_f (i := 1) hJ2 t0 (by decide) rfl rfl) (T_f (i := 4) hJ2 t0 (by decide) rfl rfl) (T_f (i := 5) hJ2 t0 (by decide) rfl rfl) (show (0 : Int) ≤ a1 ∧ a1 ≤ 5 by constructor <;> omega)) (fun v5 s4 h20 => ?_)
                  obtain ⟨h20r, hJ21⟩ := h20
                  exact gT_ret (Or.inl ⟨rfl, trivial, hJ21⟩)
                · refine gT_ite (fun h22 => ?_) (fun h23 => ?_)
                  · refine gT_v1 (A := fun w9 u9 => True ∧ J p u9) (d_7 hp hJ2 (T_f (i := 4) hJ2 t0 (by decide) rfl rfl) hT3) (fun v7 s6 h24 => ?_)
                    obtain ⟨h24r, hJ25⟩ := h24
                    exact gT_ret (Or.inl ⟨rfl, trivial, hJ25⟩)
                  · refine gT_ite (fun h26 => ?_) (fun h27 => ?_)
                    · refine gT_v1 (A := fun w9 u9 => True ∧ J p u9) (d_8 hp hJ2 (T_f (i := 4) hJ2 t0 (by decide) rfl rfl) hT3) (fun v9 s8 h28 => ?_)
                      obtain ⟨h28r, hJ29⟩ := h28
                      exact gT_ret (Or.inl ⟨rfl, trivial, hJ29⟩)
                    · refine gT_ite (fun h30 => ?_) (fun h31 => ?_)
                      · refine gT_v1 (A := fun w9 u9 => True ∧ J p u9) (d_9 hp hJ2 (T_f (i := 4) hJ2 t0 (by decide) rfl rfl) hT3) (fun v11 s10 h32 => ?_)
                        obtain ⟨h32r, hJ33⟩ := h32
                        refine gT_v1 (A := fun w9 u9 => True ∧ J p u9) (d_7 hp hJ33 (T_f (i := 4) hJ33 t0 (by decide) rfl rfl) hT3) (fun v13 s12 h34 => ?_)
                        obtain ⟨h34r, hJ35⟩ := h34
                        exact gT_ret (Or.inl ⟨rfl, trivial, hJ35⟩)
                      · exact gT_ret (Or.inr ⟨Nat.le_of_ble_eq_true rfl, Nat.le_of_ble_eq_true rfl, by simp, (J_nw hJ2)⟩)
-- X11_days
theorem d_102 {p : gP} {a0 : Nat} {a1 : Int} {s : gS} (hp : -1 ≤ p.1 ∧ p.1 ≤ 0) (h : J p s) (t0 : T 11 a0) : gT (f_102 a0 a1 s) (fun r => (r.1 = 1 ∧ True ∧ J p r.2.2.2) ∨ (2 ≤ r.1 ∧ r.1 ≤ 6 ∧ (r.1 = 2) ∧ J p r.2.2.2)) := by
  unfold f_102
  refine gT_t0 (A := fun u9 => (1 ≤ a1 ∧ a1 ≤ 200) ∧ J p u9) (B := fun t9 u9 => (t9 = 2) ∧ J p u9) (d_138 hp h t0) (fun s1 h1 => ?_) (fun t s h1 h2 h3 => Or.inr ⟨h1, h2, by have := h3.1; dsimp only; omega, h3.2⟩)
  obtain ⟨h1e, hJ2⟩ := h1
  refine gT_v0 (A := fun u9 => J p u9) (d_140 hp hJ2 t0) (fun s3 h3 => ?_)
  have hJ4 := h3
  refine gT_loop (fun y => T 11 y.1 ∧ (1 ≤ y.2.1 ∧ y.2.1 ≤ 200) ∧ (0 ≤ y.2.2.2.1 ∧ y.2.2.2.1 ≤ 200) ∧ y.2.1 = a1 ∧ J p y.2.2.2.2) (fun y => (200 - y.2.2.2.1).toNat) (fun y hy => ?_) ?_
  · obtain ⟨x0, x1, x2, x3, s⟩ := y
    obtain ⟨t5, r6, r7, e8, hJ9⟩ := hy
    dsimp only at t5 r6 r7 e8 hJ9
    show gT (sb_102_17 x0 x1 x2 x3 s) _
    unfold sb_102_17
    refine gT_ite (fun h10 => ?_) (fun h11 => ?_)
    · refine gT_v1 (A := fun w9 u9 => True ∧ J p u9) (d_27 hp hJ9 (T_f (i := 5) hJ9 t5 (by decide) rfl rfl) (T_f (i := 4) hJ9 t5 (by decide) rfl rfl) (T_f (i := 1) hJ9 t5 (by decide) rfl rfl)) (fun v6 s5 h12 => ?_)
      obtain ⟨h12r, hJ13⟩ := h12
      exact gT_ret ⟨⟨t5, (show (1 : Int) ≤ x1 ∧ x1 ≤ 200 by constructor <;> omega), (show (0 : Int) ≤ (g32 (x3 + 1)) ∧ (g32 (x3 + 1)) ≤ 200 by have := g32_eq (v := (x3 + 1)) (by omega) (by omega); constructor <;> omega), (by first | assumption | omega | (dsimp only; omega)), hJ13⟩, by dsimp only; have := g32_eq (v := (x3 + 1)) (by omega) (by omega); omega⟩
    · refine gT_map ?_
      exact gT_ret (Or.inl ⟨rfl, trivial, hJ9⟩)
  · exact ⟨t0, (show (1 : Int) ≤ a1 ∧ a1 ≤ 200 by constructor <;> omega), (show (0 : Int) ≤ 0 ∧ 0 ≤ 200 by constructor <;> omega), rfl, hJ4⟩
-- X11_draftDays
theorem d_141 {p : gP} {a0 : Nat} {a1 : Int} {a2 : Int} {a3 : Int} {s : gS} (hp : -1 ≤ p.1 ∧ p.1 ≤ 0) (h : J p s) (t0 : T 11 a0) (r1 : 0 ≤ a1 ∧ a1 ≤ 200) : gT (f_141 a0 a1 a2 a3 s) (fun r => r.1 = 0 ∧ J p r.2.2.2) := by
  unfold f_141
  refine gT_v0 (A := fun u9 => J p u9) (d_23 hp h (T_f (i := 9) h t0 (by decide) rfl rfl) (T_f (i := 5) h t0 (by decide) rfl rfl)) (fun s1 h1 => ?_)
  have hJ2 := h1
  extract_lets -merge s3
  have hJ3 : J p s3 := (J_wf hJ2 (T_f (i := 9) hJ2 t0 (by decide) rfl rfl) rfl (by decide) (by decide) (fun q hq => by cases hq))
  refine gT_loop (fun y => T 11 y.1 ∧ (0 ≤ y.2.1 ∧ y.2.1 ≤ 200) ∧ (0 ≤ y.2.2.2.1 ∧ y.2.2.2.1 ≤ 200) ∧ y.2.1 = a1 ∧ y.2.2.1 = a2 ∧ J p y.2.2.2.2) (fun y => (200 - y.2.2.2.1).toNat) (fun y hy => ?_) ?_
  · obtain ⟨x0, x1, x2, x4, s⟩ := y
    obtain ⟨t4, r5, r6, e7, e8, hJ9⟩ := hy
    dsimp only at t4 r5 r6 e7 e8 hJ9
    show gT (sb_141_22 x0 x1 x2 x4 s) _
    unfold sb_141_22
    refine gT_ite (fun h10 => ?_) (fun h11 => ?_)
    · refine gT_v1 (A := fun w9 u9 => True ∧ J p u9) (d_27 hp hJ9 (T_f (i := 9) hJ9 t4 (by decide) rfl rfl) (T_f (i := 4) hJ9 t4 (by decide) rfl rfl) (T_f (i := 1) hJ9 t4 (by decide) rfl rfl)) (fun v5 s4 h12 => ?_)
      obtain ⟨h12r, hJ13⟩ := h12
      exact gT_ret ⟨⟨t4, (show (0 : Int) ≤ x1 ∧ x1 ≤ 200 by constructor <;> omega), (show (0 : Int) ≤ (g32 (x4 + 1)) ∧ (g32 (x4 + 1)) ≤ 200 by have := g32_eq (v := (x4 + 1)) (by omega) (by omega); constructor <;> omega), (by first | assumption | omega | (dsimp only; omega)), (by first | assumption | omega | (dsimp only; omega)), hJ13⟩, by dsimp only; have := g32_eq (v := (x4 + 1)) (by omega) (by omega); omega⟩
    · refine gT_map ?_
      exact gT_ret ⟨rfl, hJ9⟩
  · exact ⟨t0, (show (0 : Int) ≤ a1 ∧ a1 ≤ 200 by constructor <;> omega), (show (0 : Int) ≤ 0 ∧ 0 ≤ 200 by constructor <;> omega), rfl, rfl, hJ3⟩
-- X11_ahead
theorem d_103 {p : gP} {a0 : Nat} {a1 : Int} {a2 : Int} {a3 : Int} {s : gS} (hp : -1 ≤ p.1 ∧ p.1 ≤ 0) (h : J p s) (t0 : T 11 a0) : gT (f_103 a0 a1 a2 a3 s) (fun r => (r.1 = 1 ∧ True ∧ J p r.2.2.2) ∨ (2 ≤ r.1 ∧ r.1 ≤ 6 ∧ (r.1 = 2 ∨ r.1 = 4 ∨ r.1 = 5) ∧ J p r.2.2.2)) := by
  unfold f_103
  refine gT_t0 (A := fun u9 => (0 ≤ a1 ∧ a1 ≤ 5) ∧ J p u9) (B := fun t9 u9 => (t9 = 5) ∧ J p u9) (d_135 hp h t0) (fun s1 h1 => ?_) (fun t s h1 h2 h3 => Or.inr ⟨h1, h2, by have := h3.1; dsimp only; omega, h3.2⟩)
  obtain ⟨h1e, hJ2⟩ := h1
  refine gT_t0 (A := fun u9 => (0 ≤ a2 ∧ a2 ≤ 200) ∧ J p u9) (B := fun t9 u9 => (t9 = 2) ∧ J p u9) (d_138 hp hJ2 t0) (fun s3 h3 => ?_) (fun t s h1 h2 h3 => Or.inr ⟨h1, h2, by have := h3.1; dsimp only; omega, h3.2⟩)
  obtain ⟨h3e, hJ4⟩ := h3
  refine gT_ite (fun h5 => ?_) (fun h6 => ?_)
  · unfold fb_103_23
    exact gT_ret (Or.inr ⟨Nat.le_of_ble_eq_true rfl, Nat.le_of_ble_eq_true rfl, by simp, (J_nw hJ4)⟩)
  · refine gT_ite (fun h7 => ?_) (fun h8 => ?_)
    · unfold fb_103_23
      exact gT_ret (Or.inr ⟨Nat.le_of_ble_eq_true rfl, Nat.le_of_ble_eq_true rfl, by simp, (J_nw hJ4)⟩)
    · refine gT_v0 (A := fun u9 => J p u9) (d_141 hp hJ4 t0 (show (0 : Int) ≤ a2 ∧ a2 ≤ 200 by constructor <;> omega)) (fun s5 h9 => ?_)
      have hJ10 := h9
      extract_lets -merge v7
      refine gT_chk (by omega) (by omega) ?_
      have hT11 : T 7 v7 := (T_man (i := (a1 : Int).toNat) hJ10 (T_f (i := 0) hJ10 (T_f (i := 9) hJ10 t0 (by decide) rfl rfl) (by decide) rfl rfl) (by omega))
      refine gT_ite (fun h12 => ?_) (fun h13 => ?_)
      · exact gT_ret (Or.inl ⟨rfl, trivial, hJ10⟩)
      · refine gT_ite (fun h14 => ?_) (fun h15 => ?_)
        · exact gT_ret (Or.inl ⟨rfl, trivial, hJ10⟩)
        · refine gT_ite (fun h16 => ?_) (fun h17 => ?_)
          · exact gT_ret (Or.inl ⟨rfl, trivial, hJ10⟩)
          · refine gT_ite (fun h18 => ?_) (fun h19 => ?_)
            · exact gT_ret (Or.inl ⟨rfl, trivial, hJ10⟩)
            · exact gT_ret (Or.inl ⟨rfl, trivial, hJ10⟩)
-- X11_owes
theorem d_104 {p : gP} {a0 : Nat} {a1 : Int} {s : gS} (hp : -1 ≤ p.1 ∧ p.1 ≤ 0) (h : J p s) (t0 : T 11 a0) : gT (f_104 a0 a1 s) (fun r => (r.1 = 1 ∧ True ∧ J p r.2.2.2) ∨ (2 ≤ r.1 ∧ r.1 ≤ 6 ∧ (r.1 = 2) ∧ J p r.2.2.2)) := by
  unfold f_104
  refine gT_t0 (A := fun u9 => (0 ≤ a1 ∧ a1 ≤ 200) ∧ J p u9) (B := fun t9 u9 => (t9 = 2) ∧ J p u9) (d_138 hp h t0) (fun s1 h1 => ?_) (fun t s h1 h2 h3 => Or.inr ⟨h1, h2, by have := h3.1; dsimp only; omega, h3.2⟩)
  obtain ⟨h1e, hJ2⟩ := h1
  refine gT_v0 (A := fun u9 => J p u9) (d_141 hp hJ2 t0 (show (0 : Int) ≤ a1 ∧ a1 ≤ 200 by constructor <;> omega)) (fun s3 h3 => ?_)
  have hJ4 := h3
  exact gT_ret (Or.inl ⟨rfl, trivial, hJ4⟩)
-- X11_chest
theorem d_105 {p : gP} {a0 : Nat} {a1 : Int} {s : gS} (hp : -1 ≤ p.1 ∧ p.1 ≤ 0) (h : J p s) (t0 : T 11 a0) : gT (f_105 a0 a1 s) (fun r => (r.1 = 1 ∧ True ∧ J p r.2.2.2) ∨ (2 ≤ r.1 ∧ r.1 ≤ 6 ∧ (r.1 = 2) ∧ J p r.2.2.2)) := by
  unfold f_105
  refine gT_t0 (A := fun u9 => (0 ≤ a1 ∧ a1 ≤ 200) ∧ J p u9) (B := fun t9 u9 => (t9 = 2) ∧ J p u9) (d_138 hp h t0) (fun s1 h1 => ?_) (fun t s h1 h2 h3 => Or.inr ⟨h1, h2, by have := h3.1; dsimp only; omega, h3.2⟩)
  obtain ⟨h1e, hJ2⟩ := h1
  refine gT_v0 (A := fun u9 => J p u9) (d_141 hp hJ2 t0 (show (0 : Int) ≤ a1 ∧ a1 ≤ 200 by constructor <;> omega)) (fun s3 h3 => ?_)
  have hJ4 := h3
  exact gT_ret (Or.inl ⟨rfl, trivial, hJ4⟩)
-- X11_lives
theorem d_106 {p : gP} {a0 : Nat} {a1 : Int} {s : gS} (hp : -1 ≤ p.1 ∧ p.1 ≤ 0) (h : J p s) (t0 : T 11 a0) : gT (f_106 a0 a1 s) (fun r => (r.1 = 1 ∧ True ∧ J p r.2.2.2) ∨ (2 ≤ r.1 ∧ r.1 ≤ 6 ∧ (r.1 = 5) ∧ J p r.2.2.2)) := by
  unfold f_106
  refine gT_t0 (A := fun u9 => (0 ≤ a1 ∧ a1 ≤ 5) ∧ J p u9) (B := fun t9 u9 => (t9 = 5) ∧ J p u9) (d_135 hp h t0) (fun s1 h1 => ?_) (fun t s h1 h2 h3 => Or.inr ⟨h1, h2, by have := h3.1; dsimp only; omega, h3.2⟩)
  obtain ⟨h1e, hJ2⟩ := h1
  refine gT_v0 (A := fun u9 => J p u9) (d_23 hp hJ2 (T_f (i := 9) hJ2 t0 (by decide) rfl rfl) (T_f (i := 5) hJ2 t0 (by decide) rfl rfl)) (fun s3 h3 => ?_)
  have hJ4 := h3
  extract_lets -merge v5
  refine gT_chk (by omega) (by omega) ?_
  have hT5 : T 7 v5 := (T_man (i := (a1 : Int).toNat) hJ4 (T_f (i := 0) hJ4 (T_f (i := 9) hJ4 t0 (by decide) rfl rfl) (by decide) rfl rfl) (by omega))
  refine gT_loop (fun y => T 11 y.1 ∧ T 7 y.2.1 ∧ (1 ≤ y.2.2.1 ∧ y.2.2.1 ≤ 201) ∧ J p y.2.2.2) (fun y => (201 - y.2.2.1).toNat) (fun y hy => ?_) ?_
  · obtain ⟨x0, x2, x3, s⟩ := y
    obtain ⟨t6, t7, r8, hJ9⟩ := hy
    dsimp only at t6 t7 r8 hJ9
    show gT (sb_106_28 x0 x2 x3 s) _
    unfold sb_106_28
    refine gT_ite (fun h10 => ?_) (fun h11 => ?_)
    · refine gT_map ?_
      exact gT_ret (Or.inl ⟨rfl, trivial, hJ9⟩)
    · refine gT_ite (fun h12 => ?_) (fun h13 => ?_)
      · refine gT_v1 (A := fun w9 u9 => True ∧ J p u9) (d_27 hp hJ9 (T_f (i := 9) hJ9 t6 (by decide) rfl rfl) (T_f (i := 4) hJ9 t6 (by decide) rfl rfl) (T_f (i := 1) hJ9 t6 (by decide) rfl rfl)) (fun v7 s6 h14 => ?_)
        obtain ⟨h14r, hJ15⟩ := h14
        refine gT_ite (fun h16 => ?_) (fun h17 => ?_)
        · refine gT_map ?_
          exact gT_ret (Or.inl ⟨rfl, trivial, hJ15⟩)
        · exact gT_ret ⟨⟨t6, t7, (show (1 : Int) ≤ (g32 (x3 + 1)) ∧ (g32 (x3 + 1)) ≤ 201 by have := g32_eq (v := (x3 + 1)) (by omega) (by omega); constructor <;> omega), hJ15⟩, by dsimp only; have := g32_eq (v := (x3 + 1)) (by omega) (by omega); omega⟩
      · refine gT_map ?_
        exact gT_ret (Or.inl ⟨rfl, trivial, hJ9⟩)
  · exact ⟨t0, hT5, (show (1 : Int) ≤ 1 ∧ 1 ≤ 201 by constructor <;> omega), hJ4⟩
-- X11_done
theorem d_107 {p : gP} {a0 : Nat} {a1 : Int} {s : gS} (hp : -1 ≤ p.1 ∧ p.1 ≤ 0) (h : J p s) (t0 : T 11 a0) : gT (f_107 a0 a1 s) (fun r => (r.1 = 1 ∧ True ∧ J p r.2.2.2) ∨ (2 ≤ r.1 ∧ r.1 ≤ 6 ∧ (r.1 = 5) ∧ J p r.2.2.2)) := by
  unfold f_107
  refine gT_t0 (A := fun u9 => (0 ≤ a1 ∧ a1 ≤ 5) ∧ J p u9) (B := fun t9 u9 => (t9 = 5) ∧ J p u9) (d_135 hp h t0) (fun s1 h1 => ?_) (fun t s h1 h2 h3 => Or.inr ⟨h1, h2, by have := h3.1; dsimp only; omega, h3.2⟩)
  obtain ⟨h1e, hJ2⟩ := h1
  refine gT_v0 (A := fun u9 => J p u9) (d_23 hp hJ2 (T_f (i := 9) hJ2 t0 (by decide) rfl rfl) (T_f (i := 5) hJ2 t0 (by decide) rfl rfl)) (fun s3 h3 => ?_)
  have hJ4 := h3
  extract_lets -merge v5
  refine gT_chk (by omega) (by omega) ?_
  have hT5 : T 7 v5 := (T_man (i := (a1 : Int).toNat) hJ4 (T_f (i := 0) hJ4 (T_f (i := 9) hJ4 t0 (by decide) rfl rfl) (by decide) rfl rfl) (by omega))
  refine gT_loop (fun y => T 11 y.1 ∧ T 7 y.2.1 ∧ (0 ≤ y.2.2.1 ∧ y.2.2.1 ≤ 201) ∧ J p y.2.2.2) (fun y => (201 - y.2.2.1).toNat) (fun y hy => ?_) ?_
  · obtain ⟨x0, x2, x3, s⟩ := y
    obtain ⟨t6, t7, r8, hJ9⟩ := hy
    dsimp only at t6 t7 r8 hJ9
    show gT (sb_107_28 x0 x2 x3 s) _
    unfold sb_107_28
    refine gT_ite (fun h10 => ?_) (fun h11 => ?_)
    · refine gT_map ?_
      exact gT_ret (Or.inl ⟨rfl, trivial, hJ9⟩)
    · refine gT_ite (fun h12 => ?_) (fun h13 => ?_)
      · refine gT_ite (fun h14 => ?_) (fun h15 => ?_)
        · have := J_f (i := 3) hJ9 t7 rfl (by decide) rfl
          have := J_f (i := 5) hJ9 (T_f (i := 4) hJ9 t6 (by decide) rfl rfl) rfl (by decide) rfl
          refine gT_v1 (A := fun w9 u9 => True ∧ J p u9) (d_27 hp hJ9 (T_f (i := 9) hJ9 t6 (by decide) rfl rfl) (T_f (i := 4) hJ9 t6 (by decide) rfl rfl) (T_f (i := 1) hJ9 t6 (by decide) rfl rfl)) (fun v7 s6 h16 => ?_)
          obtain ⟨h16r, hJ17⟩ := h16
          exact gT_ret ⟨⟨t6, t7, (show (0 : Int) ≤ (g32 (x3 + 1)) ∧ (g32 (x3 + 1)) ≤ 201 by have := g32_eq (v := (x3 + 1)) (by omega) (by omega); constructor <;> omega), hJ17⟩, by dsimp only; have := g32_eq (v := (x3 + 1)) (by omega) (by omega); omega⟩
        · have := J_f (i := 3) hJ9 t7 rfl (by decide) rfl
          have := J_f (i := 5) hJ9 (T_f (i := 4) hJ9 t6 (by decide) rfl rfl) rfl (by decide) rfl
          refine gT_map ?_
          exact gT_ret (Or.inl ⟨rfl, trivial, hJ9⟩)
      · refine gT_map ?_
        exact gT_ret (Or.inl ⟨rfl, trivial, hJ9⟩)
  · exact ⟨t0, hT5, (show (0 : Int) ≤ 0 ∧ 0 ≤ 201 by constructor <;> omega), hJ4⟩
-- X11_trial
theorem d_125 {p : gP} {a0 : Nat} {a1 : Int} {a2 : Int} {s : gS} (hp : -1 ≤ p.1 ∧ p.1 ≤ 0) (h : J p s) (t0 : T 11 a0) (r2 : 0 ≤ a2 ∧ a2 ≤ 1) : gT (f_125 a0 a1 a2 s) (fun r => (r.1 = 1 ∧ True ∧ J p r.2.2.2) ∨ (2 ≤ r.1 ∧ r.1 ≤ 6 ∧ (r.1 = 2) ∧ J p r.2.2.2)) := by
  unfold f_125
  refine gT_t0 (A := fun u9 => (0 ≤ a1 ∧ a1 ≤ 200) ∧ J p u9) (B := fun t9 u9 => (t9 = 2) ∧ J p u9) (d_138 hp h t0) (fun s1 h1 => ?_) (fun t s h1 h2 h3 => Or.inr ⟨h1, h2, by have := h3.1; dsimp only; omega, h3.2⟩)
  obtain ⟨h1e, hJ2⟩ := h1
  refine gT_v0 (A := fun u9 => J p u9) (d_141 hp hJ2 t0 (show (0 : Int) ≤ a1 ∧ a1 ≤ 200 by constructor <;> omega)) (fun s3 h3 => ?_)
  have hJ4 := h3
  refine gT_ite (fun h5 => ?_) (fun h6 => ?_)
  · exact gT_ret (Or.inl ⟨rfl, trivial, hJ4⟩)
  · refine gT_v1 (A := fun w9 u9 => True ∧ J p u9) (d_29 hp hJ4 (T_f (i := 9) hJ4 t0 (by decide) rfl rfl)) (fun v6 s5 h7 => ?_)
    obtain ⟨h7r, hJ8⟩ := h7
    refine gT_v1 (A := fun w9 u9 => (0 ≤ w9 ∧ w9 ≤ 63) ∧ J p u9) (d_264 hp hJ8) (fun v8 s7 h9 => ?_)
    obtain ⟨h9r, hJ10⟩ := h9
    exact gT_ret (Or.inl ⟨rfl, trivial, hJ10⟩)
-- X11_span
theorem d_126 {p : gP} {a0 : Nat} {a1 : Int} {a2 : Int} {s : gS} (hp : -1 ≤ p.1 ∧ p.1 ≤ 0) (h : J p s) (t0 : T 11 a0) (r2 : 0 ≤ a2 ∧ a2 ≤ 1) : gT (f_126 a0 a1 a2 s) (fun r => (r.1 = 1 ∧ True ∧ J p r.2.2.2) ∨ (2 ≤ r.1 ∧ r.1 ≤ 6 ∧ (r.1 = 2) ∧ J p r.2.2.2)) := by
  unfold f_126
  refine gT_t0 (A := fun u9 => (0 ≤ a1 ∧ a1 ≤ 200) ∧ J p u9) (B := fun t9 u9 => (t9 = 2) ∧ J p u9) (d_138 hp h t0) (fun s1 h1 => ?_) (fun t s h1 h2 h3 => Or.inr ⟨h1, h2, by have := h3.1; dsimp only; omega, h3.2⟩)
  obtain ⟨h1e, hJ2⟩ := h1
  refine gT_loop (fun y => T 11 y.1 ∧ (0 ≤ y.2.1 ∧ y.2.1 ≤ 200) ∧ (0 ≤ y.2.2.1 ∧ y.2.2.1 ≤ 1) ∧ (1 ≤ y.2.2.2.2.1 ∧ y.2.2.2.2.1 ≤ 7) ∧ y.2.1 = a1 ∧ y.2.2.1 = a2 ∧ J p y.2.2.2.2.2) (fun y => (7 - y.2.2.2.2.1).toNat) (fun y hy => ?_) ?_
  · obtain ⟨x0, x1, x2, x3, x4, s⟩ := y
    obtain ⟨t3, r4, r5, r6, e7, e8, hJ9⟩ := hy
    dsimp only at t3 r4 r5 r6 e7 e8 hJ9
    show gT (sb_126_14 x0 x1 x2 x3 x4 s) _
    unfold sb_126_14
    refine gT_ite (fun h10 => ?_) (fun h11 => ?_)
    · refine gT_map ?_
      exact gT_ret (Or.inl ⟨rfl, trivial, hJ9⟩)
    · refine gT_v0 (A := fun u9 => J p u9) (d_141 hp hJ9 t3 (show (0 : Int) ≤ x1 ∧ x1 ≤ 200 by constructor <;> omega)) (fun s3 h12 => ?_)
      have hJ13 := h12
      extract_lets -merge v5
      refine gT_ite (fun h14 => ?_) (fun h15 => ?_)
      · have hv16 : v5 = (gI s3 (gR s3 x0 9) 6) := rfl
        unfold fb_126_48
        extract_lets -merge v6 v7
        refine gT_ite (fun h17 => ?_) (fun h18 => ?_)
        · have hv19 : v6 = (min v5 (gI s3 (gR s3 x0 9) 6)) := rfl
          exact gT_ret ⟨⟨t3, (show (0 : Int) ≤ x1 ∧ x1 ≤ 200 by constructor <;> omega), (show (0 : Int) ≤ x2 ∧ x2 ≤ 1 by constructor <;> omega), (show (1 : Int) ≤ (g32 (x4 + 1)) ∧ (g32 (x4 + 1)) ≤ 7 by have := g32_eq (v := (x4 + 1)) (by omega) (by omega); constructor <;> omega), (by first | assumption | omega | (dsimp only; omega)), (by first | assumption | omega | (dsimp only; omega)), hJ13⟩, by dsimp only; have := g32_eq (v := (x4 + 1)) (by omega) (by omega); omega⟩
        · have hv20 : v7 = (max v5 (gI s3 (gR s3 x0 9) 6)) := rfl
          exact gT_ret ⟨⟨t3, (show (0 : Int) ≤ x1 ∧ x1 ≤ 200 by constructor <;> omega), (show (0 : Int) ≤ x2 ∧ x2 ≤ 1 by constructor <;> omega), (show (1 : Int) ≤ (g32 (x4 + 1)) ∧ (g32 (x4 + 1)) ≤ 7 by have := g32_eq (v := (x4 + 1)) (by omega) (by omega); constructor <;> omega), (by first | assumption | omega | (dsimp only; omega)), (by first | assumption | omega | (dsimp only; omega)), hJ13⟩, by dsimp only; have := g32_eq (v := (x4 + 1)) (by omega) (by omega); omega⟩
      · unfold fb_126_48
        extract_lets -merge v6 v7
        refine gT_ite (fun h21 => ?_) (fun h22 => ?_)
        · have hv23 : v6 = (min x3 (gI s3 (gR s3 x0 9) 6)) := rfl
          exact gT_ret ⟨⟨t3, (show (0 : Int) ≤ x1 ∧ x1 ≤ 200 by constructor <;> omega), (show (0 : Int) ≤ x2 ∧ x2 ≤ 1 by constructor <;> omega), (show (1 : Int) ≤ (g32 (x4 + 1)) ∧ (g32 (x4 + 1)) ≤ 7 by have := g32_eq (v := (x4 + 1)) (by omega) (by omega); constructor <;> omega), (by first | assumption | omega | (dsimp only; omega)), (by first | assumption | omega | (dsimp only; omega)), hJ13⟩, by dsimp only; have := g32_eq (v := (x4 + 1)) (by omega) (by omega); omega⟩
        · have hv24 : v7 = (max x3 (gI s3 (gR s3 x0 9) 6)) := rfl
          exact gT_ret ⟨⟨t3, (show (0 : Int) ≤ x1 ∧ x1 ≤ 200 by constructor <;> omega), (show (0 : Int) ≤ x2 ∧ x2 ≤ 1 by constructor <;> omega), (show (1 : Int) ≤ (g32 (x4 + 1)) ∧ (g32 (x4 + 1)) ≤ 7 by have := g32_eq (v := (x4 + 1)) (by omega) (by omega); constructor <;> omega), (by first | assumption | omega | (dsimp only; omega)), (by first | assumption | omega | (dsimp only; omega)), hJ13⟩, by dsimp only; have := g32_eq (v := (x4 + 1)) (by omega) (by omega); omega⟩
  · exact ⟨t0, (show (0 : Int) ≤ a1 ∧ a1 ≤ 200 by constructor <;> omega), (show (0 : Int) ≤ a2 ∧ a2 ≤ 1 by constructor <;> omega), (show (1 : Int) ≤ 1 ∧ 1 ≤ 7 by constructor <;> omega), rfl, rfl, hJ2⟩
-- X12_putsAside
theorem d_185 {p : gP} {a0 : Nat} {s : gS} (hp : -1 ≤ p.1 ∧ p.1 ≤ 0) (h : J p s) (t0 : T 12 a0) : gT (f_185 a0 s) (fun r => r.1 = 0 ∧ J p r.2.2.2) := by
  unfold f_185
  refine gT_loop (fun y => T 12 y.1 ∧ (0 ≤ y.2.1 ∧ y.2.1 ≤ 340) ∧ J p y.2.2) (fun y => (340 - y.2.1).toNat) (fun y hy => ?_) ?_
  · obtain ⟨x0, x1, s⟩ := y
    obtain ⟨t1, r2, hJ3⟩ := hy
    dsimp only at t1 r2 hJ3
    show gT (sb_185_2 x0 x1 s) _
    unfold sb_185_2
    extract_lets -merge s1
    refine gT_ite (fun h4 => ?_) (fun h5 => ?_)
    · refine gT_chk (by omega) (by omega) ?_
      refine gT_chk (by omega) (by omega) ?_
      have hJ6 : J p s1 := (J_cpm hJ3 hJ3 hJ3 hJ3 t1 t1 (by decide) (by decide) (show (x1 : Int).toNat = (x1 : Int).toNat by omega))
      exact gT_ret ⟨⟨t1, (show (0 : Int) ≤ (g32 (x1 + 1)) ∧ (g32 (x1 + 1)) ≤ 340 by have := g32_eq (v := (x1 + 1)) (by omega) (by omega); constructor <;> omega), hJ6⟩, by dsimp only; have := g32_eq (v := (x1 + 1)) (by omega) (by omega); omega⟩
    · refine gT_map ?_
      exact gT_ret ⟨rfl, hJ3⟩
  · exact ⟨t0, (show (0 : Int) ≤ 0 ∧ 0 ≤ 340 by constructor <;> omega), h⟩
-- X12_comesBack
theorem d_186 {p : gP} {a0 : Nat} {s : gS} (hp : -1 ≤ p.1 ∧ p.1 ≤ 0) (h : J p s) (t0 : T 12 a0) : gT (f_186 a0 s) (fun r => r.1 = 0 ∧ J p r.2.2.2) := by
  unfold f_186
  refine gT_loop (fun y => T 12 y.1 ∧ (0 ≤ y.2.1 ∧ y.2.1 ≤ 340) ∧ J p y.2.2) (fun y => (340 - y.2.1).toNat) (fun y hy => ?_) ?_
  · obtain ⟨x0, x1, s⟩ := y
    obtain ⟨t1, r2, hJ3⟩ := hy
    dsimp only at t1 r2 hJ3
    show gT (sb_186_2 x0 x1 s) _
    unfold sb_186_2
    extract_lets -merge s1
    refine gT_ite (fun h4 => ?_) (fun h5 => ?_)
    · refine gT_chk (by omega) (by omega) ?_
      refine gT_chk (by omega) (by omega) ?_
      have hJ6 : J p s1 := (J_cpm hJ3 hJ3 hJ3 hJ3 t1 t1 (by decide) (by decide) (show (x1 : Int).toNat = (x1 : Int).toNat by omega))
      exact gT_ret ⟨⟨t1, (show (0 : Int) ≤ (g32 (x1 + 1)) ∧ (g32 (x1 + 1)) ≤ 340 by have := g32_eq (v := (x1 + 1)) (by omega) (by omega); constructor <;> omega), hJ6⟩, by dsimp only; have := g32_eq (v := (x1 + 1)) (by omega) (by omega); omega⟩
    · refine gT_map ?_
      exact gT_ret ⟨rfl, hJ3⟩
  · exact ⟨t0, (show (0 : Int) ≤ 0 ∧ 0 ≤ 340 by constructor <;> omega), h⟩
-- X12_book
theorem d_187 {p : gP} {a0 : Nat} {s : gS} (hp : -1 ≤ p.1 ∧ p.1 ≤ 0) (h : J p s) (t0 : T 12 a0) : gT (f_187 a0 s) (fun r => r.1 = 1 ∧ True ∧ J (p.1, p.2.1, 0, p.2.2.2.1, p.2.2.2.2) r.2.2.2) := by
  unfold f_187
  refine gT_v0 (A := fun u9 => J p u9) (d_185 hp h t0) (fun s1 h1 => ?_)
  have hJ2 := h1
  refine gT_v0 (A := fun u9 => J (p.1, p.2.1, 0, p.2.2.2.1, p.2.2.2.2) u9) (d_183 hp hJ2 t0) (fun s3 h3 => ?_)
  have hJ4 := h3
  refine gT_v1 (A := fun w9 u9 => True ∧ J (p.1, p.2.1, 0, p.2.2.2.1, p.2.2.2.2) u9) (d_184 hp hJ4 t0) (fun v6 s5 h5 => ?_)
  obtain ⟨h5r, hJ6⟩ := h5
  refine gT_ite (fun h7 => ?_) (fun h8 => ?_)
  · refine gT_ite (fun h9 => ?_) (fun h10 => ?_)
    · unfold fb_187_43
      extract_lets -merge s7 s10 s11
      have hJ11 : J (p.1, p.2.1, 0, p.2.2.2.1, p.2.2.2.2) s7 := (J_wf hJ6 t0 rfl (by decide) (by decide) (fun q hq => by cases hq))
      refine gT_ite (fun h12 => ?_) (fun h13 => ?_)
      · have := rd_same (show s7 = (gw s5 a0 0 2) from rfl)
        refine gT_v0 (A := fun u9 => J (p.1, p.2.1, 0, p.2.2.2.1, p.2.2.2.2) u9) (d_186 hp hJ11 t0) (fun s8 h14 => ?_)
        have hJ15 := h14
        exact gT_ret ⟨rfl, trivial, hJ15⟩
      · have := rd_same (show s7 = (gw s5 a0 0 2) from rfl)
        have hJ16 : J (p.1, p.2.1, 0, p.2.2.2.1, p.2.2.2.2) s10 := (J_wm hJ11 hJ11 t0 (fun q hq => by cases hq))
        have hJ17 : J (p.1, p.2.1, 0, p.2.2.2.1, p.2.2.2.2) s11 := (J_wf hJ16 t0 rfl (by decide) (by decide) (fun q hq => by cases hq; dsimp only; constructor <;> omega))
        exact gT_ret ⟨rfl, trivial, hJ17⟩
    · unfold fb_187_43
      extract_lets -merge s7 s10 s11
      have hJ18 : J (p.1, p.2.1, 0, p.2.2.2.1, p.2.2.2.2) s7 := (J_wf hJ6 t0 rfl (by decide) (by decide) (fun q hq => by cases hq))
      refine gT_ite (fun h19 => ?_) (fun h20 => ?_)
      · have := rd_same (show s7 = (gw s5 a0 0 0) from rfl)
        refine gT_v0 (A := fun u9 => J (p.1, p.2.1, 0, p.2.2.2.1, p.2.2.2.2) u9) (d_186 hp hJ18 t0) (fun s8 h21 => ?_)
        have hJ22 := h21
        exact gT_ret ⟨rfl, trivial, hJ22⟩
      · have := rd_same (show s7 = (gw s5 a0 0 0) from rfl)
        have hJ23 : J (p.1, p.2.1, 0, p.2.2.2.1, p.2.2.2.2) s10 := (J_wm hJ18 hJ18 t0 (fun q hq => by cases hq))
        have hJ24 : J (p.1, p.2.1, 0, p.2.2.2.1, p.2.2.2.2) s11 := (J_wf hJ23 t0 rfl (by decide) (by decide) (fun q hq => by cases hq; dsimp only; constructor <;> omega))
        exact gT_ret ⟨rfl, trivial, hJ24⟩
  · unfold fb_187_43
    extract_lets -merge s7 s10 s11
    have hJ25 : J (p.1, p.2.1, 0, p.2.2.2.1, p.2.2.2.2) s7 := (J_wf hJ6 t0 rfl (by decide) (by decide) (fun q hq => by cases hq))
    refine gT_ite (fun h26 => ?_) (fun h27 => ?_)
    · have := rd_same (show s7 = (gw s5 a0 0 1) from rfl)
      refine gT_v0 (A := fun u9 => J (p.1, p.2.1, 0, p.2.2.2.1, p.2.2.2.2) u9) (d_186 hp hJ25 t0) (fun s8 h28 => ?_)
      have hJ29 := h28
      exact gT_ret ⟨rfl, trivial, hJ29⟩
    · have := rd_same (show s7 = (gw s5 a0 0 1) from rfl)
      have hJ30 : J (p.1, p.2.1, 0, p.2.2.2.1, p.2.2.2.2) s10 := (J_wm hJ25 hJ25 t0 (fun q hq => by cases hq))
      have hJ31 : J (p.1, p.2.1, 0, p.2.2.2.1, p.2.2.2.2) s11 := (J_wf hJ30 t0 rfl (by decide) (by decide) (fun q hq => by cases hq; dsimp only; constructor <;> omega))
      exact gT_ret ⟨rfl, trivial, hJ31⟩
-- X12_law
theorem d_195 {p : gP} {a0 : Nat} {s : gS} (hp : -1 ≤ p.1 ∧ p.1 ≤ 0) (h : J p s) (t0 : T 12 a0) : gT (f_195 a0 s) (fun r => r.1 = 1 ∧ True ∧ J (p.1, p.2.1, 0, p.2.2.2.1, p.2.2.2.2) r.2.2.2) := by
  unfold f_195
  refine gT_v0 (A := fun u9 => J (p.1, p.2.1, 0, p.2.2.2.1, p.2.2.2.2) u9) (d_183 hp h t0) (fun s1 h1 => ?_)
  have hJ2 := h1
  refine gT_v1 (A := fun w9 u9 => True ∧ J (p.1, p.2.1, 0, p.2.2.2.1, p.2.2.2.2) u9) (d_184 hp hJ2 t0) (fun v4 s3 h3 => ?_)
  obtain ⟨h3r, hJ4⟩ := h3
  refine gT_ite (fun h5 => ?_) (fun h6 => ?_)
  · unfold fb_195_24
    extract_lets -merge s5 s6 s7
    have hJ7 : J (p.1, p.2.1, 0, p.2.2.2.1, p.2.2.2.2) s5 := (J_wf hJ4 t0 rfl (by decide) (by decide) (fun q hq => by cases hq))
    refine gT_ite (fun h8 => ?_) (fun h9 => ?_)
    · have := rd_same (show s5 = (gw s3 a0 0 0) from rfl)
      exact gT_ret ⟨rfl, trivial, hJ7⟩
    · have := rd_same (show s5 = (gw s3 a0 0 0) from rfl)
      have hJ10 : J (p.1, p.2.1, 0, p.2.2.2.1, p.2.2.2.2) s6 := (J_wm hJ7 hJ7 t0 (fun q hq => by cases hq))
      have hJ11 : J (p.1, p.2.1, 0, p.2.2.2.1, p.2.2.2.2) s7 := (J_wm hJ10 hJ10 t0 (fun q hq => by cases hq; dsimp only; have := rd_k (a := a0) (k := 10) (show s6 = (gw s5 (gR s5 a0 1) 1 v4) from rfl) (by decide); have := rd_k (a := a0) (k := 10) (show s5 = (gw s3 a0 0 0) from rfl) (by decide); have := J_f (i := 10) hJ4 t0 rfl (by decide) rfl; constructor <;> omega))
      refine gT_loop (fun y => T 12 y.1 ∧ (0 ≤ y.2.2.1 ∧ y.2.2.1 ≤ 400) ∧ y.2.1 = v4 ∧ J (p.1, p.2.1, 0, p.2.2.2.1, p.2.2.2.2) y.2.2.2) (fun y => (400 - y.2.2.1).toNat) (fun y hy => ?_) ?_
      · obtain ⟨x0, x1, x2, s⟩ := y
        obtain ⟨t12, r13, e14, hJ15⟩ := hy
        dsimp only at t12 r13 e14 hJ15
        show gT (sb_195_55 x0 x1 x2 s) _
        unfold sb_195_55
        extract_lets -merge s8 s9
        refine gT_ite (fun h16 => ?_) (fun h17 => ?_)
        · have := J_f (i := 10) hJ15 t12 rfl (by decide) rfl
          refine gT_chk (by omega) (by omega) ?_
          refine gT_chk (by have := g32_eq (v := (340 + x2)) (by omega) (by omega); omega) (by have := g32_eq (v := (340 + x2)) (by omega) (by omega); omega) ?_
          have hJ18 : J (p.1, p.2.1, 0, p.2.2.2.1, p.2.2.2.2) s8 := (J_wmf hJ15 hJ15 t12 (by have := g32_eq (v := (340 + x2)) (by omega) (by omega); omega))
          exact gT_ret ⟨⟨t12, (show (0 : Int) ≤ (g32 (x2 + 1)) ∧ (g32 (x2 + 1)) ≤ 400 by have := g32_eq (v := (x2 + 1)) (by omega) (by omega); constructor <;> omega), (by first | assumption | omega | (dsimp only; omega)), hJ18⟩, by dsimp only; have := g32_eq (v := (x2 + 1)) (by omega) (by omega); omega⟩
        · have := J_f (i := 10) hJ15 t12 rfl (by decide) rfl
          refine gT_map ?_
          have hJ19 : J (p.1, p.2.1, 0, p.2.2.2.1, p.2.2.2.2) s9 := (J_wf hJ15 t12 rfl (by decide) (by decide) (fun q hq => by cases hq; dsimp only; constructor <;> omega))
          exact gT_ret ⟨rfl, trivial, hJ19⟩
      · exact ⟨t0, (show (0 : Int) ≤ 0 ∧ 0 ≤ 400 by constructor <;> omega), rfl, hJ11⟩
  · unfold fb_195_24
    extract_lets -merge s5 s6 s7
    have hJ20 : J (p.1, p.2.1, 0, p.2.2.2.1, p.2.2.2.2) s5 := (J_wf hJ4 t0 rfl (by decide) (by decide) (fun q hq => by cases hq))
    refine gT_ite (fun h21 => ?_) (fun h22 => ?_)
    · have := rd_same (show s5 = (gw s3 a0 0 1) from rfl)
      exact gT_ret ⟨rfl, trivial, hJ20⟩
    · have := rd_same (show s5 = (gw s3 a0 0 1) from rfl)
      have hJ23 : J (p.1, p.2.1, 0, p.2.2.2.1, p.2.2.2.2) s6 := (J_wm hJ20 hJ20 t0 (fun q hq => by cases hq))
      have hJ24 : J (p.1, p.2.1, 0, p.2.2.2.1, p.2.2.2.2) s7 := (J_wm hJ23 hJ23 t0 (fun q hq => by cases hq; dsimp only; have := rd_k (a := a0) (k := 10) (show s6 = (gw s5 (gR s5 a0 1) 1 v4) from rfl) (by decide); have := rd_k (a := a0) (k := 10) (show s5 = (gw s3 a0 0 1) from rfl) (by decide); have := J_f (i := 10) hJ4 t0 rfl (by decide) rfl; constructor <;> omega))
      refine gT_loop (fun y => T 12 y.1 ∧ (0 ≤ y.2.2.1 ∧ y.2.2.1 ≤ 400) ∧ y.2.1 = v4 ∧ J (p.1, p.2.1, 0, p.2.2.2.1, p.2.2.2.2) y.2.2.2) (fun y => (400 - y.2.2.1).toNat) (fun y hy => ?_) ?_
      · obtain ⟨x0, x1, x2, s⟩ := y
        obtain ⟨t25, r26, e27, hJ28⟩ := hy
        dsimp only at t25 r26 e27 hJ28
        show gT (sb_195_55 x0 x1 x2 s) _
        unfold sb_195_55
        extract_lets -merge s8 s9
        refine gT_ite (fun h29 => ?_) (fun h30 => ?_)
        · have := J_f (i := 10) hJ28 t25 rfl (by decide) rfl
          refine gT_chk (by omega) (by omega) ?_
          refine gT_chk (by have := g32_eq (v := (340 + x2)) (by omega) (by omega); omega) (by have := g32_eq (v := (340 + x2)) (by omega) (by omega); omega) ?_
          have hJ31 : J (p.1, p.2.1, 0, p.2.2.2.1, p.2.2.2.2) s8 := (J_wmf hJ28 hJ28 t25 (by have := g32_eq (v := (340 + x2)) (by omega) (by omega); omega))
          exact gT_ret ⟨⟨t25, (show (0 : Int) ≤ (g32 (x2 + 1)) ∧ (g32 (x2 + 1)) ≤ 400 by have := g32_eq (v := (x2 + 1)) (by omega) (by omega); constructor <;> omega), (by first | assumption | omega | (dsimp only; omega)), hJ31⟩, by dsimp only; have := g32_eq (v := (x2 + 1)) (by omega) (by omega); omega⟩
        · have := J_f (i := 10) hJ28 t25 rfl (by decide) rfl
          refine gT_map ?_
          have hJ32 : J (p.1, p.2.1, 0, p.2.2.2.1, p.2.2.2.2) s9 := (J_wf hJ28 t25 rfl (by decide) (by decide) (fun q hq => by cases hq; dsimp only; constructor <;> omega))
          exact gT_ret ⟨rfl, trivial, hJ32⟩
      · exact ⟨t0, (show (0 : Int) ≤ 0 ∧ 0 ≤ 400 by constructor <;> omega), rfl, hJ24⟩
-- X12_turnsBy
theorem d_197 {p : gP} {a0 : Nat} {a1 : Int} {a2 : Int} {a3 : Int} {a4 : Int} {a5 : Int} {a6 : Int} {a7 : Int} {s : gS} (hp : -1 ≤ p.1 ∧ p.1 ≤ 0) (h : J p s) (t0 : T 12 a0) : gT (f_197 a0 a1 a2 a3 a4 a5 a6 a7 s) (fun r => r.1 = 1 ∧ True ∧ J p r.2.2.2) := by
  unfold f_197
  extract_lets -merge s1 s2 s3 s4 s5 s6 s7
  refine gT_ite (fun h1 => ?_) (fun h2 => ?_)
  · exact gT_ret ⟨rfl, trivial, h⟩
  · have hJ3 : J p s1 := (J_wa h (T_f (i := 14) h t0 (by decide) rfl rfl) rfl)
    have hJ4 : J p s2 := (J_wa hJ3 (T_f (i := 14) hJ3 t0 (by decide) rfl rfl) rfl)
    have hJ5 : J p s3 := (J_wa hJ4 (T_f (i := 14) hJ4 t0 (by decide) rfl rfl) rfl)
    have hJ6 : J p s4 := (J_wa hJ5 (T_f (i := 14) hJ5 t0 (by decide) rfl rfl) rfl)
    have hJ7 : J p s5 := (J_wa hJ6 (T_f (i := 14) hJ6 t0 (by decide) rfl rfl) rfl)
    have hJ8 : J p s6 := (J_wa hJ7 (T_f (i := 14) hJ7 t0 (by decide) rfl rfl) rfl)
    have hJ9 : J p s7 := (J_wa hJ8 (T_f (i := 14) hJ8 t0 (by decide) rfl rfl) rfl)
    refine gT_ite (fun h10 => ?_) (fun h11 => ?_)
    · unfold fb_197_80
      extract_lets -merge s8
      refine gT_bool (by omega) ?_
      have hJ12 : J p s8 := (J_wf hJ9 t0 rfl (by decide) (by decide) (fun q hq => by cases hq; dsimp only; constructor <;> omega))
      refine gT_ite (fun h13 => ?_) (fun h14 => ?_)
      · have := rd_k (a := (gR s8 a0 1)) (k := 3) (show s8 = (gw s7 a0 15 1) from rfl) (by decide)
        have := rd_k (a := (gR s8 a0 1)) (k := 3) (show s7 = (gw s6 (gR s6 a0 14) 6 a7) from rfl) (by decide)
        have := rd_k (a := (gR s8 a0 1)) (k := 3) (show s6 = (gw s5 (gR s5 a0 14) 5 (gdiv a6 10)) from rfl) (by decide)
        have := rd_k (a := (gR s8 a0 1)) (k := 3) (show s5 = (gw s4 (gR s4 a0 14) 4 a5) from rfl) (by decide)
        have := rd_T (a := (gR s8 a0 1)) (k := 3) (show s4 = (gw s3 (gR s3 a0 14) 3 a4) from rfl) (T_f (i := 1) hJ12 t0 (by decide) rfl rfl) (T_f (i := 14) hJ5 t0 (by decide) rfl rfl) (by decide)
        have := rd_k (a := (gR s8 a0 1)) (k := 3) (show s3 = (gw s2 (gR s2 a0 14) 2 a3) from rfl) (by decide)
        have := rd_k (a := (gR s8 a0 1)) (k := 3) (show s2 = (gw s1 (gR s1 a0 14) 1 a2) from rfl) (by decide)
        have := rd_k (a := (gR s8 a0 1)) (k := 3) (show s1 = (gw s (gR s a0 14) 0 a1) from rfl) (by decide)
        have := J_m (k := 3) h hJ12 t0 rfl
        unfold fb_197_100
        extract_lets -merge s9 s10 s11 s12 s13 s14 s15
        refine gT_bool (by omega) ?_
        have hJ15 : J p s9 := (J_wf hJ12 t0 rfl (by decide) (by decide) (fun q hq => by cases hq; dsimp only; constructor <;> omega))
        have hJ16 : J p s10 := (J_wf hJ15 t0 rfl (by decide) (by decide) (fun q hq => by cases hq))
        have hJ17 : J p s11 := (J_wf hJ16 t0 rfl (by decide) (by decide) (fun q hq => by cases hq))
        have hJ18 : J p s12 := (J_wf hJ17 t0 rfl (by decide) (by decide) (fun q hq => by cases hq; dsimp only; constructor <;> omega))
        have hJ19 : J p s13 := (J_wf hJ18 t0 rfl (by decide) (by decide) (fun q hq => by cases hq; dsimp only; have := rd_k (a := (gR s12 a0 1)) (k := 2) (show s12 = (gw s11 a0 9 340) from rfl) (by decide); have := rd_k (a := (gR s12 a0 1)) (k := 2) (show s11 = (gw s10 a0 12 (-1)) from rfl) (by decide); have := rd_k (a := (gR s12 a0 1)) (k := 2) (show s10 = (gw s9 a0 17 0) from rfl) (by decide); have := rd_k (a := (gR s12 a0 1)) (k := 2) (show s9 = (gw s8 a0 16 0) from rfl) (by decide); have := rd_k (a := (gR s12 a0 1)) (k := 2) (show s8 = (gw s7 a0 15 1) from rfl) (by decide); have := rd_k (a := (gR s12 a0 1)) (k := 2) (show s7 = (gw s6 (gR s6 a0 14) 6 a7) from rfl) (by decide); have := rd_k (a := (gR s12 a0 1)) (k := 2) (show s6 = (gw s5 (gR s5 a0 14) 5 (gdiv a6 10)) from rfl) (by decide); have := rd_k (a := (gR s12 a0 1)) (k := 2) (show s5 = (gw s4 (gR s4 a0 14) 4 a5) from rfl) (by decide); have := rd_k (a := (gR s12 a0 1)) (k := 2) (show s4 = (gw s3 (gR s3 a0 14) 3 a4) from rfl) (by decide); have := rd_T (a := (gR s12 a0 1)) (k := 2) (show s3 = (gw s2 (gR s2 a0 14) 2 a3) from rfl) (T_f (i := 1) hJ18 t0 (by decide) rfl rfl) (T_f (i := 14) hJ4 t0 (by decide) rfl rfl) (by decide); have := rd_k (a := (gR s12 a0 1)) (k := 2) (show s2 = (gw s1 (gR s1 a0 14) 1 a2) from rfl) (by decide); have := rd_k (a := (gR s12 a0 1)) (k := 2) (show s1 = (gw s (gR s a0 14) 0 a1) from rfl) (by decide); have := J_m (k := 2) h hJ18 t0 rfl; constructor <;> omega))
        have hJ20 : J p s14 := (J_wf hJ19 t0 rfl (by decide) (by decide) (fun q hq => by cases hq; dsimp only; constructor <;> omega))
        have hJ21 : J p s15 := (J_wf hJ20 t0 rfl (by decide) (by decide) (fun q hq => by cases hq; dsimp only; constructor <;> omega))
        refine gT_v1 (A := fun w9 u9 => True ∧ J p u9) (d_184 hp hJ21 t0) (fun v17 s16 h22 => ?_)
        obtain ⟨h22r, hJ23⟩ := h22
        extract_lets -merge s18
        have hJ24 : J p s18 := (J_wf hJ23 t0 rfl (by decide) (by decide) (fun q hq => by cases hq))
        exact gT_ret ⟨rfl, trivial, hJ24⟩
      · have := rd_k (a := (gR s8 a0 1)) (k := 3) (show s8 = (gw s7 a0 15 1) from rfl) (by decide)
        have := rd_k (a := (gR s8 a0 1)) (k := 3) (show s7 = (gw s6 (gR s6 a0 14) 6 a7) from rfl) (by decide)
        have := rd_k (a := (gR s8 a0 1)) (k := 3) (show s6 = (gw s5 (gR s5 a0 14) 5 (gdiv a6 10)) from rfl) (by decide)
        have := rd_k (a := (gR s8 a0 1)) (k := 3) (show s5 = (gw s4 (gR s4 a0 14) 4 a5) from rfl) (by decide)
        have := rd_T (a := (gR s8 a0 1)) (k := 3) (show s4 = (gw s3 (gR s3 a0 14) 3 a4) from rfl) (T_f (i := 1) hJ12 t0 (by decide) rfl rfl) (T_f (i := 14) hJ5 t0 (by decide) rfl rfl) (by decide)
        have := rd_k (a := (gR s8 a0 1)) (k := 3) (show s3 = (gw s2 (gR s2 a0 14) 2 a3) from rfl) (by decide)
        have := rd_k (a := (gR s8 a0 1)) (k := 3) (show s2 = (gw s1 (gR s1 a0 14) 1 a2) from rfl) (by decide)
        have := rd_k (a := (gR s8 a0 1)) (k := 3) (show s1 = (gw s (gR s a0 14) 0 a1) from rfl) (by decide)
        have := J_m (k := 3) h hJ12 t0 rfl
        unfold fb_197_100
        extract_lets -merge s9 s10 s11 s12 s13 s14 s15
        refine gT_bool (by omega) ?_
        have hJ25 : J p s9 := (J_wf hJ12 t0 rfl (by decide) (by decide) (fun q hq => by cases hq; dsimp only; constructor <;> omega))
        have hJ26 : J p s10 := (J_wf hJ25 t0 rfl (by decide) (by decide) (fun q hq => by cases hq))
        have hJ27 : J p s11 := (J_wf hJ26 t0 rfl (by decide) (by decide) (fun q hq => by cases hq))
        have hJ28 : J p s12 := (J_wf hJ27 t0 rfl (by decide) (by decide) (fun q hq => by cases hq; dsimp only; constructor <;> omega))
        have hJ29 : J p s13 := (J_wf hJ28 t0 rfl (by decide) (by decide) (fun q hq => by cases hq; dsimp only; have := rd_k (a := (gR s12 a0 1)) (k := 2) (show s12 = (gw s11 a0 9 340) from rfl) (by decide); have := rd_k (a := (gR s12 a0 1)) (k := 2) (show s11 = (gw s10 a0 12 (-1)) from rfl) (by decide); have := rd_k (a := (gR s12 a0 1)) (k := 2) (show s10 = (gw s9 a0 17 0) from rfl) (by decide); have := rd_k (a := (gR s12 a0 1)) (k := 2) (show s9 = (gw s8 a0 16 1) from rfl) (by decide); have := rd_k (a := (gR s12 a0 1)) (k := 2) (show s8 = (gw s7 a0 15 1) from rfl) (by decide); have := rd_k (a := (gR s12 a0 1)) (k := 2) (show s7 = (gw s6 (gR s6 a0 14) 6 a7) from rfl) (by decide); have := rd_k (a := (gR s12 a0 1)) (k := 2) (show s6 = (gw s5 (gR s5 a0 14) 5 (gdiv a6 10)) from rfl) (by decide); have := rd_k (a := (gR s12 a0 1)) (k := 2) (show s5 = (gw s4 (gR s4 a0 14) 4 a5) from rfl) (by decide); have := rd_k (a := (gR s12 a0 1)) (k := 2) (show s4 = (gw s3 (gR s3 a0 14) 3 a4) from rfl) (by decide); have := rd_T (a := (gR s12 a0 1)) (k := 2) (show s3 = (gw s2 (gR s2 a0 14) 2 a3) from rfl) (T_f (i := 1) hJ28 t0 (by decide) rfl rfl) (T_f (i := 14) hJ4 t0 (by decide) rfl rfl) (by decide); have := rd_k (a := (gR s12 a0 1)) (k := 2) (show s2 = (gw s1 (gR s1 a0 14) 1 a2) from rfl) (by decide); have := rd_k (a := (gR s12 a0 1)) (k := 2) (show s1 = (gw s (gR s a0 14) 0 a1) from rfl) (by decide); have := J_m (k := 2) h hJ28 t0 rfl; constructor <;> omega))
        have hJ30 : J p s14 := (J_wf hJ29 t0 rfl (by decide) (by decide) (fun q hq => by cases hq; dsimp only; constructor <;> omega))
        have hJ31 : J p s15 := (J_wf hJ30 t0 rfl (by decide) (by decide) (fun q hq => by cases hq; dsimp only; constructor <;> omega))
        refine gT_v1 (A := fun w9 u9 => True ∧ J p u9) (d_184 hp hJ31 t0) (fun v17 s16 h32 => ?_)
        obtain ⟨h32r, hJ33⟩ := h32
        extract_lets -merge s18
        have hJ34 : J p s18 := (J_wf hJ33 t0 rfl (by decide) (by decide) (fun q hq => by cases hq))
        exact gT_ret ⟨rfl, trivial, hJ34⟩
    · unfold fb_197_80
      extract_lets -merge s8
      refine gT_bool (by omega) ?_
      have hJ35 : J p s8 := (J_wf hJ9 t0 rfl (by decide) (by decide) (fun q hq => by cases hq; dsimp only; constructor <;> omega))
      refine gT_ite (fun h36 => ?_) (fun h37 => ?_)
      · have := rd_k (a := (gR s8 a0 1)) (k := 3) (show s8 = (gw s7 a0 15 0) from rfl) (by decide)
        have := rd_k (a := (gR s8 a0 1)) (k := 3) (show s7 = (gw s6 (gR s6 a0 14) 6 a7) from rfl) (by decide)
        have := rd_k (a := (gR s8 a0 1)) (k := 3) (show s6 = (gw s5 (gR s5 a0 14) 5 (gdiv a6 10)) from rfl) (by decide)
        have := rd_k (a := (gR s8 a0 1)) (k := 3) (show s5 = (gw s4 (gR s4 a0 14) 4 a5) from rfl) (by decide)
        have := rd_T (a := (gR s8 a0 1)) (k := 3) (show s4 = (gw s3 (gR s3 a0 14) 3 a4) from rfl) (T_f (i := 1) hJ35 t0 (by decide) rfl rfl) (T_f (i := 14) hJ5 t0 (by decide) rfl rfl) (by decide)
        have := rd_k (a := (gR s8 a0 1)) (k := 3) (show s3 = (gw s2 (gR s2 a0 14) 2 a3) from rfl) (by decide)
        have := rd_k (a := (gR s8 a0 1)) (k := 3) (show s2 = (gw s1 (gR s1 a0 14) 1 a2) from rfl) (by decide)
        have := rd_k (a := (gR s8 a0 1)) (k := 3) (show s1 = (gw s (gR s a0 14) 0 a1) from rfl) (by decide)
        have := J_m (k := 3) h hJ35 t0 rfl
        unfold fb_197_100
        extract_lets -merge s9 s10 s11 s12 s13 s14 s15
        refine gT_bool (by omega) ?_
        have hJ38 : J p s9 := (J_wf hJ35 t0 rfl (by decide) (by decide) (fun q hq => by cases hq; dsimp only; constructor <;> omega))
        have hJ39 : J p s10 := (J_wf hJ38 t0 rfl (by decide) (by decide) (fun q hq => by cases hq))
        have hJ40 : J p s11 := (J_wf hJ39 t0 rfl (by decide) (by decide) (fun q hq => by cases hq))
        have hJ41 : J p s12 := (J_wf hJ40 t0 rfl (by decide) (by decide) (fun q hq => by cases hq; dsimp only; constructor <;> omega))
        have hJ42 : J p s13 := (J_wf hJ41 t0 rfl (by decide) (by decide) (fun q hq => by cases hq; dsimp only; have := rd_k (a := (gR s12 a0 1)) (k := 2) (show s12 = (gw s11 a0 9 340) from rfl) (by decide); have := rd_k (a := (gR s12 a0 1)) (k := 2) (show s11 = (gw s10 a0 12 (-1)) from rfl) (by decide); have := rd_k (a := (gR s12 a0 1)) (k := 2) (show s10 = (gw s9 a0 17 0) from rfl) (by decide); have := rd_k (a := (gR s12 a0 1)) (k := 2) (show s9 = (gw s8 a0 16 0) from rfl) (by decide); have := rd_k (a := (gR s12 a0 1)) (k := 2) (show s8 = (gw s7 a0 15 0) from rfl) (by decide); have := rd_k (a := (gR s12 a0 1)) (k := 2) (show s7 = (gw s6 (gR s6 a0 14) 6 a7) from rfl) (by decide); have := rd_k (a := (gR s12 a0 1)) (k := 2) (show s6 = (gw s5 (gR s5 a0 14) 5 (gdiv a6 10)) from rfl) (by decide); have := rd_k (a := (gR s12 a0 1)) (k := 2) (show s5 = (gw s4 (gR s4 a0 14) 4 a5) from rfl) (by decide); have := rd_k (a := (gR s12 a0 1)) (k := 2) (show s4 = (gw s3 (gR s3 a0 14) 3 a4) from rfl) (by decide); have := rd_T (a := (gR s12 a0 1)) (k := 2) (show s3 = (gw s2 (gR s2 a0 14) 2 a3) from rfl) (T_f (i := 1) hJ41 t0 (by decide) rfl rfl) (T_f (i := 14) hJ4 t0 (by decide) rfl rfl) (by decide); have := rd_k (a := (gR s12 a0 1)) (k := 2) (show s2 = (gw s1 (gR s1 a0 14) 1 a2) from rfl) (by decide); have := rd_k (a := (gR s12 a0 1)) (k := 2) (show s1 = (gw s (gR s a0 14) 0 a1) from rfl) (by decide); have := J_m (k := 2) h hJ41 t0 rfl; constructor <;> omega))
        have hJ43 : J p s14 := (J_wf hJ42 t0 rfl (by decide) (by decide) (fun q hq => by cases hq; dsimp only; constructor <;> omega))
        have hJ44 : J p s15 := (J_wf hJ43 t0 rfl (by decide) (by decide) (fun q hq => by cases hq; dsimp only; constructor <;> omega))
        refine gT_v1 (A := fun w9 u9 => True ∧ J p u9) (d_184 hp hJ44 t0) (fun v17 s16 h45 => ?_)
        obtain ⟨h45r, hJ46⟩ := h45
        extract_lets -merge s18
        have hJ47 : J p s18 := (J_wf hJ46 t0 rfl (by decide) (by decide) (fun q hq => by cases hq))
        exact gT_ret ⟨rfl, trivial, hJ47⟩
      · have := rd_k (a := (gR s8 a0 1)) (k := 3) (show s8 = (gw s7 a0 15 0) from rfl) (by decide)
        have := rd_k (a := (gR s8 a0 1)) (k := 3) (show s7 = (gw s6 (gR s6 a0 14) 6 a7) from rfl) (by decide)
        have := rd_k (a := (gR s8 a0 1)) (k := 3) (show s6 = (gw s5 (gR s5 a0 14) 5 (gdiv a6 10)) from rfl) (by decide)
        have := rd_k (a := (gR s8 a0 1)) (k := 3) (show s5 = (gw s4 (gR s4 a0 14) 4 a5) from rfl) (by decide)
        have := rd_T (a := (gR s8 a0 1)) (k := 3) (show s4 = (gw s3 (gR s3 a0 14) 3 a4) from rfl) (T_f (i := 1) hJ35 t0 (by decide) rfl rfl) (T_f (i := 14) hJ5 t0 (by decide) rfl rfl) (by decide)
        have := rd_k (a := (gR s8 a0 1)) (k := 3) (show s3 = (gw s2 (gR s2 a0 14) 2 a3) from rfl) (by decide)
        have := rd_k (a := (gR s8 a0 1)) (k := 3) (show s2 = (gw s1 (gR s1 a0 14) 1 a2) from rfl) (by decide)
        have := rd_k (a := (gR s8 a0 1)) (k := 3) (show s1 = (gw s (gR s a0 14) 0 a1) from rfl) (by decide)
        have := J_m (k := 3) h hJ35 t0 rfl
        unfold fb_197_100
        extract_lets -merge s9 s10 s11 s12 s13 s14 s15
        refine gT_bool (by omega) ?_
        have hJ48 : J p s9 := (J_wf hJ35 t0 rfl (by decide) (by decide) (fun q hq => by cases hq; dsimp only; constructor <;> omega))
        have hJ49 : J p s10 := (J_wf hJ48 t0 rfl (by decide) (by decide) (fun q hq => by cases hq))
        have hJ50 : J p s11 := (J_wf hJ49 t0 rfl (by decide) (by decide) (fun q hq => by cases hq))
        have hJ51 : J p s12 := (J_wf hJ50 t0 rfl (by decide) (by decide) (fun q hq => by cases hq; dsimp only; constructor <;> omega))
        have hJ52 : J p s13 := (J_wf hJ51 t0 rfl (by decide) (by decide) (fun q hq => by cases hq; dsimp only; have := rd_k (a := (gR s12 a0 1)) (k := 2) (show s12 = (gw s11 a0 9 340) from rfl) (by decide); have := rd_k (a := (gR s12 a0 1)) (k := 2) (show s11 = (gw s10 a0 12 (-1)) from rfl) (by decide); have := rd_k (a := (gR s12 a0 1)) (k := 2) (show s10 = (gw s9 a0 17 0) from rfl) (by decide); have := rd_k (a := (gR s12 a0 1)) (k := 2) (show s9 = (gw s8 a0 16 1) from rfl) (by decide); have := rd_k (a := (gR s12 a0 1)) (k := 2) (show s8 = (gw s7 a0 15 0) from rfl) (by decide); have := rd_k (a := (gR s12 a0 1)) (k := 2) (show s7 = (gw s6 (gR s6 a0 14) 6 a7) from rfl) (by decide); have := rd_k (a := (gR s12 a0 1)) (k := 2) (show s6 = (gw s5 (gR s5 a0 14) 5 (gdiv a6 10)) from rfl) (by decide); have := rd_k (a := (gR s12 a0 1)) (k := 2) (show s5 = (gw s4 (gR s4 a0 14) 4 a5) from rfl) (by decide); have := rd_k (a := (gR s12 a0 1)) (k := 2) (show s4 = (gw s3 (gR s3 a0 14) 3 a4) from rfl) (by decide); have := rd_T (a := (gR s12 a0 1)) (k := 2) (show s3 = (gw s2 (gR s2 a0 14) 2 a3) from rfl) (T_f (i := 1) hJ51 t0 (by decide) rfl rfl) (T_f (i := 14) hJ4 t0 (by decide) rfl rfl) (by decide); have := rd_k (a := (gR s12 a0 1)) (k := 2) (show s2 = (gw s1 (gR s1 a0 14) 1 a2) from rfl) (by decide); have := rd_k (a := (gR s12 a0 1)) (k := 2) (show s1 = (gw s (gR s a0 14) 0 a1) from rfl) (by decide); have := J_m (k := 2) h hJ51 t0 rfl; constructor <;> omega))
        have hJ53 : J p s14 := (J_wf hJ52 t0 rfl (by decide) (by decide) (fun q hq => by cases hq; dsimp only; constructor <;> omega))
        have hJ54 : J p s15 := (J_wf hJ53 t0 rfl (by decide) (by decide) (fun q hq => by cases hq; dsimp only; constructor <;> omega))
        refine gT_v1 (A := fun w9 u9 => True ∧ J p u9) (d_184 hp hJ54 t0) (fun v17 s16 h55 => ?_)
        obtain ⟨h55r, hJ56⟩ := h55
        extract_lets -merge s18
        have hJ57 : J p s18 := (J_wf hJ56 t0 rfl (by decide) (by decide) (fun q hq => by cases hq))
        exact gT_ret ⟨rfl, trivial, hJ57⟩
-- X12_turnsNow
theorem d_198 {p : gP} {a0 : Nat} {a1 : Int} {s : gS} (hp : -1 ≤ p.1 ∧ p.1 ≤ 0) (h : J p s) (t0 : T 12 a0) (r1 : 0 ≤ a1 ∧ a1 ≤ 5) : gT (f_198 a0 a1 s) (fun r => r.1 = 1 ∧ True ∧ J p r.2.2.2) := by
  unfold f_198
  refine gT_v1 (A := fun w9 u9 => (0 ≤ w9 ∧ w9 ≤ 99) ∧ J p u9) (d_156_0 hp h t0 (show (0 : Int) ≤ a1 ∧ a1 ≤ 5 by constructor <;> omega)) (fun v2 s1 h1 => ?_)
  obtain ⟨h1r, hJ2⟩ := h1
  refine gT_v1 (A := fun w9 u9 => (0 ≤ w9 ∧ w9 ≤ 9) ∧ J p u9) (d_156_1 hp hJ2 t0 (show (0 : Int) ≤ a1 ∧ a1 ≤ 5 by constructor <;> omega)) (fun v4 s3 h3 => ?_)
  obtain ⟨h3r, hJ4⟩ := h3
  refine gT_v1 (A := fun w9 u9 => (0 ≤ w9 ∧ w9 ≤ 8) ∧ J p u9) (d_156_3 hp hJ4 t0 (show (0 : Int) ≤ a1 ∧ a1 ≤ 5 by constructor <;> omega)) (fun v6 s5 h5 => ?_)
  obtain ⟨h5r, hJ6⟩ := h5
  refine gT_v1 (A := fun w9 u9 => True ∧ J p u9) (d_156_4 hp hJ6 t0 (show (0 : Int) ≤ a1 ∧ a1 ≤ 5 by constructor <;> omega)) (fun v8 s7 h7 => ?_)
  obtain ⟨h7r, hJ8⟩ := h7
  refine gT_v1 (A := fun w9 u9 => True ∧ J p u9) (d_197 hp hJ8 t0) (fun v10 s9 h9 => ?_)
  obtain ⟨h9r, hJ10⟩ := h9
  exact gT_ret ⟨rfl, trivial, hJ10⟩
-- X12_works
theorem d_201 {p : gP} {a0 : Nat} {a1 : Int} {s : gS} (hp : -1 ≤ p.1 ∧ p.1 ≤ 0) (h : J p s) (t0 : T 12 a0) (r1 : 0 ≤ a1 ∧ a1 ≤ 5) : gT (f_201 a0 a1 s) (fun r => r.1 = 0 ∧ J p r.2.2.2) := by
  unfold f_201
  refine gT_v1 (A := fun w9 u9 => (0 ≤ w9 ∧ w9 ≤ 8) ∧ J p u9) (d_156_3 hp h t0 (show (0 : Int) ≤ a1 ∧ a1 ≤ 5 by constructor <;> omega)) (fun v2 s1 h1 => ?_)
  obtain ⟨h1r, hJ2⟩ := h1
  refine gT_ite (fun h3 => ?_) (fun h4 => ?_)
  · have := J_m (k := 3) hJ2 hJ2 t0 rfl
    refine gT_v1 (A := fun w9 u9 => True ∧ J p u9) (d_156_4 hp hJ2 t0 (show (0 : Int) ≤ a1 ∧ a1 ≤ 5 by constructor <;> omega)) (fun v4 s3 h5 => ?_)
    obtain ⟨h5r, hJ6⟩ := h5
    refine gT_ite (fun h7 => ?_) (fun h8 => ?_)
    · refine gT_v1 (A := fun w9 u9 => True ∧ J p u9) (d_155 hp hJ6 t0 (show (0 : Int) ≤ v2 ∧ v2 ≤ 8 by constructor <;> omega) (show (0 : Int) ≤ 1 ∧ 1 ≤ 2 by constructor <;> omega)) (fun v6 s5 h9 => ?_)
      obtain ⟨h9r, hJ10⟩ := h9
      refine gT_v0 (A := fun u9 => J p u9) (d_200 hp hJ10 t0) (fun s7 h11 => ?_)
      have hJ12 := h11
      unfold fb_201_37
      refine gT_v1 (A := fun w9 u9 => True ∧ J p u9) (d_156_4 hp hJ12 t0 (show (0 : Int) ≤ a1 ∧ a1 ≤ 5 by constructor <;> omega)) (fun v10 s9 h13 => ?_)
      obtain ⟨h13r, hJ14⟩ := h13
      refine gT_v0 (A := fun u9 => J p u9) (d_157_4 hp hJ14 t0 (show (0 : Int) ≤ a1 ∧ a1 ≤ 5 by constructor <;> omega)) (fun s11 h15 => ?_)
      have hJ16 := h15
      refine gT_v1 (A := fun w9 u9 => True ∧ J p u9) (d_156_4 hp hJ16 t0 (show (0 : Int) ≤ a1 ∧ a1 ≤ 5 by constructor <;> omega)) (fun v14 s13 h17 => ?_)
      obtain ⟨h17r, hJ18⟩ := h17
      refine gT_v1 (A := fun w9 u9 => True ∧ J p u9) (d_155 hp hJ18 t0 (show (0 : Int) ≤ v2 ∧ v2 ≤ 8 by constructor <;> omega) (show (0 : Int) ≤ 0 ∧ 0 ≤ 2 by constructor <;> omega)) (fun v16 s15 h19 => ?_)
      obtain ⟨h19r, hJ20⟩ := h19
      refine gT_ite (fun h21 => ?_) (fun h22 => ?_)
      · exact gT_ret ⟨rfl, hJ20⟩
      · refine gT_v1 (A := fun w9 u9 => (0 ≤ w9 ∧ w9 ≤ 99) ∧ J p u9) (d_156_0 hp hJ20 t0 (show (0 : Int) ≤ a1 ∧ a1 ≤ 5 by constructor <;> omega)) (fun v18 s17 h23 => ?_)
        obtain ⟨h23r, hJ24⟩ := h23
        refine gT_v1 (A := fun w9 u9 => (0 ≤ w9 ∧ w9 ≤ 50) ∧ J p u9) (d_155_2 hp hJ24 t0 (show (0 : Int) ≤ v2 ∧ v2 ≤ 7 by constructor <;> omega)) (fun v20 s19 h25 => ?_)
        obtain ⟨h25r, hJ26⟩ := h25
        refine gT_v1 (A := fun w9 u9 => (w9 ≤ 99 ∧ w9 ≤ (g32 (v18 + v20)) ∧ (w9 = 99 ∨ w9 = (g32 (v18 + v20)))) ∧ True ∧ J p u9) (d_151 hp hJ26) (fun v22 s21 h27 => ?_)
        obtain ⟨h27e, h27r, hJ28⟩ := h27
        have := g32_eq (v := (v18 + v20)) (by omega) (by omega)
        refine gT_v0 (A := fun u9 => J p u9) (d_157_0 hp hJ28 t0 (show (0 : Int) ≤ a1 ∧ a1 ≤ 5 by constructor <;> omega) (show (0 : Int) ≤ v22 ∧ v22 ≤ 99 by constructor <;> omega)) (fun s23 h29 => ?_)
        have hJ30 := h29
        refine gT_v0 (A := fun u9 => J p u9) (d_157_3 hp hJ30 t0 (show (0 : Int) ≤ a1 ∧ a1 ≤ 5 by constructor <;> omega) (show (0 : Int) ≤ (g32 (v2 + 1)) ∧ (g32 (v2 + 1)) ≤ 8 by have := g32_eq (v := (v2 + 1)) (by omega) (by omega); constructor <;> omega)) (fun s25 h31 => ?_)
        have hJ32 := h31
        refine gT_v0 (A := fun u9 => J p u9) (d_157_4 hp hJ32 t0 (show (0 : Int) ≤ a1 ∧ a1 ≤ 5 by constructor <;> omega)) (fun s27 h33 => ?_)
        have hJ34 := h33
        exact gT_ret ⟨rfl, hJ34⟩
    · unfold fb_201_37
      refine gT_v1 (A := fun w9 u9 => True ∧ J p u9) (d_156_4 hp hJ6 t0 (show (0 : Int) ≤ a1 ∧ a1 ≤ 5 by constructor <;> omega)) (fun v10 s9 h35 => ?_)
      obtain ⟨h35r, hJ36⟩ := h35
      refine gT_v0 (A := fun u9 => J p u9) (d_157_4 hp hJ36 t0 (show (0 : Int) ≤ a1 ∧ a1 ≤ 5 by constructor <;> omega)) (fun s11 h37 => ?_)
      have hJ38 := h37
      refine gT_v1 (A := fun w9 u9 => True ∧ J p u9) (d_156_4 hp hJ38 t0 (show (0 : Int) ≤ a1 ∧ a1 ≤ 5 by constructor <;> omega)) (fun v14 s13 h39 => ?_)
      obtain ⟨h39r, hJ40⟩ := h39
      refine gT_v1 (A := fun w9 u9 => True ∧ J p u9) (d_155 hp hJ40 t0 (show (0 : Int) ≤ v2 ∧ v2 ≤ 8 by constructor <;> omega) (show (0 : Int) ≤ 0 ∧ 0 ≤ 2 by constructor <;> omega)) (fun v16 s15 h41 => ?_)
      obtain ⟨h41r, hJ42⟩ := h41
      refine gT_ite (fun h43 => ?_) (fun h44 => ?_)
      · exact gT_ret ⟨rfl, hJ42⟩
      · refine gT_v1 (A := fun w9 u9 => (0 ≤ w9 ∧ w9 ≤ 99) ∧ J p u9) (d_156_0 hp hJ42 t0 (show (0 : Int) ≤ a1 ∧ a1 ≤ 5 by constructor <;> omega)) (fun v18 s17 h45 => ?_)
        obtain ⟨h45r, hJ46⟩ := h45
        refine gT_v1 (A := fun w9 u9 => (0 ≤ w9 ∧ w9 ≤ 50) ∧ J p u9) (d_155_2 hp hJ46 t0 (show (0 : Int) ≤ v2 ∧ v2 ≤ 7 by constructor <;> omega)) (fun v20 s19 h47 => ?_)
        obtain ⟨h47r, hJ48⟩ := h47
        refine gT_v1 (A := fun w9 u9 => (w9 ≤ 99 ∧ w9 ≤ (g32 (v18 + v20)) ∧ (w9 = 99 ∨ w9 = (g32 (v18 + v20)))) ∧ True ∧ J p u9) (d_151 hp hJ48) (fun v22 s21 h49 => ?_)
        obtain ⟨h49e, h49r, hJ50⟩ := h49
        have := g32_eq (v := (v18 + v20)) (by omega) (by omega)
        refine gT_v0 (A := fun u9 => J p u9) (d_157_0 hp hJ50 t0 (show (0 : Int) ≤ a1 ∧ a1 ≤ 5 by constructor <;> omega) (show (0 : Int) ≤ v22 ∧ v22 ≤ 99 by constructor <;> omega)) (fun s23 h51 => ?_)
        have hJ52 := h51
        refine gT_v0 (A := fun u9 => J p u9) (d_157_3 hp hJ52 t0 (show (0 : Int) ≤ a1 ∧ a1 ≤ 5 by constructor <;> omega) (show (0 : Int) ≤ (g32 (v2 + 1)) ∧ (g32 (v2 + 1)) ≤ 8 by have := g32_eq (v := (v2 + 1)) (by omega) (by omega); constructor <;> omega)) (fun s25 h53 => ?_)
        have hJ54 := h53
        refine gT_v0 (A := fun u9 => J p u9) (d_157_4 hp hJ54 t0 (show (0 : Int) ≤ a1 ∧ a1 ≤ 5 by constructor <;> omega)) (fun s27 h55 => ?_)
        have hJ56 := h55
        exact gT_ret ⟨rfl, hJ56⟩
  · have := J_m (k := 3) hJ2 hJ2 t0 rfl
    exact gT_ret ⟨rfl, hJ2⟩
-- X12_goes
theorem d_202 {p : gP} {a0 : Nat} {a1 : Int} {a2 : Int} {s : gS} (hp : -1 ≤ p.1 ∧ p.1 ≤ 0) (h : J p s) (t0 : T 12 a0) (r1 : 0 ≤ a1 ∧ a1 ≤ 200) (r2 : 0 ≤ a2 ∧ a2 ≤ 1) : gT (f_202 a0 a1 a2 s) (fun r => r.1 = 1 ∧ True ∧ J p r.2.2.2) := by
  unfold f_202
  refine gT_loop (fun y => T 12 y.1 ∧ (0 ≤ y.2.1 ∧ y.2.1 ≤ 200) ∧ (0 ≤ y.2.2.1 ∧ y.2.2.1 ≤ 1) ∧ (0 ≤ y.2.2.2.2.1 ∧ y.2.2.2.2.1 ≤ 200) ∧ y.2.1 = a1 ∧ y.2.2.1 = a2 ∧ J p y.2.2.2.2.2) (fun y => (200 - y.2.2.2.2.1).toNat) (fun y hy => ?_) ?_
  · obtain ⟨x0, x1, x2, x3, x4, s⟩ := y
    obtain ⟨t1, r2, r3, r4, e5, e6, hJ7⟩ := hy
    dsimp only at t1 r2 r3 r4 e5 e6 hJ7
    show gT (sb_202_5 x0 x1 x2 x3 x4 s) _
    unfold sb_202_5
    refine gT_ite (fun h8 => ?_) (fun h9 => ?_)
    · refine gT_loop (fun y => T 12 y.1 ∧ (1 ≤ y.2.1 ∧ y.2.1 ≤ 200) ∧ (0 ≤ y.2.2.1 ∧ y.2.2.1 ≤ 1) ∧ (0 ≤ y.2.2.2.2.1 ∧ y.2.2.2.2.1 ≤ 199) ∧ (0 ≤ y.2.2.2.2.2.2.1 ∧ y.2.2.2.2.2.2.1 ≤ 6) ∧ y.2.1 = x1 ∧ y.2.2.1 = x2 ∧ y.2.2.2.2.1 = x4 ∧ J p y.2.2.2.2.2.2.2) (fun y => (6 - y.2.2.2.2.2.2.1).toNat) (fun y hy => ?_) ?_
      · obtain ⟨x0, x1, x2, x3, x4, x5, x6, s⟩ := y
        obtain ⟨t10, r11, r12, r13, r14, e15, e16, e17, hJ18⟩ := hy
        dsimp only at t10 r11 r12 r13 r14 e15 e16 e17 hJ18
        show gT (sb_202_17 x0 x1 x2 x3 x4 x5 x6 s) _
        unfold sb_202_17
        refine gT_ite (fun h19 => ?_) (fun h20 => ?_)
        · have := J_m (k := 4) hJ18 hJ18 t10 rfl
          refine gT_v1 (A := fun w9 u9 => (0 ≤ w9 ∧ w9 ≤ 1) ∧ J p u9) (d_165 hp hJ18 t10 (show (0 : Int) ≤ x6 ∧ x6 ≤ 5 by constructor <;> omega)) (fun v2 s1 h21 => ?_)
          obtain ⟨h21r, hJ22⟩ := h21
          refine gT_ite (fun h23 => ?_) (fun h24 => ?_)
          · exact gT_ret ⟨⟨t10, (show (1 : Int) ≤ x1 ∧ x1 ≤ 200 by constructor <;> omega), (show (0 : Int) ≤ x2 ∧ x2 ≤ 1 by constructor <;> omega), (show (0 : Int) ≤ x4 ∧ x4 ≤ 199 by constructor <;> omega), (show (0 : Int) ≤ (g32 (x6 + 1)) ∧ (g32 (x6 + 1)) ≤ 6 by have := g32_eq (v := (x6 + 1)) (by omega) (by omega); constructor <;> omega), (by first | assumption | omega | (dsimp only; omega)), (by first | assumption | omega | (dsimp only; omega)), (by first | assumption | omega | (dsimp only; omega)), hJ22⟩, by dsimp only; have := g32_eq (v := (x6 + 1)) (by omega) (by omega); omega⟩
          · refine gT_v0 (A := fun u9 => J p u9) (d_201 hp hJ22 t10 (show (0 : Int) ≤ x6 ∧ x6 ≤ 5 by constructor <;> omega)) (fun s4 h25 => ?_)
            have hJ26 := h25
            refine gT_v1 (A := fun w9 u9 => (0 ≤ w9 ∧ w9 ≤ 99) ∧ J p u9) (d_156_0 hp hJ26 t10 (show (0 : Int) ≤ x6 ∧ x6 ≤ 5 by constructor <;> omega)) (fun v7 s6 h27 => ?_)
            obtain ⟨h27r, hJ28⟩ := h27
            refine gT_v1 (A := fun w9 u9 => True ∧ J p u9) (d_198 hp hJ28 t10 (show (0 : Int) ≤ x6 ∧ x6 ≤ 5 by constructor <;> omega)) (fun v9 s8 h29 => ?_)
            obtain ⟨h29r, hJ30⟩ := h29
            refine gT_v1 (A := fun w9 u9 => (w9 ≤ 99 ∧ w9 ≤ (g32 (v7 + v9)) ∧ (w9 = 99 ∨ w9 = (g32 (v7 + v9)))) ∧ True ∧ J p u9) (d_151 hp hJ30) (fun v11 s10 h31 => ?_)
            obtain ⟨h31e, h31r, hJ32⟩ := h31
            refine gT_v1 (A := fun w9 u9 => (0 ≤ w9 ∧ v11 ≤ w9 ∧ (w9 = 0 ∨ w9 = v11)) ∧ True ∧ J p u9) (d_152 hp hJ32) (fun v13 s12 h33 => ?_)
            obtain ⟨h33e, h33r, hJ34⟩ := h33
            refine gT_v0 (A := fun u9 => J p u9) (d_157_0 hp hJ34 t10 (show (0 : Int) ≤ x6 ∧ x6 ≤ 5 by constructor <;> omega) (show (0 : Int) ≤ v13 ∧ v13 ≤ 99 by constructor <;> omega)) (fun s14 h35 => ?_)
            have hJ36 := h35
            refine gT_v1 (A := fun w9 u9 => (0 ≤ w9 ∧ w9 ≤ 99) ∧ J p u9) (d_156_0 hp hJ36 t10 (show (0 : Int) ≤ x6 ∧ x6 ≤ 5 by constructor <;> omega)) (fun v17 s16 h37 => ?_)
            obtain ⟨h37r, hJ38⟩ := h37
            refine gT_ite (fun h39 => ?_) (fun h40 => ?_)
            · refine gT_v0 (A := fun u9 => J p u9) (d_157_5 hp hJ38 t10 (show (0 : Int) ≤ x6 ∧ x6 ≤ 5 by constructor <;> omega)) (fun s18 h41 => ?_)
              have hJ42 := h41
              exact gT_ret ⟨⟨t10, (show (1 : Int) ≤ x1 ∧ x1 ≤ 200 by constructor <;> omega), (show (0 : Int) ≤ x2 ∧ x2 ≤ 1 by constructor <;> omega), (show (0 : Int) ≤ x4 ∧ x4 ≤ 199 by constructor <;> omega), (show (0 : Int) ≤ (g32 (x6 + 1)) ∧ (g32 (x6 + 1)) ≤ 6 by have := g32_eq (v := (x6 + 1)) (by omega) (by omega); constructor <;> omega), (by first | assumption | omega | (dsimp only; omega)), (by first | assumption | omega | (dsimp only; omega)), (by first | assumption | omega | (dsimp only; omega)), hJ42⟩, by dsimp only; have := g32_eq (v := (x6 + 1)) (by omega) (by omega); omega⟩
            · exact gT_ret ⟨⟨t10, (show (1 : Int) ≤ x1 ∧ x1 ≤ 200 by constructor <;> omega), (show (0 : Int) ≤ x2 ∧ x2 ≤ 1 by constructor <;> omega), (show (0 : Int) ≤ x4 ∧ x4 ≤ 199 by constructor <;> omega), (show (0 : Int) ≤ (g32 (x6 + 1)) ∧ (g32 (x6 + 1)) ≤ 6 by have := g32_eq (v := (x6 + 1)) (by omega) (by omega); constructor <;> omega), (by first | assumption | omega | (dsimp only; omega)), (by first | assumption | omega | (dsimp only; omega)), (by first | assumption | omega | (dsimp only; omega)), hJ38⟩, by dsimp only; have := g32_eq (v := (x6 + 1)) (by omega) (by omega); omega⟩
        · have := J_m (k := 4) hJ18 hJ18 t10 rfl
          refine gT_map ?_
          refine gT_ite (fun h43 => ?_) (fun h44 => ?_)
          · unfold fb_202_164
            refine gT_v1 (A := fun w9 u9 => (w9 ≤ 9999 ∧ w9 ≤ (g32 ((gI s (gR s x0 1) 7) + 1)) ∧ (w9 = 9999 ∨ w9 = (g32 ((gI s (gR s x0 1) 7) + 1)))) ∧ True ∧ J p u9) (d_151 hp hJ18) (fun v21 s20 h45 => ?_)
            obtain ⟨h45e, h45r, hJ46⟩ := h45
            extract_lets -merge s22
            have hJ47 : J p s22 := (J_wm hJ46 hJ18 t10 (fun q hq => by cases hq))
            exact gT_ret ⟨⟨t10, (show (0 : Int) ≤ x1 ∧ x1 ≤ 200 by constructor <;> omega), (show (0 : Int) ≤ x2 ∧ x2 ≤ 1 by constructor <;> omega), (show (0 : Int) ≤ (g32 (x4 + 1)) ∧ (g32 (x4 + 1)) ≤ 200 by have := g32_eq (v := (x4 + 1)) (by omega) (by omega); constructor <;> omega), (by first | assumption | omega | (dsimp only; omega)), (by first | assumption | omega | (dsimp only; omega)), hJ47⟩, by dsimp only; have := g32_eq (v := (x4 + 1)) (by omega) (by omega); omega⟩
          · refine gT_v1 (A := fun w9 u9 => True ∧ J p u9) (d_199 hp hJ18 t10 (show (1 : Int) ≤ 100 ∧ 100 ≤ 100 by constructor <;> omega)) (fun v24 s23 h48 => ?_)
            obtain ⟨h48r, hJ49⟩ := h48
            refine gT_ite (fun h50 => ?_) (fun h51 => ?_)
            · refine gT_ite (fun h52 => ?_) (fun h53 => ?_)
              · refine gT_v1 (A := fun w9 u9 => (w9 ≤ 9999 ∧ w9 ≤ (g32 ((gI s23 (gR s23 x0 1) 8) + 50)) ∧ (w9 = 9999 ∨ w9 = (g32 ((gI s23 (gR s23 x0 1) 8) + 50)))) ∧ True ∧ J p u9) (d_151 hp hJ49) (fun v26 s25 h54 => ?_)
                obtain ⟨h54e, h54r, hJ55⟩ := h54
                extract_lets -merge s27
                have hJ56 : J p s27 := (J_wm hJ55 hJ49 t10 (fun q hq => by cases hq))
                unfold fb_202_164
                refine gT_v1 (A := fun w9 u9 => (w9 ≤ 9999 ∧ w9 ≤ (g32 ((gI s27 (gR s27 x0 1) 7) + 1)) ∧ (w9 = 9999 ∨ w9 = (g32 ((gI s27 (gR s27 x0 1) 7) + 1)))) ∧ True ∧ J p u9) (d_151 hp hJ56) (fun v21 s20 h57 => ?_)
                obtain ⟨h57e, h57r, hJ58⟩ := h57
                have := rd_k (a := (gR s27 x0 1)) (k := 7) (show s27 = (gw s25 (gR s23 x0 1) 8 v26) from rfl) (by decide)
                extract_lets -merge s22
                have hJ59 : J p s22 := (J_wm hJ58 hJ56 t10 (fun q hq => by cases hq))
                exact gT_ret ⟨⟨t10, (show (0 : Int) ≤ x1 ∧ x1 ≤ 200 by constructor <;> omega), (show (0 : Int) ≤ x2 ∧ x2 ≤ 1 by constructor <;> omega), (show (0 : Int) ≤ (g32 (x4 + 1)) ∧ (g32 (x4 + 1)) ≤ 200 by have := g32_eq (v := (x4 + 1)) (by omega) (by omega); constructor <;> omega), (by first | assumption | omega | (dsimp only; omega)), (by first | assumption | omega | (dsimp only; omega)), hJ59⟩, by dsimp only; have := g32_eq (v := (x4 + 1)) (by omega) (by omega); omega⟩
              · unfold fb_202_164
                refine gT_v1 (A := fun w9 u9 => (w9 ≤ 9999 ∧ w9 ≤ (g32 ((gI s23 (gR s23 x0 1) 7) + 1)) ∧ (w9 = 9999 ∨ w9 = (g32 ((gI s23 (gR s23 x0 1) 7) + 1)))) ∧ True ∧ J p u9) (d_151 hp hJ49) (fun v21 s20 h60 => ?_)
                obtain ⟨h60e, h60r, hJ61⟩ := h60
                extract_lets -merge s22
                have hJ62 : J p s22 := (J_wm hJ61 hJ49 t10 (fun q hq => by cases hq))
                exact gT_ret ⟨⟨t10, (show (0 : Int) ≤ x1 ∧ x1 ≤ 200 by constructor <;> omega), (show (0 : Int) ≤ x2 ∧ x2 ≤ 1 by constructor <;> omega), (show (0 : Int) ≤ (g32 (x4 + 1)) ∧ (g32 (x4 + 1)) ≤ 200 by have := g32_eq (v := (x4 + 1)) (by omega) (by omega); constructor <;> omega), (by first | assumption | omega | (dsimp only; omega)), (by first | assumption | omega | (dsimp only; omega)), hJ62⟩, by dsimp only; have := g32_eq (v := (x4 + 1)) (by omega) (by omega); omega⟩
            · unfold fb_202_164
              refine gT_v1 (A := fun w9 u9 => (w9 ≤ 9999 ∧ w9 ≤ (g32 ((gI s23 (gR s23 x0 1) 7) + 1)) ∧ (w9 = 9999 ∨ w9 = (g32 ((gI s23 (gR s23 x0 1) 7) + 1)))) ∧ True ∧ J p u9) (d_151 hp hJ49) (fun v21 s20 h63 => ?_)
              obtain ⟨h63e, h63r, hJ64⟩ := h63
              extract_lets -merge s22
              have hJ65 : J p s22 := (J_wm hJ64 hJ49 t10 (fun q hq => by cases hq))
              exact gT_ret ⟨⟨t10, (show (0 : Int) ≤ x1 ∧ x1 ≤ 200 by constructor <;> omega), (show (0 : Int) ≤ x2 ∧ x2 ≤ 1 by constructor <;> omega), (show (0 : Int) ≤ (g32 (x4 + 1)) ∧ (g32 (x4 + 1)) ≤ 200 by have := g32_eq (v := (x4 + 1)) (by omega) (by omega); constructor <;> omega), (by first | assumption | omega | (dsimp only; omega)), (by first | assumption | omega | (dsimp only; omega)), hJ65⟩, by dsimp only; have := g32_eq (v := (x4 + 1)) (by omega) (by omega); omega⟩
      · exact ⟨t1, (show (1 : Int) ≤ x1 ∧ x1 ≤ 200 by constructor <;> omega), (show (0 : Int) ≤ x2 ∧ x2 ≤ 1 by constructor <;> omega), (show (0 : Int) ≤ x4 ∧ x4 ≤ 199 by constructor <;> omega), (show (0 : Int) ≤ 0 ∧ 0 ≤ 6 by constructor <;> omega), rfl, rfl, rfl, hJ7⟩
    · refine gT_map ?_
      exact gT_ret ⟨rfl, trivial, hJ7⟩
  · exact ⟨t0, (show (0 : Int) ≤ a1 ∧ a1 ≤ 200 by constructor <;> omega), (show (0 : Int) ≤ a2 ∧ a2 ≤ 1 by constructor <;> omega), (show (0 : Int) ≤ 0 ∧ 0 ≤ 200 by constructor <;> omega), rfl, rfl, h⟩
-- X12_left
theorem d_204 {p : gP} {a0 : Nat} {a1 : Int} {a2 : Int} {s : gS} (hp : -1 ≤ p.1 ∧ p.1 ≤ 0) (h : J p s) (t0 : T 12 a0) (r1 : 0 ≤ a1 ∧ a1 ≤ 5) (r2 : 0 ≤ a2 ∧ a2 ≤ 2) : gT (f_204 a0 a1 a2 s) (fun r => r.1 = 1 ∧ True ∧ J p r.2.2.2) := by
  unfold f_204
  refine gT_v1 (A := fun w9 u9 => (0 ≤ w9 ∧ w9 ≤ 8) ∧ J p u9) (d_156_3 hp h t0 (show (0 : Int) ≤ a1 ∧ a1 ≤ 5 by constructor <;> omega)) (fun v2 s1 h1 => ?_)
  obtain ⟨h1r, hJ2⟩ := h1
  refine gT_loop (fun y => T 12 y.1 ∧ (0 ≤ y.2.1 ∧ y.2.1 ≤ 2) ∧ (0 ≤ y.2.2.2.1 ∧ y.2.2.2.1 ≤ 8) ∧ y.2.1 = a2 ∧ J p y.2.2.2.2) (fun y => (8 - y.2.2.2.1).toNat) (fun y hy => ?_) ?_
  · obtain ⟨x0, x2, x3, x4, s⟩ := y
    obtain ⟨t3, r4, r5, e6, hJ7⟩ := hy
    dsimp only at t3 r4 r5 e6 hJ7
    show gT (sb_204_10 x0 x2 x3 x4 s) _
    unfold sb_204_10
    refine gT_ite (fun h8 => ?_) (fun h9 => ?_)
    · have := J_m (k := 3) hJ7 hJ7 t3 rfl
      refine gT_v1 (A := fun w9 u9 => True ∧ J p u9) (d_155 hp hJ7 t3 (show (0 : Int) ≤ x4 ∧ x4 ≤ 8 by constructor <;> omega) (show (0 : Int) ≤ x2 ∧ x2 ≤ 2 by constructor <;> omega)) (fun v4 s3 h10 => ?_)
      obtain ⟨h10r, hJ11⟩ := h10
      exact gT_ret ⟨⟨t3, (show (0 : Int) ≤ x2 ∧ x2 ≤ 2 by constructor <;> omega), (show (0 : Int) ≤ (g32 (x4 + 1)) ∧ (g32 (x4 + 1)) ≤ 8 by have := g32_eq (v := (x4 + 1)) (by omega) (by omega); constructor <;> omega), (by first | assumption | omega | (dsimp only; omega)), hJ11⟩, by dsimp only; have := g32_eq (v := (x4 + 1)) (by omega) (by omega); omega⟩
    · have := J_m (k := 3) hJ7 hJ7 t3 rfl
      refine gT_map ?_
      exact gT_ret ⟨rfl, trivial, hJ7⟩
  · exact ⟨t0, (show (0 : Int) ≤ a2 ∧ a2 ≤ 2 by constructor <;> omega), (show (0 : Int) ≤ v2 ∧ v2 ≤ 8 by constructor <;> omega), rfl, hJ2⟩
-- X12_outlay
theorem d_205 {p : gP} {a0 : Nat} {a1 : Int} {s : gS} (hp : -1 ≤ p.1 ∧ p.1 ≤ 0) (h : J p s) (t0 : T 12 a0) (r1 : 0 ≤ a1 ∧ a1 ≤ 5) : gT (f_205 a0 a1 s) (fun r => r.1 = 1 ∧ True ∧ J p r.2.2.2) := by
  unfold f_205
  refine gT_v1 (A := fun w9 u9 => True ∧ J p u9) (d_204 hp h t0 (show (0 : Int) ≤ a1 ∧ a1 ≤ 5 by constructor <;> omega) (show (0 : Int) ≤ 1 ∧ 1 ≤ 2 by constructor <;> omega)) (fun v2 s1 h1 => ?_)
  obtain ⟨h1r, hJ2⟩ := h1
  refine gT_v1 (A := fun w9 u9 => True ∧ J p u9) (d_156_4 hp hJ2 t0 (show (0 : Int) ≤ a1 ∧ a1 ≤ 5 by constructor <;> omega)) (fun v4 s3 h3 => ?_)
  obtain ⟨h3r, hJ4⟩ := h3
  refine gT_ite (fun h5 => ?_) (fun h6 => ?_)
  · refine gT_v1 (A := fun w9 u9 => (0 ≤ w9 ∧ w9 ≤ 8) ∧ J p u9) (d_156_3 hp hJ4 t0 (show (0 : Int) ≤ a1 ∧ a1 ≤ 5 by constructor <;> omega)) (fun v6 s5 h7 => ?_)
    obtain ⟨h7r, hJ8⟩ := h7
    refine gT_v1 (A := fun w9 u9 => True ∧ J p u9) (d_155 hp hJ8 t0 (show (0 : Int) ≤ v6 ∧ v6 ≤ 8 by constructor <;> omega) (show (0 : Int) ≤ 1 ∧ 1 ≤ 2 by constructor <;> omega)) (fun v8 s7 h9 => ?_)
    obtain ⟨h9r, hJ10⟩ := h9
    exact gT_ret ⟨rfl, trivial, hJ10⟩
  · exact gT_ret ⟨rfl, trivial, hJ4⟩
-- X12_man
theorem d_206 {p : gP} {a0 : Nat} {a1 : Int} {a2 : Int} {s : gS} (hp : -1 ≤ p.1 ∧ p.1 ≤ 0) (h : J p s) (t0 : T 12 a0) : gT (f_206 a0 a1 a2 s) (fun r => r.1 = 1 ∧ True ∧ J p r.2.2.2) := by
  unfold f_206
  refine gT_v1 (A := fun w9 u9 => (w9 = 1 → 0 ≤ a1 ∧ a1 ≤ 5) ∧ (0 ≤ w9 ∧ w9 ≤ 1) ∧ J p u9) (d_162 hp h t0) (fun v2 s1 h1 => ?_)
  obtain ⟨h1e, h1r, hJ2⟩ := h1
  refine gT_ite (fun h3 => ?_) (fun h4 => ?_)
  · unfold fb_206_28
    extract_lets -merge s4
    have hJ5 : J p s4 := (J_wf hJ2 t0 rfl (by decide) (by decide) (fun q hq => by cases hq))
    refine gT_ite (fun h6 => ?_) (fun h7 => ?_)
    · have := rd_same (show s4 = (gw s1 a0 0 1) from rfl)
      exact gT_ret ⟨rfl, trivial, hJ5⟩
    · have := rd_same (show s4 = (gw s1 a0 0 1) from rfl)
      refine gT_ite (fun h8 => ?_) (fun h9 => ?_)
      · refine gT_v1 (A := fun w9 u9 => True ∧ J p u9) (d_156 hp hJ5 t0 (show (0 : Int) ≤ a1 ∧ a1 ≤ 5 by constructor <;> omega) (show (0 : Int) ≤ a2 ∧ a2 ≤ 5 by constructor <;> omega)) (fun v6 s5 h10 => ?_)
        obtain ⟨h10r, hJ11⟩ := h10
        exact gT_ret ⟨rfl, trivial, hJ11⟩
      · refine gT_ite (fun h12 => ?_) (fun h13 => ?_)
        · refine gT_v1 (A := fun w9 u9 => True ∧ J p u9) (d_198 hp hJ5 t0 (show (0 : Int) ≤ a1 ∧ a1 ≤ 5 by constructor <;> omega)) (fun v8 s7 h14 => ?_)
          obtain ⟨h14r, hJ15⟩ := h14
          exact gT_ret ⟨rfl, trivial, hJ15⟩
        · refine gT_ite (fun h16 => ?_) (fun h17 => ?_)
          · refine gT_v1 (A := fun w9 u9 => True ∧ J p u9) (d_205 hp hJ5 t0 (show (0 : Int) ≤ a1 ∧ a1 ≤ 5 by constructor <;> omega)) (fun v10 s9 h18 => ?_)
            obtain ⟨h18r, hJ19⟩ := h18
            exact gT_ret ⟨rfl, trivial, hJ19⟩
          · refine gT_ite (fun h20 => ?_) (fun h21 => ?_)
            · refine gT_v1 (A := fun w9 u9 => True ∧ J p u9) (d_204 hp hJ5 t0 (show (0 : Int) ≤ a1 ∧ a1 ≤ 5 by constructor <;> omega) (show (0 : Int) ≤ 0 ∧ 0 ≤ 2 by constructor <;> omega)) (fun v12 s11 h22 => ?_)
              obtain ⟨h22r, hJ23⟩ := h22
              refine gT_v1 (A := fun w9 u9 => True ∧ J p u9) (d_156_4 hp hJ23 t0 (show (0 : Int) ≤ a1 ∧ a1 ≤ 5 by constructor <;> omega)) (fun v14 s13 h24 => ?_)
              obtain ⟨h24r, hJ25⟩ := h24
              exact gT_ret ⟨rfl, trivial, hJ25⟩
            · refine gT_v1 (A := fun w9 u9 => True ∧ J p u9) (d_204 hp hJ5 t0 (show (0 : Int) ≤ a1 ∧ a1 ≤ 5 by constructor <;> omega) (show (0 : Int) ≤ 2 ∧ 2 ≤ 2 by constructor <;> omega)) (fun v16 s15 h26 => ?_)
              obtain ⟨h26r, hJ27⟩ := h26
              refine gT_v1 (A := fun w9 u9 => True ∧ J p u9) (d_205 hp hJ27 t0 (show (0 : Int) ≤ a1 ∧ a1 ≤ 5 by constructor <;> omega)) (fun v18 s17 h28 => ?_)
              obtain ⟨h28r, hJ29⟩ := h28
              exact gT_ret ⟨rfl, trivial, hJ29⟩
  · refine gT_v1 (A := fun w9 u9 => ((w9 = 1 → 0 ≤ a2 ∧ a2 ≤ 9) ∧ (w9 = 0 → a2 < 0 ∨ 9 < a2)) ∧ (0 ≤ w9 ∧ w9 ≤ 1) ∧ J p u9) (d_150 hp hJ2) (fun v20 s19 h30 => ?_)
    obtain ⟨h30e, h30r, hJ31⟩ := h30
    refine gT_ite (fun h32 => ?_) (fun h33 => ?_)
    · unfold fb_206_28
      extract_lets -merge s4
      have hJ34 : J p s4 := (J_wf hJ31 t0 rfl (by decide) (by decide) (fun q hq => by cases hq))
      refine gT_ite (fun h35 => ?_) (fun h36 => ?_)
      · have := rd_same (show s4 = (gw s19 a0 0 2) from rfl)
        exact gT_ret ⟨rfl, trivial, hJ34⟩
      · have := rd_same (show s4 = (gw s19 a0 0 2) from rfl)
        refine gT_ite (fun h37 => ?_) (fun h38 => ?_)
        · refine gT_v1 (A := fun w9 u9 => True ∧ J p u9) (d_156 hp hJ34 t0 (show (0 : Int) ≤ a1 ∧ a1 ≤ 5 by constructor <;> omega) (show (0 : Int) ≤ a2 ∧ a2 ≤ 5 by constructor <;> omega)) (fun v6 s5 h39 => ?_)
          obtain ⟨h39r, hJ40⟩ := h39
          exact gT_ret ⟨rfl, trivial, hJ40⟩
        · refine gT_ite (fun h41 => ?_) (fun h42 => ?_)
          · refine gT_v1 (A := fun w9 u9 => True ∧ J p u9) (d_198 hp hJ34 t0 (show (0 : Int) ≤ a1 ∧ a1 ≤ 5 by constructor <;> omega)) (fun v8 s7 h43 => ?_)
            obtain ⟨h43r, hJ44⟩ := h43
            exact gT_ret ⟨rfl, trivial, hJ44⟩
          · refine gT_ite (fun h45 => ?_) (fun h46 => ?_)
            · refine gT_v1 (A := fun w9 u9 => True ∧ J p u9) (d_205 hp hJ34 t0 (show (0 : Int) ≤ a1 ∧ a1 ≤ 5 by constructor <;> omega)) (fun v10 s9 h47 => ?_)
              obtain ⟨h47r, hJ48⟩ := h47
              exact gT_ret ⟨rfl, trivial, hJ48⟩
            · refine gT_ite (fun h49 => ?_) (fun h50 => ?_)
              · refine gT_v1 (A := fun w9 u9 => True ∧ J p u9) (d_204 hp hJ34 t0 (show (0 : Int) ≤ a1 ∧ a1 ≤ 5 by constructor <;> omega) (show (0 : Int) ≤ 0 ∧ 0 ≤ 2 by constructor <;> omega)) (fun v12 s11 h51 => ?_)
                obtain ⟨h51r, hJ52⟩ := h51
                refine gT_v1 (A := fun w9 u9 => True ∧ J p u9) (d_156_4 hp hJ52 t0 (show (0 : Int) ≤ a1 ∧ a1 ≤ 5 by constructor <;> omega)) (fun v14 s13 h53 => ?_)
                obtain ⟨h53r, hJ54⟩ := h53
                exact gT_ret ⟨rfl, trivial, hJ54⟩
              · refine gT_v1 (A := fun w9 u9 => True ∧ J p u9) (d_204 hp hJ34 t0 (show (0 : Int) ≤ a1 ∧ a1 ≤ 5 by constructor <;> omega) (show (0 : Int) ≤ 2 ∧ 2 ≤ 2 by constructor <;> omega)) (fun v16 s15 h55 => ?_)
                obtain ⟨h55r, hJ56⟩ := h55
                refine gT_v1 (A := fun w9 u9 => True ∧ J p u9) (d_205 hp hJ56 t0 (show (0 : Int) ≤ a1 ∧ a1 ≤ 5 by constructor <;> omega)) (fun v18 s17 h57 => ?_)
                obtain ⟨h57r, hJ58⟩ := h57
                exact gT_ret ⟨rfl, trivial, hJ58⟩
    · unfold fb_206_28
      extract_lets -merge s4
      have hJ59 : J p s4 := (J_wf hJ31 t0 rfl (by decide) (by decide) (fun q hq => by cases hq))
      refine gT_ite (fun h60 => ?_) (fun h61 => ?_)
      · have := rd_same (show s4 = (gw s19 a0 0 0) from rfl)
        exact gT_ret ⟨rfl, trivial, hJ59⟩
      · have := rd_same (show s4 = (gw s19 a0 0 0) from rfl)
        refine gT_ite (fun h62 => ?_) (fun h63 => ?_)
        · refine gT_v1 (A := fun w9 u9 => True ∧ J p u9) (d_156 hp hJ59 t0 (show (0 : Int) ≤ a1 ∧ a1 ≤ 5 by constructor <;> omega) (show (0 : Int) ≤ a2 ∧ a2 ≤ 5 by constructor <;> omega)) (fun v6 s5 h64 => ?_)
          obtain ⟨h64r, hJ65⟩ := h64
          exact gT_ret ⟨rfl, trivial, hJ65⟩
        · refine gT_ite (fun h66 => ?_) (fun h67 => ?_)
          · refine gT_v1 (A := fun w9 u9 => True ∧ J p u9) (d_198 hp hJ59 t0 (show (0 : Int) ≤ a1 ∧ a1 ≤ 5 by constructor <;> omega)) (fun v8 s7 h68 => ?_)
            obtain ⟨h68r, hJ69⟩ := h68
            exact gT_ret ⟨rfl, trivial, hJ69⟩
          · refine gT_ite (fun h70 => ?_) (fun h71 => ?_)
            · refine gT_v1 (A := fun w9 u9 => True ∧ J p u9) (d_205 hp hJ59 t0 (show (0 : Int) ≤ a1 ∧ a1 ≤ 5 by constructor <;> omega)) (fun v10 s9 h72 => ?_)
              obtain ⟨h72r, hJ73⟩ := h72
              exact gT_ret ⟨rfl, trivial, hJ73⟩
            · refine gT_ite (fun h74 => ?_) (fun h75 => ?_)
              · refine gT_v1 (A := fun w9 u9 => True ∧ J p u9) (d_204 hp hJ59 t0 (show (0 : Int) ≤ a1 ∧ a1 ≤ 5 by constructor <;> omega) (show (0 : Int) ≤ 0 ∧ 0 ≤ 2 by constructor <;> omega)) (fun v12 s11 h76 => ?_)
                obtain ⟨h76r, hJ77⟩ := h76
                refine gT_v1 (A := fun w9 u9 => True ∧ J p u9) (d_156_4 hp hJ77 t0 (show (0 : Int) ≤ a1 ∧ a1 ≤ 5 by constructor <;> omega)) (fun v14 s13 h78 => ?_)
                obtain ⟨h78r, hJ79⟩ := h78
                exact gT_ret ⟨rfl, trivial, hJ79⟩
              · refine gT_v1 (A := fun w9 u9 => True ∧ J p u9) (d_204 hp hJ59 t0 (show (0 : Int) ≤ a1 ∧ a1 ≤ 5 by constructor <;> omega) (show (0 : Int) ≤ 2 ∧ 2 ≤ 2 by constructor <;> omega)) (fun v16 s15 h80 => ?_)
                obtain ⟨h80r, hJ81⟩ := h80
                refine gT_v1 (A := fun w9 u9 => True ∧ J p u9) (d_205 hp hJ81 t0 (show (0 : Int) ≤ a1 ∧ a1 ≤ 5 by constructor <;> omega)) (fun v18 s17 h82 => ?_)
                obtain ⟨h82r, hJ83⟩ := h82
                exact gT_ret ⟨rfl, trivial, hJ83⟩
-- X12_logs
theorem d_210 {p : gP} {a0 : Nat} {a1 : Int} {a2 : Int} {s : gS} (hp : -1 ≤ p.1 ∧ p.1 ≤ 0) (h : J p s) (t0 : T 12 a0) (r1 : 0 ≤ a1 ∧ a1 ≤ 5) : gT (f_210 a0 a1 a2 s) (fun r => r.1 = 0 ∧ J p r.2.2.2) := by
  unfold f_210
  refine gT_loop (fun y => T 12 y.1 ∧ (0 ≤ y.2.1 ∧ y.2.1 ≤ 5) ∧ (3 ≤ y.2.2.2.1 ∧ y.2.2.2.1 ≤ 239) ∧ y.2.1 = a1 ∧ y.2.2.1 = a2 ∧ J p y.2.2.2.2) (fun y => (y.2.2.2.1 - (3)).toNat) (fun y hy => ?_) ?_
  · obtain ⟨x0, x1, x2, x3, s⟩ := y
    obtain ⟨t1, r2, r3, e4, e5, hJ6⟩ := hy
    dsimp only at t1 r2 r3 e4 e5 hJ6
    show gT (sb_210_4 x0 x1 x2 x3 s) _
    unfold sb_210_4
    extract_lets -merge s1 s2 s3 s10
    refine gT_ite (fun h7 => ?_) (fun h8 => ?_)
    · refine gT_map ?_
      have hJ9 : J p s1 := (J_wmf hJ6 hJ6 t1 (by omega))
      have hJ10 : J p s2 := (J_wmf hJ9 hJ9 t1 (by omega))
      have hJ11 : J p s3 := (J_wmf hJ10 hJ10 t1 (by omega))
      refine gT_v1 (A := fun w9 u9 => (0 ≤ w9 ∧ w9 ≤ 99) ∧ J p u9) (d_156_0 hp hJ11 t1 (show (0 : Int) ≤ x1 ∧ x1 ≤ 5 by constructor <;> omega)) (fun v5 s4 h12 => ?_)
      obtain ⟨h12r, hJ13⟩ := h12
      extract_lets -merge s6
      have hJ14 : J p s6 := (J_wmf hJ13 hJ11 t1 (by omega))
      refine gT_v1 (A := fun w9 u9 => (w9 ≤ 60 ∧ w9 ≤ (g32 ((gI s6 (gR s6 x0 1) 13) + 1)) ∧ (w9 = 60 ∨ w9 = (g32 ((gI s6 (gR s6 x0 1) 13) + 1)))) ∧ True ∧ J p u9) (d_151 hp hJ14) (fun v8 s7 h15 => ?_)
      obtain ⟨h15e, h15r, hJ16⟩ := h15
      have := rd_k (a := (gR s6 x0 1)) (k := 13) (show s6 = (gw s4 (gR s3 x0 1) 103 v5) from rfl) (by decide)
      have := J_m (k := 13) hJ13 hJ14 t1 rfl
      have := g32_eq (v := ((gI s6 (gR s6 x0 1) 13) + 1)) (by omega) (by omega)
      extract_lets -merge s9
      have hJ17 : J p s9 := (J_wm hJ16 hJ14 t1 (fun q hq => by cases hq; dsimp only; constructor <;> omega))
      exact gT_ret ⟨rfl, hJ17⟩
    · refine gT_chk (by have := g32_eq (v := (100 + x3)) (by omega) (by omega); have := g32_eq (v := ((g32 (100 + x3)) - 4)) (by omega) (by omega); omega) (by have := g32_eq (v := (100 + x3)) (by omega) (by omega); have := g32_eq (v := ((g32 (100 + x3)) - 4)) (by omega) (by omega); omega) ?_
      refine gT_chk (by have := g32_eq (v := (100 + x3)) (by omega) (by omega); omega) (by have := g32_eq (v := (100 + x3)) (by omega) (by omega); omega) ?_
      have hJ18 : J p s10 := (J_wmf hJ6 hJ6 t1 (by have := g32_eq (v := (100 + x3)) (by omega) (by omega); omega))
      exact gT_ret ⟨⟨t1, (show (0 : Int) ≤ x1 ∧ x1 ≤ 5 by constructor <;> omega), (show (3 : Int) ≤ (g32 (x3 + (-1))) ∧ (g32 (x3 + (-1))) ≤ 239 by have := g32_eq (v := (x3 + (-1))) (by omega) (by omega); constructor <;> omega), (by first | assumption | omega | (dsimp only; omega)), (by first | assumption | omega | (dsimp only; omega)), hJ18⟩, by dsimp only; have := g32_eq (v := (x3 + (-1))) (by omega) (by omega); omega⟩
  · exact ⟨t0, (show (0 : Int) ≤ a1 ∧ a1 ≤ 5 by constructor <;> omega), (show (3 : Int) ≤ 239 ∧ 239 ≤ 239 by constructor <;> omega), rfl, rfl, h⟩
-- X12_tried
theorem d_213 {p : gP} {a0 : Nat} {a1 : Int} {a2 : Int} {s : gS} (hp : -1 ≤ p.1 ∧ p.1 ≤ 0) (h : J p s) (t0 : T 12 a0) : gT (f_213 a0 a1 a2 s) (fun r => r.1 = 1 ∧ (0 ≤ r.2.1 ∧ r.2.1 ≤ 1) ∧ J p r.2.2.2) := by
  unfold f_213
  refine gT_v1 (A := fun w9 u9 => (w9 = 1 → 0 ≤ a1 ∧ a1 ≤ 5) ∧ (0 ≤ w9 ∧ w9 ≤ 1) ∧ J p u9) (d_162 hp h t0) (fun v2 s1 h1 => ?_)
  obtain ⟨h1e, h1r, hJ2⟩ := h1
  refine gT_ite (fun h3 => ?_) (fun h4 => ?_)
  · unfold fb_213_34
    extract_lets -merge s4
    have hJ5 : J p s4 := (J_wf hJ2 t0 rfl (by decide) (by decide) (fun q hq => by cases hq))
    refine gT_ite (fun h6 => ?_) (fun h7 => ?_)
    · have := rd_same (show s4 = (gw s1 a0 0 1) from rfl)
      exact gT_ret ⟨rfl, (by dsimp only; constructor <;> omega), hJ5⟩
    · have := rd_same (show s4 = (gw s1 a0 0 1) from rfl)
      refine gT_v0 (A := fun u9 => J p u9) (d_209 hp hJ5 t0) (fun s5 h8 => ?_)
      have hJ9 := h8
      refine gT_v1 (A := fun w9 u9 => True ∧ J p u9) (d_158 hp hJ9 t0 (show (0 : Int) ≤ a2 ∧ a2 ≤ 255 by constructor <;> omega)) (fun v8 s7 h10 => ?_)
      obtain ⟨h10r, hJ11⟩ := h10
      refine gT_v0 (A := fun u9 => J p u9) (d_200 hp hJ11 t0) (fun s9 h12 => ?_)
      have hJ13 := h12
      refine gT_v1 (A := fun w9 u9 => True ∧ J p u9) (d_156_2 hp hJ13 t0 (show (0 : Int) ≤ a1 ∧ a1 ≤ 5 by constructor <;> omega)) (fun v12 s11 h14 => ?_)
      obtain ⟨h14r, hJ15⟩ := h14
      refine gT_v1 (A := fun w9 u9 => (0 ≤ w9 ∧ w9 ≤ 1) ∧ J p u9) (d_212 hp hJ15 t0 (show (0 : Int) ≤ a2 ∧ a2 ≤ 255 by constructor <;> omega)) (fun v14 s13 h16 => ?_)
      obtain ⟨h16r, hJ17⟩ := h16
      refine gT_ite (fun h18 => ?_) (fun h19 => ?_)
      · refine gT_v1 (A := fun w9 u9 => (0 ≤ w9 ∧ w9 ≤ 99) ∧ J p u9) (d_156_0 hp hJ17 t0 (show (0 : Int) ≤ a1 ∧ a1 ≤ 5 by constructor <;> omega)) (fun v17 s16 h20 => ?_)
        obtain ⟨h20r, hJ21⟩ := h20
        refine gT_v1 (A := fun w9 u9 => (w9 ≤ 99 ∧ w9 ≤ (g32 (v17 + 5)) ∧ (w9 = 99 ∨ w9 = (g32 (v17 + 5)))) ∧ True ∧ J p u9) (d_151 hp hJ21) (fun v19 s18 h22 => ?_)
        obtain ⟨h22e, h22r, hJ23⟩ := h22
        have := g32_eq (v := (v17 + 5)) (by omega) (by omega)
        unfold fb_213_102
        refine gT_v0 (A := fun u9 => J p u9) (d_157_0 hp hJ23 t0 (show (0 : Int) ≤ a1 ∧ a1 ≤ 5 by constructor <;> omega) (show (0 : Int) ≤ v19 ∧ v19 ≤ 99 by constructor <;> omega)) (fun s20 h24 => ?_)
        have hJ25 := h24
        refine gT_v1 (A := fun w9 u9 => (0 ≤ w9 ∧ w9 ≤ 99) ∧ J p u9) (d_156_0 hp hJ25 t0 (show (0 : Int) ≤ a1 ∧ a1 ≤ 5 by constructor <;> omega)) (fun v23 s22 h26 => ?_)
        obtain ⟨h26r, hJ27⟩ := h26
        refine gT_ite (fun h28 => ?_) (fun h29 => ?_)
        · refine gT_v0 (A := fun u9 => J p u9) (d_157_5 hp hJ27 t0 (show (0 : Int) ≤ a1 ∧ a1 ≤ 5 by constructor <;> omega)) (fun s24 h30 => ?_)
          have hJ31 := h30
          unfold fb_213_128
          refine gT_ite (fun h32 => ?_) (fun h33 => ?_)
          · unfold fb_213_139
            refine gT_v0 (A := fun u9 => J p u9) (d_210 hp hJ31 t0 (show (0 : Int) ≤ a1 ∧ a1 ≤ 5 by constructor <;> omega)) (fun s26 h34 => ?_)
            have hJ35 := h34
            refine gT_bool (by omega) ?_
            exact gT_ret ⟨rfl, (by dsimp only; constructor <;> omega), hJ35⟩
          · unfold fb_213_139
            refine gT_v0 (A := fun u9 => J p u9) (d_210 hp hJ31 t0 (show (0 : Int) ≤ a1 ∧ a1 ≤ 5 by constructor <;> omega)) (fun s26 h36 => ?_)
            have hJ37 := h36
            refine gT_bool (by omega) ?_
            exact gT_ret ⟨rfl, (by dsimp only; constructor <;> omega), hJ37⟩
        · unfold fb_213_128
          refine gT_ite (fun h38 => ?_) (fun h39 => ?_)
          · unfold fb_213_139
            refine gT_v0 (A := fun u9 => J p u9) (d_210 hp hJ27 t0 (show (0 : Int) ≤ a1 ∧ a1 ≤ 5 by constructor <;> omega)) (fun s26 h40 => ?_)
            have hJ41 := h40
            refine gT_bool (by omega) ?_
            exact gT_ret ⟨rfl, (by dsimp only; constructor <;> omega), hJ41⟩
          · unfold fb_213_139
            refine gT_v0 (A := fun u9 => J p u9) (d_210 hp hJ27 t0 (show (0 : Int) ≤ a1 ∧ a1 ≤ 5 by constructor <;> omega)) (fun s26 h42 => ?_)
            have hJ43 := h42
            refine gT_bool (by omega) ?_
            exact gT_ret ⟨rfl, (by dsimp only; constructor <;> omega), hJ43⟩
      · refine gT_v1 (A := fun w9 u9 => (0 ≤ w9 ∧ w9 ≤ 99) ∧ J p u9) (d_156_0 hp hJ17 t0 (show (0 : Int) ≤ a1 ∧ a1 ≤ 5 by constructor <;> omega)) (fun v29 s28 h44 => ?_)
        obtain ⟨h44r, hJ45⟩ := h44
        unfold fb_213_102
        refine gT_v0 (A := fun u9 => J p u9) (d_157_0 hp hJ45 t0 (show (0 : Int) ≤ a1 ∧ a1 ≤ 5 by constructor <;> omega) (show (0 : Int) ≤ (gdiv v29 2) ∧ (gdiv v29 2) ≤ 99 by have := gdiv_eq (x := v29) (c := 2) (by constructor <;> omega) (by decide); constructor <;> omega)) (fun s20 h46 => ?_)
        have hJ47 := h46
        refine gT_v1 (A := fun w9 u9 => (0 ≤ w9 ∧ w9 ≤ 99) ∧ J p u9) (d_156_0 hp hJ47 t0 (show (0 : Int) ≤ a1 ∧ a1 ≤ 5 by constructor <;> omega)) (fun v23 s22 h48 => ?_)
        obtain ⟨h48r, hJ49⟩ := h48
        refine gT_ite (fun h50 => ?_) (fun h51 => ?_)
        · refine gT_v0 (A := fun u9 => J p u9) (d_157_5 hp hJ49 t0 (show (0 : Int) ≤ a1 ∧ a1 ≤ 5 by constructor <;> omega)) (fun s24 h52 => ?_)
          have hJ53 := h52
          unfold fb_213_128
          refine gT_ite (fun h54 => ?_) (fun h55 => ?_)
          · unfold fb_213_139
            refine gT_v0 (A := fun u9 => J p u9) (d_210 hp hJ53 t0 (show (0 : Int) ≤ a1 ∧ a1 ≤ 5 by constructor <;> omega)) (fun s26 h56 => ?_)
            have hJ57 := h56
            refine gT_bool (by omega) ?_
            exact gT_ret ⟨rfl, (by dsimp only; constructor <;> omega), hJ57⟩
          · unfold fb_213_139
            refine gT_v0 (A := fun u9 => J p u9) (d_210 hp hJ53 t0 (show (0 : Int) ≤ a1 ∧ a1 ≤ 5 by constructor <;> omega)) (fun s26 h58 => ?_)
            have hJ59 := h58
            refine gT_bool (by omega) ?_
            exact gT_ret ⟨rfl, (by dsimp only; constructor <;> omega), hJ59⟩
        · unfold fb_213_128
          refine gT_ite (fun h60 => ?_) (fun h61 => ?_)
          · unfold fb_213_139
            refine gT_v0 (A := fun u9 => J p u9) (d_210 hp hJ49 t0 (show (0 : Int) ≤ a1 ∧ a1 ≤ 5 by constructor <;> omega)) (fun s26 h62 => ?_)
            have hJ63 := h62
            refine gT_bool (by omega) ?_
            exact gT_ret ⟨rfl, (by dsimp only; constructor <;> omega), hJ63⟩
          · unfold fb_213_139
            refine gT_v0 (A := fun u9 => J p u9) (d_210 hp hJ49 t0 (show (0 : Int) ≤ a1 ∧ a1 ≤ 5 by constructor <;> omega)) (fun s26 h64 => ?_)
            have hJ65 := h64
            refine gT_bool (by omega) ?_
            exact gT_ret ⟨rfl, (by dsimp only; constructor <;> omega), hJ65⟩
  · refine gT_v1 (A := fun w9 u9 => (w9 = 1 → 0 ≤ a2 ∧ a2 ≤ 5) ∧ (0 ≤ w9 ∧ w9 ≤ 1) ∧ J p u9) (d_163 hp hJ2 t0) (fun v31 s30 h66 => ?_)
    obtain ⟨h66e, h66r, hJ67⟩ := h66
    refine gT_ite (fun h68 => ?_) (fun h69 => ?_)
    · unfold fb_213_34
      extract_lets -merge s4
      have hJ70 : J p s4 := (J_wf hJ67 t0 rfl (by decide) (by decide) (fun q hq => by cases hq))
      refine gT_ite (fun h71 => ?_) (fun h72 => ?_)
      · have := rd_same (show s4 = (gw s30 a0 0 1) from rfl)
        exact gT_ret ⟨rfl, (by dsimp only; constructor <;> omega), hJ70⟩
      · have := rd_same (show s4 = (gw s30 a0 0 1) from rfl)
        refine gT_v0 (A := fun u9 => J p u9) (d_209 hp hJ70 t0) (fun s5 h73 => ?_)
        have hJ74 := h73
        refine gT_v1 (A := fun w9 u9 => True ∧ J p u9) (d_158 hp hJ74 t0 (show (0 : Int) ≤ a2 ∧ a2 ≤ 255 by constructor <;> omega)) (fun v8 s7 h75 => ?_)
        obtain ⟨h75r, hJ76⟩ := h75
        refine gT_v0 (A := fun u9 => J p u9) (d_200 hp hJ76 t0) (fun s9 h77 => ?_)
        have hJ78 := h77
        refine gT_v1 (A := fun w9 u9 => True ∧ J p u9) (d_156_2 hp hJ78 t0 (show (0 : Int) ≤ a1 ∧ a1 ≤ 5 by constructor <;> omega)) (fun v12 s11 h79 => ?_)
        obtain ⟨h79r, hJ80⟩ := h79
        refine gT_v1 (A := fun w9 u9 => (0 ≤ w9 ∧ w9 ≤ 1) ∧ J p u9) (d_212 hp hJ80 t0 (show (0 : Int) ≤ a2 ∧ a2 ≤ 255 by constructor <;> omega)) (fun v14 s13 h81 => ?_)
        obtain ⟨h81r, hJ82⟩ := h81
        refine gT_ite (fun h83 => ?_) (fun h84 => ?_)
        · refine gT_v1 (A := fun w9 u9 => (0 ≤ w9 ∧ w9 ≤ 99) ∧ J p u9) (d_156_0 hp hJ82 t0 (show (0 : Int) ≤ a1 ∧ a1 ≤ 5 by constructor <;> omega)) (fun v17 s16 h85 => ?_)
          obtain ⟨h85r, hJ86⟩ := h85
          refine gT_v1 (A := fun w9 u9 => (w9 ≤ 99 ∧ w9 ≤ (g32 (v17 + 5)) ∧ (w9 = 99 ∨ w9 = (g32 (v17 + 5)))) ∧ True ∧ J p u9) (d_151 hp hJ86) (fun v19 s18 h87 => ?_)
          obtain ⟨h87e, h87r, hJ88⟩ := h87
          have := g32_eq (v := (v17 + 5)) (by omega) (by omega)
          unfold fb_213_102
          refine gT_v0 (A := fun u9 => J p u9) (d_157_0 hp hJ88 t0 (show (0 : Int) ≤ a1 ∧ a1 ≤ 5 by constructor <;> omega) (show (0 : Int) ≤ v19 ∧ v19 ≤ 99 by constructor <;> omega)) (fun s20 h89 => ?_)
          have hJ90 := h89
          refine gT_v1 (A := fun w9 u9 => (0 ≤ w9 ∧ w9 ≤ 99) ∧ J p u9) (d_156_0 hp hJ90 t0 (show (0 : Int) ≤ a1 ∧ a1 ≤ 5 by constructor <;> omega)) (fun v23 s22 h91 => ?_)
          obtain ⟨h91r, hJ92⟩ := h91
          refine gT_ite (fun h93 => ?_) (fun h94 => ?_)
          · refine gT_v0 (A := fun u9 => J p u9) (d_157_5 hp hJ92 t0 (show (0 : Int) ≤ a1 ∧ a1 ≤ 5 by constructor <;> omega)) (fun s24 h95 => ?_)
            have hJ96 := h95
            unfold fb_213_128
            refine gT_ite (fun h97 => ?_) (fun h98 => ?_)
            · unfold fb_213_139
              refine gT_v0 (A := fun u9 => J p u9) (d_210 hp hJ96 t0 (show (0 : Int) ≤ a1 ∧ a1 ≤ 5 by constructor <;> omega)) (fun s26 h99 => ?_)
              have hJ100 := h99
              refine gT_bool (by omega) ?_
              exact gT_ret ⟨rfl, (by dsimp only; constructor <;> omega), hJ100⟩
            · unfold fb_213_139
              refine gT_v0 (A := fun u9 => J p u9) (d_210 hp hJ96 t0 (show (0 : Int) ≤ a1 ∧ a1 ≤ 5 by constructor <;> omega)) (fun s26 h101 => ?_)
              have hJ102 := h101
              refine gT_bool (by omega) ?_
              exact gT_ret ⟨rfl, (by dsimp only; constructor <;> omega), hJ102⟩
          · unfold fb_213_128
            refine gT_ite (fun h103 => ?_) (fun h104 => ?_)
            · unfold fb_213_139
              refine gT_v0 (A := fun u9 => J p u9) (d_210 hp hJ92 t0 (show (0 : Int) ≤ a1 ∧ a1 ≤ 5 by constructor <;> omega)) (fun s26 h105 => ?_)
              have hJ106 := h105
              refine gT_bool (by omega) ?_
              exact gT_ret ⟨rfl, (by dsimp only; constructor <;> omega), hJ106⟩
            · unfold fb_213_139
              refine gT_v0 (A := fun u9 => J p u9) (d_210 hp hJ92 t0 (show (0 : Int) ≤ a1 ∧ a1 ≤ 5 by constructor <;> omega)) (fun s26 h107 => ?_)
              have hJ108 := h107
              refine gT_bool (by omega) ?_
              exact gT_ret ⟨rfl, (by dsimp only; constructor <;> omega), hJ108⟩
        · refine gT_v1 (A := fun w9 u9 => (0 ≤ w9 ∧ w9 ≤ 99) ∧ J p u9) (d_156_0 hp hJ82 t0 (show (0 : Int) ≤ a1 ∧ a1 ≤ 5 by constructor <;> omega)) (fun v29 s28 h109 => ?_)
          obtain ⟨h109r, hJ110⟩ := h109
          unfold fb_213_102
          refine gT_v0 (A := fun u9 => J p u9) (d_157_0 hp hJ110 t0 (show (0 : Int) ≤ a1 ∧ a1 ≤ 5 by constructor <;> omega) (show (0 : Int) ≤ (gdiv v29 2) ∧ (gdiv v29 2) ≤ 99 by have := gdiv_eq (x := v29) (c := 2) (by constructor <;> omega) (by decide); constructor <;> omega)) (fun s20 h111 => ?_)
          have hJ112 := h111
          refine gT_v1 (A := fun w9 u9 => (0 ≤ w9 ∧ w9 ≤ 99) ∧ J p u9) (d_156_0 hp hJ112 t0 (show (0 : Int) ≤ a1 ∧ a1 ≤ 5 by constructor <;> omega)) (fun v23 s22 h113 => ?_)
          obtain ⟨h113r, hJ114⟩ := h113
          refine gT_ite (fun h115 => ?_) (fun h116 => ?_)
          · refine gT_v0 (A := fun u9 => J p u9) (d_157_5 hp hJ114 t0 (show (0 : Int) ≤ a1 ∧ a1 ≤ 5 by constructor <;> omega)) (fun s24 h117 => ?_)
            have hJ118 := h117
            unfold fb_213_128
            refine gT_ite (fun h119 => ?_) (fun h120 => ?_)
            · unfold fb_213_139
              refine gT_v0 (A := fun u9 => J p u9) (d_210 hp hJ118 t0 (show (0 : Int) ≤ a1 ∧ a1 ≤ 5 by constructor <;> omega)) (fun s26 h121 => ?_)
              have hJ122 := h121
              refine gT_bool (by omega) ?_
              exact gT_ret ⟨rfl, (by dsimp only; constructor <;> omega), hJ122⟩
            · unfold fb_213_139
              refine gT_v0 (A := fun u9 => J p u9) (d_210 hp hJ118 t0 (show (0 : Int) ≤ a1 ∧ a1 ≤ 5 by constructor <;> omega)) (fun s26 h123 => ?_)
              have hJ124 := h123
              refine gT_bool (by omega) ?_
              exact gT_ret ⟨rfl, (by dsimp only; constructor <;> omega), hJ124⟩
          · unfold fb_213_128
            refine gT_ite (fun h125 => ?_) (fun h126 => ?_)
            · unfold fb_213_139
              refine gT_v0 (A := fun u9 => J p u9) (d_210 hp hJ114 t0 (show (0 : Int) ≤ a1 ∧ a1 ≤ 5 by constructor <;> omega)) (fun s26 h127 => ?_)
              have hJ128 := h127
              refine gT_bool (by omega) ?_
              exact gT_ret ⟨rfl, (by dsimp only; constructor <;> omega), hJ128⟩
            · unfold fb_213_139
              refine gT_v0 (A := fun u9 => J p u9) (d_210 hp hJ114 t0 (show (0 : Int) ≤ a1 ∧ a1 ≤ 5 by constructor <;> omega)) (fun s26 h129 => ?_)
              have hJ130 := h129
              refine gT_bool (by omega) ?_
              exact gT_ret ⟨rfl, (by dsimp only; constructor <;> omega), hJ130⟩
    · refine gT_v1 (A := fun w9 u9 => (0 ≤ w9 ∧ w9 ≤ 1) ∧ J p u9) (d_165 hp hJ67 t0 (show (0 : Int) ≤ a1 ∧ a1 ≤ 5 by constructor <;> omega)) (fun v34 s33 h131 => ?_)
      obtain ⟨h131r, hJ132⟩ := h131
      refine gT_ite (fun h133 => ?_) (fun h134 => ?_)
      · unfold fb_213_34
        extract_lets -merge s4
        have hJ135 : J p s4 := (J_wf hJ132 t0 rfl (by decide) (by decide) (fun q hq => by cases hq))
        refine gT_ite (fun h136 => ?_) (fun h137 => ?_)
        · have := rd_same (show s4 = (gw s33 a0 0 2) from rfl)
          exact gT_ret ⟨rfl, (by dsimp only; constructor <;> omega), hJ135⟩
        · have := rd_same (show s4 = (gw s33 a0 0 2) from rfl)
          refine gT_v0 (A := fun u9 => J p u9) (d_209 hp hJ135 t0) (fun s5 h138 => ?_)
          have hJ139 := h138
          refine gT_v1 (A := fun w9 u9 => True ∧ J p u9) (d_158 hp hJ139 t0 (show (0 : Int) ≤ a2 ∧ a2 ≤ 255 by constructor <;> omega)) (fun v8 s7 h140 => ?_)
          obtain ⟨h140r, hJ141⟩ := h140
          refine gT_v0 (A := fun u9 => J p u9) (d_200 hp hJ141 t0) (fun s9 h142 => ?_)
          have hJ143 := h142
          refine gT_v1 (A := fun w9 u9 => True ∧ J p u9) (d_156_2 hp hJ143 t0 (show (0 : Int) ≤ a1 ∧ a1 ≤ 5 by constructor <;> omega)) (fun v12 s11 h144 => ?_)
          obtain ⟨h144r, hJ145⟩ := h144
          refine gT_v1 (A := fun w9 u9 => (0 ≤ w9 ∧ w9 ≤ 1) ∧ J p u9) (d_212 hp hJ145 t0 (show (0 : Int) ≤ a2 ∧ a2 ≤ 255 by constructor <;> omega)) (fun v14 s13 h146 => ?_)
          obtain ⟨h146r, hJ147⟩ := h146
          refine gT_ite (fun h148 => ?_) (fun h149 => ?_)
          · refine gT_v1 (A := fun w9 u9 => (0 ≤ w9 ∧ w9 ≤ 99) ∧ J p u9) (d_156_0 hp hJ147 t0 (show (0 : Int) ≤ a1 ∧ a1 ≤ 5 by constructor <;> omega)) (fun v17 s16 h150 => ?_)
            obtain ⟨h150r, hJ151⟩ := h150
            refine gT_v1 (A := fun w9 u9 => (w9 ≤ 99 ∧ w9 ≤ (g32 (v17 + 5)) ∧ (w9 = 99 ∨ w9 = (g32 (v17 + 5)))) ∧ True ∧ J p u9) (d_151 hp hJ151) (fun v19 s18 h152 => ?_)
            obtain ⟨h152e, h152r, hJ153⟩ := h152
            have := g32_eq (v := (v17 + 5)) (by omega) (by omega)
            unfold fb_213_102
            refine gT_v0 (A := fun u9 => J p u9) (d_157_0 hp hJ153 t0 (show (0 : Int) ≤ a1 ∧ a1 ≤ 5 by constructor <;> omega) (show (0 : Int) ≤ v19 ∧ v19 ≤ 99 by constructor <;> omega)) (fun s20 h154 => ?_)
            have hJ155 := h154
            refine gT_v1 (A := fun w9 u9 => (0 ≤ w9 ∧ w9 ≤ 99) ∧ J p u9) (d_156_0 hp hJ155 t0 (show (0 : Int) ≤ a1 ∧ a1 ≤ 5 by constructor <;> omega)) (fun v23 s22 h156 => ?_)
            obtain ⟨h156r, hJ157⟩ := h156
            refine gT_ite (fun h158 => ?_) (fun h159 => ?_)
            · refine gT_v0 (A := fun u9 => J p u9) (d_157_5 hp hJ157 t0 (show (0 : Int) ≤ a1 ∧ a1 ≤ 5 by constructor <;> omega)) (fun s24 h160 => ?_)
              have hJ161 := h160
              unfold fb_213_128
              refine gT_ite (fun h162 => ?_) (fun h163 => ?_)
              · unfold fb_213_139
                refine gT_v0 (A := fun u9 => J p u9) (d_210 hp hJ161 t0 (show (0 : Int) ≤ a1 ∧ a1 ≤ 5 by constructor <;> omega)) (fun s26 h164 => ?_)
                have hJ165 := h164
                refine gT_bool (by omega) ?_
                exact gT_ret ⟨rfl, (by dsimp only; constructor <;> omega), hJ165⟩
              · unfold fb_213_139
                refine gT_v0 (A := fun u9 => J p u9) (d_210 hp hJ161 t0 (show (0 : Int) ≤ a1 ∧ a1 ≤ 5 by constructor <;> omega)) (fun s26 h166 => ?_)
                have hJ167 := h166
                refine gT_bool (by omega) ?_
                exact gT_ret ⟨rfl, (by dsimp only; constructor <;> omega), hJ167⟩
            · unfold fb_213_128
              refine gT_ite (fun h168 => ?_) (fun h169 => ?_)
              · unfold fb_213_139
                refine gT_v0 (A := fun u9 => J p u9) (d_210 hp hJ157 t0 (show (0 : Int) ≤ a1 ∧ a1 ≤ 5 by constructor <;> omega)) (fun s26 h170 => ?_)
                have hJ171 := h170
                refine gT_bool (by omega) ?_
                exact gT_ret ⟨rfl, (by dsimp only; constructor <;> omega), hJ171⟩
              · unfold fb_213_139
                refine gT_v0 (A := fun u9 => J p u9) (d_210 hp hJ157 t0 (show (0 : Int) ≤ a1 ∧ a1 ≤ 5 by constructor <;> omega)) (fun s26 h172 => ?_)
                have hJ173 := h172
                refine gT_bool (by omega) ?_
                exact gT_ret ⟨rfl, (by dsimp only; constructor <;> omega), hJ173⟩
          · refine gT_v1 (A := fun w9 u9 => (0 ≤ w9 ∧ w9 ≤ 99) ∧ J p u9) (d_156_0 hp hJ147 t0 (show (0 : Int) ≤ a1 ∧ a1 ≤ 5 by constructor <;> omega)) (fun v29 s28 h174 => ?_)
            obtain ⟨h174r, hJ175⟩ := h174
            unfold fb_213_102
            refine gT_v0 (A := fun u9 => J p u9) (d_157_0 hp hJ175 t0 (show (0 : Int) ≤ a1 ∧ a1 ≤ 5 by constructor <;> omega) (show (0 : Int) ≤ (gdiv v29 2) ∧ (gdiv v29 2) ≤ 99 by have := gdiv_eq (x := v29) (c := 2) (by constructor <;> omega) (by decide); constructor <;> omega)) (fun s20 h176 => ?_)
            have hJ177 := h176
            refine gT_v1 (A := fun w9 u9 => (0 ≤ w9 ∧ w9 ≤ 99) ∧ J p u9) (d_156_0 hp hJ177 t0 (show (0 : Int) ≤ a1 ∧ a1 ≤ 5 by constructor <;> omega)) (fun v23 s22 h178 => ?_)
            obtain ⟨h178r, hJ179⟩ := h178
            refine gT_ite (fun h180 => ?_) (fun h181 => ?_)
            · refine gT_v0 (A := fun u9 => J p u9) (d_157_5 hp hJ179 t0 (show (0 : Int) ≤ a1 ∧ a1 ≤ 5 by constructor <;> omega)) (fun s24 h182 => ?_)
              have hJ183 := h182
              unfold fb_213_128
              refine gT_ite (fun h184 => ?_) (fun h185 => ?_)
              · unfold fb_213_139
                refine gT_v0 (A := fun u9 => J p u9) (d_210 hp hJ183 t0 (show (0 : Int) ≤ a1 ∧ a1 ≤ 5 by constructor <;> omega)) (fun s26 h186 => ?_)
                have hJ187 := h186
                refine gT_bool (by omega) ?_
                exact gT_ret ⟨rfl, (by dsimp only; constructor <;> omega), hJ187⟩
              · unfold fb_213_139
                refine gT_v0 (A := fun u9 => J p u9) (d_210 hp hJ183 t0 (show (0 : Int) ≤ a1 ∧ a1 ≤ 5 by constructor <;> omega)) (fun s26 h188 => ?_)
                have hJ189 := h188
                refine gT_bool (by omega) ?_
                exact gT_ret ⟨rfl, (by dsimp only; constructor <;> omega), hJ189⟩
            · unfold fb_213_128
              refine gT_ite (fun h190 => ?_) (fun h191 => ?_)
              · unfold fb_213_139
                refine gT_v0 (A := fun u9 => J p u9) (d_210 hp hJ179 t0 (show (0 : Int) ≤ a1 ∧ a1 ≤ 5 by constructor <;> omega)) (fun s26 h192 => ?_)
                have hJ193 := h192
                refine gT_bool (by omega) ?_
                exact gT_ret ⟨rfl, (by dsimp only; constructor <;> omega), hJ193⟩
              · unfold fb_213_139
                refine gT_v0 (A := fun u9 => J p u9) (d_210 hp hJ179 t0 (show (0 : Int) ≤ a1 ∧ a1 ≤ 5 by constructor <;> omega)) (fun s26 h194 => ?_)
                have hJ195 := h194
                refine gT_bool (by omega) ?_
                exact gT_ret ⟨rfl, (by dsimp only; constructor <;> omega), hJ195⟩
      · unfold fb_213_34
        extract_lets -merge s4
        have hJ196 : J p s4 := (J_wf hJ132 t0 rfl (by decide) (by decide) (fun q hq => by cases hq))
        refine gT_ite (fun h197 => ?_) (fun h198 => ?_)
        · have := rd_same (show s4 = (gw s33 a0 0 0) from rfl)
          exact gT_ret ⟨rfl, (by dsimp only; constructor <;> omega), hJ196⟩
        · have := rd_same (show s4 = (gw s33 a0 0 0) from rfl)
          refine gT_v0 (A := fun u9 => J p u9) (d_209 hp hJ196 t0) (fun s5 h199 => ?_)
          have hJ200 := h199
          refine gT_v1 (A := fun w9 u9 => True ∧ J p u9) (d_158 hp hJ200 t0 (show (0 : Int) ≤ a2 ∧ a2 ≤ 255 by constructor <;> omega)) (fun v8 s7 h201 => ?_)
          obtain ⟨h201r, hJ202⟩ := h201
          refine gT_v0 (A := fun u9 => J p u9) (d_200 hp hJ202 t0) (fun s9 h203 => ?_)
          have hJ204 := h203
          refine gT_v1 (A := fun w9 u9 => True ∧ J p u9) (d_156_2 hp hJ204 t0 (show (0 : Int) ≤ a1 ∧ a1 ≤ 5 by constructor <;> omega)) (fun v12 s11 h205 => ?_)
          obtain ⟨h205r, hJ206⟩ := h205
          refine gT_v1 (A := fun w9 u9 => (0 ≤ w9 ∧ w9 ≤ 1) ∧ J p u9) (d_212 hp hJ206 t0 (show (0 : Int) ≤ a2 ∧ a2 ≤ 255 by constructor <;> omega)) (fun v14 s13 h207 => ?_)
          obtain ⟨h207r, hJ208⟩ := h207
          refine gT_ite (fun h209 => ?_) (fun h210 => ?_)
          · refine gT_v1 (A := fun w9 u9 => (0 ≤ w9 ∧ w9 ≤ 99) ∧ J p u9) (d_156_0 hp hJ208 t0 (show (0 : Int) ≤ a1 ∧ a1 ≤ 5 by constructor <;> omega)) (fun v17 s16 h211 => ?_)
            obtain ⟨h211r, hJ212⟩ := h211
            refine gT_v1 (A := fun w9 u9 => (w9 ≤ 99 ∧ w9 ≤ (g32 (v17 + 5)) ∧ (w9 = 99 ∨ w9 = (g32 (v17 + 5)))) ∧ True ∧ J p u9) (d_151 hp hJ212) (fun v19 s18 h213 => ?_)
            obtain ⟨h213e, h213r, hJ214⟩ := h213
            have := g32_eq (v := (v17 + 5)) (by omega) (by omega)
            unfold fb_213_102
            refine gT_v0 (A := fun u9 => J p u9) (d_157_0 hp hJ214 t0 (show (0 : Int) ≤ a1 ∧ a1 ≤ 5 by constructor <;> omega) (show (0 : Int) ≤ v19 ∧ v19 ≤ 99 by constructor <;> omega)) (fun s20 h215 => ?_)
            have hJ216 := h215
            refine gT_v1 (A := fun w9 u9 => (0 ≤ w9 ∧ w9 ≤ 99) ∧ J p u9) (d_156_0 hp hJ216 t0 (show (0 : Int) ≤ a1 ∧ a1 ≤ 5 by constructor <;> omega)) (fun v23 s22 h217 => ?_)
            obtain ⟨h217r, hJ218⟩ := h217
            refine gT_ite (fun h219 => ?_) (fun h220 => ?_)
            · refine gT_v0 (A := fun u9 => J p u9) (d_157_5 hp hJ218 t0 (show (0 : Int) ≤ a1 ∧ a1 ≤ 5 by constructor <;> omega)) (fun s24 h221 => ?_)
              have hJ222 := h221
              unfold fb_213_128
              refine gT_ite (fun h223 => ?_) (fun h224 => ?_)
              · unfold fb_213_139
                refine gT_v0 (A := fun u9 => J p u9) (d_210 hp hJ222 t0 (show (0 : Int) ≤ a1 ∧ a1 ≤ 5 by constructor <;> omega)) (fun s26 h225 => ?_)
                have hJ226 := h225
                refine gT_bool (by omega) ?_
                exact gT_ret ⟨rfl, (by dsimp only; constructor <;> omega), hJ226⟩
              · unfold fb_213_139
                refine gT_v0 (A := fun u9 => J p u9) (d_210 hp hJ222 t0 (show (0 : Int) ≤ a1 ∧ a1 ≤ 5 by constructor <;> omega)) (fun s26 h227 => ?_)
                have hJ228 := h227
                refine gT_bool (by omega) ?_
                exact gT_ret ⟨rfl, (by dsimp only; constructor <;> omega), hJ228⟩
            · unfold fb_213_128
              refine gT_ite (fun h229 => ?_) (fun h230 => ?_)
              · unfold fb_213_139
                refine gT_v0 (A := fun u9 => J p u9) (d_210 hp hJ218 t0 (show (0 : Int) ≤ a1 ∧ a1 ≤ 5 by constructor <;> omega)) (fun s26 h231 => ?_)
                have hJ232 := h231
                refine gT_bool (by omega) ?_
                exact gT_ret ⟨rfl, (by dsimp only; constructor <;> omega), hJ232⟩
              · unfold fb_213_139
                refine gT_v0 (A := fun u9 => J p u9) (d_210 hp hJ218 t0 (show (0 : Int) ≤ a1 ∧ a1 ≤ 5 by constructor <;> omega)) (fun s26 h233 => ?_)
                have hJ234 := h233
                refine gT_bool (by omega) ?_
                exact gT_ret ⟨rfl, (by dsimp only; constructor <;> omega), hJ234⟩
          · refine gT_v1 (A := fun w9 u9 => (0 ≤ w9 ∧ w9 ≤ 99) ∧ J p u9) (d_156_0 hp hJ208 t0 (show (0 : Int) ≤ a1 ∧ a1 ≤ 5 by constructor <;> omega)) (fun v29 s28 h235 => ?_)
            obtain ⟨h235r, hJ236⟩ := h235
            unfold fb_213_102
            refine gT_v0 (A := fun u9 => J p u9) (d_157_0 hp hJ236 t0 (show (0 : Int) ≤ a1 ∧ a1 ≤ 5 by constructor <;> omega) (show (0 : Int) ≤ (gdiv v29 2) ∧ (gdiv v29 2) ≤ 99 by have := gdiv_eq (x := v29) (c := 2) (by constructor <;> omega) (by decide); constructor <;> omega)) (fun s20 h237 => ?_)
            have hJ238 := h237
            refine gT_v1 (A := fun w9 u9 => (0 ≤ w9 ∧ w9 ≤ 99) ∧ J p u9) (d_156_0 hp hJ238 t0 (show (0 : Int) ≤ a1 ∧ a1 ≤ 5 by constructor <;> omega)) (fun v23 s22 h239 => ?_)
            obtain ⟨h239r, hJ240⟩ := h239
            refine gT_ite (fun h241 => ?_) (fun h242 => ?_)
            · refine gT_v0 (A := fun u9 => J p u9) (d_157_5 hp hJ240 t0 (show (0 : Int) ≤ a1 ∧ a1 ≤ 5 by constructor <;> omega)) (fun s24 h243 => ?_)
              have hJ244 := h243
              unfold fb_213_128
              refine gT_ite (fun h245 => ?_) (fun h246 => ?_)
              · unfold fb_213_139
                refine gT_v0 (A := fun u9 => J p u9) (d_210 hp hJ244 t0 (show (0 : Int) ≤ a1 ∧ a1 ≤ 5 by constructor <;> omega)) (fun s26 h247 => ?_)
                have hJ248 := h247
                refine gT_bool (by omega) ?_
                exact gT_ret ⟨rfl, (by dsimp only; constructor <;> omega), hJ248⟩
              · unfold fb_213_139
                refine gT_v0 (A := fun u9 => J p u9) (d_210 hp hJ244 t0 (show (0 : Int) ≤ a1 ∧ a1 ≤ 5 by constructor <;> omega)) (fun s26 h249 => ?_)
                have hJ250 := h249
                refine gT_bool (by omega) ?_
                exact gT_ret ⟨rfl, (by dsimp only; constructor <;> omega), hJ250⟩
            · unfold fb_213_128
              refine gT_ite (fun h251 => ?_) (fun h252 => ?_)
              · unfold fb_213_139
                refine gT_v0 (A := fun u9 => J p u9) (d_210 hp hJ240 t0 (show (0 : Int) ≤ a1 ∧ a1 ≤ 5 by constructor <;> omega)) (fun s26 h253 => ?_)
                have hJ254 := h253
                refine gT_bool (by omega) ?_
                exact gT_ret ⟨rfl, (by dsimp only; constructor <;> omega), hJ254⟩
              · unfold fb_213_139
                refine gT_v0 (A := fun u9 => J p u9) (d_210 hp hJ240 t0 (show (0 : Int) ≤ a1 ∧ a1 ≤ 5 by constructor <;> omega)) (fun s26 h255 => ?_)
                have hJ256 := h255
                refine gT_bool (by omega) ?_
                exact gT_ret ⟨rfl, (by dsimp only; constructor <;> omega), hJ256⟩
-- X12_flee
theorem d_214 {p : gP} {a0 : Nat} {a1 : Int} {s : gS} (hp : -1 ≤ p.1 ∧ p.1 ≤ 0) (h : J p s) (t0 : T 12 a0) : gT (f_214 a0 a1 s) (fun r => r.1 = 1 ∧ True ∧ J p r.2.2.2) := by
  unfold f_214
  refine gT_v1 (A := fun w9 u9 => (w9 = 1 → 0 ≤ a1 ∧ a1 ≤ 5) ∧ (0 ≤ w9 ∧ w9 ≤ 1) ∧ J p u9) (d_162 hp h t0) (fun v2 s1 h1 => ?_)
  obtain ⟨h1e, h1r, hJ2⟩ := h1
  refine gT_ite (fun h3 => ?_) (fun h4 => ?_)
  · unfold fb_214_35
    extract_lets -merge s4
    have hJ5 : J p s4 := (J_wf hJ2 t0 rfl (by decide) (by decide) (fun q hq => by cases hq))
    refine gT_ite (fun h6 => ?_) (fun h7 => ?_)
    · have := rd_same (show s4 = (gw s1 a0 0 1) from rfl)
      exact gT_ret ⟨rfl, trivial, hJ5⟩
    · have := rd_same (show s4 = (gw s1 a0 0 1) from rfl)
      refine gT_v0 (A := fun u9 => J p u9) (d_209 hp hJ5 t0) (fun s5 h8 => ?_)
      have hJ9 := h8
      refine gT_v0 (A := fun u9 => J p u9) (d_157_5 hp hJ9 t0 (show (0 : Int) ≤ a1 ∧ a1 ≤ 5 by constructor <;> omega)) (fun s7 h10 => ?_)
      have hJ11 := h10
      refine gT_v1 (A := fun w9 u9 => (0 ≤ w9 ∧ w9 ≤ 99) ∧ J p u9) (d_156_0 hp hJ11 t0 (show (0 : Int) ≤ a1 ∧ a1 ≤ 5 by constructor <;> omega)) (fun v10 s9 h12 => ?_)
      obtain ⟨h12r, hJ13⟩ := h12
      exact gT_ret ⟨rfl, trivial, hJ13⟩
  · refine gT_v1 (A := fun w9 u9 => (0 ≤ w9 ∧ w9 ≤ 1) ∧ J p u9) (d_165 hp hJ2 t0 (show (0 : Int) ≤ a1 ∧ a1 ≤ 5 by constructor <;> omega)) (fun v12 s11 h14 => ?_)
    obtain ⟨h14r, hJ15⟩ := h14
    refine gT_ite (fun h16 => ?_) (fun h17 => ?_)
    · unfold fb_214_35
      extract_lets -merge s4
      have hJ18 : J p s4 := (J_wf hJ15 t0 rfl (by decide) (by decide) (fun q hq => by cases hq))
      refine gT_ite (fun h19 => ?_) (fun h20 => ?_)
      · have := rd_same (show s4 = (gw s11 a0 0 2) from rfl)
        exact gT_ret ⟨rfl, trivial, hJ18⟩
      · have := rd_same (show s4 = (gw s11 a0 0 2) from rfl)
        refine gT_v0 (A := fun u9 => J p u9) (d_209 hp hJ18 t0) (fun s5 h21 => ?_)
        have hJ22 := h21
        refine gT_v0 (A := fun u9 => J p u9) (d_157_5 hp hJ22 t0 (show (0 : Int) ≤ a1 ∧ a1 ≤ 5 by constructor <;> omega)) (fun s7 h23 => ?_)
        have hJ24 := h23
        refine gT_v1 (A := fun w9 u9 => (0 ≤ w9 ∧ w9 ≤ 99) ∧ J p u9) (d_156_0 hp hJ24 t0 (show (0 : Int) ≤ a1 ∧ a1 ≤ 5 by constructor <;> omega)) (fun v10 s9 h25 => ?_)
        obtain ⟨h25r, hJ26⟩ := h25
        exact gT_ret ⟨rfl, trivial, hJ26⟩
    · refine gT_v1 (A := fun w9 u9 => True ∧ J p u9) (d_156_4 hp hJ15 t0 (show (0 : Int) ≤ a1 ∧ a1 ≤ 5 by constructor <;> omega)) (fun v15 s14 h27 => ?_)
      obtain ⟨h27r, hJ28⟩ := h27
      refine gT_ite (fun h29 => ?_) (fun h30 => ?_)
      · unfold fb_214_35
        extract_lets -merge s4
        have hJ31 : J p s4 := (J_wf hJ28 t0 rfl (by decide) (by decide) (fun q hq => by cases hq))
        refine gT_ite (fun h32 => ?_) (fun h33 => ?_)
        · have := rd_same (show s4 = (gw s14 a0 0 2) from rfl)
          exact gT_ret ⟨rfl, trivial, hJ31⟩
        · have := rd_same (show s4 = (gw s14 a0 0 2) from rfl)
          refine gT_v0 (A := fun u9 => J p u9) (d_209 hp hJ31 t0) (fun s5 h34 => ?_)
          have hJ35 := h34
          refine gT_v0 (A := fun u9 => J p u9) (d_157_5 hp hJ35 t0 (show (0 : Int) ≤ a1 ∧ a1 ≤ 5 by constructor <;> omega)) (fun s7 h36 => ?_)
          have hJ37 := h36
          refine gT_v1 (A := fun w9 u9 => (0 ≤ w9 ∧ w9 ≤ 99) ∧ J p u9) (d_156_0 hp hJ37 t0 (show (0 : Int) ≤ a1 ∧ a1 ≤ 5 by constructor <;> omega)) (fun v10 s9 h38 => ?_)
          obtain ⟨h38r, hJ39⟩ := h38
          exact gT_ret ⟨rfl, trivial, hJ39⟩
      · unfold fb_214_35
        extract_lets -merge s4
        have hJ40 : J p s4 := (J_wf hJ28 t0 rfl (by decide) (by decide) (fun q hq => by cases hq))
        refine gT_ite (fun h41 => ?_) (fun h42 => ?_)
        · have := rd_same (show s4 = (gw s14 a0 0 0) from rfl)
          exact gT_ret ⟨rfl, trivial, hJ40⟩
        · have := rd_same (show s4 = (gw s14 a0 0 0) from rfl)
          refine gT_v0 (A := fun u9 => J p u9) (d_209 hp hJ40 t0) (fun s5 h43 => ?_)
          have hJ44 := h43
          refine gT_v0 (A := fun u9 => J p u9) (d_157_5 hp hJ44 t0 (show (0 : Int) ≤ a1 ∧ a1 ≤ 5 by constructor <;> omega)) (fun s7 h45 => ?_)
          have hJ46 := h45
          refine gT_v1 (A := fun w9 u9 => (0 ≤ w9 ∧ w9 ≤ 99) ∧ J p u9) (d_156_0 hp hJ46 t0 (show (0 : Int) ≤ a1 ∧ a1 ≤ 5 by constructor <;> omega)) (fun v10 s9 h47 => ?_)
          obtain ⟨h47r, hJ48⟩ := h47
          exact gT_ret ⟨rfl, trivial, hJ48⟩
-- X12_sell
theorem d_215 {p : gP} {a0 : Nat} {a1 : Int} {a2 : Int} {a3 : Int} {s : gS} (hp : -1 ≤ p.1 ∧ p.1 ≤ 0) (h : J p s) (t0 : T 12 a0) : gT (f_215 a0 a1 a2 a3 s) (fun r => r.1 = 1 ∧ True ∧ J p r.2.2.2) := by
  unfold f_215
  refine gT_v1 (A := fun w9 u9 => (w9 = 1 → 0 ≤ a1 ∧ a1 ≤ 5) ∧ (0 ≤ w9 ∧ w9 ≤ 1) ∧ J p u9) (d_162 hp h t0) (fun v2 s1 h1 => ?_)
  obtain ⟨h1e, h1r, hJ2⟩ := h1
  refine gT_ite (fun h3 => ?_) (fun h4 => ?_)
  · unfold fb_215_52
    extract_lets -merge s4
    have hJ5 : J p s4 := (J_wf hJ2 t0 rfl (by decide) (by decide) (fun q hq => by cases hq))
    refine gT_ite (fun h6 => ?_) (fun h7 => ?_)
    · have := rd_same (show s4 = (gw s1 a0 0 1) from rfl)
      exact gT_ret ⟨rfl, trivial, hJ5⟩
    · have := rd_same (show s4 = (gw s1 a0 0 1) from rfl)
      refine gT_v0 (A := fun u9 => J p u9) (d_209 hp hJ5 t0) (fun s5 h8 => ?_)
      have hJ9 := h8
      extract_lets -merge s7
      refine gT_chk (by omega) (by omega) ?_
      refine gT_chk (by omega) (by omega) ?_
      have hJ10 : J p s7 := (J_wmf hJ9 hJ9 t0 (by omega))
      refine gT_chk (by omega) (by omega) ?_
      refine gT_v1 (A := fun w9 u9 => (0 ≤ w9 ∧ w9 ≤ 8) ∧ J p u9) (d_156_3 hp hJ10 t0 (show (0 : Int) ≤ a1 ∧ a1 ≤ 5 by constructor <;> omega)) (fun v9 s8 h11 => ?_)
      obtain ⟨h11r, hJ12⟩ := h11
      extract_lets -merge s10
      refine gT_chk (by omega) (by omega) ?_
      have hJ13 : J p s10 := (J_wmf hJ12 hJ10 t0 (by omega))
      refine gT_v1 (A := fun w9 u9 => (w9 ≤ 9999 ∧ w9 ≤ (g32 ((gI s10 (gR s10 a0 1) 8) + a3)) ∧ (w9 = 9999 ∨ w9 = (g32 ((gI s10 (gR s10 a0 1) 8) + a3)))) ∧ True ∧ J p u9) (d_151 hp hJ13) (fun v12 s11 h14 => ?_)
      obtain ⟨h14e, h14r, hJ15⟩ := h14
      extract_lets -merge s13
      have hJ16 : J p s13 := (J_wm hJ15 hJ13 t0 (fun q hq => by cases hq))
      refine gT_v0 (A := fun u9 => J p u9) (d_157_5 hp hJ16 t0 (show (0 : Int) ≤ a1 ∧ a1 ≤ 5 by constructor <;> omega)) (fun s14 h17 => ?_)
      have hJ18 := h17
      exact gT_ret ⟨rfl, trivial, hJ18⟩
  · refine gT_v1 (A := fun w9 u9 => (w9 = 1 → 0 ≤ a2 ∧ a2 ≤ 5) ∧ (0 ≤ w9 ∧ w9 ≤ 1) ∧ J p u9) (d_164 hp hJ2 t0) (fun v17 s16 h19 => ?_)
    obtain ⟨h19e, h19r, hJ20⟩ := h19
    refine gT_ite (fun h21 => ?_) (fun h22 => ?_)
    · unfold fb_215_52
      extract_lets -merge s4
      have hJ23 : J p s4 := (J_wf hJ20 t0 rfl (by decide) (by decide) (fun q hq => by cases hq))
      refine gT_ite (fun h24 => ?_) (fun h25 => ?_)
      · have := rd_same (show s4 = (gw s16 a0 0 1) from rfl)
        exact gT_ret ⟨rfl, trivial, hJ23⟩
      · have := rd_same (show s4 = (gw s16 a0 0 1) from rfl)
        refine gT_v0 (A := fun u9 => J p u9) (d_209 hp hJ23 t0) (fun s5 h26 => ?_)
        have hJ27 := h26
        extract_lets -merge s7
        refine gT_chk (by omega) (by omega) ?_
        refine gT_chk (by omega) (by omega) ?_
        have hJ28 : J p s7 := (J_wmf hJ27 hJ27 t0 (by omega))
        refine gT_chk (by omega) (by omega) ?_
        refine gT_v1 (A := fun w9 u9 => (0 ≤ w9 ∧ w9 ≤ 8) ∧ J p u9) (d_156_3 hp hJ28 t0 (show (0 : Int) ≤ a1 ∧ a1 ≤ 5 by constructor <;> omega)) (fun v9 s8 h29 => ?_)
        obtain ⟨h29r, hJ30⟩ := h29
        extract_lets -merge s10
        refine gT_chk (by omega) (by omega) ?_
        have hJ31 : J p s10 := (J_wmf hJ30 hJ28 t0 (by omega))
        refine gT_v1 (A := fun w9 u9 => (w9 ≤ 9999 ∧ w9 ≤ (g32 ((gI s10 (gR s10 a0 1) 8) + a3)) ∧ (w9 = 9999 ∨ w9 = (g32 ((gI s10 (gR s10 a0 1) 8) + a3)))) ∧ True ∧ J p u9) (d_151 hp hJ31) (fun v12 s11 h32 => ?_)
        obtain ⟨h32e, h32r, hJ33⟩ := h32
        extract_lets -merge s13
        have hJ34 : J p s13 := (J_wm hJ33 hJ31 t0 (fun q hq => by cases hq))
        refine gT_v0 (A := fun u9 => J p u9) (d_157_5 hp hJ34 t0 (show (0 : Int) ≤ a1 ∧ a1 ≤ 5 by constructor <;> omega)) (fun s14 h35 => ?_)
        have hJ36 := h35
        exact gT_ret ⟨rfl, trivial, hJ36⟩
    · refine gT_v1 (A := fun w9 u9 => True ∧ J p u9) (d_160 hp hJ20 t0 (show (0 : Int) ≤ a2 ∧ a2 ≤ 5 by constructor <;> omega) (show (0 : Int) ≤ 0 ∧ 0 ≤ 1 by constructor <;> omega)) (fun v20 s19 h37 => ?_)
      obtain ⟨h37r, hJ38⟩ := h37
      refine gT_v1 (A := fun w9 u9 => ((w9 = 1 → 0 ≤ a3 ∧ a3 ≤ v20) ∧ (w9 = 0 → a3 < 0 ∨ v20 < a3)) ∧ (0 ≤ w9 ∧ w9 ≤ 1) ∧ J p u9) (d_150 hp hJ38) (fun v22 s21 h39 => ?_)
      obtain ⟨h39e, h39r, hJ40⟩ := h39
      refine gT_ite (fun h41 => ?_) (fun h42 => ?_)
      · unfold fb_215_52
        extract_lets -merge s4
        have hJ43 : J p s4 := (J_wf hJ40 t0 rfl (by decide) (by decide) (fun q hq => by cases hq))
        refine gT_ite (fun h44 => ?_) (fun h45 => ?_)
        · have := rd_same (show s4 = (gw s21 a0 0 2) from rfl)
          exact gT_ret ⟨rfl, trivial, hJ43⟩
        · have := rd_same (show s4 = (gw s21 a0 0 2) from rfl)
          refine gT_v0 (A := fun u9 => J p u9) (d_209 hp hJ43 t0) (fun s5 h46 => ?_)
          have hJ47 := h46
          extract_lets -merge s7
          refine gT_chk (by have := g32_eq (v := (2 * a2)) (by omega) (by omega); have := g32_eq (v := (88 + (g32 (2 * a2)))) (by omega) (by omega); have := g32_eq (v := ((g32 (88 + (g32 (2 * a2)))) + 0)) (by omega) (by omega); omega) (by have := g32_eq (v := (2 * a2)) (by omega) (by omega); have := g32_eq (v := (88 + (g32 (2 * a2)))) (by omega) (by omega); have := g32_eq (v := ((g32 (88 + (g32 (2 * a2)))) + 0)) (by omega) (by omega); omega) ?_
          refine gT_chk (by have := g32_eq (v := (2 * a2)) (by omega) (by omega); have := g32_eq (v := (88 + (g32 (2 * a2)))) (by omega) (by omega); have := g32_eq (v := ((g32 (88 + (g32 (2 * a2)))) + 0)) (by omega) (by omega); omega) (by have := g32_eq (v := (2 * a2)) (by omega) (by omega); have := g32_eq (v := (88 + (g32 (2 * a2)))) (by omega) (by omega); have := g32_eq (v := ((g32 (88 + (g32 (2 * a2)))) + 0)) (by omega) (by omega); omega) ?_
          have hJ48 : J p s7 := (J_wmf hJ47 hJ47 t0 (by have := g32_eq (v := (2 * a2)) (by omega) (by omega); have := g32_eq (v := (88 + (g32 (2 * a2)))) (by omega) (by omega); have := g32_eq (v := ((g32 (88 + (g32 (2 * a2)))) + 0)) (by omega) (by omega); omega))
          refine gT_chk (by have := g32_eq (v := (2 * a2)) (by omega) (by omega); have := g32_eq (v := (88 + (g32 (2 * a2)))) (by omega) (by omega); have := g32_eq (v := ((g32 (88 + (g32 (2 * a2)))) + 1)) (by omega) (by omega); omega) (by have := g32_eq (v := (2 * a2)) (by omega) (by omega); have := g32_eq (v := (88 + (g32 (2 * a2)))) (by omega) (by omega); have := g32_eq (v := ((g32 (88 + (g32 (2 * a2)))) + 1)) (by omega) (by omega); omega) ?_
          refine gT_v1 (A := fun w9 u9 => (0 ≤ w9 ∧ w9 ≤ 8) ∧ J p u9) (d_156_3 hp hJ48 t0 (show (0 : Int) ≤ a1 ∧ a1 ≤ 5 by constructor <;> omega)) (fun v9 s8 h49 => ?_)
          obtain ⟨h49r, hJ50⟩ := h49
          extract_lets -merge s10
          refine gT_chk (by have := g32_eq (v := (2 * a2)) (by omega) (by omega); have := g32_eq (v := (88 + (g32 (2 * a2)))) (by omega) (by omega); have := g32_eq (v := ((g32 (88 + (g32 (2 * a2)))) + 1)) (by omega) (by omega); omega) (by have := g32_eq (v := (2 * a2)) (by omega) (by omega); have := g32_eq (v := (88 + (g32 (2 * a2)))) (by omega) (by omega); have := g32_eq (v := ((g32 (88 + (g32 (2 * a2)))) + 1)) (by omega) (by omega); omega) ?_
          have hJ51 : J p s10 := (J_wmf hJ50 hJ48 t0 (by have := g32_eq (v := (2 * a2)) (by omega) (by omega); have := g32_eq (v := (88 + (g32 (2 * a2)))) (by omega) (by omega); have := g32_eq (v := ((g32 (88 + (g32 (2 * a2)))) + 1)) (by omega) (by omega); omega))
          refine gT_v1 (A := fun w9 u9 => (w9 ≤ 9999 ∧ w9 ≤ (g32 ((gI s10 (gR s10 a0 1) 8) + a3)) ∧ (w9 = 9999 ∨ w9 = (g32 ((gI s10 (gR s10 a0 1) 8) + a3)))) ∧ True ∧ J p u9) (d_151 hp hJ51) (fun v12 s11 h52 => ?_)
          obtain ⟨h52e, h52r, hJ53⟩ := h52
          extract_lets -merge s13
          have hJ54 : J p s13 := (J_wm hJ53 hJ51 t0 (fun q hq => by cases hq))
          refine gT_v0 (A := fun u9 => J p u9) (d_157_5 hp hJ54 t0 (show (0 : Int) ≤ a1 ∧ a1 ≤ 5 by constructor <;> omega)) (fun s14 h55 => ?_)
          have hJ56 := h55
          exact gT_ret ⟨rfl, trivial, hJ56⟩
      · refine gT_v1 (A := fun w9 u9 => (0 ≤ w9 ∧ w9 ≤ 1) ∧ J p u9) (d_165 hp hJ40 t0 (show (0 : Int) ≤ a1 ∧ a1 ≤ 5 by constructor <;> omega)) (fun v25 s24 h57 => ?_)
        obtain ⟨h57r, hJ58⟩ := h57
        refine gT_ite (fun h59 => ?_) (fun h60 => ?_)
        · unfold fb_215_52
          extract_lets -merge s4
          have hJ61 : J p s4 := (J_wf hJ58 t0 rfl (by decide) (by decide) (fun q hq => by cases hq))
          refine gT_ite (fun h62 => ?_) (fun h63 => ?_)
          · have := rd_same (show s4 = (gw s24 a0 0 3) from rfl)
            exact gT_ret ⟨rfl, trivial, hJ61⟩
          · have := rd_same (show s4 = (gw s24 a0 0 3) from rfl)
            refine gT_v0 (A := fun u9 => J p u9) (d_209 hp hJ61 t0) (fun s5 h64 => ?_)
            have hJ65 := h64
            extract_lets -merge s7
            refine gT_chk (by have := g32_eq (v := (2 * a2)) (by omega) (by omega); have := g32_eq (v := (88 + (g32 (2 * a2)))) (by omega) (by omega); have := g32_eq (v := ((g32 (88 + (g32 (2 * a2)))) + 0)) (by omega) (by omega); omega) (by have := g32_eq (v := (2 * a2)) (by omega) (by omega); have := g32_eq (v := (88 + (g32 (2 * a2)))) (by omega) (by omega); have := g32_eq (v := ((g32 (88 + (g32 (2 * a2)))) + 0)) (by omega) (by omega); omega) ?_
            refine gT_chk (by have := g32_eq (v := (2 * a2)) (by omega) (by omega); have := g32_eq (v := (88 + (g32 (2 * a2)))) (by omega) (by omega); have := g32_eq (v := ((g32 (88 + (g32 (2 * a2)))) + 0)) (by omega) (by omega); omega) (by have := g32_eq (v := (2 * a2)) (by omega) (by omega); have := g32_eq (v := (88 + (g32 (2 * a2)))) (by omega) (by omega); have := g32_eq (v := ((g32 (88 + (g32 (2 * a2)))) + 0)) (by omega) (by omega); omega) ?_
            have hJ66 : J p s7 := (J_wmf hJ65 hJ65 t0 (by have := g32_eq (v := (2 * a2)) (by omega) (by omega); have := g32_eq (v := (88 + (g32 (2 * a2)))) (by omega) (by omega); have := g32_eq (v := ((g32 (88 + (g32 (2 * a2)))) + 0)) (by omega) (by omega); omega))
            refine gT_chk (by have := g32_eq (v := (2 * a2)) (by omega) (by omega); have := g32_eq (v := (88 + (g32 (2 * a2)))) (by omega) (by omega); have := g32_eq (v := ((g32 (88 + (g32 (2 * a2)))) + 1)) (by omega) (by omega); omega) (by have := g32_eq (v := (2 * a2)) (by omega) (by omega); have := g32_eq (v := (88 + (g32 (2 * a2)))) (by omega) (by omega); have := g32_eq (v := ((g32 (88 + (g32 (2 * a2)))) + 1)) (by omega) (by omega); omega) ?_
            refine gT_v1 (A := fun w9 u9 => (0 ≤ w9 ∧ w9 ≤ 8) ∧ J p u9) (d_156_3 hp hJ66 t0 (show (0 : Int) ≤ a1 ∧ a1 ≤ 5 by constructor <;> omega)) (fun v9 s8 h67 => ?_)
            obtain ⟨h67r, hJ68⟩ := h67
            extract_lets -merge s10
            refine gT_chk (by have := g32_eq (v := (2 * a2)) (by omega) (by omega); have := g32_eq (v := (88 + (g32 (2 * a2)))) (by omega) (by omega); have := g32_eq (v := ((g32 (88 + (g32 (2 * a2)))) + 1)) (by omega) (by omega); omega) (by have := g32_eq (v := (2 * a2)) (by omega) (by omega); have := g32_eq (v := (88 + (g32 (2 * a2)))) (by omega) (by omega); have := g32_eq (v := ((g32 (88 + (g32 (2 * a2)))) + 1)) (by omega) (by omega); omega) ?_
            have hJ69 : J p s10 := (J_wmf hJ68 hJ66 t0 (by have := g32_eq (v := (2 * a2)) (by omega) (by omega); have := g32_eq (v := (88 + (g32 (2 * a2)))) (by omega) (by omega); have := g32_eq (v := ((g32 (88 + (g32 (2 * a2)))) + 1)) (by omega) (by omega); omega))
            refine gT_v1 (A := fun w9 u9 => (w9 ≤ 9999 ∧ w9 ≤ (g32 ((gI s10 (gR s10 a0 1) 8) + a3)) ∧ (w9 = 9999 ∨ w9 = (g32 ((gI s10 (gR s10 a0 1) 8) + a3)))) ∧ True ∧ J p u9) (d_151 hp hJ69) (fun v12 s11 h70 => ?_)
            obtain ⟨h70e, h70r, hJ71⟩ := h70
            extract_lets -merge s13
            have hJ72 : J p s13 := (J_wm hJ71 hJ69 t0 (fun q hq => by cases hq))
            refine gT_v0 (A := fun u9 => J p u9) (d_157_5 hp hJ72 t0 (show (0 : Int) ≤ a1 ∧ a1 ≤ 5 by constructor <;> omega)) (fun s14 h73 => ?_)
            have hJ74 := h73
            exact gT_ret ⟨rfl, trivial, hJ74⟩
        · unfold fb_215_52
          extract_lets -merge s4
          have hJ75 : J p s4 := (J_wf hJ58 t0 rfl (by decide) (by decide) (fun q hq => by cases hq))
          refine gT_ite (fun h76 => ?_) (fun h77 => ?_)
          · have := rd_same (show s4 = (gw s24 a0 0 0) from rfl)
            exact gT_ret ⟨rfl, trivial, hJ75⟩
          · have := rd_same (show s4 = (gw s24 a0 0 0) from rfl)
            refine gT_v0 (A := fun u9 => J p u9) (d_209 hp hJ75 t0) (fun s5 h78 => ?_)
            have hJ79 := h78
            extract_lets -merge s7
            refine gT_chk (by have := g32_eq (v := (2 * a2)) (by omega) (by omega); have := g32_eq (v := (88 + (g32 (2 * a2)))) (by omega) (by omega); have := g32_eq (v := ((g32 (88 + (g32 (2 * a2)))) + 0)) (by omega) (by omega); omega) (by have := g32_eq (v := (2 * a2)) (by omega) (by omega); have := g32_eq (v := (88 + (g32 (2 * a2)))) (by omega) (by omega); have := g32_eq (v := ((g32 (88 + (g32 (2 * a2)))) + 0)) (by omega) (by omega); omega) ?_
            refine gT_chk (by have := g32_eq (v := (2 * a2)) (by omega) (by omega); have := g32_eq (v := (88 + (g32 (2 * a2)))) (by omega) (by omega); have := g32_eq (v := ((g32 (88 + (g32 (2 * a2)))) + 0)) (by omega) (by omega); omega) (by have := g32_eq (v := (2 * a2)) (by omega) (by omega); have := g32_eq (v := (88 + (g32 (2 * a2)))) (by omega) (by omega); have := g32_eq (v := ((g32 (88 + (g32 (2 * a2)))) + 0)) (by omega) (by omega); omega) ?_
            have hJ80 : J p s7 := (J_wmf hJ79 hJ79 t0 (by have := g32_eq (v := (2 * a2)) (by omega) (by omega); have := g32_eq (v := (88 + (g32 (2 * a2)))) (by omega) (by omega); have := g32_eq (v := ((g32 (88 + (g32 (2 * a2)))) + 0)) (by omega) (by omega); omega))
            refine gT_chk (by have := g32_eq (v := (2 * a2)) (by omega) (by omega); have := g32_eq (v := (88 + (g32 (2 * a2)))) (by omega) (by omega); have := g32_eq (v := ((g32 (88 + (g32 (2 * a2)))) + 1)) (by omega) (by omega); omega) (by have := g32_eq (v := (2 * a2)) (by omega) (by omega); have := g32_eq (v := (88 + (g32 (2 * a2)))) (by omega) (by omega); have := g32_eq (v := ((g32 (88 + (g32 (2 * a2)))) + 1)) (by omega) (by omega); omega) ?_
            refine gT_v1 (A := fun w9 u9 => (0 ≤ w9 ∧ w9 ≤ 8) ∧ J p u9) (d_156_3 hp hJ80 t0 (show (0 : Int) ≤ a1 ∧ a1 ≤ 5 by constructor <;> omega)) (fun v9 s8 h81 => ?_)
            obtain ⟨h81r, hJ82⟩ := h81
            extract_lets -merge s10
            refine gT_chk (by have := g32_eq (v := (2 * a2)) (by omega) (by omega); have := g32_eq (v := (88 + (g32 (2 * a2)))) (by omega) (by omega); have := g32_eq (v := ((g32 (88 + (g32 (2 * a2)))) + 1)) (by omega) (by omega); omega) (by have := g32_eq (v := (2 * a2)) (by omega) (by omega); have := g32_eq (v := (88 + (g32 (2 * a2)))) (by omega) (by omega); have := g32_eq (v := ((g32 (88 + (g32 (2 * a2)))) + 1)) (by omega) (by omega); omega) ?_
            have hJ83 : J p s10 := (J_wmf hJ82 hJ80 t0 (by have := g32_eq (v := (2 * a2)) (by omega) (by omega); have := g32_eq (v := (88 + (g32 (2 * a2)))) (by omega) (by omega); have := g32_eq (v := ((g32 (88 + (g32 (2 * a2)))) + 1)) (by omega) (by omega); omega))
            refine gT_v1 (A := fun w9 u9 => (w9 ≤ 9999 ∧ w9 ≤ (g32 ((gI s10 (gR s10 a0 1) 8) + a3)) ∧ (w9 = 9999 ∨ w9 = (g32 ((gI s10 (gR s10 a0 1) 8) + a3)))) ∧ True ∧ J p u9) (d_151 hp hJ83) (fun v12 s11 h84 => ?_)
            obtain ⟨h84e, h84r, hJ85⟩ := h84
            extract_lets -merge s13
            have hJ86 : J p s13 := (J_wm hJ85 hJ83 t0 (fun q hq => by cases hq))
            refine gT_v0 (A := fun u9 => J p u9) (d_157_5 hp hJ86 t0 (show (0 : Int) ≤ a1 ∧ a1 ≤ 5 by constructor <;> omega)) (fun s14 h87 => ?_)
            have hJ88 := h87
            exact gT_ret ⟨rfl, trivial, hJ88⟩
-- X12_part_
theorem d_216 {p : gP} {a0 : Nat} {a1 : Int} {a2 : Int} {s : gS} (hp : -1 ≤ p.1 ∧ p.1 ≤ 0) (h : J p s) (t0 : T 12 a0) : gT (f_216 a0 a1 a2 s) (fun r => r.1 = 1 ∧ True ∧ J p r.2.2.2) := by
  unfold f_216
  refine gT_v1 (A := fun w9 u9 => (w9 = 1 → 0 ≤ a1 ∧ a1 ≤ 7) ∧ (0 ≤ w9 ∧ w9 ≤ 1) ∧ J p u9) (d_161 hp h t0) (fun v2 s1 h1 => ?_)
  obtain ⟨h1e, h1r, hJ2⟩ := h1
  refine gT_ite (fun h3 => ?_) (fun h4 => ?_)
  · unfold fb_216_50
    extract_lets -merge s4
    have hJ5 : J p s4 := (J_wf hJ2 t0 rfl (by decide) (by decide) (fun q hq => by cases hq))
    refine gT_ite (fun h6 => ?_) (fun h7 => ?_)
    · have := rd_same (show s4 = (gw s1 a0 0 1) from rfl)
      exact gT_ret ⟨rfl, trivial, hJ5⟩
    · have := rd_same (show s4 = (gw s1 a0 0 1) from rfl)
      refine gT_v0 (A := fun u9 => J p u9) (d_209 hp hJ5 t0) (fun s5 h8 => ?_)
      have hJ9 := h8
      extract_lets -merge s7 s8
      refine gT_chk (by omega) (by omega) ?_
      refine gT_chk (by omega) (by omega) ?_
      have hJ10 : J p s7 := (J_wmf hJ9 hJ9 t0 (by omega))
      refine gT_chk (by omega) (by omega) ?_
      refine gT_chk (by omega) (by omega) ?_
      have hJ11 : J p s8 := (J_wmf hJ10 hJ10 t0 (by omega))
      refine gT_v1 (A := fun w9 u9 => True ∧ J p u9) (d_160 hp hJ11 t0 (show (0 : Int) ≤ a2 ∧ a2 ≤ 5 by constructor <;> omega) (show (0 : Int) ≤ 1 ∧ 1 ≤ 1 by constructor <;> omega)) (fun v10 s9 h12 => ?_)
      obtain ⟨h12r, hJ13⟩ := h12
      exact gT_ret ⟨rfl, trivial, hJ13⟩
  · refine gT_v1 (A := fun w9 u9 => (w9 = 1 → 0 ≤ a2 ∧ a2 ≤ 5) ∧ (0 ≤ w9 ∧ w9 ≤ 1) ∧ J p u9) (d_164 hp hJ2 t0) (fun v12 s11 h14 => ?_)
    obtain ⟨h14e, h14r, hJ15⟩ := h14
    refine gT_ite (fun h16 => ?_) (fun h17 => ?_)
    · unfold fb_216_50
      extract_lets -merge s4
      have hJ18 : J p s4 := (J_wf hJ15 t0 rfl (by decide) (by decide) (fun q hq => by cases hq))
      refine gT_ite (fun h19 => ?_) (fun h20 => ?_)
      · have := rd_same (show s4 = (gw s11 a0 0 1) from rfl)
        exact gT_ret ⟨rfl, trivial, hJ18⟩
      · have := rd_same (show s4 = (gw s11 a0 0 1) from rfl)
        refine gT_v0 (A := fun u9 => J p u9) (d_209 hp hJ18 t0) (fun s5 h21 => ?_)
        have hJ22 := h21
        extract_lets -merge s7 s8
        refine gT_chk (by omega) (by omega) ?_
        refine gT_chk (by omega) (by omega) ?_
        have hJ23 : J p s7 := (J_wmf hJ22 hJ22 t0 (by omega))
        refine gT_chk (by omega) (by omega) ?_
        refine gT_chk (by omega) (by omega) ?_
        have hJ24 : J p s8 := (J_wmf hJ23 hJ23 t0 (by omega))
        refine gT_v1 (A := fun w9 u9 => True ∧ J p u9) (d_160 hp hJ24 t0 (show (0 : Int) ≤ a2 ∧ a2 ≤ 5 by constructor <;> omega) (show (0 : Int) ≤ 1 ∧ 1 ≤ 1 by constructor <;> omega)) (fun v10 s9 h25 => ?_)
        obtain ⟨h25r, hJ26⟩ := h25
        exact gT_ret ⟨rfl, trivial, hJ26⟩
    · refine gT_v1 (A := fun w9 u9 => True ∧ J p u9) (d_160 hp hJ15 t0 (show (0 : Int) ≤ a2 ∧ a2 ≤ 5 by constructor <;> omega) (show (0 : Int) ≤ 1 ∧ 1 ≤ 1 by constructor <;> omega)) (fun v15 s14 h27 => ?_)
      obtain ⟨h27r, hJ28⟩ := h27
      refine gT_v1 (A := fun w9 u9 => (0 ≤ w9 ∧ w9 ≤ 1) ∧ J p u9) (d_153 hp hJ28) (fun v17 s16 h29 => ?_)
      obtain ⟨h29r, hJ30⟩ := h29
      refine gT_ite (fun h31 => ?_) (fun h32 => ?_)
      · refine gT_v1 (A := fun w9 u9 => True ∧ J p u9) (d_160 hp hJ30 t0 (show (0 : Int) ≤ a2 ∧ a2 ≤ 5 by constructor <;> omega) (show (0 : Int) ≤ 0 ∧ 0 ≤ 1 by constructor <;> omega)) (fun v20 s19 h33 => ?_)
        obtain ⟨h33r, hJ34⟩ := h33
        refine gT_ite (fun h35 => ?_) (fun h36 => ?_)
        · unfold fb_216_50
          extract_lets -merge s4
          have hJ37 : J p s4 := (J_wf hJ34 t0 rfl (by decide) (by decide) (fun q hq => by cases hq))
          refine gT_ite (fun h38 => ?_) (fun h39 => ?_)
          · have := rd_same (show s4 = (gw s19 a0 0 2) from rfl)
            exact gT_ret ⟨rfl, trivial, hJ37⟩
          · have := rd_same (show s4 = (gw s19 a0 0 2) from rfl)
            refine gT_v0 (A := fun u9 => J p u9) (d_209 hp hJ37 t0) (fun s5 h40 => ?_)
            have hJ41 := h40
            extract_lets -merge s7 s8
            refine gT_chk (by have := g32_eq (v := (2 * a2)) (by omega) (by omega); have := g32_eq (v := (88 + (g32 (2 * a2)))) (by omega) (by omega); have := g32_eq (v := ((g32 (88 + (g32 (2 * a2)))) + 0)) (by omega) (by omega); omega) (by have := g32_eq (v := (2 * a2)) (by omega) (by omega); have := g32_eq (v := (88 + (g32 (2 * a2)))) (by omega) (by omega); have := g32_eq (v := ((g32 (88 + (g32 (2 * a2)))) + 0)) (by omega) (by omega); omega) ?_
            refine gT_chk (by have := g32_eq (v := (2 * a2)) (by omega) (by omega); have := g32_eq (v := (88 + (g32 (2 * a2)))) (by omega) (by omega); have := g32_eq (v := ((g32 (88 + (g32 (2 * a2)))) + 0)) (by omega) (by omega); omega) (by have := g32_eq (v := (2 * a2)) (by omega) (by omega); have := g32_eq (v := (88 + (g32 (2 * a2)))) (by omega) (by omega); have := g32_eq (v := ((g32 (88 + (g32 (2 * a2)))) + 0)) (by omega) (by omega); omega) ?_
            have hJ42 : J p s7 := (J_wmf hJ41 hJ41 t0 (by have := g32_eq (v := (2 * a2)) (by omega) (by omega); have := g32_eq (v := (88 + (g32 (2 * a2)))) (by omega) (by omega); have := g32_eq (v := ((g32 (88 + (g32 (2 * a2)))) + 0)) (by omega) (by omega); omega))
            refine gT_chk (by have := g32_eq (v := (2 * a2)) (by omega) (by omega); have := g32_eq (v := (88 + (g32 (2 * a2)))) (by omega) (by omega); have := g32_eq (v := ((g32 (88 + (g32 (2 * a2)))) + 1)) (by omega) (by omega); omega) (by have := g32_eq (v := (2 * a2)) (by omega) (by omega); have := g32_eq (v := (88 + (g32 (2 * a2)))) (by omega) (by omega); have := g32_eq (v := ((g32 (88 + (g32 (2 * a2)))) + 1)) (by omega) (by omega); omega) ?_
            refine gT_chk (by have := g32_eq (v := (2 * a2)) (by omega) (by omega); have := g32_eq (v := (88 + (g32 (2 * a2)))) (by omega) (by omega); have := g32_eq (v := ((g32 (88 + (g32 (2 * a2)))) + 1)) (by omega) (by omega); omega) (by have := g32_eq (v := (2 * a2)) (by omega) (by omega); have := g32_eq (v := (88 + (g32 (2 * a2)))) (by omega) (by omega); have := g32_eq (v := ((g32 (88 + (g32 (2 * a2)))) + 1)) (by omega) (by omega); omega) ?_
            have hJ43 : J p s8 := (J_wmf hJ42 hJ42 t0 (by have := g32_eq (v := (2 * a2)) (by omega) (by omega); have := g32_eq (v := (88 + (g32 (2 * a2)))) (by omega) (by omega); have := g32_eq (v := ((g32 (88 + (g32 (2 * a2)))) + 1)) (by omega) (by omega); omega))
            refine gT_v1 (A := fun w9 u9 => True ∧ J p u9) (d_160 hp hJ43 t0 (show (0 : Int) ≤ a2 ∧ a2 ≤ 5 by constructor <;> omega) (show (0 : Int) ≤ 1 ∧ 1 ≤ 1 by constructor <;> omega)) (fun v10 s9 h44 => ?_)
            obtain ⟨h44r, hJ45⟩ := h44
            exact gT_ret ⟨rfl, trivial, hJ45⟩
        · unfold fb_216_50
          extract_lets -merge s4
          have hJ46 : J p s4 := (J_wf hJ34 t0 rfl (by decide) (by decide) (fun q hq => by cases hq))
          refine gT_ite (fun h47 => ?_) (fun h48 => ?_)
          · have := rd_same (show s4 = (gw s19 a0 0 0) from rfl)
            exact gT_ret ⟨rfl, trivial, hJ46⟩
          · have := rd_same (show s4 = (gw s19 a0 0 0) from rfl)
            refine gT_v0 (A := fun u9 => J p u9) (d_209 hp hJ46 t0) (fun s5 h49 => ?_)
            have hJ50 := h49
            extract_lets -merge s7 s8
            refine gT_chk (by have := g32_eq (v := (2 * a2)) (by omega) (by omega); have := g32_eq (v := (88 + (g32 (2 * a2)))) (by omega) (by omega); have := g32_eq (v := ((g32 (88 + (g32 (2 * a2)))) + 0)) (by omega) (by omega); omega) (by have := g32_eq (v := (2 * a2)) (by omega) (by omega); have := g32_eq (v := (88 + (g32 (2 * a2)))) (by omega) (by omega); have := g32_eq (v := ((g32 (88 + (g32 (2 * a2)))) + 0)) (by omega) (by omega); omega) ?_
            refine gT_chk (by have := g32_eq (v := (2 * a2)) (by omega) (by omega); have := g32_eq (v := (88 + (g32 (2 * a2)))) (by omega) (by omega); have := g32_eq (v := ((g32 (88 + (g32 (2 * a2)))) + 0)) (by omega) (by omega); omega) (by have := g32_eq (v := (2 * a2)) (by omega) (by omega); have := g32_eq (v := (88 + (g32 (2 * a2)))) (by omega) (by omega); have := g32_eq (v := ((g32 (88 + (g32 (2 * a2)))) + 0)) (by omega) (by omega); omega) ?_
            have hJ51 : J p s7 := (J_wmf hJ50 hJ50 t0 (by have := g32_eq (v := (2 * a2)) (by omega) (by omega); have := g32_eq (v := (88 + (g32 (2 * a2)))) (by omega) (by omega); have := g32_eq (v := ((g32 (88 + (g32 (2 * a2)))) + 0)) (by omega) (by omega); omega))
            refine gT_chk (by have := g32_eq (v := (2 * a2)) (by omega) (by omega); have := g32_eq (v := (88 + (g32 (2 * a2)))) (by omega) (by omega); have := g32_eq (v := ((g32 (88 + (g32 (2 * a2)))) + 1)) (by omega) (by omega); omega) (by have := g32_eq (v := (2 * a2)) (by omega) (by omega); have := g32_eq (v := (88 + (g32 (2 * a2)))) (by omega) (by omega); have := g32_eq (v := ((g32 (88 + (g32 (2 * a2)))) + 1)) (by omega) (by omega); omega) ?_
            refine gT_chk (by have := g32_eq (v := (2 * a2)) (by omega) (by omega); have := g32_eq (v := (88 + (g32 (2 * a2)))) (by omega) (by omega); have := g32_eq (v := ((g32 (88 + (g32 (2 * a2)))) + 1)) (by omega) (by omega); omega) (by have := g32_eq (v := (2 * a2)) (by omega) (by omega); have := g32_eq (v := (88 + (g32 (2 * a2)))) (by omega) (by omega); have := g32_eq (v := ((g32 (88 + (g32 (2 * a2)))) + 1)) (by omega) (by omega); omega) ?_
            have hJ52 : J p s8 := (J_wmf hJ51 hJ51 t0 (by have := g32_eq (v := (2 * a2)) (by omega) (by omega); have := g32_eq (v := (88 + (g32 (2 * a2)))) (by omega) (by omega); have := g32_eq (v := ((g32 (88 + (g32 (2 * a2)))) + 1)) (by omega) (by omega); omega))
            refine gT_v1 (A := fun w9 u9 => True ∧ J p u9) (d_160 hp hJ52 t0 (show (0 : Int) ≤ a2 ∧ a2 ≤ 5 by constructor <;> omega) (show (0 : Int) ≤ 1 ∧ 1 ≤ 1 by constructor <;> omega)) (fun v10 s9 h53 => ?_)
            obtain ⟨h53r, hJ54⟩ := h53
            exact gT_ret ⟨rfl, trivial, hJ54⟩
      · unfold fb_216_50
        extract_lets -merge s4
        have hJ55 : J p s4 := (J_wf hJ30 t0 rfl (by decide) (by decide) (fun q hq => by cases hq))
        refine gT_ite (fun h56 => ?_) (fun h57 => ?_)
        · have := rd_same (show s4 = (gw s16 a0 0 2) from rfl)
          exact gT_ret ⟨rfl, trivial, hJ55⟩
        · have := rd_same (show s4 = (gw s16 a0 0 2) from rfl)
          refine gT_v0 (A := fun u9 => J p u9) (d_209 hp hJ55 t0) (fun s5 h58 => ?_)
          have hJ59 := h58
          extract_lets -merge s7 s8
          refine gT_chk (by have := g32_eq (v := (2 * a2)) (by omega) (by omega); have := g32_eq (v := (88 + (g32 (2 * a2)))) (by omega) (by omega); have := g32_eq (v := ((g32 (88 + (g32 (2 * a2)))) + 0)) (by omega) (by omega); omega) (by have := g32_eq (v := (2 * a2)) (by omega) (by omega); have := g32_eq (v := (88 + (g32 (2 * a2)))) (by omega) (by omega); have := g32_eq (v := ((g32 (88 + (g32 (2 * a2)))) + 0)) (by omega) (by omega); omega) ?_
          refine gT_chk (by have := g32_eq (v := (2 * a2)) (by omega) (by omega); have := g32_eq (v := (88 + (g32 (2 * a2)))) (by omega) (by omega); have := g32_eq (v := ((g32 (88 + (g32 (2 * a2)))) + 0)) (by omega) (by omega); omega) (by have := g32_eq (v := (2 * a2)) (by omega) (by omega); have := g32_eq (v := (88 + (g32 (2 * a2)))) (by omega) (by omega); have := g32_eq (v := ((g32 (88 + (g32 (2 * a2)))) + 0)) (by omega) (by omega); omega) ?_
          have hJ60 : J p s7 := (J_wmf hJ59 hJ59 t0 (by have := g32_eq (v := (2 * a2)) (by omega) (by omega); have := g32_eq (v := (88 + (g32 (2 * a2)))) (by omega) (by omega); have := g32_eq (v := ((g32 (88 + (g32 (2 * a2)))) + 0)) (by omega) (by omega); omega))
          refine gT_chk (by have := g32_eq (v := (2 * a2)) (by omega) (by omega); have := g32_eq (v := (88 + (g32 (2 * a2)))) (by omega) (by omega); have := g32_eq (v := ((g32 (88 + (g32 (2 * a2)))) + 1)) (by omega) (by omega); omega) (by have := g32_eq (v := (2 * a2)) (by omega) (by omega); have := g32_eq (v := (88 + (g32 (2 * a2)))) (by omega) (by omega); have := g32_eq (v := ((g32 (88 + (g32 (2 * a2)))) + 1)) (by omega) (by omega); omega) ?_
          refine gT_chk (by have := g32_eq (v := (2 * a2)) (by omega) (by omega); have := g32_eq (v := (88 + (g32 (2 * a2)))) (by omega) (by omega); have := g32_eq (v := ((g32 (88 + (g32 (2 * a2)))) + 1)) (by omega) (by omega); omega) (by have := g32_eq (v := (2 * a2)) (by omega) (by omega); have := g32_eq (v := (88 + (g32 (2 * a2)))) (by omega) (by omega); have := g32_eq (v := ((g32 (88 + (g32 (2 * a2)))) + 1)) (by omega) (by omega); omega) ?_
          have hJ61 : J p s8 := (J_wmf hJ60 hJ60 t0 (by have := g32_eq (v := (2 * a2)) (by omega) (by omega); have := g32_eq (v := (88 + (g32 (2 * a2)))) (by omega) (by omega); have := g32_eq (v := ((g32 (88 + (g32 (2 * a2)))) + 1)) (by omega) (by omega); omega))
          refine gT_v1 (A := fun w9 u9 => True ∧ J p u9) (d_160 hp hJ61 t0 (show (0 : Int) ≤ a2 ∧ a2 ≤ 5 by constructor <;> omega) (show (0 : Int) ≤ 1 ∧ 1 ≤ 1 by constructor <;> omega)) (fun v10 s9 h62 => ?_)
          obtain ⟨h62r, hJ63⟩ := h62
          exact gT_ret ⟨rfl, trivial, hJ63⟩
-- X12_pay
theorem d_217 {p : gP} {a0 : Nat} {a1 : Int} {s : gS} (hp : -1 ≤ p.1 ∧ p.1 ≤ 0) (h : J p s) (t0 : T 12 a0) : gT (f_217 a0 a1 s) (fun r => r.1 = 1 ∧ True ∧ J p r.2.2.2) := by
  unfold f_217
  refine gT_v1 (A := fun w9 u9 => (w9 ≤ (gI s (gR s a0 1) 9) ∧ w9 ≤ (gI s (gR s a0 1) 8) ∧ (w9 = (gI s (gR s a0 1) 9) ∨ w9 = (gI s (gR s a0 1) 8))) ∧ True ∧ J p u9) (d_151 hp h) (fun v2 s1 h1 => ?_)
  obtain ⟨h1e, h1r, hJ2⟩ := h1
  refine gT_v1 (A := fun w9 u9 => ((w9 = 1 → 1 ≤ a1 ∧ a1 ≤ v2) ∧ (w9 = 0 → a1 < 1 ∨ v2 < a1)) ∧ (0 ≤ w9 ∧ w9 ≤ 1) ∧ J p u9) (d_150 hp hJ2) (fun v4 s3 h3 => ?_)
  obtain ⟨h3e, h3r, hJ4⟩ := h3
  refine gT_ite (fun h5 => ?_) (fun h6 => ?_)
  · unfold fb_217_31
    extract_lets -merge s6
    have hJ7 : J p s6 := (J_wf hJ4 t0 rfl (by decide) (by decide) (fun q hq => by cases hq))
    refine gT_ite (fun h8 => ?_) (fun h9 => ?_)
    · have := rd_same (show s6 = (gw s3 a0 0 1) from rfl)
      exact gT_ret ⟨rfl, trivial, hJ7⟩
    · have := rd_same (show s6 = (gw s3 a0 0 1) from rfl)
      refine gT_v0 (A := fun u9 => J p u9) (d_209 hp hJ7 t0) (fun s7 h10 => ?_)
      have hJ11 := h10
      extract_lets -merge s9 s10
      have hJ12 : J p s9 := (J_wm hJ11 hJ11 t0 (fun q hq => by cases hq))
      have hJ13 : J p s10 := (J_wm hJ12 hJ12 t0 (fun q hq => by cases hq))
      exact gT_ret ⟨rfl, trivial, hJ13⟩
  · unfold fb_217_31
    extract_lets -merge s6
    have hJ14 : J p s6 := (J_wf hJ4 t0 rfl (by decide) (by decide) (fun q hq => by cases hq))
    refine gT_ite (fun h15 => ?_) (fun h16 => ?_)
    · have := rd_same (show s6 = (gw s3 a0 0 0) from rfl)
      exact gT_ret ⟨rfl, trivial, hJ14⟩
    · have := rd_same (show s6 = (gw s3 a0 0 0) from rfl)
      refine gT_v0 (A := fun u9 => J p u9) (d_209 hp hJ14 t0) (fun s7 h17 => ?_)
      have hJ18 := h17
      extract_lets -merge s9 s10
      have hJ19 : J p s9 := (J_wm hJ18 hJ18 t0 (fun q hq => by cases hq))
      have hJ20 : J p s10 := (J_wm hJ19 hJ19 t0 (fun q hq => by cases hq))
      exact gT_ret ⟨rfl, trivial, hJ20⟩
-- X12_days
theorem d_218 {p : gP} {a0 : Nat} {a1 : Int} {s : gS} (hp : -1 ≤ p.1 ∧ p.1 ≤ 0) (h : J p s) (t0 : T 12 a0) : gT (f_218 a0 a1 s) (fun r => r.1 = 1 ∧ True ∧ J p r.2.2.2) := by
  unfold f_218
  refine gT_v1 (A := fun w9 u9 => ((w9 = 1 → 1 ≤ a1 ∧ a1 ≤ 200) ∧ (w9 = 0 → a1 < 1 ∨ 200 < a1)) ∧ (0 ≤ w9 ∧ w9 ≤ 1) ∧ J p u9) (d_150 hp h) (fun v2 s1 h1 => ?_)
  obtain ⟨h1e, h1r, hJ2⟩ := h1
  refine gT_ite (fun h3 => ?_) (fun h4 => ?_)
  · unfold fb_218_17
    extract_lets -merge s4
    have hJ5 : J p s4 := (J_wf hJ2 t0 rfl (by decide) (by decide) (fun q hq => by cases hq))
    refine gT_ite (fun h6 => ?_) (fun h7 => ?_)
    · have := rd_same (show s4 = (gw s1 a0 0 1) from rfl)
      exact gT_ret ⟨rfl, trivial, hJ5⟩
    · have := rd_same (show s4 = (gw s1 a0 0 1) from rfl)
      refine gT_v0 (A := fun u9 => J p u9) (d_209 hp hJ5 t0) (fun s5 h8 => ?_)
      have hJ9 := h8
      refine gT_v1 (A := fun w9 u9 => True ∧ J p u9) (d_202 hp hJ9 t0 (show (0 : Int) ≤ a1 ∧ a1 ≤ 200 by constructor <;> omega) (show (0 : Int) ≤ 1 ∧ 1 ≤ 1 by constructor <;> omega)) (fun v8 s7 h10 => ?_)
      obtain ⟨h10r, hJ11⟩ := h10
      exact gT_ret ⟨rfl, trivial, hJ11⟩
  · unfold fb_218_17
    extract_lets -merge s4
    have hJ12 : J p s4 := (J_wf hJ2 t0 rfl (by decide) (by decide) (fun q hq => by cases hq))
    refine gT_ite (fun h13 => ?_) (fun h14 => ?_)
    · have := rd_same (show s4 = (gw s1 a0 0 0) from rfl)
      exact gT_ret ⟨rfl, trivial, hJ12⟩
    · have := rd_same (show s4 = (gw s1 a0 0 0) from rfl)
      refine gT_v0 (A := fun u9 => J p u9) (d_209 hp hJ12 t0) (fun s5 h15 => ?_)
      have hJ16 := h15
      refine gT_v1 (A := fun w9 u9 => True ∧ J p u9) (d_202 hp hJ16 t0 (show (0 : Int) ≤ a1 ∧ a1 ≤ 200 by constructor <;> omega) (show (0 : Int) ≤ 1 ∧ 1 ≤ 1 by constructor <;> omega)) (fun v8 s7 h17 => ?_)
      obtain ⟨h17r, hJ18⟩ := h17
      exact gT_ret ⟨rfl, trivial, hJ18⟩
-- X12_ahead
theorem d_219 {p : gP} {a0 : Nat} {a1 : Int} {a2 : Int} {a3 : Int} {s : gS} (hp : -1 ≤ p.1 ∧ p.1 ≤ 0) (h : J p s) (t0 : T 12 a0) : gT (f_219 a0 a1 a2 a3 s) (fun r => r.1 = 1 ∧ True ∧ J p r.2.2.2) := by
  unfold f_219
  refine gT_v1 (A := fun w9 u9 => (w9 = 1 → 0 ≤ a1 ∧ a1 ≤ 5) ∧ (0 ≤ w9 ∧ w9 ≤ 1) ∧ J p u9) (d_162 hp h t0) (fun v2 s1 h1 => ?_)
  obtain ⟨h1e, h1r, hJ2⟩ := h1
  refine gT_ite (fun h3 => ?_) (fun h4 => ?_)
  · unfold fb_219_42
    extract_lets -merge s4
    have hJ5 : J p s4 := (J_wf hJ2 t0 rfl (by decide) (by decide) (fun q hq => by cases hq))
    refine gT_ite (fun h6 => ?_) (fun h7 => ?_)
    · have := rd_same (show s4 = (gw s1 a0 0 1) from rfl)
      exact gT_ret ⟨rfl, trivial, hJ5⟩
    · have := rd_same (show s4 = (gw s1 a0 0 1) from rfl)
      refine gT_v0 (A := fun u9 => J p u9) (d_185 hp hJ5 t0) (fun s5 h8 => ?_)
      have hJ9 := h8
      refine gT_v1 (A := fun w9 u9 => True ∧ J p u9) (d_202 hp hJ9 t0 (show (0 : Int) ≤ a2 ∧ a2 ≤ 200 by constructor <;> omega) (show (0 : Int) ≤ 0 ∧ 0 ≤ 1 by constructor <;> omega)) (fun v8 s7 h10 => ?_)
      obtain ⟨h10r, hJ11⟩ := h10
      refine gT_ite (fun h12 => ?_) (fun h13 => ?_)
      · refine gT_v1 (A := fun w9 u9 => (0 ≤ w9 ∧ w9 ≤ 99) ∧ J p u9) (d_156_0 hp hJ11 t0 (show (0 : Int) ≤ a1 ∧ a1 ≤ 5 by constructor <;> omega)) (fun v10 s9 h14 => ?_)
        obtain ⟨h14r, hJ15⟩ := h14
        unfold fb_219_113
        refine gT_v0 (A := fun u9 => J p u9) (d_186 hp hJ15 t0) (fun s11 h16 => ?_)
        have hJ17 := h16
        exact gT_ret ⟨rfl, trivial, hJ17⟩
      · refine gT_ite (fun h18 => ?_) (fun h19 => ?_)
        · refine gT_v1 (A := fun w9 u9 => (0 ≤ w9 ∧ w9 ≤ 8) ∧ J p u9) (d_156_3 hp hJ11 t0 (show (0 : Int) ≤ a1 ∧ a1 ≤ 5 by constructor <;> omega)) (fun v14 s13 h20 => ?_)
          obtain ⟨h20r, hJ21⟩ := h20
          unfold fb_219_113
          refine gT_v0 (A := fun u9 => J p u9) (d_186 hp hJ21 t0) (fun s11 h22 => ?_)
          have hJ23 := h22
          exact gT_ret ⟨rfl, trivial, hJ23⟩
        · refine gT_ite (fun h24 => ?_) (fun h25 => ?_)
          · refine gT_v1 (A := fun w9 u9 => True ∧ J p u9) (d_156_4 hp hJ11 t0 (show (0 : Int) ≤ a1 ∧ a1 ≤ 5 by constructor <;> omega)) (fun v16 s15 h26 => ?_)
            obtain ⟨h26r, hJ27⟩ := h26
            unfold fb_219_113
            refine gT_v0 (A := fun u9 => J p u9) (d_186 hp hJ27 t0) (fun s11 h28 => ?_)
            have hJ29 := h28
            exact gT_ret ⟨rfl, trivial, hJ29⟩
          · refine gT_v1 (A := fun w9 u9 => True ∧ J p u9) (d_156_5 hp hJ11 t0 (show (0 : Int) ≤ a1 ∧ a1 ≤ 5 by constructor <;> omega)) (fun v18 s17 h30 => ?_)
            obtain ⟨h30r, hJ31⟩ := h30
            unfold fb_219_113
            refine gT_v0 (A := fun u9 => J p u9) (d_186 hp hJ31 t0) (fun s11 h32 => ?_)
            have hJ33 := h32
            exact gT_ret ⟨rfl, trivial, hJ33⟩
  · refine gT_v1 (A := fun w9 u9 => ((w9 = 1 → 0 ≤ a2 ∧ a2 ≤ 200) ∧ (w9 = 0 → a2 < 0 ∨ 200 < a2)) ∧ (0 ≤ w9 ∧ w9 ≤ 1) ∧ J p u9) (d_150 hp hJ2) (fun v20 s19 h34 => ?_)
    obtain ⟨h34e, h34r, hJ35⟩ := h34
    refine gT_ite (fun h36 => ?_) (fun h37 => ?_)
    · unfold fb_219_42
      extract_lets -merge s4
      have hJ38 : J p s4 := (J_wf hJ35 t0 rfl (by decide) (by decide) (fun q hq => by cases hq))
      refine gT_ite (fun h39 => ?_) (fun h40 => ?_)
      · have := rd_same (show s4 = (gw s19 a0 0 2) from rfl)
        exact gT_ret ⟨rfl, trivial, hJ38⟩
      · have := rd_same (show s4 = (gw s19 a0 0 2) from rfl)
        refine gT_v0 (A := fun u9 => J p u9) (d_185 hp hJ38 t0) (fun s5 h41 => ?_)
        have hJ42 := h41
        refine gT_v1 (A := fun w9 u9 => True ∧ J p u9) (d_202 hp hJ42 t0 (show (0 : Int) ≤ a2 ∧ a2 ≤ 200 by constructor <;> omega) (show (0 : Int) ≤ 0 ∧ 0 ≤ 1 by constructor <;> omega)) (fun v8 s7 h43 => ?_)
        obtain ⟨h43r, hJ44⟩ := h43
        refine gT_ite (fun h45 => ?_) (fun h46 => ?_)
        · refine gT_v1 (A := fun w9 u9 => (0 ≤ w9 ∧ w9 ≤ 99) ∧ J p u9) (d_156_0 hp hJ44 t0 (show (0 : Int) ≤ a1 ∧ a1 ≤ 5 by constructor <;> omega)) (fun v10 s9 h47 => ?_)
          obtain ⟨h47r, hJ48⟩ := h47
          unfold fb_219_113
          refine gT_v0 (A := fun u9 => J p u9) (d_186 hp hJ48 t0) (fun s11 h49 => ?_)
          have hJ50 := h49
          exact gT_ret ⟨rfl, trivial, hJ50⟩
        · refine gT_ite (fun h51 => ?_) (fun h52 => ?_)
          · refine gT_v1 (A := fun w9 u9 => (0 ≤ w9 ∧ w9 ≤ 8) ∧ J p u9) (d_156_3 hp hJ44 t0 (show (0 : Int) ≤ a1 ∧ a1 ≤ 5 by constructor <;> omega)) (fun v14 s13 h53 => ?_)
            obtain ⟨h53r, hJ54⟩ := h53
            unfold fb_219_113
            refine gT_v0 (A := fun u9 => J p u9) (d_186 hp hJ54 t0) (fun s11 h55 => ?_)
            have hJ56 := h55
            exact gT_ret ⟨rfl, trivial, hJ56⟩
          · refine gT_ite (fun h57 => ?_) (fun h58 => ?_)
            · refine gT_v1 (A := fun w9 u9 => True ∧ J p u9) (d_156_4 hp hJ44 t0 (show (0 : Int) ≤ a1 ∧ a1 ≤ 5 by constructor <;> omega)) (fun v16 s15 h59 => ?_)
              obtain ⟨h59r, hJ60⟩ := h59
              unfold fb_219_113
              refine gT_v0 (A := fun u9 => J p u9) (d_186 hp hJ60 t0) (fun s11 h61 => ?_)
              have hJ62 := h61
              exact gT_ret ⟨rfl, trivial, hJ62⟩
            · refine gT_v1 (A := fun w9 u9 => True ∧ J p u9) (d_156_5 hp hJ44 t0 (show (0 : Int) ≤ a1 ∧ a1 ≤ 5 by constructor <;> omega)) (fun v18 s17 h63 => ?_)
              obtain ⟨h63r, hJ64⟩ := h63
              unfold fb_219_113
              refine gT_v0 (A := fun u9 => J p u9) (d_186 hp hJ64 t0) (fun s11 h65 => ?_)
              have hJ66 := h65
              exact gT_ret ⟨rfl, trivial, hJ66⟩
    · refine gT_v1 (A := fun w9 u9 => ((w9 = 1 → 0 ≤ a3 ∧ a3 ≤ 3) ∧ (w9 = 0 → a3 < 0 ∨ 3 < a3)) ∧ (0 ≤ w9 ∧ w9 ≤ 1) ∧ J p u9) (d_150 hp hJ35) (fun v23 s22 h67 => ?_)
      obtain ⟨h67e, h67r, hJ68⟩ := h67
      refine gT_ite (fun h69 => ?_) (fun h70 => ?_)
      · unfold fb_219_42
        extract_lets -merge s4
        have hJ71 : J p s4 := (J_wf hJ68 t0 rfl (by decide) (by decide) (fun q hq => by cases hq))
        refine gT_ite (fun h72 => ?_) (fun h73 => ?_)
        · have := rd_same (show s4 = (gw s22 a0 0 3) from rfl)
          exact gT_ret ⟨rfl, trivial, hJ71⟩
        · have := rd_same (show s4 = (gw s22 a0 0 3) from rfl)
          refine gT_v0 (A := fun u9 => J p u9) (d_185 hp hJ71 t0) (fun s5 h74 => ?_)
          have hJ75 := h74
          refine gT_v1 (A := fun w9 u9 => True ∧ J p u9) (d_202 hp hJ75 t0 (show (0 : Int) ≤ a2 ∧ a2 ≤ 200 by constructor <;> omega) (show (0 : Int) ≤ 0 ∧ 0 ≤ 1 by constructor <;> omega)) (fun v8 s7 h76 => ?_)
          obtain ⟨h76r, hJ77⟩ := h76
          refine gT_ite (fun h78 => ?_) (fun h79 => ?_)
          · refine gT_v1 (A := fun w9 u9 => (0 ≤ w9 ∧ w9 ≤ 99) ∧ J p u9) (d_156_0 hp hJ77 t0 (show (0 : Int) ≤ a1 ∧ a1 ≤ 5 by constructor <;> omega)) (fun v10 s9 h80 => ?_)
            obtain ⟨h80r, hJ81⟩ := h80
            unfold fb_219_113
            refine gT_v0 (A := fun u9 => J p u9) (d_186 hp hJ81 t0) (fun s11 h82 => ?_)
            have hJ83 := h82
            exact gT_ret ⟨rfl, trivial, hJ83⟩
          · refine gT_ite (fun h84 => ?_) (fun h85 => ?_)
            · refine gT_v1 (A := fun w9 u9 => (0 ≤ w9 ∧ w9 ≤ 8) ∧ J p u9) (d_156_3 hp hJ77 t0 (show (0 : Int) ≤ a1 ∧ a1 ≤ 5 by constructor <;> omega)) (fun v14 s13 h86 => ?_)
              obtain ⟨h86r, hJ87⟩ := h86
              unfold fb_219_113
              refine gT_v0 (A := fun u9 => J p u9) (d_186 hp hJ87 t0) (fun s11 h88 => ?_)
              have hJ89 := h88
              exact gT_ret ⟨rfl, trivial, hJ89⟩
            · refine gT_ite (fun h90 => ?_) (fun h91 => ?_)
              · refine gT_v1 (A := fun w9 u9 => True ∧ J p u9) (d_156_4 hp hJ77 t0 (show (0 : Int) ≤ a1 ∧ a1 ≤ 5 by constructor <;> omega)) (fun v16 s15 h92 => ?_)
                obtain ⟨h92r, hJ93⟩ := h92
                unfold fb_219_113
                refine gT_v0 (A := fun u9 => J p u9) (d_186 hp hJ93 t0) (fun s11 h94 => ?_)
                have hJ95 := h94
                exact gT_ret ⟨rfl, trivial, hJ95⟩
              · refine gT_v1 (A := fun w9 u9 => True ∧ J p u9) (d_156_5 hp hJ77 t0 (show (0 : Int) ≤ a1 ∧ a1 ≤ 5 by constructor <;> omega)) (fun v18 s17 h96 => ?_)
                obtain ⟨h96r, hJ97⟩ := h96
                unfold fb_219_113
                refine gT_v0 (A := fun u9 => J p u9) (d_186 hp hJ97 t0) (fun s11 h98 => ?_)
                have hJ99 := h98
                exact gT_ret ⟨rfl, trivial, hJ99⟩
      · unfold fb_219_42
        extract_lets -merge s4
        have hJ100 : J p s4 := (J_wf hJ68 t0 rfl (by decide) (by decide) (fun q hq => by cases hq))
        refine gT_ite (fun h101 => ?_) (fun h102 => ?_)
        · have := rd_same (show s4 = (gw s22 a0 0 0) from rfl)
          exact gT_ret ⟨rfl, trivial, hJ100⟩
        · have := rd_same (show s4 = (gw s22 a0 0 0) from rfl)
          refine gT_v0 (A := fun u9 => J p u9) (d_185 hp hJ100 t0) (fun s5 h103 => ?_)
          have hJ104 := h103
          refine gT_v1 (A := fun w9 u9 => True ∧ J p u9) (d_202 hp hJ104 t0 (show (0 : Int) ≤ a2 ∧ a2 ≤ 200 by constructor <;> omega) (show (0 : Int) ≤ 0 ∧ 0 ≤ 1 by constructor <;> omega)) (fun v8 s7 h105 => ?_)
          obtain ⟨h105r, hJ106⟩ := h105
          refine gT_ite (fun h107 => ?_) (fun h108 => ?_)
          · refine gT_v1 (A := fun w9 u9 => (0 ≤ w9 ∧ w9 ≤ 99) ∧ J p u9) (d_156_0 hp hJ106 t0 (show (0 : Int) ≤ a1 ∧ a1 ≤ 5 by constructor <;> omega)) (fun v10 s9 h109 => ?_)
            obtain ⟨h109r, hJ110⟩ := h109
            unfold fb_219_113
            refine gT_v0 (A := fun u9 => J p u9) (d_186 hp hJ110 t0) (fun s11 h111 => ?_)
            have hJ112 := h111
            exact gT_ret ⟨rfl, trivial, hJ112⟩
          · refine gT_ite (fun h113 => ?_) (fun h114 => ?_)
            · refine gT_v1 (A := fun w9 u9 => (0 ≤ w9 ∧ w9 ≤ 8) ∧ J p u9) (d_156_3 hp hJ106 t0 (show (0 : Int) ≤ a1 ∧ a1 ≤ 5 by constructor <;> omega)) (fun v14 s13 h115 => ?_)
              obtain ⟨h115r, hJ116⟩ := h115
              unfold fb_219_113
              refine gT_v0 (A := fun u9 => J p u9) (d_186 hp hJ116 t0) (fun s11 h117 => ?_)
              have hJ118 := h117
              exact gT_ret ⟨rfl, trivial, hJ118⟩
            · refine gT_ite (fun h119 => ?_) (fun h120 => ?_)
              · refine gT_v1 (A := fun w9 u9 => True ∧ J p u9) (d_156_4 hp hJ106 t0 (show (0 : Int) ≤ a1 ∧ a1 ≤ 5 by constructor <;> omega)) (fun v16 s15 h121 => ?_)
                obtain ⟨h121r, hJ122⟩ := h121
                unfold fb_219_113
                refine gT_v0 (A := fun u9 => J p u9) (d_186 hp hJ122 t0) (fun s11 h123 => ?_)
                have hJ124 := h123
                exact gT_ret ⟨rfl, trivial, hJ124⟩
              · refine gT_v1 (A := fun w9 u9 => True ∧ J p u9) (d_156_5 hp hJ106 t0 (show (0 : Int) ≤ a1 ∧ a1 ≤ 5 by constructor <;> omega)) (fun v18 s17 h125 => ?_)
                obtain ⟨h125r, hJ126⟩ := h125
                unfold fb_219_113
                refine gT_v0 (A := fun u9 => J p u9) (d_186 hp hJ126 t0) (fun s11 h127 => ?_)
                have hJ128 := h127
                exact gT_ret ⟨rfl, trivial, hJ128⟩
-- X12_owes
theorem d_220 {p : gP} {a0 : Nat} {a1 : Int} {s : gS} (hp : -1 ≤ p.1 ∧ p.1 ≤ 0) (h : J p s) (t0 : T 12 a0) : gT (f_220 a0 a1 s) (fun r => r.1 = 1 ∧ True ∧ J p r.2.2.2) := by
  unfold f_220
  refine gT_v1 (A := fun w9 u9 => ((w9 = 1 → 0 ≤ a1 ∧ a1 ≤ 200) ∧ (w9 = 0 → a1 < 0 ∨ 200 < a1)) ∧ (0 ≤ w9 ∧ w9 ≤ 1) ∧ J p u9) (d_150 hp h) (fun v2 s1 h1 => ?_)
  obtain ⟨h1e, h1r, hJ2⟩ := h1
  refine gT_ite (fun h3 => ?_) (fun h4 => ?_)
  · unfold fb_220_17
    extract_lets -merge s4
    have hJ5 : J p s4 := (J_wf hJ2 t0 rfl (by decide) (by decide) (fun q hq => by cases hq))
    refine gT_ite (fun h6 => ?_) (fun h7 => ?_)
    · have := rd_same (show s4 = (gw s1 a0 0 1) from rfl)
      exact gT_ret ⟨rfl, trivial, hJ5⟩
    · have := rd_same (show s4 = (gw s1 a0 0 1) from rfl)
      refine gT_v0 (A := fun u9 => J p u9) (d_185 hp hJ5 t0) (fun s5 h8 => ?_)
      have hJ9 := h8
      refine gT_v1 (A := fun w9 u9 => True ∧ J p u9) (d_202 hp hJ9 t0 (show (0 : Int) ≤ a1 ∧ a1 ≤ 200 by constructor <;> omega) (show (0 : Int) ≤ 0 ∧ 0 ≤ 1 by constructor <;> omega)) (fun v8 s7 h10 => ?_)
      obtain ⟨h10r, hJ11⟩ := h10
      extract_lets -merge v9
      have hv12 : v9 = (gI s7 (gR s7 a0 1) 9) := rfl
      refine gT_v0 (A := fun u9 => J p u9) (d_186 hp hJ11 t0) (fun s10 h13 => ?_)
      have hJ14 := h13
      exact gT_ret ⟨rfl, trivial, hJ14⟩
  · unfold fb_220_17
    extract_lets -merge s4
    have hJ15 : J p s4 := (J_wf hJ2 t0 rfl (by decide) (by decide) (fun q hq => by cases hq))
    refine gT_ite (fun h16 => ?_) (fun h17 => ?_)
    · have := rd_same (show s4 = (gw s1 a0 0 0) from rfl)
      exact gT_ret ⟨rfl, trivial, hJ15⟩
    · have := rd_same (show s4 = (gw s1 a0 0 0) from rfl)
      refine gT_v0 (A := fun u9 => J p u9) (d_185 hp hJ15 t0) (fun s5 h18 => ?_)
      have hJ19 := h18
      refine gT_v1 (A := fun w9 u9 => True ∧ J p u9) (d_202 hp hJ19 t0 (show (0 : Int) ≤ a1 ∧ a1 ≤ 200 by constructor <;> omega) (show (0 : Int) ≤ 0 ∧ 0 ≤ 1 by constructor <;> omega)) (fun v8 s7 h20 => ?_)
      obtain ⟨h20r, hJ21⟩ := h20
      extract_lets -merge v9
      have hv22 : v9 = (gI s7 (gR s7 a0 1) 9) := rfl
      refine gT_v0 (A := fun u9 => J p u9) (d_186 hp hJ21 t0) (fun s10 h23 => ?_)
      have hJ24 := h23
      exact gT_ret ⟨rfl, trivial, hJ24⟩
-- X12_chest
theorem d_221 {p : gP} {a0 : Nat} {a1 : Int} {s : gS} (hp : -1 ≤ p.1 ∧ p.1 ≤ 0) (h : J p s) (t0 : T 12 a0) : gT (f_221 a0 a1 s) (fun r => r.1 = 1 ∧ True ∧ J p r.2.2.2) := by
  unfold f_221
  refine gT_v1 (A := fun w9 u9 => ((w9 = 1 → 0 ≤ a1 ∧ a1 ≤ 200) ∧ (w9 = 0 → a1 < 0 ∨ 200 < a1)) ∧ (0 ≤ w9 ∧ w9 ≤ 1) ∧ J p u9) (d_150 hp h) (fun v2 s1 h1 => ?_)
  obtain ⟨h1e, h1r, hJ2⟩ := h1
  refine gT_ite (fun h3 => ?_) (fun h4 => ?_)
  · unfold fb_221_17
    extract_lets -merge s4
    have hJ5 : J p s4 := (J_wf hJ2 t0 rfl (by decide) (by decide) (fun q hq => by cases hq))
    refine gT_ite (fun h6 => ?_) (fun h7 => ?_)
    · have := rd_same (show s4 = (gw s1 a0 0 1) from rfl)
      exact gT_ret ⟨rfl, trivial, hJ5⟩
    · have := rd_same (show s4 = (gw s1 a0 0 1) from rfl)
      refine gT_v0 (A := fun u9 => J p u9) (d_185 hp hJ5 t0) (fun s5 h8 => ?_)
      have hJ9 := h8
      refine gT_v1 (A := fun w9 u9 => True ∧ J p u9) (d_202 hp hJ9 t0 (show (0 : Int) ≤ a1 ∧ a1 ≤ 200 by constructor <;> omega) (show (0 : Int) ≤ 0 ∧ 0 ≤ 1 by constructor <;> omega)) (fun v8 s7 h10 => ?_)
      obtain ⟨h10r, hJ11⟩ := h10
      extract_lets -merge v9
      have hv12 : v9 = (gI s7 (gR s7 a0 1) 8) := rfl
      refine gT_v0 (A := fun u9 => J p u9) (d_186 hp hJ11 t0) (fun s10 h13 => ?_)
      have hJ14 := h13
      exact gT_ret ⟨rfl, trivial, hJ14⟩
  · unfold fb_221_17
    extract_lets -merge s4
    have hJ15 : J p s4 := (J_wf hJ2 t0 rfl (by decide) (by decide) (fun q hq => by cases hq))
    refine gT_ite (fun h16 => ?_) (fun h17 => ?_)
    · have := rd_same (show s4 = (gw s1 a0 0 0) from rfl)
      exact gT_ret ⟨rfl, trivial, hJ15⟩
    · have := rd_same (show s4 = (gw s1 a0 0 0) from rfl)
      refine gT_v0 (A := fun u9 => J p u9) (d_185 hp hJ15 t0) (fun s5 h18 => ?_)
      have hJ19 := h18
      refine gT_v1 (A := fun w9 u9 => True ∧ J p u9) (d_202 hp hJ19 t0 (show (0 : Int) ≤ a1 ∧ a1 ≤ 200 by constructor <;> omega) (show (0 : Int) ≤ 0 ∧ 0 ≤ 1 by constructor <;> omega)) (fun v8 s7 h20 => ?_)
      obtain ⟨h20r, hJ21⟩ := h20
      extract_lets -merge v9
      have hv22 : v9 = (gI s7 (gR s7 a0 1) 8) := rfl
      refine gT_v0 (A := fun u9 => J p u9) (d_186 hp hJ21 t0) (fun s10 h23 => ?_)
      have hJ24 := h23
      exact gT_ret ⟨rfl, trivial, hJ24⟩
-- X12_by
theorem d_222 {p : gP} {a0 : Nat} {a1 : Int} {a2 : Int} {s : gS} (hp : -1 ≤ p.1 ∧ p.1 ≤ 0) (h : J p s) (t0 : T 12 a0) (r1 : 0 ≤ a1 ∧ a1 ≤ 5) (r2 : 0 ≤ a2 ∧ a2 ≤ 1) : gT (f_222 a0 a1 a2 s) (fun r => r.1 = 1 ∧ True ∧ J p r.2.2.2) := by
  unfold f_222
  refine gT_v1 (A := fun w9 u9 => (0 ≤ w9 ∧ w9 ≤ 1) ∧ J p u9) (d_165 hp h t0 (show (0 : Int) ≤ a1 ∧ a1 ≤ 5 by constructor <;> omega)) (fun v2 s1 h1 => ?_)
  obtain ⟨h1r, hJ2⟩ := h1
  refine gT_ite (fun h3 => ?_) (fun h4 => ?_)
  · exact gT_ret ⟨rfl, trivial, hJ2⟩
  · refine gT_v0 (A := fun u9 => J p u9) (d_185 hp hJ2 t0) (fun s4 h5 => ?_)
    have hJ6 := h5
    refine gT_loop (fun y => T 12 y.1 ∧ (0 ≤ y.2.1 ∧ y.2.1 ≤ 5) ∧ (0 ≤ y.2.2.1 ∧ y.2.2.1 ≤ 1) ∧ (0 ≤ y.2.2.2.2.1 ∧ y.2.2.2.2.1 ≤ 201) ∧ y.2.1 = a1 ∧ y.2.2.1 = a2 ∧ J p y.2.2.2.2.2) (fun y => (201 - y.2.2.2.2.1).toNat) (fun y hy => ?_) ?_
    · obtain ⟨x0, x1, x2, x3, x4, s⟩ := y
      obtain ⟨t7, r8, r9, r10, e11, e12, hJ13⟩ := hy
      dsimp only at t7 r8 r9 r10 e11 e12 hJ13
      show gT (sb_222_19 x0 x1 x2 x3 x4 s) _
      unfold sb_222_19
      refine gT_ite (fun h14 => ?_) (fun h15 => ?_)
      · refine gT_map ?_
        unfold fb_222_89
        refine gT_v0 (A := fun u9 => J p u9) (d_186 hp hJ13 t7) (fun s6 h16 => ?_)
        have hJ17 := h16
        exact gT_ret ⟨rfl, trivial, hJ17⟩
      · refine gT_ite (fun h18 => ?_) (fun h19 => ?_)
        · refine gT_ite (fun h20 => ?_) (fun h21 => ?_)
          · refine gT_v1 (A := fun w9 u9 => True ∧ J p u9) (d_156_5 hp hJ13 t7 (show (0 : Int) ≤ x1 ∧ x1 ≤ 5 by constructor <;> omega)) (fun v9 s8 h22 => ?_)
            obtain ⟨h22r, hJ23⟩ := h22
            refine gT_ite (fun h24 => ?_) (fun h25 => ?_)
            · unfold fb_222_72
              unfold fb_222_75
              refine gT_v1 (A := fun w9 u9 => True ∧ J p u9) (d_202 hp hJ23 t7 (show (0 : Int) ≤ 1 ∧ 1 ≤ 200 by constructor <;> omega) (show (0 : Int) ≤ 0 ∧ 0 ≤ 1 by constructor <;> omega)) (fun v11 s10 h26 => ?_)
              obtain ⟨h26r, hJ27⟩ := h26
              exact gT_ret ⟨⟨t7, (show (0 : Int) ≤ x1 ∧ x1 ≤ 5 by constructor <;> omega), (show (0 : Int) ≤ x2 ∧ x2 ≤ 1 by constructor <;> omega), (show (0 : Int) ≤ (g32 (x4 + 1)) ∧ (g32 (x4 + 1)) ≤ 201 by have := g32_eq (v := (x4 + 1)) (by omega) (by omega); constructor <;> omega), (by first | assumption | omega | (dsimp only; omega)), (by first | assumption | omega | (dsimp only; omega)), hJ27⟩, by dsimp only; have := g32_eq (v := (x4 + 1)) (by omega) (by omega); omega⟩
            · unfold fb_222_75
              refine gT_v1 (A := fun w9 u9 => True ∧ J p u9) (d_202 hp hJ23 t7 (show (0 : Int) ≤ 1 ∧ 1 ≤ 200 by constructor <;> omega) (show (0 : Int) ≤ 0 ∧ 0 ≤ 1 by constructor <;> omega)) (fun v11 s10 h28 => ?_)
              obtain ⟨h28r, hJ29⟩ := h28
              exact gT_ret ⟨⟨t7, (show (0 : Int) ≤ x1 ∧ x1 ≤ 5 by constructor <;> omega), (show (0 : Int) ≤ x2 ∧ x2 ≤ 1 by constructor <;> omega), (show (0 : Int) ≤ (g32 (x4 + 1)) ∧ (g32 (x4 + 1)) ≤ 201 by have := g32_eq (v := (x4 + 1)) (by omega) (by omega); constructor <;> omega), (by first | assumption | omega | (dsimp only; omega)), (by first | assumption | omega | (dsimp only; omega)), hJ29⟩, by dsimp only; have := g32_eq (v := (x4 + 1)) (by omega) (by omega); omega⟩
          · refine gT_v1 (A := fun w9 u9 => (0 ≤ w9 ∧ w9 ≤ 1) ∧ J p u9) (d_165 hp hJ13 t7 (show (0 : Int) ≤ x1 ∧ x1 ≤ 5 by constructor <;> omega)) (fun v13 s12 h30 => ?_)
            obtain ⟨h30r, hJ31⟩ := h30
            refine gT_ite (fun h32 => ?_) (fun h33 => ?_)
            · unfold fb_222_75
              refine gT_v1 (A := fun w9 u9 => True ∧ J p u9) (d_202 hp hJ31 t7 (show (0 : Int) ≤ 1 ∧ 1 ≤ 200 by constructor <;> omega) (show (0 : Int) ≤ 0 ∧ 0 ≤ 1 by constructor <;> omega)) (fun v11 s10 h34 => ?_)
              obtain ⟨h34r, hJ35⟩ := h34
              exact gT_ret ⟨⟨t7, (show (0 : Int) ≤ x1 ∧ x1 ≤ 5 by constructor <;> omega), (show (0 : Int) ≤ x2 ∧ x2 ≤ 1 by constructor <;> omega), (show (0 : Int) ≤ (g32 (x4 + 1)) ∧ (g32 (x4 + 1)) ≤ 201 by have := g32_eq (v := (x4 + 1)) (by omega) (by omega); constructor <;> omega), (by first | assumption | omega | (dsimp only; omega)), (by first | assumption | omega | (dsimp only; omega)), hJ35⟩, by dsimp only; have := g32_eq (v := (x4 + 1)) (by omega) (by omega); omega⟩
            · refine gT_v1 (A := fun w9 u9 => (0 ≤ w9 ∧ w9 ≤ 8) ∧ J p u9) (d_156_3 hp hJ31 t7 (show (0 : Int) ≤ x1 ∧ x1 ≤ 5 by constructor <;> omega)) (fun v16 s15 h36 => ?_)
              obtain ⟨h36r, hJ37⟩ := h36
              refine gT_ite (fun h38 => ?_) (fun h39 => ?_)
              · have := J_m (k := 3) hJ37 hJ37 t7 rfl
                unfold fb_222_75
                refine gT_v1 (A := fun w9 u9 => True ∧ J p u9) (d_202 hp hJ37 t7 (show (0 : Int) ≤ 1 ∧ 1 ≤ 200 by constructor <;> omega) (show (0 : Int) ≤ 0 ∧ 0 ≤ 1 by constructor <;> omega)) (fun v11 s10 h40 => ?_)
                obtain ⟨h40r, hJ41⟩ := h40
                exact gT_ret ⟨⟨t7, (show (0 : Int) ≤ x1 ∧ x1 ≤ 5 by constructor <;> omega), (show (0 : Int) ≤ x2 ∧ x2 ≤ 1 by constructor <;> omega), (show (0 : Int) ≤ (g32 (x4 + 1)) ∧ (g32 (x4 + 1)) ≤ 201 by have := g32_eq (v := (x4 + 1)) (by omega) (by omega); constructor <;> omega), (by first | assumption | omega | (dsimp only; omega)), (by first | assumption | omega | (dsimp only; omega)), hJ41⟩, by dsimp only; have := g32_eq (v := (x4 + 1)) (by omega) (by omega); omega⟩
              · have := J_m (k := 3) hJ37 hJ37 t7 rfl
                unfold fb_222_72
                unfold fb_222_75
                refine gT_v1 (A := fun w9 u9 => True ∧ J p u9) (d_202 hp hJ37 t7 (show (0 : Int) ≤ 1 ∧ 1 ≤ 200 by constructor <;> omega) (show (0 : Int) ≤ 0 ∧ 0 ≤ 1 by constructor <;> omega)) (fun v11 s10 h42 => ?_)
                obtain ⟨h42r, hJ43⟩ := h42
                exact gT_ret ⟨⟨t7, (show (0 : Int) ≤ x1 ∧ x1 ≤ 5 by constructor <;> omega), (show (0 : Int) ≤ x2 ∧ x2 ≤ 1 by constructor <;> omega), (show (0 : Int) ≤ (g32 (x4 + 1)) ∧ (g32 (x4 + 1)) ≤ 201 by have := g32_eq (v := (x4 + 1)) (by omega) (by omega); constructor <;> omega), (by first | assumption | omega | (dsimp only; omega)), (by first | assumption | omega | (dsimp only; omega)), hJ43⟩, by dsimp only; have := g32_eq (v := (x4 + 1)) (by omega) (by omega); omega⟩
        · refine gT_map ?_
          unfold fb_222_89
          refine gT_v0 (A := fun u9 => J p u9) (d_186 hp hJ13 t7) (fun s6 h44 => ?_)
          have hJ45 := h44
          exact gT_ret ⟨rfl, trivial, hJ45⟩
    · exact ⟨t0, (show (0 : Int) ≤ a1 ∧ a1 ≤ 5 by constructor <;> omega), (show (0 : Int) ≤ a2 ∧ a2 ≤ 1 by constructor <;> omega), (show (0 : Int) ≤ 0 ∧ 0 ≤ 201 by constructor <;> omega), rfl, rfl, hJ6⟩
-- X12_lives
theorem d_223 {p : gP} {a0 : Nat} {a1 : Int} {s : gS} (hp : -1 ≤ p.1 ∧ p.1 ≤ 0) (h : J p s) (t0 : T 12 a0) : gT (f_223 a0 a1 s) (fun r => r.1 = 1 ∧ True ∧ J p r.2.2.2) := by
  unfold f_223
  refine gT_v1 (A := fun w9 u9 => (w9 = 1 → 0 ≤ a1 ∧ a1 ≤ 5) ∧ (0 ≤ w9 ∧ w9 ≤ 1) ∧ J p u9) (d_162 hp h t0) (fun v2 s1 h1 => ?_)
  obtain ⟨h1e, h1r, hJ2⟩ := h1
  refine gT_ite (fun h3 => ?_) (fun h4 => ?_)
  · unfold fb_223_14
    extract_lets -merge s4
    have hJ5 : J p s4 := (J_wf hJ2 t0 rfl (by decide) (by decide) (fun q hq => by cases hq))
    refine gT_ite (fun h6 => ?_) (fun h7 => ?_)
    · have := rd_same (show s4 = (gw s1 a0 0 1) from rfl)
      exact gT_ret ⟨rfl, trivial, hJ5⟩
    · have := rd_same (show s4 = (gw s1 a0 0 1) from rfl)
      refine gT_v1 (A := fun w9 u9 => True ∧ J p u9) (d_222 hp hJ5 t0 (show (0 : Int) ≤ a1 ∧ a1 ≤ 5 by constructor <;> omega) (show (0 : Int) ≤ 0 ∧ 0 ≤ 1 by constructor <;> omega)) (fun v6 s5 h8 => ?_)
      obtain ⟨h8r, hJ9⟩ := h8
      exact gT_ret ⟨rfl, trivial, hJ9⟩
  · unfold fb_223_14
    extract_lets -merge s4
    have hJ10 : J p s4 := (J_wf hJ2 t0 rfl (by decide) (by decide) (fun q hq => by cases hq))
    refine gT_ite (fun h11 => ?_) (fun h12 => ?_)
    · have := rd_same (show s4 = (gw s1 a0 0 0) from rfl)
      exact gT_ret ⟨rfl, trivial, hJ10⟩
    · have := rd_same (show s4 = (gw s1 a0 0 0) from rfl)
      refine gT_v1 (A := fun w9 u9 => True ∧ J p u9) (d_222 hp hJ10 t0 (show (0 : Int) ≤ a1 ∧ a1 ≤ 5 by constructor <;> omega) (show (0 : Int) ≤ 0 ∧ 0 ≤ 1 by constructor <;> omega)) (fun v6 s5 h13 => ?_)
      obtain ⟨h13r, hJ14⟩ := h13
      exact gT_ret ⟨rfl, trivial, hJ14⟩
-- X12_done
theorem d_224 {p : gP} {a0 : Nat} {a1 : Int} {s : gS} (hp : -1 ≤ p.1 ∧ p.1 ≤ 0) (h : J p s) (t0 : T 12 a0) : gT (f_224 a0 a1 s) (fun r => r.1 = 1 ∧ True ∧ J p r.2.2.2) := by
  unfold f_224
  refine gT_v1 (A := fun w9 u9 => (w9 = 1 → 0 ≤ a1 ∧ a1 ≤ 5) ∧ (0 ≤ w9 ∧ w9 ≤ 1) ∧ J p u9) (d_162 hp h t0) (fun v2 s1 h1 => ?_)
  obtain ⟨h1e, h1r, hJ2⟩ := h1
  refine gT_ite (fun h3 => ?_) (fun h4 => ?_)
  · unfold fb_224_14
    extract_lets -merge s4
    have hJ5 : J p s4 := (J_wf hJ2 t0 rfl (by decide) (by decide) (fun q hq => by cases hq))
    refine gT_ite (fun h6 => ?_) (fun h7 => ?_)
    · have := rd_same (show s4 = (gw s1 a0 0 1) from rfl)
      exact gT_ret ⟨rfl, trivial, hJ5⟩
    · have := rd_same (show s4 = (gw s1 a0 0 1) from rfl)
      refine gT_v1 (A := fun w9 u9 => True ∧ J p u9) (d_222 hp hJ5 t0 (show (0 : Int) ≤ a1 ∧ a1 ≤ 5 by constructor <;> omega) (show (0 : Int) ≤ 1 ∧ 1 ≤ 1 by constructor <;> omega)) (fun v6 s5 h8 => ?_)
      obtain ⟨h8r, hJ9⟩ := h8
      exact gT_ret ⟨rfl, trivial, hJ9⟩
  · unfold fb_224_14
    extract_lets -merge s4
    have hJ10 : J p s4 := (J_wf hJ2 t0 rfl (by decide) (by decide) (fun q hq => by cases hq))
    refine gT_ite (fun h11 => ?_) (fun h12 => ?_)
    · have := rd_same (show s4 = (gw s1 a0 0 0) from rfl)
      exact gT_ret ⟨rfl, trivial, hJ10⟩
    · have := rd_same (show s4 = (gw s1 a0 0 0) from rfl)
      refine gT_v1 (A := fun w9 u9 => True ∧ J p u9) (d_222 hp hJ10 t0 (show (0 : Int) ≤ a1 ∧ a1 ≤ 5 by constructor <;> omega) (show (0 : Int) ≤ 1 ∧ 1 ≤ 1 by constructor <;> omega)) (fun v6 s5 h13 => ?_)
      obtain ⟨h13r, hJ14⟩ := h13
      exact gT_ret ⟨rfl, trivial, hJ14⟩
-- X12_looks
-- X12_behind
-- X12_trial
theorem d_254 {p : gP} {a0 : Nat} {a1 : Int} {a2 : Int} {s : gS} (hp : -1 ≤ p.1 ∧ p.1 ≤ 0) (h : J p s) (t0 : T 12 a0) (r2 : 0 ≤ a2 ∧ a2 ≤ 1) : gT (f_254 a0 a1 a2 s) (fun r => r.1 = 1 ∧ True ∧ J p r.2.2.2) := by
  unfold f_254
  refine gT_v1 (A := fun w9 u9 => ((w9 = 1 → 0 ≤ a1 ∧ a1 ≤ 200) ∧ (w9 = 0 → a1 < 0 ∨ 200 < a1)) ∧ (0 ≤ w9 ∧ w9 ≤ 1) ∧ J p u9) (d_150 hp h) (fun v2 s1 h1 => ?_)
  obtain ⟨h1e, h1r, hJ2⟩ := h1
  refine gT_ite (fun h3 => ?_) (fun h4 => ?_)
  · unfold fb_254_17
    extract_lets -merge s4
    have hJ5 : J p s4 := (J_wf hJ2 t0 rfl (by decide) (by decide) (fun q hq => by cases hq))
    refine gT_ite (fun h6 => ?_) (fun h7 => ?_)
    · have := rd_same (show s4 = (gw s1 a0 0 1) from rfl)
      exact gT_ret ⟨rfl, trivial, hJ5⟩
    · have := rd_same (show s4 = (gw s1 a0 0 1) from rfl)
      refine gT_v0 (A := fun u9 => J p u9) (d_185 hp hJ5 t0) (fun s5 h8 => ?_)
      have hJ9 := h8
      refine gT_v1 (A := fun w9 u9 => True ∧ J p u9) (d_202 hp hJ9 t0 (show (0 : Int) ≤ a1 ∧ a1 ≤ 200 by constructor <;> omega) (show (0 : Int) ≤ 1 ∧ 1 ≤ 1 by constructor <;> omega)) (fun v8 s7 h10 => ?_)
      obtain ⟨h10r, hJ11⟩ := h10
      refine gT_ite (fun h12 => ?_) (fun h13 => ?_)
      · unfold fb_254_62
        refine gT_v0 (A := fun u9 => J p u9) (d_186 hp hJ11 t0) (fun s9 h14 => ?_)
        have hJ15 := h14
        exact gT_ret ⟨rfl, trivial, hJ15⟩
      · refine gT_v1 (A := fun w9 u9 => True ∧ J p u9) (d_252 hp hJ11 t0) (fun v12 s11 h16 => ?_)
        obtain ⟨h16r, hJ17⟩ := h16
        refine gT_v1 (A := fun w9 u9 => True ∧ J p u9) (d_154 hp hJ17) (fun v14 s13 h18 => ?_)
        obtain ⟨h18r, hJ19⟩ := h18
        unfold fb_254_62
        refine gT_v0 (A := fun u9 => J p u9) (d_186 hp hJ19 t0) (fun s9 h20 => ?_)
        have hJ21 := h20
        exact gT_ret ⟨rfl, trivial, hJ21⟩
  · unfold fb_254_17
    extract_lets -merge s4
    have hJ22 : J p s4 := (J_wf hJ2 t0 rfl (by decide) (by decide) (fun q hq => by cases hq))
    refine gT_ite (fun h23 => ?_) (fun h24 => ?_)
    · have := rd_same (show s4 = (gw s1 a0 0 0) from rfl)
      exact gT_ret ⟨rfl, trivial, hJ22⟩
    · have := rd_same (show s4 = (gw s1 a0 0 0) from rfl)
      refine gT_v0 (A := fun u9 => J p u9) (d_185 hp hJ22 t0) (fun s5 h25 => ?_)
      have hJ26 := h25
      refine gT_v1 (A := fun w9 u9 => True ∧ J p u9) (d_202 hp hJ26 t0 (show (0 : Int) ≤ a1 ∧ a1 ≤ 200 by constructor <;> omega) (show (0 : Int) ≤ 1 ∧ 1 ≤ 1 by constructor <;> omega)) (fun v8 s7 h27 => ?_)
      obtain ⟨h27r, hJ28⟩ := h27
      refine gT_ite (fun h29 => ?_) (fun h30 => ?_)
      · unfold fb_254_62
        refine gT_v0 (A := fun u9 => J p u9) (d_186 hp hJ28 t0) (fun s9 h31 => ?_)
        have hJ32 := h31
        exact gT_ret ⟨rfl, trivial, hJ32⟩
      · refine gT_v1 (A := fun w9 u9 => True ∧ J p u9) (d_252 hp hJ28 t0) (fun v12 s11 h33 => ?_)
        obtain ⟨h33r, hJ34⟩ := h33
        refine gT_v1 (A := fun w9 u9 => True ∧ J p u9) (d_154 hp hJ34) (fun v14 s13 h35 => ?_)
        obtain ⟨h35r, hJ36⟩ := h35
        unfold fb_254_62
        refine gT_v0 (A := fun u9 => J p u9) (d_186 hp hJ36 t0) (fun s9 h37 => ?_)
        have hJ38 := h37
        exact gT_ret ⟨rfl, trivial, hJ38⟩
-- X12_span
theorem d_255 {p : gP} {a0 : Nat} {a1 : Int} {a2 : Int} {s : gS} (hp : -1 ≤ p.1 ∧ p.1 ≤ 0) (h : J p s) (t0 : T 12 a0) (r2 : 0 ≤ a2 ∧ a2 ≤ 1) : gT (f_255 a0 a1 a2 s) (fun r => r.1 = 1 ∧ True ∧ J p r.2.2.2) := by
  unfold f_255
  refine gT_v1 (A := fun w9 u9 => ((w9 = 1 → 0 ≤ a1 ∧ a1 ≤ 200) ∧ (w9 = 0 → a1 < 0 ∨ 200 < a1)) ∧ (0 ≤ w9 ∧ w9 ≤ 1) ∧ J p u9) (d_150 hp h) (fun v2 s1 h1 => ?_)
  obtain ⟨h1e, h1r, hJ2⟩ := h1
  refine gT_ite (fun h3 => ?_) (fun h4 => ?_)
  · unfold fb_255_17
    extract_lets -merge s4
    have hJ5 : J p s4 := (J_wf hJ2 t0 rfl (by decide) (by decide) (fun q hq => by cases hq))
    refine gT_ite (fun h6 => ?_) (fun h7 => ?_)
    · have := rd_same (show s4 = (gw s1 a0 0 1) from rfl)
      exact gT_ret ⟨rfl, trivial, hJ5⟩
    · have := rd_same (show s4 = (gw s1 a0 0 1) from rfl)
      refine gT_v0 (A := fun u9 => J p u9) (d_185 hp hJ5 t0) (fun s5 h8 => ?_)
      have hJ9 := h8
      refine gT_loop (fun y => T 12 y.1 ∧ (0 ≤ y.2.2.1 ∧ y.2.2.1 ≤ 1) ∧ (1 ≤ y.2.2.2.2.1 ∧ y.2.2.2.2.1 ≤ 7) ∧ y.2.1 = a1 ∧ y.2.2.1 = a2 ∧ J p y.2.2.2.2.2) (fun y => (7 - y.2.2.2.2.1).toNat) (fun y hy => ?_) ?_
      · obtain ⟨x0, x1, x2, x3, x4, s⟩ := y
        obtain ⟨t10, r11, r12, e13, e14, hJ15⟩ := hy
        dsimp only at t10 r11 r12 e13 e14 hJ15
        show gT (sb_255_38 x0 x1 x2 x3 x4 s) _
        unfold sb_255_38
        extract_lets -merge s7
        refine gT_ite (fun h16 => ?_) (fun h17 => ?_)
        · refine gT_map ?_
          exact gT_ret ⟨rfl, trivial, hJ15⟩
        · have hJ18 : J p s7 := (J_wm hJ15 hJ15 t10 (fun q hq => by cases hq))
          refine gT_v1 (A := fun w9 u9 => True ∧ J p u9) (d_202 hp hJ18 t10 (show (0 : Int) ≤ x1 ∧ x1 ≤ 200 by constructor <;> omega) (show (0 : Int) ≤ 1 ∧ 1 ≤ 1 by constructor <;> omega)) (fun v9 s8 h19 => ?_)
          obtain ⟨h19r, hJ20⟩ := h19
          extract_lets -merge v10
          have hv21 : v10 = (gI s8 (gR s8 x0 1) 8) := rfl
          refine gT_v0 (A := fun u9 => J p u9) (d_186 hp hJ20 t10) (fun s11 h22 => ?_)
          have hJ23 := h22
          refine gT_ite (fun h24 => ?_) (fun h25 => ?_)
          · exact gT_ret ⟨⟨t10, (show (0 : Int) ≤ x2 ∧ x2 ≤ 1 by constructor <;> omega), (show (1 : Int) ≤ (g32 (x4 + 1)) ∧ (g32 (x4 + 1)) ≤ 7 by have := g32_eq (v := (x4 + 1)) (by omega) (by omega); constructor <;> omega), (by first | assumption | omega | (dsimp only; omega)), (by first | assumption | omega | (dsimp only; omega)), hJ23⟩, by dsimp only; have := g32_eq (v := (x4 + 1)) (by omega) (by omega); omega⟩
          · refine gT_ite (fun h26 => ?_) (fun h27 => ?_)
            · refine gT_v1 (A := fun w9 u9 => (w9 ≤ x3 ∧ w9 ≤ v10 ∧ (w9 = x3 ∨ w9 = v10)) ∧ True ∧ J p u9) (d_151 hp hJ23) (fun v14 s13 h28 => ?_)
              obtain ⟨h28e, h28r, hJ29⟩ := h28
              exact gT_ret ⟨⟨t10, (show (0 : Int) ≤ x2 ∧ x2 ≤ 1 by constructor <;> omega), (show (1 : Int) ≤ (g32 (x4 + 1)) ∧ (g32 (x4 + 1)) ≤ 7 by have := g32_eq (v := (x4 + 1)) (by omega) (by omega); constructor <;> omega), (by first | assumption | omega | (dsimp only; omega)), (by first | assumption | omega | (dsimp only; omega)), hJ29⟩, by dsimp only; have := g32_eq (v := (x4 + 1)) (by omega) (by omega); omega⟩
            · refine gT_v1 (A := fun w9 u9 => (x3 ≤ w9 ∧ v10 ≤ w9 ∧ (w9 = x3 ∨ w9 = v10)) ∧ True ∧ J p u9) (d_152 hp hJ23) (fun v16 s15 h30 => ?_)
              obtain ⟨h30e, h30r, hJ31⟩ := h30
              exact gT_ret ⟨⟨t10, (show (0 : Int) ≤ x2 ∧ x2 ≤ 1 by constructor <;> omega), (show (1 : Int) ≤ (g32 (x4 + 1)) ∧ (g32 (x4 + 1)) ≤ 7 by have := g32_eq (v := (x4 + 1)) (by omega) (by omega); constructor <;> omega), (by first | assumption | omega | (dsimp only; omega)), (by first | assumption | omega | (dsimp only; omega)), hJ31⟩, by dsimp only; have := g32_eq (v := (x4 + 1)) (by omega) (by omega); omega⟩
      · exact ⟨t0, (show (0 : Int) ≤ a2 ∧ a2 ≤ 1 by constructor <;> omega), (show (1 : Int) ≤ 1 ∧ 1 ≤ 7 by constructor <;> omega), rfl, rfl, hJ9⟩
  · unfold fb_255_17
    extract_lets -merge s4
    have hJ32 : J p s4 := (J_wf hJ2 t0 rfl (by decide) (by decide) (fun q hq => by cases hq))
    refine gT_ite (fun h33 => ?_) (fun h34 => ?_)
    · have := rd_same (show s4 = (gw s1 a0 0 0) from rfl)
      exact gT_ret ⟨rfl, trivial, hJ32⟩
    · have := rd_same (show s4 = (gw s1 a0 0 0) from rfl)
      refine gT_v0 (A := fun u9 => J p u9) (d_185 hp hJ32 t0) (fun s5 h35 => ?_)
      have hJ36 := h35
      refine gT_loop (fun y => T 12 y.1 ∧ (0 ≤ y.2.1 ∧ y.2.1 ≤ 200) ∧ (0 ≤ y.2.2.1 ∧ y.2.2.1 ≤ 1) ∧ (1 ≤ y.2.2.2.2.1 ∧ y.2.2.2.2.1 ≤ 7) ∧ y.2.1 = a1 ∧ y.2.2.1 = a2 ∧ J p y.2.2.2.2.2) (fun y => (7 - y.2.2.2.2.1).toNat) (fun y hy => ?_) ?_
      · obtain ⟨x0, x1, x2, x3, x4, s⟩ := y
        obtain ⟨t37, r38, r39, r40, e41, e42, hJ43⟩ := hy
        dsimp only at t37 r38 r39 r40 e41 e42 hJ43
        show gT (sb_255_38 x0 x1 x2 x3 x4 s) _
        unfold sb_255_38
        extract_lets -merge s7
        refine gT_ite (fun h44 => ?_) (fun h45 => ?_)
        · refine gT_map ?_
          exact gT_ret ⟨rfl, trivial, hJ43⟩
        · have hJ46 : J p s7 := (J_wm hJ43 hJ43 t37 (fun q hq => by cases hq))
          refine gT_v1 (A := fun w9 u9 => True ∧ J p u9) (d_202 hp hJ46 t37 (show (0 : Int) ≤ x1 ∧ x1 ≤ 200 by constructor <;> omega) (show (0 : Int) ≤ 1 ∧ 1 ≤ 1 by constructor <;> omega)) (fun v9 s8 h47 => ?_)
          obtain ⟨h47r, hJ48⟩ := h47
          extract_lets -merge v10
          have hv49 : v10 = (gI s8 (gR s8 x0 1) 8) := rfl
          refine gT_v0 (A := fun u9 => J p u9) (d_186 hp hJ48 t37) (fun s11 h50 => ?_)
          have hJ51 := h50
          refine gT_ite (fun h52 => ?_) (fun h53 => ?_)
          · exact gT_ret ⟨⟨t37, (show (0 : Int) ≤ x1 ∧ x1 ≤ 200 by constructor <;> omega), (show (0 : Int) ≤ x2 ∧ x2 ≤ 1 by constructor <;> omega), (show (1 : Int) ≤ (g32 (x4 + 1)) ∧ (g32 (x4 + 1)) ≤ 7 by have := g32_eq (v := (x4 + 1)) (by omega) (by omega); constructor <;> omega), (by first | assumption | omega | (dsimp only; omega)), (by first | assumption | omega | (dsimp only; omega)), hJ51⟩, by dsimp only; have := g32_eq (v := (x4 + 1)) (by omega) (by omega); omega⟩
          · refine gT_ite (fun h54 => ?_) (fun h55 => ?_)
            · refine gT_v1 (A := fun w9 u9 => (w9 ≤ x3 ∧ w9 ≤ v10 ∧ (w9 = x3 ∨ w9 = v10)) ∧ True ∧ J p u9) (d_151 hp hJ51) (fun v14 s13 h56 => ?_)
              obtain ⟨h56e, h56r, hJ57⟩ := h56
              exact gT_ret ⟨⟨t37, (show (0 : Int) ≤ x1 ∧ x1 ≤ 200 by constructor <;> omega), (show (0 : Int) ≤ x2 ∧ x2 ≤ 1 by constructor <;> omega), (show (1 : Int) ≤ (g32 (x4 + 1)) ∧ (g32 (x4 + 1)) ≤ 7 by have := g32_eq (v := (x4 + 1)) (by omega) (by omega); constructor <;> omega), (by first | assumption | omega | (dsimp only; omega)), (by first | assumption | omega | (dsimp only; omega)), hJ57⟩, by dsimp only; have := g32_eq (v := (x4 + 1)) (by omega) (by omega); omega⟩
            · refine gT_v1 (A := fun w9 u9 => (x3 ≤ w9 ∧ v10 ≤ w9 ∧ (w9 = x3 ∨ w9 = v10)) ∧ True ∧ J p u9) (d_152 hp hJ51) (fun v16 s15 h58 => ?_)
              obtain ⟨h58e, h58r, hJ59⟩ := h58
              exact gT_ret ⟨⟨t37, (show (0 : Int) ≤ x1 ∧ x1 ≤ 200 by constructor <;> omega), (show (0 : Int) ≤ x2 ∧ x2 ≤ 1 by constructor <;> omega), (show (1 : Int) ≤ (g32 (x4 + 1)) ∧ (g32 (x4 + 1)) ≤ 7 by have := g32_eq (v := (x4 + 1)) (by omega) (by omega); constructor <;> omega), (by first | assumption | omega | (dsimp only; omega)), (by first | assumption | omega | (dsimp only; omega)), hJ59⟩, by dsimp only; have := g32_eq (v := (x4 + 1)) (by omega) (by omega); omega⟩
      · exact ⟨t0, (show (0 : Int) ≤ a1 ∧ a1 ≤ 200 by constructor <;> omega), (show (0 : Int) ≤ a2 ∧ a2 ≤ 1 by constructor <;> omega), (show (1 : Int) ≤ 1 ∧ 1 ≤ 7 by constructor <;> omega), rfl, rfl, hJ36⟩
-- X12_image
theorem d_261 {p : gP} {a0 : Nat} {s : gS} (hp : -1 ≤ p.1 ∧ p.1 ≤ 0) (h : J p s) (t0 : T 12 a0) : gT (f_261 a0 s) (fun r => r.1 = 0 ∧ J (p.1, p.2.1, p.2.2.1, p.2.2.2.1, 1) r.2.2.2) := by
  unfold f_261
  extract_lets -merge s1
  have hJ1 : J p s1 := (J_wf h t0 rfl (by decide) (by decide) (fun q hq => by cases hq))
  refine gT_loop (fun y => T 12 y.1 ∧ (0 ≤ y.2.1 ∧ y.2.1 ≤ 740) ∧ J p y.2.2) (fun y => (740 - y.2.1).toNat) (fun y hy => ?_) ?_
  · obtain ⟨x0, x1, s⟩ := y
    obtain ⟨t2, r3, hJ4⟩ := hy
    dsimp only at t2 r3 hJ4
    show gT (sb_261_7 x0 x1 s) _
    unfold sb_261_7
    extract_lets -merge s2 s3
    refine gT_ite (fun h5 => ?_) (fun h6 => ?_)
    · refine gT_chk (by omega) (by omega) ?_
      refine gT_chk (by omega) (by omega) ?_
      have hJ7 : J p s2 := (J_cpm hJ4 hJ4 hJ4 hJ4 t2 t2 (by decide) (by decide) (show (x1 : Int).toNat = (x1 : Int).toNat by omega))
      exact gT_ret ⟨⟨t2, (show (0 : Int) ≤ (g32 (x1 + 1)) ∧ (g32 (x1 + 1)) ≤ 740 by have := g32_eq (v := (x1 + 1)) (by omega) (by omega); constructor <;> omega), hJ7⟩, by dsimp only; have := g32_eq (v := (x1 + 1)) (by omega) (by omega); omega⟩
    · refine gT_map ?_
      refine gT_bool (by omega) ?_
      have hJ8 : J (p.1, p.2.1, p.2.2.1, p.2.2.2.1, 1) s3 := (J_j hJ4 t2)
      exact gT_ret ⟨rfl, hJ8⟩
  · exact ⟨t0, (show (0 : Int) ≤ 0 ∧ 0 ≤ 740 by constructor <;> omega), hJ1⟩
-- X12_back
theorem d_262 {p : gP} {a0 : Nat} {s : gS} (hp : -1 ≤ p.1 ∧ p.1 ≤ 0) (h : J p s) (t0 : T 12 a0) : gT (f_262 a0 s) (fun r => r.1 = 1 ∧ (0 ≤ r.2.1 ∧ r.2.1 ≤ 1) ∧ J p r.2.2.2) := by
  unfold f_262
  extract_lets -merge s1
  have hJ1 : J p s1 := (J_wf h t0 rfl (by decide) (by decide) (fun q hq => by cases hq))
  refine gT_ite (fun h2 => ?_) (fun h3 => ?_)
  · have := rd_k (a := a0) (k := 3) (show s1 = (gw s a0 0 0) from rfl) (by decide)
    exact gT_ret ⟨rfl, (by dsimp only; constructor <;> omega), hJ1⟩
  · have := rd_k (a := a0) (k := 3) (show s1 = (gw s a0 0 0) from rfl) (by decide)
    refine gT_loop (fun y => T 12 y.1 ∧ (0 ≤ y.2.1 ∧ y.2.1 ≤ 740) ∧ J p y.2.2) (fun y => (740 - y.2.1).toNat) (fun y hy => ?_) ?_
    · obtain ⟨x0, x1, s⟩ := y
      obtain ⟨t4, r5, hJ6⟩ := hy
      dsimp only at t4 r5 hJ6
      show gT (sb_262_16 x0 x1 s) _
      unfold sb_262_16
      extract_lets -merge s2 s3
      refine gT_ite (fun h7 => ?_) (fun h8 => ?_)
      · refine gT_chk (by omega) (by omega) ?_
        refine gT_chk (by omega) (by omega) ?_
        have hJ9 : J p s2 := (J_cpm hJ6 hJ6 hJ6 hJ6 t4 t4 (by decide) (by decide) (show (x1 : Int).toNat = (x1 : Int).toNat by omega))
        exact gT_ret ⟨⟨t4, (show (0 : Int) ≤ (g32 (x1 + 1)) ∧ (g32 (x1 + 1)) ≤ 740 by have := g32_eq (v := (x1 + 1)) (by omega) (by omega); constructor <;> omega), hJ9⟩, by dsimp only; have := g32_eq (v := (x1 + 1)) (by omega) (by omega); omega⟩
      · refine gT_map ?_
        have hJ10 : J p s3 := (J_wf hJ6 t4 rfl (by decide) (by decide) (fun q hq => by cases hq; dsimp only; constructor <;> omega))
        exact gT_ret ⟨rfl, (by dsimp only; constructor <;> omega), hJ10⟩
    · exact ⟨t0, (show (0 : Int) ≤ 0 ∧ 0 ≤ 740 by constructor <;> omega), hJ1⟩
-- L_law
theorem d_277 {p : gP} {a0 : Nat} {a1 : Nat} {s : gS} (hp : -1 ≤ p.1 ∧ p.1 ≤ 0) (h : J p s) (t0 : T 11 a0) (t1 : T 109 a1) : gT (f_277 a0 a1 s) (fun r => r.1 = 1 ∧ True ∧ J (p.1, 0, p.2.2.1, p.2.2.2.1, p.2.2.2.2) r.2.2.2) := by
  unfold f_277
  refine gT_c1 (A := fun w9 u9 => True ∧ J (p.1, 0, p.2.2.1, p.2.2.2.1, p.2.2.2.2) u9) (B := fun t9 u9 => (t9 = 2) ∧ J (p.1, 0, p.2.2.1, p.2.2.2.1, p.2.2.2.2) u9) (d_90 hp h t0) (fun v2 s1 h1 => ?_) (fun k s1 hk hB => ?_)
  · obtain ⟨h1r, hJ2⟩ := h1
    extract_lets -merge s3
    refine gT_chk (by omega) (by omega) ?_
    have hJ3 : J (p.1, 0, p.2.2.1, p.2.2.2.1, p.2.2.2.2) s3 := (J_wa hJ2 t1 rfl)
    exact gT_ret ⟨rfl, trivial, hJ3⟩
  · obtain ⟨ht, hJt⟩ := hB
    refine gT_ite (fun h4 => ?_) (fun h5 => ?_)
    · exact gT_ret ⟨rfl, trivial, hJt⟩
    · exfalso; omega
-- L_man
theorem d_279 {p : gP} {a0 : Nat} {a1 : Int} {a2 : Int} {a3 : Nat} {s : gS} (hp : -1 ≤ p.1 ∧ p.1 ≤ 0) (h : J p s) (t0 : T 11 a0) (t3 : T 109 a3) : gT (f_279 a0 a1 a2 a3 s) (fun r => r.1 = 1 ∧ True ∧ J p r.2.2.2) := by
  unfold f_279
  refine gT_c1 (A := fun w9 u9 => True ∧ J p u9) (B := fun t9 u9 => (t9 = 4 ∨ t9 = 5) ∧ J p u9) (d_93 hp h t0) (fun v2 s1 h1 => ?_) (fun k s1 hk hB => ?_)
  · obtain ⟨h1r, hJ2⟩ := h1
    extract_lets -merge s3
    refine gT_chk (by omega) (by omega) ?_
    have hJ3 : J p s3 := (J_wa hJ2 t3 rfl)
    exact gT_ret ⟨rfl, trivial, hJ3⟩
  · obtain ⟨ht, hJt⟩ := hB
    refine gT_ite (fun h4 => ?_) (fun h5 => ?_)
    · exact gT_ret ⟨rfl, trivial, hJt⟩
    · refine gT_ite (fun h6 => ?_) (fun h7 => ?_)
      · exact gT_ret ⟨rfl, trivial, hJt⟩
      · exfalso; omega
-- L_days
theorem d_288 {p : gP} {a0 : Nat} {a1 : Int} {a2 : Nat} {s : gS} (hp : -1 ≤ p.1 ∧ p.1 ≤ 0) (h : J p s) (t0 : T 11 a0) (t2 : T 109 a2) : gT (f_288 a0 a1 a2 s) (fun r => r.1 = 1 ∧ True ∧ J p r.2.2.2) := by
  unfold f_288
  refine gT_c1 (A := fun w9 u9 => True ∧ J p u9) (B := fun t9 u9 => (t9 = 2) ∧ J p u9) (d_102 hp h t0) (fun v2 s1 h1 => ?_) (fun k s1 hk hB => ?_)
  · obtain ⟨h1r, hJ2⟩ := h1
    extract_lets -merge s3
    refine gT_chk (by omega) (by omega) ?_
    have hJ3 : J p s3 := (J_wa hJ2 t2 rfl)
    exact gT_ret ⟨rfl, trivial, hJ3⟩
  · obtain ⟨ht, hJt⟩ := hB
    refine gT_ite (fun h4 => ?_) (fun h5 => ?_)
    · exact gT_ret ⟨rfl, trivial, hJt⟩
    · exfalso; omega
-- L_ahead
theorem d_289 {p : gP} {a0 : Nat} {a1 : Int} {a2 : Int} {a3 : Int} {a4 : Nat} {s : gS} (hp : -1 ≤ p.1 ∧ p.1 ≤ 0) (h : J p s) (t0 : T 11 a0) (t4 : T 109 a4) : gT (f_289 a0 a1 a2 a3 a4 s) (fun r => r.1 = 1 ∧ True ∧ J p r.2.2.2) := by
  unfold f_289
  refine gT_c1 (A := fun w9 u9 => True ∧ J p u9) (B := fun t9 u9 => (t9 = 2 ∨ t9 = 4 ∨ t9 = 5) ∧ J p u9) (d_103 hp h t0) (fun v2 s1 h1 => ?_) (fun k s1 hk hB => ?_)
  · obtain ⟨h1r, hJ2⟩ := h1
    extract_lets -merge s3
    refine gT_chk (by omega) (by omega) ?_
    have hJ3 : J p s3 := (J_wa hJ2 t4 rfl)
    exact gT_ret ⟨rfl, trivial, hJ3⟩
  · obtain ⟨ht, hJt⟩ := hB
    refine gT_ite (fun h4 => ?_) (fun h5 => ?_)
    · exact gT_ret ⟨rfl, trivial, hJt⟩
    · refine gT_ite (fun h6 => ?_) (fun h7 => ?_)
      · exact gT_ret ⟨rfl, trivial, hJt⟩
      · refine gT_ite (fun h8 => ?_) (fun h9 => ?_)
        · exact gT_ret ⟨rfl, trivial, hJt⟩
        · exfalso; omega
-- L_owes
theorem d_290 {p : gP} {a0 : Nat} {a1 : Int} {a2 : Nat} {s : gS} (hp : -1 ≤ p.1 ∧ p.1 ≤ 0) (h : J p s) (t0 : T 11 a0) (t2 : T 109 a2) : gT (f_290 a0 a1 a2 s) (fun r => r.1 = 1 ∧ True ∧ J p r.2.2.2) := by
  unfold f_290
  refine gT_c1 (A := fun w9 u9 => True ∧ J p u9) (B := fun t9 u9 => (t9 = 2) ∧ J p u9) (d_104 hp h t0) (fun v2 s1 h1 => ?_) (fun k s1 hk hB => ?_)
  · obtain ⟨h1r, hJ2⟩ := h1
    extract_lets -merge s3
    refine gT_chk (by omega) (by omega) ?_
    have hJ3 : J p s3 := (J_wa hJ2 t2 rfl)
    exact gT_ret ⟨rfl, trivial, hJ3⟩
  · obtain ⟨ht, hJt⟩ := hB
    refine gT_ite (fun h4 => ?_) (fun h5 => ?_)
    · exact gT_ret ⟨rfl, trivial, hJt⟩
    · exfalso; omega
-- L_chest
theorem d_291 {p : gP} {a0 : Nat} {a1 : Int} {a2 : Nat} {s : gS} (hp : -1 ≤ p.1 ∧ p.1 ≤ 0) (h : J p s) (t0 : T 11 a0) (t2 : T 109 a2) : gT (f_291 a0 a1 a2 s) (fun r => r.1 = 1 ∧ True ∧ J p r.2.2.2) := by
  unfold f_291
  refine gT_c1 (A := fun w9 u9 => True ∧ J p u9) (B := fun t9 u9 => (t9 = 2) ∧ J p u9) (d_105 hp h t0) (fun v2 s1 h1 => ?_) (fun k s1 hk hB => ?_)
  · obtain ⟨h1r, hJ2⟩ := h1
    extract_lets -merge s3
    refine gT_chk (by omega) (by omega) ?_
    have hJ3 : J p s3 := (J_wa hJ2 t2 rfl)
    exact gT_ret ⟨rfl, trivial, hJ3⟩
  · obtain ⟨ht, hJt⟩ := hB
    refine gT_ite (fun h4 => ?_) (fun h5 => ?_)
    · exact gT_ret ⟨rfl, trivial, hJt⟩
    · exfalso; omega
-- L_lives
theorem d_292 {p : gP} {a0 : Nat} {a1 : Int} {a2 : Nat} {s : gS} (hp : -1 ≤ p.1 ∧ p.1 ≤ 0) (h : J p s) (t0 : T 11 a0) (t2 : T 109 a2) : gT (f_292 a0 a1 a2 s) (fun r => r.1 = 1 ∧ True ∧ J p r.2.2.2) := by
  unfold f_292
  refine gT_c1 (A := fun w9 u9 => True ∧ J p u9) (B := fun t9 u9 => (t9 = 5) ∧ J p u9) (d_106 hp h t0) (fun v2 s1 h1 => ?_) (fun k s1 hk hB => ?_)
  · obtain ⟨h1r, hJ2⟩ := h1
    extract_lets -merge s3
    refine gT_chk (by omega) (by omega) ?_
    have hJ3 : J p s3 := (J_wa hJ2 t2 rfl)
    exact gT_ret ⟨rfl, trivial, hJ3⟩
  · obtain ⟨ht, hJt⟩ := hB
    refine gT_ite (fun h4 => ?_) (fun h5 => ?_)
    · exact gT_ret ⟨rfl, trivial, hJt⟩
    · exfalso; omega
-- L_done
theorem d_293 {p : gP} {a0 : Nat} {a1 : Int} {a2 : Nat} {s : gS} (hp : -1 ≤ p.1 ∧ p.1 ≤ 0) (h : J p s) (t0 : T 11 a0) (t2 : T 109 a2) : gT (f_293 a0 a1 a2 s) (fun r => r.1 = 1 ∧ True ∧ J p r.2.2.2) := by
  unfold f_293
  refine gT_c1 (A := fun w9 u9 => True ∧ J p u9) (B := fun t9 u9 => (t9 = 5) ∧ J p u9) (d_107 hp h t0) (fun v2 s1 h1 => ?_) (fun k s1 hk hB => ?_)
  · obtain ⟨h1r, hJ2⟩ := h1
    extract_lets -merge s3
    refine gT_chk (by omega) (by omega) ?_
    have hJ3 : J p s3 := (J_wa hJ2 t2 rfl)
    exact gT_ret ⟨rfl, trivial, hJ3⟩
  · obtain ⟨ht, hJt⟩ := hB
    refine gT_ite (fun h4 => ?_) (fun h5 => ?_)
    · exact gT_ret ⟨rfl, trivial, hJt⟩
    · exfalso; omega
-- L_trial
theorem d_306 {p : gP} {a0 : Nat} {a1 : Int} {a2 : Int} {a3 : Nat} {s : gS} (hp : -1 ≤ p.1 ∧ p.1 ≤ 0) (h : J p s) (t0 : T 11 a0) (t3 : T 109 a3) (r2 : 0 ≤ a2 ∧ a2 ≤ 1) : gT (f_306 a0 a1 a2 a3 s) (fun r => r.1 = 1 ∧ True ∧ J p r.2.2.2) := by
  unfold f_306
  refine gT_c1 (A := fun w9 u9 => True ∧ J p u9) (B := fun t9 u9 => (t9 = 2) ∧ J p u9) (d_125 hp h t0 (show (0 : Int) ≤ a2 ∧ a2 ≤ 1 by constructor <;> omega)) (fun v2 s1 h1 => ?_) (fun k s1 hk hB => ?_)
  · obtain ⟨h1r, hJ2⟩ := h1
    extract_lets -merge s3
    refine gT_chk (by omega) (by omega) ?_
    have hJ3 : J p s3 := (J_wa hJ2 t3 rfl)
    exact gT_ret ⟨rfl, trivial, hJ3⟩
  · obtain ⟨ht, hJt⟩ := hB
    refine gT_ite (fun h4 => ?_) (fun h5 => ?_)
    · exact gT_ret ⟨rfl, trivial, hJt⟩
    · exfalso; omega
-- L_span
theorem d_307 {p : gP} {a0 : Nat} {a1 : Int} {a2 : Int} {a3 : Nat} {s : gS} (hp : -1 ≤ p.1 ∧ p.1 ≤ 0) (h : J p s) (t0 : T 11 a0) (t3 : T 109 a3) (r2 : 0 ≤ a2 ∧ a2 ≤ 1) : gT (f_307 a0 a1 a2 a3 s) (fun r => r.1 = 1 ∧ True ∧ J p r.2.2.2) := by
  unfold f_307
  refine gT_c1 (A := fun w9 u9 => True ∧ J p u9) (B := fun t9 u9 => (t9 = 2) ∧ J p u9) (d_126 hp h t0 (show (0 : Int) ≤ a2 ∧ a2 ≤ 1 by constructor <;> omega)) (fun v2 s1 h1 => ?_) (fun k s1 hk hB => ?_)
  · obtain ⟨h1r, hJ2⟩ := h1
    extract_lets -merge s3
    refine gT_chk (by omega) (by omega) ?_
    have hJ3 : J p s3 := (J_wa hJ2 t3 rfl)
    exact gT_ret ⟨rfl, trivial, hJ3⟩
  · obtain ⟨ht, hJt⟩ := hB
    refine gT_ite (fun h4 => ?_) (fun h5 => ?_)
    · exact gT_ret ⟨rfl, trivial, hJt⟩
    · exfalso; omega
