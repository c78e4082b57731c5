-- X9_mostKept
theorem d_69 {p : gP} {a0 : Nat} {a1 : Int} {a2 : Int} {s : gS} (hp : -1 ≤ p.1 ∧ p.1 ≤ 0) (h : J p s) (t0 : T 9 a0) (r1 : 0 ≤ a1 ∧ a1 ≤ 9) (r2 : 0 ≤ a2 ∧ a2 ≤ 99) : gT (f_69 a0 a1 a2 s) (fun r => r.1 = 1 ∧ True ∧ J p r.2.2.2) := by
  unfold f_69
  refine gT_v1 (A := fun w9 u9 => True ∧ J p u9) (d_70 hp h t0 (show (0 : Int) ≤ 0 ∧ 0 ≤ 30 by constructor <;> omega) (show (0 : Int) ≤ a1 ∧ a1 ≤ 9 by constructor <;> omega) (show (0 : Int) ≤ a2 ∧ a2 ≤ 99 by constructor <;> omega)) (fun v2 s1 h1 => ?_)
  obtain ⟨h1r, hJ2⟩ := h1
  exact gT_ret ⟨rfl, trivial, hJ2⟩
-- X9_usedAheadOf
theorem d_74 {p : gP} {a0 : Nat} {a1 : Int} {a2 : Int} {a3 : Int} {s : gS} (hp : -1 ≤ p.1 ∧ p.1 ≤ 0) (h : J p s) (t0 : T 9 a0) (r1 : 0 ≤ a1 ∧ a1 ≤ 29) (r2 : 0 ≤ a2 ∧ a2 ≤ 9) (r3 : 0 ≤ a3 ∧ a3 ≤ 99) : gT (f_74 a0 a1 a2 a3 s) (fun r => r.1 = 1 ∧ True ∧ J p r.2.2.2) := by
  unfold f_74
  refine gT_loop (fun y => T 9 y.1 ∧ (0 ≤ y.2.1 ∧ y.2.1 ≤ 29) ∧ (0 ≤ y.2.2.1 ∧ y.2.2.1 ≤ 9) ∧ (0 ≤ y.2.2.2.1 ∧ y.2.2.2.1 ≤ 99) ∧ (0 ≤ y.2.2.2.2.1 ∧ y.2.2.2.2.1 ≤ 30) ∧ y.2.1 = a1 ∧ J p y.2.2.2.2.2) (fun y => (30 - y.2.2.2.2.1).toNat) (fun y hy => ?_) ?_
  · obtain ⟨x0, x1, x4, x5, x6, s⟩ := y
    obtain ⟨t1, r2, r3, r4, r5, e6, hJ7⟩ := hy
    dsimp only at t1 r2 r3 r4 r5 e6 hJ7
    show gT (sb_74_9 x0 x1 x4 x5 x6 s) _
    unfold sb_74_9
    refine gT_ite (fun h8 => ?_) (fun h9 => ?_)
    · refine gT_map ?_
      exact gT_ret ⟨rfl, trivial, hJ7⟩
    · refine gT_loop (fun y => T 9 y.1 ∧ (0 ≤ y.2.1 ∧ y.2.1 ≤ 29) ∧ (0 ≤ y.2.2.1 ∧ y.2.2.1 ≤ 9) ∧ (0 ≤ y.2.2.2.1 ∧ y.2.2.2.1 ≤ 99) ∧ (0 ≤ y.2.2.2.2.1 ∧ y.2.2.2.2.1 ≤ 29) ∧ y.2.1 = x1 ∧ y.2.2.2.2.1 = x6 ∧ J p y.2.2.2.2.2.2) (fun y => (y.2.2.1 - (0)).toNat) (fun y hy => ?_) ?_
      · obtain ⟨x0, x1, x4, x5, x6, x7, s⟩ := y
        obtain ⟨t10, r11, r12, r13, r14, e15, e16, hJ17⟩ := hy
        dsimp only at t10 r11 r12 r13 r14 e15 e16 hJ17
        show gT (sb_74_18 x0 x1 x4 x5 x6 x7 s) _
        unfold sb_74_18
        refine gT_ite (fun h18 => ?_) (fun h19 => ?_)
        · refine gT_v1 (A := fun w9 u9 => True ∧ J p u9) (d_71 hp hJ17 t10 (show (0 : Int) ≤ x6 ∧ x6 ≤ 29 by constructor <;> omega) (show (0 : Int) ≤ x4 ∧ x4 ≤ 9 by constructor <;> omega) (show (0 : Int) ≤ x5 ∧ x5 ≤ 99 by constructor <;> omega)) (fun v2 s1 h20 => ?_)
          obtain ⟨h20r, hJ21⟩ := h20
          refine gT_v1 (A := fun w9 u9 => True ∧ J p u9) (d_70 hp hJ21 t10 (show (0 : Int) ≤ x6 ∧ x6 ≤ 30 by constructor <;> omega) (show (0 : Int) ≤ x4 ∧ x4 ≤ 9 by constructor <;> omega) (show (0 : Int) ≤ x5 ∧ x5 ≤ 99 by constructor <;> omega)) (fun v4 s3 h22 => ?_)
          obtain ⟨h22r, hJ23⟩ := h22
          refine gT_ite (fun h24 => ?_) (fun h25 => ?_)
          · refine gT_v1 (A := fun w9 u9 => (0 ≤ w9 ∧ w9 ≤ 99) ∧ J p u9) (d_72r hp hJ23 t10 (show (0 : Int) ≤ x5 ∧ x5 ≤ 99 by constructor <;> omega)) (fun v6 s5 h26 => ?_)
            obtain ⟨h26r, hJ27⟩ := h26
            exact gT_ret ⟨⟨t10, (show (0 : Int) ≤ x1 ∧ x1 ≤ 29 by constructor <;> omega), (show (0 : Int) ≤ (g32 (x4 + (-1))) ∧ (g32 (x4 + (-1))) ≤ 9 by have := g32_eq (v := (x4 + (-1))) (by omega) (by omega); constructor <;> omega), (show (0 : Int) ≤ v6 ∧ v6 ≤ 99 by constructor <;> omega), (show (0 : Int) ≤ x6 ∧ x6 ≤ 29 by constructor <;> omega), (by first | assumption | omega | (dsimp only; omega)), (by first | assumption | omega | (dsimp only; omega)), hJ27⟩, by dsimp only; have := g32_eq (v := (x4 + (-1))) (by omega) (by omega); omega⟩
          · refine gT_map ?_
            unfold fb_74_63
            refine gT_ite (fun h28 => ?_) (fun h29 => ?_)
            · refine gT_map ?_
              exact gT_ret ⟨rfl, trivial, hJ23⟩
            · refine gT_v1 (A := fun w9 u9 => (0 ≤ w9 ∧ w9 ≤ 99) ∧ J p u9) (d_73 hp hJ23 t10 (show (0 : Int) ≤ x6 ∧ x6 ≤ 29 by constructor <;> omega) (show (0 : Int) ≤ x4 ∧ x4 ≤ 9 by constructor <;> omega) (show (0 : Int) ≤ x5 ∧ x5 ≤ 99 by constructor <;> omega)) (fun v8 s7 h30 => ?_)
              obtain ⟨h30r, hJ31⟩ := h30
              refine gT_ite (fun h32 => ?_) (fun h33 => ?_)
              · refine gT_map ?_
                exact gT_ret ⟨rfl, trivial, hJ31⟩
              · exact gT_ret ⟨⟨t10, (show (0 : Int) ≤ x1 ∧ x1 ≤ 29 by constructor <;> omega), (show (0 : Int) ≤ x4 ∧ x4 ≤ 9 by constructor <;> omega), (show (0 : Int) ≤ v8 ∧ v8 ≤ 99 by constructor <;> omega), (show (0 : Int) ≤ (g32 (x6 + 1)) ∧ (g32 (x6 + 1)) ≤ 30 by have := g32_eq (v := (x6 + 1)) (by omega) (by omega); constructor <;> omega), (by first | assumption | omega | (dsimp only; omega)), hJ31⟩, by dsimp only; have := g32_eq (v := (x6 + 1)) (by omega) (by omega); omega⟩
        · refine gT_map ?_
          unfold fb_74_63
          refine gT_ite (fun h34 => ?_) (fun h35 => ?_)
          · refine gT_map ?_
            exact gT_ret ⟨rfl, trivial, hJ17⟩
          · refine gT_v1 (A := fun w9 u9 => (0 ≤ w9 ∧ w9 ≤ 99) ∧ J p u9) (d_73 hp hJ17 t10 (show (0 : Int) ≤ x6 ∧ x6 ≤ 29 by constructor <;> omega) (show (0 : Int) ≤ x4 ∧ x4 ≤ 9 by constructor <;> omega) (show (0 : Int) ≤ x5 ∧ x5 ≤ 99 by constructor <;> omega)) (fun v8 s7 h36 => ?_)
            obtain ⟨h36r, hJ37⟩ := h36
            refine gT_ite (fun h38 => ?_) (fun h39 => ?_)
            · refine gT_map ?_
              exact gT_ret ⟨rfl, trivial, hJ37⟩
            · exact gT_ret ⟨⟨t10, (show (0 : Int) ≤ x1 ∧ x1 ≤ 29 by constructor <;> omega), (show (0 : Int) ≤ x4 ∧ x4 ≤ 9 by constructor <;> omega), (show (0 : Int) ≤ v8 ∧ v8 ≤ 99 by constructor <;> omega), (show (0 : Int) ≤ (g32 (x6 + 1)) ∧ (g32 (x6 + 1)) ≤ 30 by have := g32_eq (v := (x6 + 1)) (by omega) (by omega); constructor <;> omega), (by first | assumption | omega | (dsimp only; omega)), hJ37⟩, by dsimp only; have := g32_eq (v := (x6 + 1)) (by omega) (by omega); omega⟩
      · exact ⟨t1, (show (0 : Int) ≤ x1 ∧ x1 ≤ 29 by constructor <;> omega), (show (0 : Int) ≤ x4 ∧ x4 ≤ 9 by constructor <;> omega), (show (0 : Int) ≤ x5 ∧ x5 ≤ 99 by constructor <;> omega), (show (0 : Int) ≤ x6 ∧ x6 ≤ 29 by constructor <;> omega), rfl, rfl, hJ7⟩
  · exact ⟨t0, (show (0 : Int) ≤ a1 ∧ a1 ≤ 29 by constructor <;> omega), (show (0 : Int) ≤ a2 ∧ a2 ≤ 9 by constructor <;> omega), (show (0 : Int) ≤ a3 ∧ a3 ≤ 99 by constructor <;> omega), (show (0 : Int) ≤ 0 ∧ 0 ≤ 30 by constructor <;> omega), rfl, h⟩
-- X11_longest
theorem d_108 {p : gP} {a0 : Nat} {a1 : Int} {a2 : Int} {s : gS} (hp : -1 ≤ p.1 ∧ p.1 ≤ 0) (h : J p s) (t0 : T 11 a0) : gT (f_108 a0 a1 a2 s) (fun r => (r.1 = 1 ∧ True ∧ J p r.2.2.2) ∨ (2 ≤ r.1 ∧ r.1 ≤ 6 ∧ (r.1 = 2 ∨ r.1 = 5) ∧ J p r.2.2.2)) := by
  unfold f_108
  refine gT_t0 (A := fun u9 => (0 ≤ a1 ∧ a1 ≤ 5) ∧ J p u9) (B := fun t9 u9 => (t9 = 5) ∧ J p u9) (d_135 hp h t0) (fun s1 h1 => ?_) (fun t s h1 h2 h3 => Or.inr ⟨h1, h2, by have := h3.1; dsimp only; omega, h3.2⟩)
  obtain ⟨h1e, hJ2⟩ := h1
  refine gT_t0 (A := fun u9 => ((-1) ≤ a2 ∧ a2 ≤ 29) ∧ J p u9) (B := fun t9 u9 => (t9 = 2) ∧ J p u9) (d_138 hp hJ2 t0) (fun s3 h3 => ?_) (fun t s h1 h2 h3 => Or.inr ⟨h1, h2, by have := h3.1; dsimp only; omega, h3.2⟩)
  obtain ⟨h3e, hJ4⟩ := h3
  extract_lets -merge v5
  refine gT_chk (by omega) (by omega) ?_
  have hT5 : T 7 v5 := (T_man (i := (a1 : Int).toNat) hJ4 (T_f (i := 0) hJ4 (T_f (i := 5) hJ4 t0 (by decide) rfl rfl) (by decide) rfl rfl) (by omega))
  refine gT_ite (fun h6 => ?_) (fun h7 => ?_)
  · refine gT_v0 (A := fun u9 => J p u9) (d_23 hp hJ4 (T_f (i := 9) hJ4 t0 (by decide) rfl rfl) (T_f (i := 5) hJ4 t0 (by decide) rfl rfl)) (fun s6 h8 => ?_)
    have hJ9 := h8
    refine gT_v0 (A := fun u9 => J p u9) (d_68 hp hJ9 (T_f (i := 6) hJ9 t0 (by decide) rfl rfl) (T_f (i := 9) hJ9 t0 (by decide) rfl rfl) (show (0 : Int) ≤ a1 ∧ a1 ≤ 5 by constructor <;> omega) (show (0 : Int) ≤ 30 ∧ 30 ≤ 30 by constructor <;> omega)) (fun s8 h10 => ?_)
    have hJ11 := h10
    refine gT_ite (fun h12 => ?_) (fun h13 => ?_)
    · refine gT_v1 (A := fun w9 u9 => True ∧ J p u9) (d_69 hp hJ11 (T_f (i := 6) hJ11 t0 (by decide) rfl rfl) (show (0 : Int) ≤ (gI s8 v5 1) ∧ (gI s8 v5 1) ≤ 9 by have := J_f (i := 1) hJ11 hT5 rfl (by decide) rfl; constructor <;> omega) (show (0 : Int) ≤ (gI s8 v5 0) ∧ (gI s8 v5 0) ≤ 99 by have := J_f (i := 0) hJ11 hT5 rfl (by decide) rfl; constructor <;> omega)) (fun v11 s10 h14 => ?_)
      obtain ⟨h14r, hJ15⟩ := h14
      exact gT_ret (Or.inl ⟨rfl, trivial, hJ15⟩)
    · refine gT_v1 (A := fun w9 u9 => True ∧ J p u9) (d_74 hp hJ11 (T_f (i := 6) hJ11 t0 (by decide) rfl rfl) (show (0 : Int) ≤ a2 ∧ a2 ≤ 29 by constructor <;> omega) (show (0 : Int) ≤ (gI s8 v5 1) ∧ (gI s8 v5 1) ≤ 9 by have := J_f (i := 1) hJ11 hT5 rfl (by decide) rfl; constructor <;> omega) (show (0 : Int) ≤ (gI s8 v5 0) ∧ (gI s8 v5 0) ≤ 99 by have := J_f (i := 0) hJ11 hT5 rfl (by decide) rfl; constructor <;> omega)) (fun v13 s12 h16 => ?_)
      obtain ⟨h16r, hJ17⟩ := h16
      exact gT_ret (Or.inl ⟨rfl, trivial, hJ17⟩)
  · exact gT_ret (Or.inl ⟨rfl, trivial, hJ4⟩)
-- X11_needs
theorem d_109 {p : gP} {a0 : Nat} {a1 : Int} {a2 : Int} {s : gS} (hp : -1 ≤ p.1 ∧ p.1 ≤ 0) (h : J p s) (t0 : T 11 a0) : gT (f_109 a0 a1 a2 s) (fun r => (r.1 = 1 ∧ True ∧ J p r.2.2.2) ∨ (2 ≤ r.1 ∧ r.1 ≤ 6 ∧ (r.1 = 2 ∨ r.1 = 5) ∧ J p r.2.2.2)) := by
  unfold f_109
  refine gT_t0 (A := fun u9 => (0 ≤ a1 ∧ a1 ≤ 5) ∧ J p u9) (B := fun t9 u9 => (t9 = 5) ∧ J p u9) (d_135 hp h t0) (fun s1 h1 => ?_) (fun t s h1 h2 h3 => Or.inr ⟨h1, h2, by have := h3.1; dsimp only; omega, h3.2⟩)
  obtain ⟨h1e, hJ2⟩ := h1
  refine gT_t0 (A := fun u9 => (1 ≤ a2 ∧ a2 ≤ 30) ∧ J p u9) (B := fun t9 u9 => (t9 = 2) ∧ J p u9) (d_138 hp hJ2 t0) (fun s3 h3 => ?_) (fun t s h1 h2 h3 => Or.inr ⟨h1, h2, by have := h3.1; dsimp only; omega, h3.2⟩)
  obtain ⟨h3e, hJ4⟩ := h3
  extract_lets -merge v5
  refine gT_chk (by omega) (by omega) ?_
  have hT5 : T 7 v5 := (T_man (i := (a1 : Int).toNat) hJ4 (T_f (i := 0) hJ4 (T_f (i := 5) hJ4 t0 (by decide) rfl rfl) (by decide) rfl rfl) (by omega))
  refine gT_ite (fun h6 => ?_) (fun h7 => ?_)
  · refine gT_loop (fun y => T 11 y.1 ∧ T 7 y.2.2.2.1 ∧ (0 ≤ y.2.1 ∧ y.2.1 ≤ 5) ∧ (1 ≤ y.2.2.1 ∧ y.2.2.1 ≤ 30) ∧ (0 ≤ y.2.2.2.2.1 ∧ y.2.2.2.2.1 ≤ 10) ∧ y.2.1 = a1 ∧ y.2.2.1 = a2 ∧ J p y.2.2.2.2.2) (fun y => (10 - y.2.2.2.2.1).toNat) (fun y hy => ?_) ?_
    · obtain ⟨x0, x1, x2, x3, x4, s⟩ := y
      obtain ⟨t8, t9, r10, r11, r12, e13, e14, hJ15⟩ := hy
      dsimp only at t8 t9 r10 r11 r12 e13 e14 hJ15
      show gT (sb_109_35 x0 x1 x2 x3 x4 s) _
      unfold sb_109_35
      refine gT_ite (fun h16 => ?_) (fun h17 => ?_)
      · refine gT_v0 (A := fun u9 => J p u9) (d_23 hp hJ15 (T_f (i := 9) hJ15 t8 (by decide) rfl rfl) (T_f (i := 5) hJ15 t8 (by decide) rfl rfl)) (fun s6 h18 => ?_)
        have hJ19 := h18
        extract_lets -merge s8
        refine gT_chk (by omega) (by omega) ?_
        have hJ20 : J p s8 := (J_wf hJ19 (T_man (i := (x1 : Int).toNat) hJ19 (T_f (i := 0) hJ19 (T_f (i := 9) hJ19 t8 (by decide) rfl rfl) (by decide) rfl rfl) (by omega)) rfl (by decide) (by decide) (fun q hq => by cases hq; dsimp only; constructor <;> omega))
        refine gT_v0 (A := fun u9 => J p u9) (d_68 hp hJ20 (T_f (i := 6) hJ20 t8 (by decide) rfl rfl) (T_f (i := 9) hJ20 t8 (by decide) rfl rfl) (show (0 : Int) ≤ x1 ∧ x1 ≤ 5 by constructor <;> omega) (show (0 : Int) ≤ x2 ∧ x2 ≤ 30 by constructor <;> omega)) (fun s9 h21 => ?_)
        have hJ22 := h21
        refine gT_v1 (A := fun w9 u9 => True ∧ J p u9) (d_69 hp hJ22 (T_f (i := 6) hJ22 t8 (by decide) rfl rfl) (show (0 : Int) ≤ x4 ∧ x4 ≤ 9 by constructor <;> omega) (show (0 : Int) ≤ (gI s9 x3 0) ∧ (gI s9 x3 0) ≤ 99 by have := J_f (i := 0) hJ22 t9 rfl (by decide) rfl; constructor <;> omega)) (fun v12 s11 h23 => ?_)
        obtain ⟨h23r, hJ24⟩ := h23
        refine gT_ite (fun h25 => ?_) (fun h26 => ?_)
        · exact gT_ret ⟨⟨t8, t9, (show (0 : Int) ≤ x1 ∧ x1 ≤ 5 by constructor <;> omega), (show (1 : Int) ≤ x2 ∧ x2 ≤ 30 by constructor <;> omega), (show (0 : Int) ≤ (g32 (x4 + 1)) ∧ (g32 (x4 + 1)) ≤ 10 by have := g32_eq (v := (x4 + 1)) (by omega) (by omega); constructor <;> omega), (by first | assumption | omega | (dsimp only; omega)), (by first | assumption | omega | (dsimp only; omega)), hJ24⟩, by dsimp only; have := g32_eq (v := (x4 + 1)) (by omega) (by omega); omega⟩
        · refine gT_map ?_
          exact gT_ret (Or.inl ⟨rfl, trivial, hJ24⟩)
      · refine gT_map ?_
        exact gT_ret (Or.inl ⟨rfl, trivial, hJ15⟩)
    · exact ⟨t0, hT5, (show (0 : Int) ≤ a1 ∧ a1 ≤ 5 by constructor <;> omega), (show (1 : Int) ≤ a2 ∧ a2 ≤ 30 by constructor <;> omega), (show (0 : Int) ≤ 0 ∧ 0 ≤ 10 by constructor <;> omega), rfl, rfl, hJ4⟩
  · exact gT_ret (Or.inl ⟨rfl, trivial, hJ4⟩)
-- X11_seen
theorem d_114 {p : gP} {a0 : Nat} {a1 : Int} {s : gS} (hp : -1 ≤ p.1 ∧ p.1 ≤ 0) (h : J p s) (t0 : T 11 a0) (r1 : 0 ≤ a1 ∧ a1 ≤ 1) : gT (f_114 a0 a1 s) (fun r => (r.1 = 1 ∧ True ∧ J (p.1, 0, p.2.2.1, p.2.2.2.1, p.2.2.2.2) r.2.2.2) ∨ (2 ≤ r.1 ∧ r.1 ≤ 6 ∧ (r.1 = 2) ∧ J (p.1, 0, p.2.2.1, p.2.2.2.1, p.2.2.2.2) r.2.2.2)) := by
  unfold f_114
  refine gT_t1 (A := fun w9 u9 => True ∧ J (p.1, 0, p.2.2.1, p.2.2.2.1, p.2.2.2.2) u9) (B := fun t9 u9 => (t9 = 2) ∧ J (p.1, 0, p.2.2.1, p.2.2.2.1, p.2.2.2.2) u9) (d_142 hp h t0) (fun v2 s1 h1 => ?_) (fun t s h1 h2 h3 => Or.inr ⟨h1, h2, by have := h3.1; dsimp only; omega, h3.2⟩)
  obtain ⟨h1r, hJ2⟩ := h1
  refine gT_ite (fun h3 => ?_) (fun h4 => ?_)
  · refine gT_v1 (A := fun w9 u9 => True ∧ J (p.1, 0, p.2.2.1, p.2.2.2.1, p.2.2.2.2) u9) (d_265 hp hJ2) (fun v4 s3 h5 => ?_)
    obtain ⟨h5r, hJ6⟩ := h5
    exact gT_ret (Or.inl ⟨rfl, trivial, hJ6⟩)
  · refine gT_ite (fun h7 => ?_) (fun h8 => ?_)
    · exact gT_ret (Or.inl ⟨rfl, trivial, hJ2⟩)
    · refine gT_loop (fun y => (1 ≤ y.2.2.1 ∧ y.2.2.1 ≤ 64) ∧ y.1 = v2 ∧ J (p.1, 0, p.2.2.1, p.2.2.2.1, p.2.2.2.2) y.2.2.2) (fun y => (64 - y.2.2.1).toNat) (fun y hy => ?_) ?_
      · obtain ⟨x2, x4, x5, s⟩ := y
        obtain ⟨r9, e10, hJ11⟩ := hy
        dsimp only at r9 e10 hJ11
        show gT (sb_114_29 x2 x4 x5 s) _
        unfold sb_114_29
        refine gT_ite (fun h12 => ?_) (fun h13 => ?_)
        · refine gT_ite (fun h14 => ?_) (fun h15 => ?_)
          · exact gT_ret ⟨⟨(show (1 : Int) ≤ (g32 (x5 + 1)) ∧ (g32 (x5 + 1)) ≤ 64 by have := g32_eq (v := (x5 + 1)) (by omega) (by omega); constructor <;> omega), (by first | assumption | omega | (dsimp only; omega)), hJ11⟩, by dsimp only; have := g32_eq (v := (x5 + 1)) (by omega) (by omega); omega⟩
          · exact gT_ret ⟨⟨(show (1 : Int) ≤ (g32 (x5 + 1)) ∧ (g32 (x5 + 1)) ≤ 64 by have := g32_eq (v := (x5 + 1)) (by omega) (by omega); constructor <;> omega), (by first | assumption | omega | (dsimp only; omega)), hJ11⟩, by dsimp only; have := g32_eq (v := (x5 + 1)) (by omega) (by omega); omega⟩
        · refine gT_map ?_
          exact gT_ret (Or.inl ⟨rfl, trivial, hJ11⟩)
      · exact ⟨(show (1 : Int) ≤ 1 ∧ 1 ≤ 64 by constructor <;> omega), rfl, hJ2⟩
-- X11_ask
theorem d_115 {p : gP} {a0 : Nat} {s : gS} (hp : -1 ≤ p.1 ∧ p.1 ≤ 0) (h : J p s) (t0 : T 11 a0) : gT (f_115 a0 s) (fun r => (r.1 = 1 ∧ True ∧ J (p.1, 0, p.2.2.1, p.2.2.2.1, p.2.2.2.2) r.2.2.2) ∨ (2 ≤ r.1 ∧ r.1 ≤ 6 ∧ (r.1 = 2) ∧ J (p.1, 0, p.2.2.1, p.2.2.2.1, p.2.2.2.2) r.2.2.2)) := by
  unfold f_115
  refine gT_t1 (A := fun w9 u9 => True ∧ J (p.1, 0, p.2.2.1, p.2.2.2.1, p.2.2.2.2) u9) (B := fun t9 u9 => (t9 = 2) ∧ J (p.1, 0, p.2.2.1, p.2.2.2.1, p.2.2.2.2) u9) (d_142 hp h t0) (fun v2 s1 h1 => ?_) (fun t s h1 h2 h3 => Or.inr ⟨h1, h2, by have := h3.1; dsimp only; omega, h3.2⟩)
  obtain ⟨h1r, hJ2⟩ := h1
  refine gT_v1 (A := fun w9 u9 => True ∧ J (p.1, 0, p.2.2.1, p.2.2.2.1, p.2.2.2.2) u9) (d_265 hp hJ2) (fun v4 s3 h3 => ?_)
  obtain ⟨h3r, hJ4⟩ := h3
  refine gT_loop (fun y => T 11 y.1 ∧ (0 ≤ y.2.2.2.2.2.1 ∧ y.2.2.2.2.2.1 ≤ 6) ∧ y.2.1 = v2 ∧ y.2.2.1 = v4 ∧ J (p.1, 0, p.2.2.1, p.2.2.2.1, p.2.2.2.2) y.2.2.2.2.2.2) (fun y => (6 - y.2.2.2.2.2.1).toNat) (fun y hy => ?_) ?_
  · obtain ⟨x0, x1, x3, x4, x5, x6, s⟩ := y
    obtain ⟨t5, r6, e7, e8, hJ9⟩ := hy
    dsimp only at t5 r6 e7 e8 hJ9
    show gT (sb_115_19 x0 x1 x3 x4 x5 x6 s) _
    unfold sb_115_19
    refine gT_ite (fun h10 => ?_) (fun h11 => ?_)
    · have := J_f (i := 6) hJ9 (T_f (i := 4) hJ9 t5 (by decide) rfl rfl) rfl (by decide) rfl
      refine gT_ite (fun h12 => ?_) (fun h13 => ?_)
      · refine gT_map ?_
        exact gT_ret (Or.inl ⟨rfl, trivial, hJ9⟩)
      · refine gT_v1 (A := fun w9 u9 => True ∧ J (p.1, 0, p.2.2.1, p.2.2.2.1, p.2.2.2.2) u9) (d_145 hp hJ9 t5 (show (0 : Int) ≤ x6 ∧ x6 ≤ 5 by constructor <;> omega)) (fun v6 s5 h14 => ?_)
        obtain ⟨h14r, hJ15⟩ := h14
        extract_lets -merge v7
        have hv16 : v7 = (max v6 (g32 (x3 - v6))) := rfl
        refine gT_ite (fun h17 => ?_) (fun h18 => ?_)
        · unfold fb_115_69
          exact gT_ret ⟨⟨t5, (show (0 : Int) ≤ (g32 (x6 + 1)) ∧ (g32 (x6 + 1)) ≤ 6 by have := g32_eq (v := (x6 + 1)) (by omega) (by omega); constructor <;> omega), (by first | assumption | omega | (dsimp only; omega)), (by first | assumption | omega | (dsimp only; omega)), hJ15⟩, by dsimp only; have := g32_eq (v := (x6 + 1)) (by omega) (by omega); omega⟩
        · refine gT_ite (fun h19 => ?_) (fun h20 => ?_)
          · unfold fb_115_69
            exact gT_ret ⟨⟨t5, (show (0 : Int) ≤ (g32 (x6 + 1)) ∧ (g32 (x6 + 1)) ≤ 6 by have := g32_eq (v := (x6 + 1)) (by omega) (by omega); constructor <;> omega), (by first | assumption | omega | (dsimp only; omega)), (by first | assumption | omega | (dsimp only; omega)), hJ15⟩, by dsimp only; have := g32_eq (v := (x6 + 1)) (by omega) (by omega); omega⟩
          · exact gT_ret ⟨⟨t5, (show (0 : Int) ≤ (g32 (x6 + 1)) ∧ (g32 (x6 + 1)) ≤ 6 by have := g32_eq (v := (x6 + 1)) (by omega) (by omega); constructor <;> omega), (by first | assumption | omega | (dsimp only; omega)), (by first | assumption | omega | (dsimp only; omega)), hJ15⟩, by dsimp only; have := g32_eq (v := (x6 + 1)) (by omega) (by omega); omega⟩
    · have := J_f (i := 6) hJ9 (T_f (i := 4) hJ9 t5 (by decide) rfl rfl) rfl (by decide) rfl
      refine gT_map ?_
      exact gT_ret (Or.inl ⟨rfl, trivial, hJ9⟩)
  · exact ⟨t0, (show (0 : Int) ≤ 0 ∧ 0 ≤ 6 by constructor <;> omega), rfl, rfl, hJ4⟩
-- L_proof
theorem d_282 {p : gP} {a0 : Nat} {a1 : Int} {a2 : Nat} {s : gS} (hp : -1 ≤ p.1 ∧ p.1 ≤ 0) (h : J p s) (t0 : T 11 a0) (t2 : T 109 a2) : gT (f_282 a0 a1 a2 s) (fun r => r.1 = 1 ∧ True ∧ J p r.2.2.2) := by
  unfold f_282
  refine gT_c1 (A := fun w9 u9 => True ∧ J p u9) (B := fun t9 u9 => (t9 = 5 ∨ t9 = 6) ∧ J p u9) (d_96 hp h t0) (fun v2 s1 h1 => ?_) (fun k s1 hk hB => ?_)
  · obtain ⟨h1r, hJ2⟩ := h1
    extract_lets -merge s3
    refine gT_chk (by omega) (by omega) ?_
    have hJ3 : J p s3 := (J_wa hJ2 t2 rfl)
    exact gT_ret ⟨rfl, trivial, hJ3⟩
  · obtain ⟨ht, hJt⟩ := hB
    refine gT_ite (fun h4 => ?_) (fun h5 => ?_)
    · exact gT_ret ⟨rfl, trivial, hJt⟩
    · refine gT_ite (fun h6 => ?_) (fun h7 => ?_)
      · exact gT_ret ⟨rfl, trivial, hJt⟩
      · exfalso; omega
-- L_longest
theorem d_294 {p : gP} {a0 : Nat} {a1 : Int} {a2 : Int} {a3 : Nat} {s : gS} (hp : -1 ≤ p.1 ∧ p.1 ≤ 0) (h : J p s) (t0 : T 11 a0) (t3 : T 109 a3) : gT (f_294 a0 a1 a2 a3 s) (fun r => r.1 = 1 ∧ True ∧ J p r.2.2.2) := by
  unfold f_294
  refine gT_c1 (A := fun w9 u9 => True ∧ J p u9) (B := fun t9 u9 => (t9 = 2 ∨ t9 = 5) ∧ J p u9) (d_108 hp h t0) (fun v2 s1 h1 => ?_) (fun k s1 hk hB => ?_)
  · obtain ⟨h1r, hJ2⟩ := h1
    extract_lets -merge s3
    refine gT_chk (by omega) (by omega) ?_
    have hJ3 : J p s3 := (J_wa hJ2 t3 rfl)
    exact gT_ret ⟨rfl, trivial, hJ3⟩
  · obtain ⟨ht, hJt⟩ := hB
    refine gT_ite (fun h4 => ?_) (fun h5 => ?_)
    · exact gT_ret ⟨rfl, trivial, hJt⟩
    · refine gT_ite (fun h6 => ?_) (fun h7 => ?_)
      · exact gT_ret ⟨rfl, trivial, hJt⟩
      · exfalso; omega
-- L_needs
theorem d_295 {p : gP} {a0 : Nat} {a1 : Int} {a2 : Int} {a3 : Nat} {s : gS} (hp : -1 ≤ p.1 ∧ p.1 ≤ 0) (h : J p s) (t0 : T 11 a0) (t3 : T 109 a3) : gT (f_295 a0 a1 a2 a3 s) (fun r => r.1 = 1 ∧ True ∧ J p r.2.2.2) := by
  unfold f_295
  refine gT_c1 (A := fun w9 u9 => True ∧ J p u9) (B := fun t9 u9 => (t9 = 2 ∨ t9 = 5) ∧ J p u9) (d_109 hp h t0) (fun v2 s1 h1 => ?_) (fun k s1 hk hB => ?_)
  · obtain ⟨h1r, hJ2⟩ := h1
    extract_lets -merge s3
    refine gT_chk (by omega) (by omega) ?_
    have hJ3 : J p s3 := (J_wa hJ2 t3 rfl)
    exact gT_ret ⟨rfl, trivial, hJ3⟩
  · obtain ⟨ht, hJt⟩ := hB
    refine gT_ite (fun h4 => ?_) (fun h5 => ?_)
    · exact gT_ret ⟨rfl, trivial, hJt⟩
    · refine gT_ite (fun h6 => ?_) (fun h7 => ?_)
      · exact gT_ret ⟨rfl, trivial, hJt⟩
      · exfalso; omega
-- L_seen
theorem d_300 {p : gP} {a0 : Nat} {a1 : Int} {a2 : Nat} {s : gS} (hp : -1 ≤ p.1 ∧ p.1 ≤ 0) (h : J p s) (t0 : T 11 a0) (t2 : T 109 a2) (r1 : 0 ≤ a1 ∧ a1 ≤ 1) : gT (f_300 a0 a1 a2 s) (fun r => r.1 = 1 ∧ True ∧ J (p.1, 0, p.2.2.1, p.2.2.2.1, p.2.2.2.2) r.2.2.2) := by
  unfold f_300
  refine gT_c1 (A := fun w9 u9 => True ∧ J (p.1, 0, p.2.2.1, p.2.2.2.1, p.2.2.2.2) u9) (B := fun t9 u9 => (t9 = 2) ∧ J (p.1, 0, p.2.2.1, p.2.2.2.1, p.2.2.2.2) u9) (d_114 hp h t0 (show (0 : Int) ≤ a1 ∧ a1 ≤ 1 by constructor <;> omega)) (fun v2 s1 h1 => ?_) (fun k s1 hk hB => ?_)
  · obtain ⟨h1r, hJ2⟩ := h1
    extract_lets -merge s3
    refine gT_chk (by omega) (by omega) ?_
    have hJ3 : J (p.1, 0, p.2.2.1, p.2.2.2.1, p.2.2.2.2) s3 := (J_wa hJ2 t2 rfl)
    exact gT_ret ⟨rfl, trivial, hJ3⟩
  · obtain ⟨ht, hJt⟩ := hB
    refine gT_ite (fun h4 => ?_) (fun h5 => ?_)
    · exact gT_ret ⟨rfl, trivial, hJt⟩
    · exfalso; omega
-- L_ask
theorem d_301 {p : gP} {a0 : Nat} {a1 : Nat} {s : gS} (hp : -1 ≤ p.1 ∧ p.1 ≤ 0) (h : J p s) (t0 : T 11 a0) (t1 : T 109 a1) : gT (f_301 a0 a1 s) (fun r => r.1 = 1 ∧ True ∧ J (p.1, 0, p.2.2.1, p.2.2.2.1, p.2.2.2.2) r.2.2.2) := by
  unfold f_301
  refine gT_c1 (A := fun w9 u9 => True ∧ J (p.1, 0, p.2.2.1, p.2.2.2.1, p.2.2.2.2) u9) (B := fun t9 u9 => (t9 = 2) ∧ J (p.1, 0, p.2.2.1, p.2.2.2.1, p.2.2.2.2) u9) (d_115 hp h t0) (fun v2 s1 h1 => ?_) (fun k s1 hk hB => ?_)
  · obtain ⟨h1r, hJ2⟩ := h1
    extract_lets -merge s3
    refine gT_chk (by omega) (by omega) ?_
    have hJ3 : J (p.1, 0, p.2.2.1, p.2.2.2.1, p.2.2.2.2) s3 := (J_wa hJ2 t1 rfl)
    exact gT_ret ⟨rfl, trivial, hJ3⟩
  · obtain ⟨ht, hJt⟩ := hB
    refine gT_ite (fun h4 => ?_) (fun h5 => ?_)
    · exact gT_ret ⟨rfl, trivial, hJt⟩
    · exfalso; omega
-- L_odds
theorem d_303 {p : gP} {a0 : Nat} {a1 : Int} {a2 : Int} {a3 : Nat} {s : gS} (hp : -1 ≤ p.1 ∧ p.1 ≤ 0) (h : J p s) (t0 : T 11 a0) (t3 : T 109 a3) : gT (f_303 a0 a1 a2 a3 s) (fun r => r.1 = 1 ∧ True ∧ J p r.2.2.2) := by
  unfold f_303
  refine gT_c1 (A := fun w9 u9 => True ∧ J p u9) (B := fun t9 u9 => (t9 = 2) ∧ J p u9) (d_117 hp h t0) (fun v2 s1 h1 => ?_) (fun k s1 hk hB => ?_)
  · obtain ⟨h1r, hJ2⟩ := h1
    extract_lets -merge s3
    refine gT_chk (by omega) (by omega) ?_
    have hJ3 : J p s3 := (J_wa hJ2 t3 rfl)
    exact gT_ret ⟨rfl, trivial, hJ3⟩
  · obtain ⟨ht, hJt⟩ := hB
    refine gT_ite (fun h4 => ?_) (fun h5 => ?_)
    · exact gT_ret ⟨rfl, trivial, hJt⟩
    · exfalso; omega
