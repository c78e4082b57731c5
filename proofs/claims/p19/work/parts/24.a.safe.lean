-- J0_coder_7d493
-- J0_isLatin1_aae02
-- J0_length_8abf5
-- X0_addStep
theorem d_2 {p : gP} {a0 : Nat} {a1 : Int} {a2 : Int} {a3 : Int} {s : gS} (hp : -1 ≤ p.1 ∧ p.1 ≤ 0) (h : J p s) (t0 : T 0 a0) : gT (f_2 a0 a1 a2 a3 s) (fun r => r.1 = 0 ∧ J p r.2.2.2) := by
  unfold f_2
  extract_lets -merge s1 s2 s3 s4
  refine gT_ite (fun h1 => ?_) (fun h2 => ?_)
  · have := J_f (i := 5) h t0 rfl (by decide) rfl
    refine gT_chk (by have := J_f (i := 5) h t0 rfl (by decide) rfl; omega) (by have := J_f (i := 5) h t0 rfl (by decide) rfl; omega) ?_
    have hJ3 : J p s1 := (J_wa h (T_f (i := 0) h t0 (by decide) rfl rfl) rfl)
    refine gT_chk (by have := rd_T (a := a0) (k := 5) (show s1 = (gw s (gR s a0 0) ((gI s a0 5) : Int).toNat a1) from rfl) t0 (T_f (i := 0) h t0 (by decide) rfl rfl) (by decide); have := J_f (i := 5) h t0 rfl (by decide) rfl; omega) (by have := rd_T (a := a0) (k := 5) (show s1 = (gw s (gR s a0 0) ((gI s a0 5) : Int).toNat a1) from rfl) t0 (T_f (i := 0) h t0 (by decide) rfl rfl) (by decide); have := J_f (i := 5) h t0 rfl (by decide) rfl; omega) ?_
    have hJ4 : J p s2 := (J_wa hJ3 (T_f (i := 1) hJ3 t0 (by decide) rfl rfl) rfl)
    refine gT_chk (by have := rd_T (a := a0) (k := 5) (show s2 = (gw s1 (gR s1 a0 1) ((gI s1 a0 5) : Int).toNat a2) from rfl) t0 (T_f (i := 1) hJ3 t0 (by decide) rfl rfl) (by decide); have := rd_T (a := a0) (k := 5) (show s1 = (gw s (gR s a0 0) ((gI s a0 5) : Int).toNat a1) from rfl) t0 (T_f (i := 0) h t0 (by decide) rfl rfl) (by decide); have := J_f (i := 5) h t0 rfl (by decide) rfl; omega) (by have := rd_T (a := a0) (k := 5) (show s2 = (gw s1 (gR s1 a0 1) ((gI s1 a0 5) : Int).toNat a2) from rfl) t0 (T_f (i := 1) hJ3 t0 (by decide) rfl rfl) (by decide); have := rd_T (a := a0) (k := 5) (show s1 = (gw s (gR s a0 0) ((gI s a0 5) : Int).toNat a1) from rfl) t0 (T_f (i := 0) h t0 (by decide) rfl rfl) (by decide); have := J_f (i := 5) h t0 rfl (by decide) rfl; omega) ?_
    have hJ5 : J p s3 := (J_wa hJ4 (T_f (i := 2) hJ4 t0 (by decide) rfl rfl) rfl)
    have hJ6 : J p s4 := (J_wf hJ5 t0 rfl (by decide) (by decide) (fun q hq => by cases hq; dsimp only; have := rd_T (a := a0) (k := 5) (show s3 = (gw s2 (gR s2 a0 2) ((gI s2 a0 5) : Int).toNat a3) from rfl) t0 (T_f (i := 2) hJ4 t0 (by decide) rfl rfl) (by decide); have := rd_T (a := a0) (k := 5) (show s2 = (gw s1 (gR s1 a0 1) ((gI s1 a0 5) : Int).toNat a2) from rfl) t0 (T_f (i := 1) hJ3 t0 (by decide) rfl rfl) (by decide); have := rd_T (a := a0) (k := 5) (show s1 = (gw s (gR s a0 0) ((gI s a0 5) : Int).toNat a1) from rfl) t0 (T_f (i := 0) h t0 (by decide) rfl rfl) (by decide); have := J_f (i := 5) h t0 rfl (by decide) rfl; have := g32_eq (v := ((gI s3 a0 5) + 1)) (by omega) (by omega); constructor <;> omega))
    exact gT_ret ⟨rfl, hJ6⟩
  · have := J_f (i := 5) h t0 rfl (by decide) rfl
    exact gT_ret ⟨rfl, h⟩
-- X0_addTest
theorem d_3 {p : gP} {a0 : Nat} {a1 : Int} {a2 : Int} {s : gS} (hp : -1 ≤ p.1 ∧ p.1 ≤ 0) (h : J p s) (t0 : T 0 a0) : gT (f_3 a0 a1 a2 s) (fun r => r.1 = 0 ∧ J p r.2.2.2) := by
  unfold f_3
  extract_lets -merge s1 s2 s3
  refine gT_ite (fun h1 => ?_) (fun h2 => ?_)
  · have := J_f (i := 6) h t0 rfl (by decide) rfl
    refine gT_chk (by have := J_f (i := 6) h t0 rfl (by decide) rfl; omega) (by have := J_f (i := 6) h t0 rfl (by decide) rfl; omega) ?_
    have hJ3 : J p s1 := (J_wa h (T_f (i := 3) h t0 (by decide) rfl rfl) rfl)
    refine gT_chk (by have := rd_T (a := a0) (k := 6) (show s1 = (gw s (gR s a0 3) ((gI s a0 6) : Int).toNat a1) from rfl) t0 (T_f (i := 3) h t0 (by decide) rfl rfl) (by decide); have := J_f (i := 6) h t0 rfl (by decide) rfl; omega) (by have := rd_T (a := a0) (k := 6) (show s1 = (gw s (gR s a0 3) ((gI s a0 6) : Int).toNat a1) from rfl) t0 (T_f (i := 3) h t0 (by decide) rfl rfl) (by decide); have := J_f (i := 6) h t0 rfl (by decide) rfl; omega) ?_
    have hJ4 : J p s2 := (J_wa hJ3 (T_f (i := 4) hJ3 t0 (by decide) rfl rfl) rfl)
    have hJ5 : J p s3 := (J_wf hJ4 t0 rfl (by decide) (by decide) (fun q hq => by cases hq; dsimp only; have := rd_T (a := a0) (k := 6) (show s2 = (gw s1 (gR s1 a0 4) ((gI s1 a0 6) : Int).toNat a2) from rfl) t0 (T_f (i := 4) hJ3 t0 (by decide) rfl rfl) (by decide); have := rd_T (a := a0) (k := 6) (show s1 = (gw s (gR s a0 3) ((gI s a0 6) : Int).toNat a1) from rfl) t0 (T_f (i := 3) h t0 (by decide) rfl rfl) (by decide); have := J_f (i := 6) h t0 rfl (by decide) rfl; have := g32_eq (v := ((gI s2 a0 6) + 1)) (by omega) (by omega); constructor <;> omega))
    exact gT_ret ⟨rfl, hJ5⟩
  · have := J_f (i := 6) h t0 rfl (by decide) rfl
    exact gT_ret ⟨rfl, h⟩
-- X0_catches
theorem d_4 {p : gP} {a0 : Nat} {a1 : Int} {a2 : Int} {s : gS} (hp : -1 ≤ p.1 ∧ p.1 ≤ 0) (h : J p s) (t0 : T 0 a0) (r1 : 0 ≤ a1 ∧ a1 ≤ 5) : gT (f_4 a0 a1 a2 s) (fun r => r.1 = 1 ∧ (0 ≤ r.2.1 ∧ r.2.1 ≤ 1) ∧ J p r.2.2.2) := by
  unfold f_4
  refine gT_chk (by omega) (by omega) ?_
  refine gT_ite (fun h1 => ?_) (fun h2 => ?_)
  · exact gT_ret ⟨rfl, (by dsimp only; constructor <;> omega), h⟩
  · exact gT_ret ⟨rfl, (by dsimp only; constructor <;> omega), h⟩
-- X0_stopsAll
theorem d_5 {p : gP} {a0 : Nat} {a1 : Int} {a2 : Int} {s : gS} (hp : -1 ≤ p.1 ∧ p.1 ≤ 0) (h : J p s) (t0 : T 0 a0) : gT (f_5 a0 a1 a2 s) (fun r => r.1 = 1 ∧ (0 ≤ r.2.1 ∧ r.2.1 ≤ 1) ∧ J p r.2.2.2) := by
  unfold f_5
  refine gT_loop (fun y => T 0 y.1 ∧ (0 ≤ y.2.2.2.1 ∧ y.2.2.2.1 ≤ 6) ∧ y.2.1 = a1 ∧ J p y.2.2.2.2) (fun y => (6 - y.2.2.2.1).toNat) (fun y hy => ?_) ?_
  · obtain ⟨x0, x1, x3, x4, s⟩ := y
    obtain ⟨t1, r2, e3, hJ4⟩ := hy
    dsimp only at t1 r2 e3 hJ4
    show gT (sb_5_5 x0 x1 x3 x4 s) _
    unfold sb_5_5
    extract_lets -merge v1
    refine gT_ite (fun h5 => ?_) (fun h6 => ?_)
    · have := J_f (i := 6) hJ4 t1 rfl (by decide) rfl
      refine gT_ite (fun h7 => ?_) (fun h8 => ?_)
      · have := gand_le (x := (gshr x1 x4)) (m := 1) (by omega) (by omega)
        exact gT_ret ⟨⟨t1, (show (0 : Int) ≤ (g32 (x4 + 1)) ∧ (g32 (x4 + 1)) ≤ 6 by have := g32_eq (v := (x4 + 1)) (by omega) (by omega); constructor <;> omega), (by first | assumption | omega | (dsimp only; omega)), hJ4⟩, by dsimp only; have := g32_eq (v := (x4 + 1)) (by omega) (by omega); omega⟩
      · have := gand_le (x := (gshr x1 x4)) (m := 1) (by omega) (by omega)
        refine gT_chk (by omega) (by omega) ?_
        have hv9 : v1 = (gand x3 (gxor (gI s (gR s x0 4) (x4 : Int).toNat) (-1))) := rfl
        exact gT_ret ⟨⟨t1, (show (0 : Int) ≤ (g32 (x4 + 1)) ∧ (g32 (x4 + 1)) ≤ 6 by have := g32_eq (v := (x4 + 1)) (by omega) (by omega); constructor <;> omega), (by first | assumption | omega | (dsimp only; omega)), hJ4⟩, by dsimp only; have := g32_eq (v := (x4 + 1)) (by omega) (by omega); omega⟩
    · have := J_f (i := 6) hJ4 t1 rfl (by decide) rfl
      refine gT_map ?_
      refine gT_ite (fun h10 => ?_) (fun h11 => ?_)
      · exact gT_ret ⟨rfl, (by dsimp only; constructor <;> omega), hJ4⟩
      · exact gT_ret ⟨rfl, (by dsimp only; constructor <;> omega), hJ4⟩
  · exact ⟨t0, (show (0 : Int) ≤ 0 ∧ 0 ≤ 6 by constructor <;> omega), rfl, h⟩
-- X0_costOfTests
theorem d_6 {p : gP} {a0 : Nat} {a1 : Int} {s : gS} (hp : -1 ≤ p.1 ∧ p.1 ≤ 0) (h : J p s) (t0 : T 0 a0) : gT (f_6 a0 a1 s) (fun r => r.1 = 1 ∧ True ∧ J p r.2.2.2) := by
  unfold f_6
  refine gT_loop (fun y => T 0 y.1 ∧ (0 ≤ y.2.2.2.1 ∧ y.2.2.2.1 ≤ 6) ∧ y.2.1 = a1 ∧ J p y.2.2.2.2) (fun y => (6 - y.2.2.2.1).toNat) (fun y hy => ?_) ?_
  · obtain ⟨x0, x1, x2, x3, s⟩ := y
    obtain ⟨t1, r2, e3, hJ4⟩ := hy
    dsimp only at t1 r2 e3 hJ4
    show gT (sb_6_4 x0 x1 x2 x3 s) _
    unfold sb_6_4
    extract_lets -merge v1
    refine gT_ite (fun h5 => ?_) (fun h6 => ?_)
    · have := J_f (i := 6) hJ4 t1 rfl (by decide) rfl
      refine gT_ite (fun h7 => ?_) (fun h8 => ?_)
      · have := gand_le (x := (gshr x1 x3)) (m := 1) (by omega) (by omega)
        exact gT_ret ⟨⟨t1, (show (0 : Int) ≤ (g32 (x3 + 1)) ∧ (g32 (x3 + 1)) ≤ 6 by have := g32_eq (v := (x3 + 1)) (by omega) (by omega); constructor <;> omega), (by first | assumption | omega | (dsimp only; omega)), hJ4⟩, by dsimp only; have := g32_eq (v := (x3 + 1)) (by omega) (by omega); omega⟩
      · have := gand_le (x := (gshr x1 x3)) (m := 1) (by omega) (by omega)
        refine gT_chk (by omega) (by omega) ?_
        have hv9 : v1 = (g32 (x2 + (gI s (gR s x0 3) (x3 : Int).toNat))) := rfl
        exact gT_ret ⟨⟨t1, (show (0 : Int) ≤ (g32 (x3 + 1)) ∧ (g32 (x3 + 1)) ≤ 6 by have := g32_eq (v := (x3 + 1)) (by omega) (by omega); constructor <;> omega), (by first | assumption | omega | (dsimp only; omega)), hJ4⟩, by dsimp only; have := g32_eq (v := (x3 + 1)) (by omega) (by omega); omega⟩
    · have := J_f (i := 6) hJ4 t1 rfl (by decide) rfl
      refine gT_map ?_
      exact gT_ret ⟨rfl, trivial, hJ4⟩
  · exact ⟨t0, (show (0 : Int) ≤ 0 ∧ 0 ≤ 6 by constructor <;> omega), rfl, h⟩
-- X0_outlayOf
theorem d_7 {p : gP} {a0 : Nat} {a1 : Nat} {s : gS} (hp : -1 ≤ p.1 ∧ p.1 ≤ 0) (h : J p s) (t0 : T 0 a0) (t1 : T 7 a1) : gT (f_7 a0 a1 s) (fun r => r.1 = 1 ∧ True ∧ J p r.2.2.2) := by
  unfold f_7
  refine gT_ite (fun h1 => ?_) (fun h2 => ?_)
  · unfold fb_7_22
    refine gT_loop (fun y => T 0 y.1 ∧ (1 ≤ y.2.2.1 ∧ y.2.2.1 ≤ 9) ∧ J p y.2.2.2) (fun y => (9 - y.2.2.1).toNat) (fun y hy => ?_) ?_
    · obtain ⟨x0, x2, x3, s⟩ := y
      obtain ⟨t3, r4, hJ5⟩ := hy
      dsimp only at t3 r4 hJ5
      show gT (sb_7_23 x0 x2 x3 s) _
      unfold sb_7_23
      extract_lets -merge v1
      refine gT_ite (fun h6 => ?_) (fun h7 => ?_)
      · have := J_f (i := 5) hJ5 t3 rfl (by decide) rfl
        refine gT_chk (by omega) (by omega) ?_
        have hv8 : v1 = (g32 (x2 + (gI s (gR s x0 1) (x3 : Int).toNat))) := rfl
        exact gT_ret ⟨⟨t3, (show (1 : Int) ≤ (g32 (x3 + 1)) ∧ (g32 (x3 + 1)) ≤ 9 by have := g32_eq (v := (x3 + 1)) (by omega) (by omega); constructor <;> omega), hJ5⟩, by dsimp only; have := g32_eq (v := (x3 + 1)) (by omega) (by omega); omega⟩
      · have := J_f (i := 5) hJ5 t3 rfl (by decide) rfl
        refine gT_map ?_
        exact gT_ret ⟨rfl, trivial, hJ5⟩
    · exact ⟨t0, (show (1 : Int) ≤ (g32 ((gI s a1 3) + 1)) ∧ (g32 ((gI s a1 3) + 1)) ≤ 9 by have := J_f (i := 3) h t1 rfl (by decide) rfl; have := g32_eq (v := ((gI s a1 3) + 1)) (by omega) (by omega); constructor <;> omega), h⟩
  · unfold fb_7_22
    refine gT_loop (fun y => T 0 y.1 ∧ (0 ≤ y.2.2.1 ∧ y.2.2.1 ≤ 8) ∧ J p y.2.2.2) (fun y => (8 - y.2.2.1).toNat) (fun y hy => ?_) ?_
    · obtain ⟨x0, x2, x3, s⟩ := y
      obtain ⟨t9, r10, hJ11⟩ := hy
      dsimp only at t9 r10 hJ11
      show gT (sb_7_23 x0 x2 x3 s) _
      unfold sb_7_23
      extract_lets -merge v1
      refine gT_ite (fun h12 => ?_) (fun h13 => ?_)
      · have := J_f (i := 5) hJ11 t9 rfl (by decide) rfl
        refine gT_chk (by omega) (by omega) ?_
        have hv14 : v1 = (g32 (x2 + (gI s (gR s x0 1) (x3 : Int).toNat))) := rfl
        exact gT_ret ⟨⟨t9, (show (0 : Int) ≤ (g32 (x3 + 1)) ∧ (g32 (x3 + 1)) ≤ 8 by have := g32_eq (v := (x3 + 1)) (by omega) (by omega); constructor <;> omega), hJ11⟩, by dsimp only; have := g32_eq (v := (x3 + 1)) (by omega) (by omega); omega⟩
      · have := J_f (i := 5) hJ11 t9 rfl (by decide) rfl
        refine gT_map ?_
        exact gT_ret ⟨rfl, trivial, hJ11⟩
    · exact ⟨t0, (show (0 : Int) ≤ (gI s a1 3) ∧ (gI s a1 3) ≤ 8 by have := J_f (i := 3) h t1 rfl (by decide) rfl; constructor <;> omega), h⟩
-- X0_daysLeftOf
theorem d_8 {p : gP} {a0 : Nat} {a1 : Nat} {s : gS} (hp : -1 ≤ p.1 ∧ p.1 ≤ 0) (h : J p s) (t0 : T 0 a0) (t1 : T 7 a1) : gT (f_8 a0 a1 s) (fun r => r.1 = 1 ∧ True ∧ J p r.2.2.2) := by
  unfold f_8
  extract_lets -merge v1
  have hv1 : v1 = (g32 (-(gI s a1 4))) := rfl
  refine gT_loop (fun y => T 0 y.1 ∧ (0 ≤ y.2.2.1 ∧ y.2.2.1 ≤ 8) ∧ J p y.2.2.2) (fun y => (8 - y.2.2.1).toNat) (fun y hy => ?_) ?_
  · obtain ⟨x0, x2, x3, s⟩ := y
    obtain ⟨t2, r3, hJ4⟩ := hy
    dsimp only at t2 r3 hJ4
    show gT (sb_8_11 x0 x2 x3 s) _
    unfold sb_8_11
    extract_lets -merge v2
    refine gT_ite (fun h5 => ?_) (fun h6 => ?_)
    · have := J_f (i := 5) hJ4 t2 rfl (by decide) rfl
      refine gT_chk (by omega) (by omega) ?_
      have hv7 : v2 = (g32 (x2 + (gI s (gR s x0 0) (x3 : Int).toNat))) := rfl
      exact gT_ret ⟨⟨t2, (show (0 : Int) ≤ (g32 (x3 + 1)) ∧ (g32 (x3 + 1)) ≤ 8 by have := g32_eq (v := (x3 + 1)) (by omega) (by omega); constructor <;> omega), hJ4⟩, by dsimp only; have := g32_eq (v := (x3 + 1)) (by omega) (by omega); omega⟩
    · have := J_f (i := 5) hJ4 t2 rfl (by decide) rfl
      refine gT_map ?_
      exact gT_ret ⟨rfl, trivial, hJ4⟩
  · exact ⟨t0, (show (0 : Int) ≤ (gI s a1 3) ∧ (gI s a1 3) ≤ 8 by have := J_f (i := 3) h t1 rfl (by decide) rfl; constructor <;> omega), h⟩
-- X0_showsLeftOf
theorem d_9 {p : gP} {a0 : Nat} {a1 : Nat} {s : gS} (hp : -1 ≤ p.1 ∧ p.1 ≤ 0) (h : J p s) (t0 : T 0 a0) (t1 : T 7 a1) : gT (f_9 a0 a1 s) (fun r => r.1 = 1 ∧ True ∧ J p r.2.2.2) := by
  unfold f_9
  refine gT_loop (fun y => T 0 y.1 ∧ (0 ≤ y.2.2.1 ∧ y.2.2.1 ≤ 8) ∧ J p y.2.2.2) (fun y => (8 - y.2.2.1).toNat) (fun y hy => ?_) ?_
  · obtain ⟨x0, x2, x3, s⟩ := y
    obtain ⟨t1, r2, hJ3⟩ := hy
    dsimp only at t1 r2 hJ3
    show gT (sb_9_7 x0 x2 x3 s) _
    unfold sb_9_7
    extract_lets -merge v1
    refine gT_ite (fun h4 => ?_) (fun h5 => ?_)
    · have := J_f (i := 5) hJ3 t1 rfl (by decide) rfl
      refine gT_chk (by omega) (by omega) ?_
      have hv6 : v1 = (g32 (x2 + (gI s (gR s x0 2) (x3 : Int).toNat))) := rfl
      exact gT_ret ⟨⟨t1, (show (0 : Int) ≤ (g32 (x3 + 1)) ∧ (g32 (x3 + 1)) ≤ 8 by have := g32_eq (v := (x3 + 1)) (by omega) (by omega); constructor <;> omega), hJ3⟩, by dsimp only; have := g32_eq (v := (x3 + 1)) (by omega) (by omega); omega⟩
    · have := J_f (i := 5) hJ3 t1 rfl (by decide) rfl
      refine gT_map ?_
      exact gT_ret ⟨rfl, trivial, hJ3⟩
  · exact ⟨t0, (show (0 : Int) ≤ (gI s a1 3) ∧ (gI s a1 3) ≤ 8 by have := J_f (i := 3) h t1 rfl (by decide) rfl; constructor <;> omega), h⟩
-- X10_rewind
theorem d_77 {p : gP} {a0 : Nat} {s : gS} (hp : -1 ≤ p.1 ∧ p.1 ≤ 0) (h : J p s) (t0 : T 10 a0) : gT (f_77 a0 s) (fun r => r.1 = 0 ∧ J p r.2.2.2) := by
  unfold f_77
  extract_lets -merge s1
  have hJ1 : J p s1 := (J_wf h t0 rfl (by decide) (by decide) (fun q hq => by cases hq; dsimp only; constructor <;> omega))
  refine gT_v0 (A := fun u9 => J p u9) (d_78 hp hJ1 t0) (fun s2 h2 => ?_)
  have hJ3 := h2
  exact gT_ret ⟨rfl, hJ3⟩
-- X10_atEnd
theorem d_79 {p : gP} {a0 : Nat} {s : gS} (hp : -1 ≤ p.1 ∧ p.1 ≤ 0) (h : J p s) (t0 : T 10 a0) : gT (f_79 a0 s) (fun r => r.1 = 1 ∧ (0 ≤ r.2.1 ∧ r.2.1 ≤ 1) ∧ J p r.2.2.2) := by
  unfold f_79
  refine gT_ite (fun h1 => ?_) (fun h2 => ?_)
  · exact gT_ret ⟨rfl, (by dsimp only; constructor <;> omega), h⟩
  · exact gT_ret ⟨rfl, (by dsimp only; constructor <;> omega), h⟩
-- X10_takeWord
theorem d_82 {p : gP} {a0 : Nat} {a1 : Nat} {s : gS} (hp : -1 ≤ p.1 ∧ p.1 ≤ 0) (h : J p s) (t0 : T 10 a0) : gT (f_82 a0 a1 s) (fun r => r.1 = 1 ∧ (0 ≤ r.2.1 ∧ r.2.1 ≤ 1) ∧ J p r.2.2.2) := by
  unfold f_82
  refine gT_v1 (A := fun w9 u9 => (0 ≤ w9 ∧ w9 ≤ 1) ∧ J p u9) (d_80 hp h t0) (fun v2 s1 h1 => ?_)
  obtain ⟨h1r, hJ2⟩ := h1
  refine gT_ite (fun h3 => ?_) (fun h4 => ?_)
  · exact gT_ret ⟨rfl, (by dsimp only; constructor <;> omega), hJ2⟩
  · refine gT_v0 (A := fun u9 => J p u9) (d_78 hp hJ2 t0) (fun s4 h5 => ?_)
    have hJ6 := h5
    exact gT_ret ⟨rfl, (by dsimp only; constructor <;> omega), hJ6⟩
-- X10_takeNumber
theorem d_84 {p : gP} {a0 : Nat} {a1 : Int} {a2 : Int} {s : gS} (hp : -1 ≤ p.1 ∧ p.1 ≤ 0) (h : J p s) (t0 : T 10 a0) : gT (f_84 a0 a1 a2 s) (fun r => r.1 = 1 ∧ (r.2.1 = -1 ∨ (a1 ≤ r.2.1 ∧ r.2.1 ≤ a2)) ∧ True ∧ J p r.2.2.2) := by
  unfold f_84
  refine gT_ite (fun h1 => ?_) (fun h2 => ?_)
  · refine gT_ite (fun h3 => ?_) (fun h4 => ?_)
    · have := J_f (i := 4) h t0 rfl (by decide) rfl
      have := J_f (i := 3) h t0 rfl (by decide) rfl
      have := g32_eq (v := ((gI s a0 4) - (gI s a0 3))) (by omega) (by omega)
      exact gT_ret ⟨rfl, (by first | omega | (dsimp only; omega)), trivial, h⟩
    · have := J_f (i := 4) h t0 rfl (by decide) rfl
      have := J_f (i := 3) h t0 rfl (by decide) rfl
      have := g32_eq (v := ((gI s a0 4) - (gI s a0 3))) (by omega) (by omega)
      refine gT_loop (fun y => T 10 y.1 ∧ (0 ≤ y.2.2.2.2.1 ∧ y.2.2.2.2.1 ≤ 400) ∧ y.2.1 = a1 ∧ y.2.2.1 = a2 ∧ J p y.2.2.2.2.2) (fun y => (400 - y.2.2.2.2.1).toNat) (fun y hy => ?_) ?_
      · obtain ⟨x0, x1, x2, x3, x4, s⟩ := y
        obtain ⟨t5, r6, e7, e8, hJ9⟩ := hy
        dsimp only at t5 r6 e7 e8 hJ9
        show gT (sb_84_31 x0 x1 x2 x3 x4 s) _
        unfold sb_84_31
        extract_lets -merge v1
        refine gT_ite (fun h10 => ?_) (fun h11 => ?_)
        · have := J_f (i := 4) hJ9 t5 rfl (by decide) rfl
          refine gT_chk (by omega) (by omega) ?_
          have := J_by (k := (x4 : Int).toNat) hJ9 hJ9 t5
          have hv12 : v1 = (g32 ((g32 ((g32 (x3 * 10)) + (gI s (gR s x0 0) (x4 : Int).toNat))) - 48)) := rfl
          exact gT_ret ⟨⟨t5, (show (0 : Int) ≤ (g32 (x4 + 1)) ∧ (g32 (x4 + 1)) ≤ 400 by have := g32_eq (v := (x4 + 1)) (by omega) (by omega); constructor <;> omega), (by first | assumption | omega | (dsimp only; omega)), (by first | assumption | omega | (dsimp only; omega)), hJ9⟩, by dsimp only; have := g32_eq (v := (x4 + 1)) (by omega) (by omega); omega⟩
        · have := J_f (i := 4) hJ9 t5 rfl (by decide) rfl
          refine gT_map ?_
          refine gT_ite (fun h13 => ?_) (fun h14 => ?_)
          · exact gT_ret ⟨rfl, (by first | omega | (dsimp only; omega)), trivial, hJ9⟩
          · refine gT_ite (fun h15 => ?_) (fun h16 => ?_)
            · exact gT_ret ⟨rfl, (by first | omega | (dsimp only; omega)), trivial, hJ9⟩
            · refine gT_v0 (A := fun u9 => J p u9) (d_78 hp hJ9 t5) (fun s2 h17 => ?_)
              have hJ18 := h17
              exact gT_ret ⟨rfl, (by first | omega | (dsimp only; omega)), trivial, hJ18⟩
      · exact ⟨t0, (show (0 : Int) ≤ (gI s a0 3) ∧ (gI s a0 3) ≤ 400 by have := J_f (i := 3) h t0 rfl (by decide) rfl; constructor <;> omega), rfl, rfl, h⟩
  · exact gT_ret ⟨rfl, (by first | omega | (dsimp only; omega)), trivial, h⟩
-- X1_numberBehind
theorem d_13 {p : gP} {a0 : Nat} {a1 : Nat} {a2 : Int} {a3 : Int} {s : gS} (hp : -1 ≤ p.1 ∧ p.1 ≤ 0) (h : J p s) (t0 : T 1 a0) : gT (f_13 a0 a1 a2 a3 s) (fun r => r.1 = 1 ∧ (r.2.1 = -1 ∨ (a2 ≤ r.2.1 ∧ r.2.1 ≤ a3)) ∧ True ∧ J p r.2.2.2) := by
  unfold f_13
  refine gT_v1 (A := fun w9 u9 => (0 ≤ w9 ∧ w9 ≤ 1) ∧ J p u9) (d_82 hp h (T_f (i := 0) h t0 (by decide) rfl rfl)) (fun v2 s1 h1 => ?_)
  obtain ⟨h1r, hJ2⟩ := h1
  refine gT_ite (fun h3 => ?_) (fun h4 => ?_)
  · exact gT_ret ⟨rfl, (by first | omega | (dsimp only; omega)), trivial, hJ2⟩
  · refine gT_v1 (A := fun w9 u9 => (w9 = -1 ∨ (a2 ≤ w9 ∧ w9 ≤ a3)) ∧ True ∧ J p u9) (d_84 hp hJ2 (T_f (i := 0) hJ2 t0 (by decide) rfl rfl)) (fun v5 s4 h5 => ?_)
    obtain ⟨h5e, h5r, hJ6⟩ := h5
    exact gT_ret ⟨rfl, (by first | omega | (dsimp only; omega)), trivial, hJ6⟩
-- X1_readsStep
theorem d_15 {p : gP} {a0 : Nat} {a1 : Nat} {s : gS} (hp : -1 ≤ p.1 ∧ p.1 ≤ 0) (h : J p s) (t0 : T 1 a0) (t1 : T 0 a1) : gT (f_15 a0 a1 s) (fun r => r.1 = 1 ∧ (0 ≤ r.2.1 ∧ r.2.1 ≤ 1) ∧ J p r.2.2.2) := by
  unfold f_15
  refine gT_v0 (A := fun u9 => J p u9) (d_78 hp h (T_f (i := 0) h t0 (by decide) rfl rfl)) (fun s1 h1 => ?_)
  have hJ2 := h1
  refine gT_v1 (A := fun w9 u9 => (w9 = -1 ∨ (1 ≤ w9 ∧ w9 ≤ 30)) ∧ True ∧ J p u9) (d_13 hp hJ2 t0) (fun v4 s3 h3 => ?_)
  obtain ⟨h3e, h3r, hJ4⟩ := h3
  refine gT_ite (fun h5 => ?_) (fun h6 => ?_)
  · unfold fb_15_35
    refine gT_ite (fun h7 => ?_) (fun h8 => ?_)
    · unfold fb_15_54
      refine gT_ite (fun h9 => ?_) (fun h10 => ?_)
      · exact gT_ret ⟨rfl, (by dsimp only; constructor <;> omega), hJ4⟩
      · refine gT_v0 (A := fun u9 => J p u9) (d_2 hp hJ4 t1) (fun s5 h11 => ?_)
        have hJ12 := h11
        exact gT_ret ⟨rfl, (by dsimp only; constructor <;> omega), hJ12⟩
    · refine gT_v1 (A := fun w9 u9 => (w9 = -1 ∨ (0 ≤ w9 ∧ w9 ≤ 50)) ∧ True ∧ J p u9) (d_13 hp hJ4 t0) (fun v8 s7 h13 => ?_)
      obtain ⟨h13e, h13r, hJ14⟩ := h13
      unfold fb_15_54
      refine gT_ite (fun h15 => ?_) (fun h16 => ?_)
      · exact gT_ret ⟨rfl, (by dsimp only; constructor <;> omega), hJ14⟩
      · refine gT_v0 (A := fun u9 => J p u9) (d_2 hp hJ14 t1) (fun s5 h17 => ?_)
        have hJ18 := h17
        exact gT_ret ⟨rfl, (by dsimp only; constructor <;> omega), hJ18⟩
  · refine gT_v1 (A := fun w9 u9 => (w9 = -1 ∨ (0 ≤ w9 ∧ w9 ≤ 99)) ∧ True ∧ J p u9) (d_13 hp hJ4 t0) (fun v10 s9 h19 => ?_)
    obtain ⟨h19e, h19r, hJ20⟩ := h19
    unfold fb_15_35
    refine gT_ite (fun h21 => ?_) (fun h22 => ?_)
    · unfold fb_15_54
      refine gT_ite (fun h23 => ?_) (fun h24 => ?_)
      · exact gT_ret ⟨rfl, (by dsimp only; constructor <;> omega), hJ20⟩
      · refine gT_v0 (A := fun u9 => J p u9) (d_2 hp hJ20 t1) (fun s5 h25 => ?_)
        have hJ26 := h25
        exact gT_ret ⟨rfl, (by dsimp only; constructor <;> omega), hJ26⟩
    · refine gT_v1 (A := fun w9 u9 => (w9 = -1 ∨ (0 ≤ w9 ∧ w9 ≤ 50)) ∧ True ∧ J p u9) (d_13 hp hJ20 t0) (fun v8 s7 h27 => ?_)
      obtain ⟨h27e, h27r, hJ28⟩ := h27
      unfold fb_15_54
      refine gT_ite (fun h29 => ?_) (fun h30 => ?_)
      · exact gT_ret ⟨rfl, (by dsimp only; constructor <;> omega), hJ28⟩
      · refine gT_v0 (A := fun u9 => J p u9) (d_2 hp hJ28 t1) (fun s5 h31 => ?_)
        have hJ32 := h31
        exact gT_ret ⟨rfl, (by dsimp only; constructor <;> omega), hJ32⟩
-- X10_takeTricks
theorem d_85 {p : gP} {a0 : Nat} {s : gS} (hp : -1 ≤ p.1 ∧ p.1 ≤ 0) (h : J p s) (t0 : T 10 a0) : gT (f_85 a0 s) (fun r => r.1 = 1 ∧ True ∧ J p r.2.2.2) := by
  unfold f_85
  refine gT_ite (fun h1 => ?_) (fun h2 => ?_)
  · refine gT_loop (fun y => T 10 y.1 ∧ (0 ≤ y.2.2.1 ∧ y.2.2.1 ≤ 400) ∧ J p y.2.2.2) (fun y => (400 - y.2.2.1).toNat) (fun y hy => ?_) ?_
    · obtain ⟨x0, x1, x2, s⟩ := y
      obtain ⟨t3, r4, hJ5⟩ := hy
      dsimp only at t3 r4 hJ5
      show gT (sb_85_17 x0 x1 x2 s) _
      unfold sb_85_17
      extract_lets -merge v1 v2
      refine gT_ite (fun h6 => ?_) (fun h7 => ?_)
      · have := J_f (i := 4) hJ5 t3 rfl (by decide) rfl
        refine gT_chk (by omega) (by omega) ?_
        have := J_by (k := (x2 : Int).toNat) hJ5 hJ5 t3
        have := g32_eq (v := ((gI s (gR s x0 0) (x2 : Int).toNat) - 97)) (by omega) (by omega)
        have hv8 : v1 = (g32 ((gI s (gR s x0 0) (x2 : Int).toNat) - 97)) := rfl
        refine gT_ite (fun h9 => ?_) (fun h10 => ?_)
        · refine gT_ite (fun h11 => ?_) (fun h12 => ?_)
          · have := gand_le (x := (gshr x1 v1)) (m := 1) (by omega) (by omega)
            have hv13 : v2 = (gor x1 (gshl 1 v1)) := rfl
            exact gT_ret ⟨⟨t3, (show (0 : Int) ≤ (g32 (x2 + 1)) ∧ (g32 (x2 + 1)) ≤ 400 by have := g32_eq (v := (x2 + 1)) (by omega) (by omega); constructor <;> omega), hJ5⟩, by dsimp only; have := g32_eq (v := (x2 + 1)) (by omega) (by omega); omega⟩
          · have := gand_le (x := (gshr x1 v1)) (m := 1) (by omega) (by omega)
            refine gT_map ?_
            exact gT_ret ⟨rfl, trivial, hJ5⟩
        · refine gT_map ?_
          exact gT_ret ⟨rfl, trivial, hJ5⟩
      · have := J_f (i := 4) hJ5 t3 rfl (by decide) rfl
        refine gT_map ?_
        refine gT_v0 (A := fun u9 => J p u9) (d_78 hp hJ5 t3) (fun s3 h14 => ?_)
        have hJ15 := h14
        exact gT_ret ⟨rfl, trivial, hJ15⟩
    · exact ⟨t0, (show (0 : Int) ≤ (gI s a0 3) ∧ (gI s a0 3) ≤ 400 by have := J_f (i := 3) h t0 rfl (by decide) rfl; constructor <;> omega), h⟩
  · exact gT_ret ⟨rfl, trivial, h⟩
-- X1_tricksBehind
theorem d_14 {p : gP} {a0 : Nat} {a1 : Nat} {s : gS} (hp : -1 ≤ p.1 ∧ p.1 ≤ 0) (h : J p s) (t0 : T 1 a0) : gT (f_14 a0 a1 s) (fun r => r.1 = 1 ∧ True ∧ J p r.2.2.2) := by
  unfold f_14
  refine gT_v1 (A := fun w9 u9 => (0 ≤ w9 ∧ w9 ≤ 1) ∧ J p u9) (d_82 hp h (T_f (i := 0) h t0 (by decide) rfl rfl)) (fun v2 s1 h1 => ?_)
  obtain ⟨h1r, hJ2⟩ := h1
  refine gT_ite (fun h3 => ?_) (fun h4 => ?_)
  · exact gT_ret ⟨rfl, trivial, hJ2⟩
  · refine gT_v1 (A := fun w9 u9 => True ∧ J p u9) (d_85 hp hJ2 (T_f (i := 0) hJ2 t0 (by decide) rfl rfl)) (fun v5 s4 h5 => ?_)
    obtain ⟨h5r, hJ6⟩ := h5
    exact gT_ret ⟨rfl, trivial, hJ6⟩
-- X2_addMan
theorem d_24 {p : gP} {a0 : Nat} {a1 : Int} {a2 : Int} {a3 : Int} {s : gS} (hp : -1 ≤ p.1 ∧ p.1 ≤ 0) (h : J p s) (t0 : T 2 a0) (r1 : 0 ≤ a1 ∧ a1 ≤ 99) (r2 : 0 ≤ a2 ∧ a2 ≤ 9) : gT (f_24 a0 a1 a2 a3 s) (fun r => r.1 = 0 ∧ J p r.2.2.2) := by
  unfold f_24
  extract_lets -merge v1 s2 s3 s4 s5 s6 s7 s8
  refine gT_ite (fun h1 => ?_) (fun h2 => ?_)
  · have := J_f (i := 4) h t0 rfl (by decide) rfl
    refine gT_chk (by have := J_f (i := 4) h t0 rfl (by decide) rfl; omega) (by have := J_f (i := 4) h t0 rfl (by decide) rfl; omega) ?_
    have hT3 : T 7 v1 := (T_man (i := ((gI s a0 4) : Int).toNat) h (T_f (i := 0) h t0 (by decide) rfl rfl) (by have := J_f (i := 4) h t0 rfl (by decide) rfl; omega))
    have hJ4 : J p s2 := (J_wf h hT3 rfl (by decide) (by decide) (fun q hq => by cases hq; dsimp only; constructor <;> omega))
    have hJ5 : J p s3 := (J_wf hJ4 hT3 rfl (by decide) (by decide) (fun q hq => by cases hq; dsimp only; constructor <;> omega))
    have hJ6 : J p s4 := (J_wf hJ5 hT3 rfl (by decide) (by decide) (fun q hq => by cases hq))
    have hJ7 : J p s5 := (J_wf hJ6 hT3 rfl (by decide) (by decide) (fun q hq => by cases hq; dsimp only; constructor <;> omega))
    have hJ8 : J p s6 := (J_wf hJ7 hT3 rfl (by decide) (by decide) (fun q hq => by cases hq))
    have hJ9 : J p s7 := (J_wf hJ8 hT3 rfl (by decide) (by decide) (fun q hq => by cases hq))
    have hJ10 : J p s8 := (J_wf hJ9 t0 rfl (by decide) (by decide) (fun q hq => by cases hq; dsimp only; have := rd_k (a := a0) (k := 4) (show s7 = (gw s6 v1 5 0) from rfl) (by decide); have := rd_T (a := a0) (k := 4) (show s6 = (gw s5 v1 4 0) from rfl) t0 hT3 (by decide); have := rd_k (a := a0) (k := 4) (show s5 = (gw s4 v1 3 0) from rfl) (by decide); have := rd_k (a := a0) (k := 4) (show s4 = (gw s3 v1 2 a3) from rfl) (by decide); have := rd_k (a := a0) (k := 4) (show s3 = (gw s2 v1 1 a2) from rfl) (by decide); have := rd_k (a := a0) (k := 4) (show s2 = (gw s v1 0 a1) from rfl) (by decide); have := J_f (i := 4) h t0 rfl (by decide) rfl; have := g32_eq (v := ((gI s7 a0 4) + 1)) (by omega) (by omega); constructor <;> omega))
    exact gT_ret ⟨rfl, hJ10⟩
  · have := J_f (i := 4) h t0 rfl (by decide) rfl
    exact gT_ret ⟨rfl, h⟩
-- X1_readsMan
theorem d_16 {p : gP} {a0 : Nat} {a1 : Nat} {s : gS} (hp : -1 ≤ p.1 ∧ p.1 ≤ 0) (h : J p s) (t0 : T 1 a0) (t1 : T 2 a1) : gT (f_16 a0 a1 s) (fun r => r.1 = 1 ∧ (0 ≤ r.2.1 ∧ r.2.1 ≤ 1) ∧ J p r.2.2.2) := by
  unfold f_16
  refine gT_v0 (A := fun u9 => J p u9) (d_78 hp h (T_f (i := 0) h t0 (by decide) rfl rfl)) (fun s1 h1 => ?_)
  have hJ2 := h1
  refine gT_v1 (A := fun w9 u9 => (w9 = -1 ∨ (0 ≤ w9 ∧ w9 ≤ 99)) ∧ True ∧ J p u9) (d_13 hp hJ2 t0) (fun v4 s3 h3 => ?_)
  obtain ⟨h3e, h3r, hJ4⟩ := h3
  refine gT_ite (fun h5 => ?_) (fun h6 => ?_)
  · unfold fb_16_35
    refine gT_ite (fun h7 => ?_) (fun h8 => ?_)
    · unfold fb_16_51
      refine gT_ite (fun h9 => ?_) (fun h10 => ?_)
      · exact gT_ret ⟨rfl, (by dsimp only; constructor <;> omega), hJ4⟩
      · refine gT_v0 (A := fun u9 => J p u9) (d_24 hp hJ4 t1 (show (0 : Int) ≤ v4 ∧ v4 ≤ 99 by constructor <;> omega) (show (0 : Int) ≤ (-1) ∧ (-1) ≤ 9 by constructor <;> omega)) (fun s5 h11 => ?_)
        have hJ12 := h11
        exact gT_ret ⟨rfl, (by dsimp only; constructor <;> omega), hJ12⟩
    · refine gT_v1 (A := fun w9 u9 => True ∧ J p u9) (d_14 hp hJ4 t0) (fun v8 s7 h13 => ?_)
      obtain ⟨h13r, hJ14⟩ := h13
      unfold fb_16_51
      refine gT_ite (fun h15 => ?_) (fun h16 => ?_)
      · exact gT_ret ⟨rfl, (by dsimp only; constructor <;> omega), hJ14⟩
      · refine gT_v0 (A := fun u9 => J p u9) (d_24 hp hJ14 t1 (show (0 : Int) ≤ v4 ∧ v4 ≤ 99 by constructor <;> omega) (show (0 : Int) ≤ (-1) ∧ (-1) ≤ 9 by constructor <;> omega)) (fun s5 h17 => ?_)
        have hJ18 := h17
        exact gT_ret ⟨rfl, (by dsimp only; constructor <;> omega), hJ18⟩
  · refine gT_v1 (A := fun w9 u9 => (w9 = -1 ∨ (0 ≤ w9 ∧ w9 ≤ 9)) ∧ True ∧ J p u9) (d_13 hp hJ4 t0) (fun v10 s9 h19 => ?_)
    obtain ⟨h19e, h19r, hJ20⟩ := h19
    unfold fb_16_35
    refine gT_ite (fun h21 => ?_) (fun h22 => ?_)
    · unfold fb_16_51
      refine gT_ite (fun h23 => ?_) (fun h24 => ?_)
      · exact gT_ret ⟨rfl, (by dsimp only; constructor <;> omega), hJ20⟩
      · refine gT_v0 (A := fun u9 => J p u9) (d_24 hp hJ20 t1 (show (0 : Int) ≤ v4 ∧ v4 ≤ 99 by constructor <;> omega) (show (0 : Int) ≤ v10 ∧ v10 ≤ 9 by constructor <;> omega)) (fun s5 h25 => ?_)
        have hJ26 := h25
        exact gT_ret ⟨rfl, (by dsimp only; constructor <;> omega), hJ26⟩
    · refine gT_v1 (A := fun w9 u9 => True ∧ J p u9) (d_14 hp hJ20 t0) (fun v8 s7 h27 => ?_)
      obtain ⟨h27r, hJ28⟩ := h27
      unfold fb_16_51
      refine gT_ite (fun h29 => ?_) (fun h30 => ?_)
      · exact gT_ret ⟨rfl, (by dsimp only; constructor <;> omega), hJ28⟩
      · refine gT_v0 (A := fun u9 => J p u9) (d_24 hp hJ28 t1 (show (0 : Int) ≤ v4 ∧ v4 ≤ 99 by constructor <;> omega) (show (0 : Int) ≤ v10 ∧ v10 ≤ 9 by constructor <;> omega)) (fun s5 h31 => ?_)
        have hJ32 := h31
        exact gT_ret ⟨rfl, (by dsimp only; constructor <;> omega), hJ32⟩
-- X1_readsTest
theorem d_17 {p : gP} {a0 : Nat} {a1 : Nat} {s : gS} (hp : -1 ≤ p.1 ∧ p.1 ≤ 0) (h : J p s) (t0 : T 1 a0) (t1 : T 0 a1) : gT (f_17 a0 a1 s) (fun r => r.1 = 1 ∧ (0 ≤ r.2.1 ∧ r.2.1 ≤ 1) ∧ J p r.2.2.2) := by
  unfold f_17
  refine gT_v0 (A := fun u9 => J p u9) (d_78 hp h (T_f (i := 0) h t0 (by decide) rfl rfl)) (fun s1 h1 => ?_)
  have hJ2 := h1
  refine gT_v1 (A := fun w9 u9 => (w9 = -1 ∨ (0 ≤ w9 ∧ w9 ≤ 99)) ∧ True ∧ J p u9) (d_13 hp hJ2 t0) (fun v4 s3 h3 => ?_)
  obtain ⟨h3e, h3r, hJ4⟩ := h3
  refine gT_ite (fun h5 => ?_) (fun h6 => ?_)
  · unfold fb_17_32
    refine gT_ite (fun h7 => ?_) (fun h8 => ?_)
    · exact gT_ret ⟨rfl, (by dsimp only; constructor <;> omega), hJ4⟩
    · refine gT_v0 (A := fun u9 => J p u9) (d_3 hp hJ4 t1) (fun s5 h9 => ?_)
      have hJ10 := h9
      exact gT_ret ⟨rfl, (by dsimp only; constructor <;> omega), hJ10⟩
  · refine gT_v1 (A := fun w9 u9 => True ∧ J p u9) (d_14 hp hJ4 t0) (fun v8 s7 h11 => ?_)
    obtain ⟨h11r, hJ12⟩ := h11
    unfold fb_17_32
    refine gT_ite (fun h13 => ?_) (fun h14 => ?_)
    · exact gT_ret ⟨rfl, (by dsimp only; constructor <;> omega), hJ12⟩
    · refine gT_v0 (A := fun u9 => J p u9) (d_3 hp hJ12 t1) (fun s5 h15 => ?_)
      have hJ16 := h15
      exact gT_ret ⟨rfl, (by dsimp only; constructor <;> omega), hJ16⟩
-- X2_addRival
theorem d_25 {p : gP} {a0 : Nat} {a1 : Int} {s : gS} (hp : -1 ≤ p.1 ∧ p.1 ≤ 0) (h : J p s) (t0 : T 2 a0) : gT (f_25 a0 a1 s) (fun r => r.1 = 0 ∧ J p r.2.2.2) := by
  unfold f_25
  extract_lets -merge s1 s2 s3
  refine gT_ite (fun h1 => ?_) (fun h2 => ?_)
  · have := J_f (i := 5) h t0 rfl (by decide) rfl
    refine gT_chk (by have := J_f (i := 5) h t0 rfl (by decide) rfl; omega) (by have := J_f (i := 5) h t0 rfl (by decide) rfl; omega) ?_
    have hJ3 : J p s1 := (J_wa h (T_f (i := 1) h t0 (by decide) rfl rfl) rfl)
    refine gT_chk (by have := rd_T (a := a0) (k := 5) (show s1 = (gw s (gR s a0 1) ((gI s a0 5) : Int).toNat a1) from rfl) t0 (T_f (i := 1) h t0 (by decide) rfl rfl) (by decide); have := J_f (i := 5) h t0 rfl (by decide) rfl; omega) (by have := rd_T (a := a0) (k := 5) (show s1 = (gw s (gR s a0 1) ((gI s a0 5) : Int).toNat a1) from rfl) t0 (T_f (i := 1) h t0 (by decide) rfl rfl) (by decide); have := J_f (i := 5) h t0 rfl (by decide) rfl; omega) ?_
    have hJ4 : J p s2 := (J_wa hJ3 (T_f (i := 2) hJ3 t0 (by decide) rfl rfl) rfl)
    have hJ5 : J p s3 := (J_wf hJ4 t0 rfl (by decide) (by decide) (fun q hq => by cases hq; dsimp only; have := rd_T (a := a0) (k := 5) (show s2 = (gw s1 (gR s1 a0 2) ((gI s1 a0 5) : Int).toNat 0) from rfl) t0 (T_f (i := 2) hJ3 t0 (by decide) rfl rfl) (by decide); have := rd_T (a := a0) (k := 5) (show s1 = (gw s (gR s a0 1) ((gI s a0 5) : Int).toNat a1) from rfl) t0 (T_f (i := 1) h t0 (by decide) rfl rfl) (by decide); have := J_f (i := 5) h t0 rfl (by decide) rfl; have := g32_eq (v := ((gI s2 a0 5) + 1)) (by omega) (by omega); constructor <;> omega))
    exact gT_ret ⟨rfl, hJ5⟩
  · have := J_f (i := 5) h t0 rfl (by decide) rfl
    exact gT_ret ⟨rfl, h⟩
-- X1_readsRival
theorem d_18 {p : gP} {a0 : Nat} {a1 : Nat} {s : gS} (hp : -1 ≤ p.1 ∧ p.1 ≤ 0) (h : J p s) (t0 : T 1 a0) (t1 : T 2 a1) : gT (f_18 a0 a1 s) (fun r => r.1 = 1 ∧ (0 ≤ r.2.1 ∧ r.2.1 ≤ 1) ∧ J p r.2.2.2) := by
  unfold f_18
  refine gT_v1 (A := fun w9 u9 => (w9 = -1 ∨ (0 ≤ w9 ∧ w9 ≤ 999)) ∧ True ∧ J p u9) (d_13 hp h t0) (fun v2 s1 h1 => ?_)
  obtain ⟨h1e, h1r, hJ2⟩ := h1
  refine gT_ite (fun h3 => ?_) (fun h4 => ?_)
  · exact gT_ret ⟨rfl, (by dsimp only; constructor <;> omega), hJ2⟩
  · refine gT_v0 (A := fun u9 => J p u9) (d_25 hp hJ2 t1) (fun s3 h5 => ?_)
    have hJ6 := h5
    exact gT_ret ⟨rfl, (by dsimp only; constructor <;> omega), hJ6⟩
-- X1_readsChest
theorem d_19 {p : gP} {a0 : Nat} {a1 : Nat} {s : gS} (hp : -1 ≤ p.1 ∧ p.1 ≤ 0) (h : J p s) (t0 : T 1 a0) (t1 : T 2 a1) : gT (f_19 a0 a1 s) (fun r => r.1 = 1 ∧ (0 ≤ r.2.1 ∧ r.2.1 ≤ 1) ∧ J p r.2.2.2) := by
  unfold f_19
  refine gT_v1 (A := fun w9 u9 => (w9 = -1 ∨ (0 ≤ w9 ∧ w9 ≤ 999)) ∧ True ∧ J p u9) (d_13 hp h t0) (fun v2 s1 h1 => ?_)
  obtain ⟨h1e, h1r, hJ2⟩ := h1
  extract_lets -merge s3
  have hJ3 : J p s3 := (J_wf hJ2 t1 rfl (by decide) (by decide) (fun q hq => by cases hq))
  refine gT_ite (fun h4 => ?_) (fun h5 => ?_)
  · have := rd_same (show s3 = (gw s1 a1 6 v2) from rfl)
    exact gT_ret ⟨rfl, (by dsimp only; constructor <;> omega), hJ3⟩
  · have := rd_same (show s3 = (gw s1 a1 6 v2) from rfl)
    exact gT_ret ⟨rfl, (by dsimp only; constructor <;> omega), hJ3⟩
-- X10_takeSign
theorem d_83 {p : gP} {a0 : Nat} {a1 : Int} {s : gS} (hp : -1 ≤ p.1 ∧ p.1 ≤ 0) (h : J p s) (t0 : T 10 a0) : gT (f_83 a0 a1 s) (fun r => r.1 = 1 ∧ (0 ≤ r.2.1 ∧ r.2.1 ≤ 1) ∧ J p r.2.2.2) := by
  unfold f_83
  refine gT_v1 (A := fun w9 u9 => (0 ≤ w9 ∧ w9 ≤ 1) ∧ J p u9) (d_81 hp h t0) (fun v2 s1 h1 => ?_)
  obtain ⟨h1r, hJ2⟩ := h1
  refine gT_ite (fun h3 => ?_) (fun h4 => ?_)
  · exact gT_ret ⟨rfl, (by dsimp only; constructor <;> omega), hJ2⟩
  · refine gT_v0 (A := fun u9 => J p u9) (d_78 hp hJ2 t0) (fun s4 h5 => ?_)
    have hJ6 := h5
    exact gT_ret ⟨rfl, (by dsimp only; constructor <;> omega), hJ6⟩
-- X7_copyFrom
theorem d_59 {p : gP} {a0 : Nat} {a1 : Nat} {s : gS} (hp : -1 ≤ p.1 ∧ p.1 ≤ 0) (h : J p s) (t0 : T 7 a0) (t1 : T 7 a1) : gT (f_59 a0 a1 s) (fun r => r.1 = 0 ∧ J p r.2.2.2) := by
  unfold f_59
  extract_lets -merge s1 s2 s3 s4 s5 s6
  have hJ1 : J p s1 := (J_wf h t0 rfl (by decide) (by decide) (fun q hq => by cases hq; dsimp only; have := J_f (i := 0) h t1 rfl (by decide) rfl; constructor <;> omega))
  have hJ2 : J p s2 := (J_wf hJ1 t0 rfl (by decide) (by decide) (fun q hq => by cases hq; dsimp only; have := rd_k (a := a1) (k := 1) (show s1 = (gw s a0 0 (gI s a1 0)) from rfl) (by decide); have := J_f (i := 1) h t1 rfl (by decide) rfl; constructor <;> omega))
  have hJ3 : J p s3 := (J_wf hJ2 t0 rfl (by decide) (by decide) (fun q hq => by cases hq))
  have hJ4 : J p s4 := (J_wf hJ3 t0 rfl (by decide) (by decide) (fun q hq => by cases hq; dsimp only; have := rd_k (a := a1) (k := 3) (show s3 = (gw s2 a0 2 (gI s2 a1 2)) from rfl) (by decide); have := rd_k (a := a1) (k := 3) (show s2 = (gw s1 a0 1 (gI s1 a1 1)) from rfl) (by decide); have := rd_k (a := a1) (k := 3) (show s1 = (gw s a0 0 (gI s a1 0)) from rfl) (by decide); have := J_f (i := 3) h t1 rfl (by decide) rfl; constructor <;> omega))
  have hJ5 : J p s5 := (J_wf hJ4 t0 rfl (by decide) (by decide) (fun q hq => by cases hq))
  have hJ6 : J p s6 := (J_wf hJ5 t0 rfl (by decide) (by decide) (fun q hq => by cases hq))
  exact gT_ret ⟨rfl, hJ6⟩
-- X2_copyCourse
theorem d_23 {p : gP} {a0 : Nat} {a1 : Nat} {s : gS} (hp : -1 ≤ p.1 ∧ p.1 ≤ 0) (h : J p s) (t0 : T 2 a0) (t1 : T 2 a1) : gT (f_23 a0 a1 s) (fun r => r.1 = 0 ∧ J p r.2.2.2) := by
  unfold f_23
  refine gT_loop (fun y => T 2 y.1 ∧ T 2 y.2.1 ∧ (0 ≤ y.2.2.1 ∧ y.2.2.1 ≤ 6) ∧ J p y.2.2.2) (fun y => (6 - y.2.2.1).toNat) (fun y hy => ?_) ?_
  · obtain ⟨x0, x1, x2, s⟩ := y
    obtain ⟨t1, t2, r3, hJ4⟩ := hy
    dsimp only at t1 t2 r3 hJ4
    show gT (sb_23_2 x0 x1 x2 s) _
    unfold sb_23_2
    extract_lets -merge s3 s4 s5 s6 s7 s8 s9 s10
    refine gT_ite (fun h5 => ?_) (fun h6 => ?_)
    · refine gT_chk (by omega) (by omega) ?_
      refine gT_chk (by omega) (by omega) ?_
      refine gT_v0 (A := fun u9 => J p u9) (d_59 hp hJ4 (T_man (i := (x2 : Int).toNat) hJ4 (T_f (i := 0) hJ4 t1 (by decide) rfl rfl) (by omega)) (T_man (i := (x2 : Int).toNat) hJ4 (T_f (i := 0) hJ4 t2 (by decide) rfl rfl) (by omega))) (fun s1 h7 => ?_)
      have hJ8 := h7
      exact gT_ret ⟨⟨t1, t2, (show (0 : Int) ≤ (g32 (x2 + 1)) ∧ (g32 (x2 + 1)) ≤ 6 by have := g32_eq (v := (x2 + 1)) (by omega) (by omega); constructor <;> omega), hJ8⟩, by dsimp only; have := g32_eq (v := (x2 + 1)) (by omega) (by omega); omega⟩
    · refine gT_map ?_
      have hJ9 : J p s3 := (J_ca hJ4 (T_f (i := 1) hJ4 t1 (by decide) rfl rfl) rfl)
      have hJ10 : J p s4 := (J_ca hJ9 (T_f (i := 2) hJ9 t1 (by decide) rfl rfl) rfl)
      have hJ11 : J p s5 := (J_wf hJ10 t1 rfl (by decide) (by decide) (fun q hq => by cases hq; dsimp only; have := rd_c (a := x1) (k := 4) (show s4 = (gcpy s3 (gR s3 x1 2) 0 (gR s3 x0 2) 0 6) from rfl) t2 (T_f (i := 2) hJ9 t1 (by decide) rfl rfl) (by decide); have := rd_c (a := x1) (k := 4) (show s3 = (gcpy s (gR s x1 1) 0 (gR s x0 1) 0 6) from rfl) t2 (T_f (i := 1) hJ4 t1 (by decide) rfl rfl) (by decide); have := J_f (i := 4) hJ4 t2 rfl (by decide) rfl; constructor <;> omega))
      have hJ12 : J p s6 := (J_wf hJ11 t1 rfl (by decide) (by decide) (fun q hq => by cases hq; dsimp only; have := rd_k (a := x1) (k := 5) (show s5 = (gw s4 x0 4 (gI s4 x1 4)) from rfl) (by decide); have := rd_c (a := x1) (k := 5) (show s4 = (gcpy s3 (gR s3 x1 2) 0 (gR s3 x0 2) 0 6) from rfl) t2 (T_f (i := 2) hJ9 t1 (by decide) rfl rfl) (by decide); have := rd_c (a := x1) (k := 5) (show s3 = (gcpy s (gR s x1 1) 0 (gR s x0 1) 0 6) from rfl) t2 (T_f (i := 1) hJ4 t1 (by decide) rfl rfl) (by decide); have := J_f (i := 5) hJ4 t2 rfl (by decide) rfl; constructor <;> omega))
      have hJ13 : J p s7 := (J_wf hJ12 t1 rfl (by decide) (by decide) (fun q hq => by cases hq))
      have hJ14 : J p s8 := (J_wf hJ13 t1 rfl (by decide) (by decide) (fun q hq => by cases hq))
      have hJ15 : J p s9 := (J_wf hJ14 t1 rfl (by decide) (by decide) (fun q hq => by cases hq))
      have hJ16 : J p s10 := (J_wf hJ15 t1 rfl (by decide) (by decide) (fun q hq => by cases hq))
      exact gT_ret ⟨rfl, hJ16⟩
  · exact ⟨t0, t1, (show (0 : Int) ≤ 0 ∧ 0 ≤ 6 by constructor <;> omega), h⟩
-- X6_copyFrom
theorem d_54 {p : gP} {a0 : Nat} {a1 : Nat} {s : gS} (hp : -1 ≤ p.1 ∧ p.1 ≤ 0) (h : J p s) (t0 : T 6 a0) (t1 : T 6 a1) : gT (f_54 a0 a1 s) (fun r => r.1 = 0 ∧ J p r.2.2.2) := by
  unfold f_54
  extract_lets -merge s1 s2
  have hJ1 : J p s1 := (J_ca h (T_f (i := 0) h t0 (by decide) rfl rfl) rfl)
  have hJ2 : J p s2 := (J_wf hJ1 t0 rfl (by decide) (by decide) (fun q hq => by cases hq; dsimp only; have := rd_c (a := a1) (k := 1) (show s1 = (gcpy s (gR s a1 0) 0 (gR s a0 0) 0 240) from rfl) t1 (T_f (i := 0) h t0 (by decide) rfl rfl) (by decide); have := J_f (i := 1) h t1 rfl (by decide) rfl; constructor <;> omega))
  exact gT_ret ⟨rfl, hJ2⟩
-- X2_copyFrom
theorem d_22 {p : gP} {a0 : Nat} {a1 : Nat} {s : gS} (hp : -1 ≤ p.1 ∧ p.1 ≤ 0) (h : J p s) (t0 : T 2 a0) (t1 : T 2 a1) : gT (f_22 a0 a1 s) (fun r => r.1 = 0 ∧ J p r.2.2.2) := by
  unfold f_22
  refine gT_v0 (A := fun u9 => J p u9) (d_23 hp h t0 t1) (fun s1 h1 => ?_)
  have hJ2 := h1
  refine gT_v0 (A := fun u9 => J p u9) (d_54 hp hJ2 (T_f (i := 3) hJ2 t0 (by decide) rfl rfl) (T_f (i := 3) hJ2 t1 (by decide) rfl rfl)) (fun s3 h3 => ?_)
  have hJ4 := h3
  exact gT_ret ⟨rfl, hJ4⟩
-- X2_spend
theorem d_26 {p : gP} {a0 : Nat} {a1 : Int} {s : gS} (hp : -1 ≤ p.1 ∧ p.1 ≤ 0) (h : J p s) (t0 : T 2 a0) : gT (f_26 a0 a1 s) (fun r => r.1 = 0 ∧ J p r.2.2.2) := by
  unfold f_26
  extract_lets -merge v1 s2 s3
  have hv1 : v1 = (min (gI s a0 6) a1) := rfl
  have hJ2 : J p s2 := (J_wf h t0 rfl (by decide) (by decide) (fun q hq => by cases hq))
  have hJ3 : J p s3 := (J_wf hJ2 t0 rfl (by decide) (by decide) (fun q hq => by cases hq))
  exact gT_ret ⟨rfl, hJ3⟩
-- X7_heat
theorem d_61 {p : gP} {a0 : Nat} {a1 : Nat} {s : gS} (hp : -1 ≤ p.1 ∧ p.1 ≤ 0) (h : J p s) (t0 : T 7 a0) (t1 : T 0 a1) : gT (f_61 a0 a1 s) (fun r => r.1 = 1 ∧ True ∧ J p r.2.2.2) := by
  unfold f_61
  extract_lets -merge s1 s2 s3
  refine gT_ite (fun h1 => ?_) (fun h2 => ?_)
  · have := J_f (i := 3) h t0 rfl (by decide) rfl
    have := J_f (i := 5) h t1 rfl (by decide) rfl
    have hJ3 : J p s1 := (J_wf h t0 rfl (by decide) (by decide) (fun q hq => by cases hq))
    refine gT_chk (by have := rd_k (a := a0) (k := 3) (show s1 = (gw s a0 4 (g32 ((gI s a0 4) + 1))) from rfl) (by decide); have := J_f (i := 3) h t0 rfl (by decide) rfl; omega) (by have := rd_k (a := a0) (k := 3) (show s1 = (gw s a0 4 (g32 ((gI s a0 4) + 1))) from rfl) (by decide); have := J_f (i := 3) h t0 rfl (by decide) rfl; omega) ?_
    refine gT_ite (fun h4 => ?_) (fun h5 => ?_)
    · have := rd_same (show s1 = (gw s a0 4 (g32 ((gI s a0 4) + 1))) from rfl)
      have := rd_T (a := (gR s1 a1 0)) (k := ((gI s1 a0 3) : Int).toNat) (show s1 = (gw s a0 4 (g32 ((gI s a0 4) + 1))) from rfl) (T_f (i := 0) hJ3 t1 (by decide) rfl rfl) t0 (by decide)
      exact gT_ret ⟨rfl, trivial, hJ3⟩
    · have := rd_same (show s1 = (gw s a0 4 (g32 ((gI s a0 4) + 1))) from rfl)
      have := rd_T (a := (gR s1 a1 0)) (k := ((gI s1 a0 3) : Int).toNat) (show s1 = (gw s a0 4 (g32 ((gI s a0 4) + 1))) from rfl) (T_f (i := 0) hJ3 t1 (by decide) rfl rfl) t0 (by decide)
      have hJ6 : J p s2 := (J_wf hJ3 t0 rfl (by decide) (by decide) (fun q hq => by cases hq))
      have hJ7 : J p s3 := (J_wf hJ6 t0 rfl (by decide) (by decide) (fun q hq => by cases hq; dsimp only; have := rd_k (a := a0) (k := 3) (show s2 = (gw s1 a0 4 0) from rfl) (by decide); have := rd_k (a := a0) (k := 3) (show s1 = (gw s a0 4 (g32 ((gI s a0 4) + 1))) from rfl) (by decide); have := J_f (i := 3) h t0 rfl (by decide) rfl; have := g32_eq (v := ((gI s2 a0 3) + 1)) (by omega) (by omega); constructor <;> omega))
      refine gT_chk (by have := rd_same (show s3 = (gw s2 a0 3 (g32 ((gI s2 a0 3) + 1))) from rfl); have := rd_k (a := a0) (k := 3) (show s2 = (gw s1 a0 4 0) from rfl) (by decide); have := rd_k (a := a0) (k := 3) (show s1 = (gw s a0 4 (g32 ((gI s a0 4) + 1))) from rfl) (by decide); have := J_f (i := 3) h t0 rfl (by decide) rfl; have := g32_eq (v := ((gI s2 a0 3) + 1)) (by omega) (by omega); have := g32_eq (v := ((gI s3 a0 3) - 1)) (by omega) (by omega); omega) (by have := rd_same (show s3 = (gw s2 a0 3 (g32 ((gI s2 a0 3) + 1))) from rfl); have := rd_k (a := a0) (k := 3) (show s2 = (gw s1 a0 4 0) from rfl) (by decide); have := rd_k (a := a0) (k := 3) (show s1 = (gw s a0 4 (g32 ((gI s a0 4) + 1))) from rfl) (by decide); have := J_f (i := 3) h t0 rfl (by decide) rfl; have := g32_eq (v := ((gI s2 a0 3) + 1)) (by omega) (by omega); have := g32_eq (v := ((gI s3 a0 3) - 1)) (by omega) (by omega); omega) ?_
      exact gT_ret ⟨rfl, trivial, hJ7⟩
  · have := J_f (i := 3) h t0 rfl (by decide) rfl
    have := J_f (i := 5) h t1 rfl (by decide) rfl
    exact gT_ret ⟨rfl, trivial, h⟩
-- X7_trustMore
theorem d_60 {p : gP} {a0 : Nat} {a1 : Int} {s : gS} (hp : -1 ≤ p.1 ∧ p.1 ≤ 0) (h : J p s) (t0 : T 7 a0) : gT (f_60 a0 a1 s) (fun r => r.1 = 0 ∧ J p r.2.2.2) := by
  unfold f_60
  extract_lets -merge s1
  have hJ1 : J p s1 := (J_wf h t0 rfl (by decide) (by decide) (fun q hq => by cases hq; dsimp only; have := J_f (i := 0) h t0 rfl (by decide) rfl; constructor <;> omega))
  exact gT_ret ⟨rfl, hJ1⟩
-- X3_see
theorem d_35 {p : gP} {a0 : Nat} {a1 : Int} {a2 : Nat} {a3 : Int} {s : gS} (hp : -1 ≤ p.1 ∧ p.1 ≤ 0) (h : J p s) (t0 : T 3 a0) (t2 : T 7 a2) : gT (f_35 a0 a1 a2 a3 s) (fun r => r.1 = 0 ∧ J p r.2.2.2) := by
  unfold f_35
  extract_lets -merge s1 s2 s3 s4 s5
  have hJ1 : J p s1 := (J_wa h (T_f (i := 0) h t0 (by decide) rfl rfl) rfl)
  have hJ2 : J p s2 := (J_wa hJ1 (T_f (i := 0) hJ1 t0 (by decide) rfl rfl) rfl)
  have hJ3 : J p s3 := (J_wa hJ2 (T_f (i := 0) hJ2 t0 (by decide) rfl rfl) rfl)
  have hJ4 : J p s4 := (J_wa hJ3 (T_f (i := 0) hJ3 t0 (by decide) rfl rfl) rfl)
  have hJ5 : J p s5 := (J_wa hJ4 (T_f (i := 0) hJ4 t0 (by decide) rfl rfl) rfl)
  refine gT_ite (fun h6 => ?_) (fun h7 => ?_)
  · have := rd_T (a := a2) (k := 4) (show s5 = (gw s4 (gR s4 a0 0) 4 (gI s4 a2 4)) from rfl) t2 (T_f (i := 0) hJ4 t0 (by decide) rfl rfl) (by decide)
    have := rd_k (a := a2) (k := 4) (show s4 = (gw s3 (gR s3 a0 0) 3 (gI s3 a2 3)) from rfl) (by decide)
    have := rd_k (a := a2) (k := 4) (show s3 = (gw s2 (gR s2 a0 0) 2 (gI s2 a2 1)) from rfl) (by decide)
    have := rd_k (a := a2) (k := 4) (show s2 = (gw s1 (gR s1 a0 0) 1 (gI s1 a2 0)) from rfl) (by decide)
    have := rd_k (a := a2) (k := 4) (show s1 = (gw s (gR s a0 0) 0 a1) from rfl) (by decide)
    unfold fb_35_65
    extract_lets -merge s6 s7 s8
    refine gT_chk (by omega) (by omega) ?_
    have hJ8 : J p s6 := (J_wa hJ5 (T_f (i := 0) hJ5 t0 (by decide) rfl rfl) rfl)
    refine gT_ite (fun h9 => ?_) (fun h10 => ?_)
    · have := rd_T (a := a2) (k := 3) (show s6 = (gw s5 (gR s5 a0 0) (7 : Int).toNat 1) from rfl) t2 (T_f (i := 0) hJ5 t0 (by decide) rfl rfl) (by decide)
      have := rd_k (a := a2) (k := 3) (show s5 = (gw s4 (gR s4 a0 0) 4 (gI s4 a2 4)) from rfl) (by decide)
      have := rd_T (a := a2) (k := 3) (show s4 = (gw s3 (gR s3 a0 0) 3 (gI s3 a2 3)) from rfl) t2 (T_f (i := 0) hJ3 t0 (by decide) rfl rfl) (by decide)
      have := rd_k (a := a2) (k := 3) (show s3 = (gw s2 (gR s2 a0 0) 2 (gI s2 a2 1)) from rfl) (by decide)
      have := rd_k (a := a2) (k := 3) (show s2 = (gw s1 (gR s1 a0 0) 1 (gI s1 a2 0)) from rfl) (by decide)
      have := rd_k (a := a2) (k := 3) (show s1 = (gw s (gR s a0 0) 0 a1) from rfl) (by decide)
      have := J_f (i := 3) h t2 rfl (by decide) rfl
      have hJ11 : J p s7 := (J_wa hJ8 (T_f (i := 0) hJ8 t0 (by decide) rfl rfl) rfl)
      exact gT_ret ⟨rfl, hJ11⟩
    · have := rd_T (a := a2) (k := 3) (show s6 = (gw s5 (gR s5 a0 0) (7 : Int).toNat 1) from rfl) t2 (T_f (i := 0) hJ5 t0 (by decide) rfl rfl) (by decide)
      have := rd_k (a := a2) (k := 3) (show s5 = (gw s4 (gR s4 a0 0) 4 (gI s4 a2 4)) from rfl) (by decide)
      have := rd_T (a := a2) (k := 3) (show s4 = (gw s3 (gR s3 a0 0) 3 (gI s3 a2 3)) from rfl) t2 (T_f (i := 0) hJ3 t0 (by decide) rfl rfl) (by decide)
      have := rd_k (a := a2) (k := 3) (show s3 = (gw s2 (gR s2 a0 0) 2 (gI s2 a2 1)) from rfl) (by decide)
      have := rd_k (a := a2) (k := 3) (show s2 = (gw s1 (gR s1 a0 0) 1 (gI s1 a2 0)) from rfl) (by decide)
      have := rd_k (a := a2) (k := 3) (show s1 = (gw s (gR s a0 0) 0 a1) from rfl) (by decide)
      have := J_f (i := 3) h t2 rfl (by decide) rfl
      have hJ12 : J p s8 := (J_wa hJ8 (T_f (i := 0) hJ8 t0 (by decide) rfl rfl) rfl)
      exact gT_ret ⟨rfl, hJ12⟩
  · have := rd_T (a := a2) (k := 4) (show s5 = (gw s4 (gR s4 a0 0) 4 (gI s4 a2 4)) from rfl) t2 (T_f (i := 0) hJ4 t0 (by decide) rfl rfl) (by decide)
    have := rd_k (a := a2) (k := 4) (show s4 = (gw s3 (gR s3 a0 0) 3 (gI s3 a2 3)) from rfl) (by decide)
    have := rd_k (a := a2) (k := 4) (show s3 = (gw s2 (gR s2 a0 0) 2 (gI s2 a2 1)) from rfl) (by decide)
    have := rd_k (a := a2) (k := 4) (show s2 = (gw s1 (gR s1 a0 0) 1 (gI s1 a2 0)) from rfl) (by decide)
    have := rd_k (a := a2) (k := 4) (show s1 = (gw s (gR s a0 0) 0 a1) from rfl) (by decide)
    unfold fb_35_65
    extract_lets -merge s6 s7 s8
    refine gT_chk (by omega) (by omega) ?_
    have hJ13 : J p s6 := (J_wa hJ5 (T_f (i := 0) hJ5 t0 (by decide) rfl rfl) rfl)
    refine gT_ite (fun h14 => ?_) (fun h15 => ?_)
    · have := rd_T (a := a2) (k := 3) (show s6 = (gw s5 (gR s5 a0 0) (7 : Int).toNat 0) from rfl) t2 (T_f (i := 0) hJ5 t0 (by decide) rfl rfl) (by decide)
      have := rd_k (a := a2) (k := 3) (show s5 = (gw s4 (gR s4 a0 0) 4 (gI s4 a2 4)) from rfl) (by decide)
      have := rd_T (a := a2) (k := 3) (show s4 = (gw s3 (gR s3 a0 0) 3 (gI s3 a2 3)) from rfl) t2 (T_f (i := 0) hJ3 t0 (by decide) rfl rfl) (by decide)
      have := rd_k (a := a2) (k := 3) (show s3 = (gw s2 (gR s2 a0 0) 2 (gI s2 a2 1)) from rfl) (by decide)
      have := rd_k (a := a2) (k := 3) (show s2 = (gw s1 (gR s1 a0 0) 1 (gI s1 a2 0)) from rfl) (by decide)
      have := rd_k (a := a2) (k := 3) (show s1 = (gw s (gR s a0 0) 0 a1) from rfl) (by decide)
      have := J_f (i := 3) h t2 rfl (by decide) rfl
      have hJ16 : J p s7 := (J_wa hJ13 (T_f (i := 0) hJ13 t0 (by decide) rfl rfl) rfl)
      exact gT_ret ⟨rfl, hJ16⟩
    · have := rd_T (a := a2) (k := 3) (show s6 = (gw s5 (gR s5 a0 0) (7 : Int).toNat 0) from rfl) t2 (T_f (i := 0) hJ5 t0 (by decide) rfl rfl) (by decide)
      have := rd_k (a := a2) (k := 3) (show s5 = (gw s4 (gR s4 a0 0) 4 (gI s4 a2 4)) from rfl) (by decide)
      have := rd_T (a := a2) (k := 3) (show s4 = (gw s3 (gR s3 a0 0) 3 (gI s3 a2 3)) from rfl) t2 (T_f (i := 0) hJ3 t0 (by decide) rfl rfl) (by decide)
      have := rd_k (a := a2) (k := 3) (show s3 = (gw s2 (gR s2 a0 0) 2 (gI s2 a2 1)) from rfl) (by decide)
      have := rd_k (a := a2) (k := 3) (show s2 = (gw s1 (gR s1 a0 0) 1 (gI s1 a2 0)) from rfl) (by decide)
      have := rd_k (a := a2) (k := 3) (show s1 = (gw s (gR s a0 0) 0 a1) from rfl) (by decide)
      have := J_f (i := 3) h t2 rfl (by decide) rfl
      have hJ17 : J p s8 := (J_wa hJ13 (T_f (i := 0) hJ13 t0 (by decide) rfl rfl) rfl)
      exact gT_ret ⟨rfl, hJ17⟩
-- X3_seeTime
theorem d_36 {p : gP} {a0 : Nat} {a1 : Int} {a2 : Int} {s : gS} (hp : -1 ≤ p.1 ∧ p.1 ≤ 0) (h : J p s) (t0 : T 3 a0) : gT (f_36 a0 a1 a2 s) (fun r => r.1 = 0 ∧ J p r.2.2.2) := by
  unfold f_36
  extract_lets -merge s1 s2
  have hJ1 : J p s1 := (J_wa h (T_f (i := 0) h t0 (by decide) rfl rfl) rfl)
  have hJ2 : J p s2 := (J_wa hJ1 (T_f (i := 0) hJ1 t0 (by decide) rfl rfl) rfl)
  exact gT_ret ⟨rfl, hJ2⟩
-- X3_pop
theorem d_41 {p : gP} {a0 : Nat} {s : gS} (hp : -1 ≤ p.1 ∧ p.1 ≤ 0) (h : J p s) (t0 : T 3 a0) : gT (f_41 a0 s) (fun r => r.1 = 1 ∧ True ∧ J p r.2.2.2) := by
  unfold f_41
  extract_lets -merge s1
  refine gT_ite (fun h1 => ?_) (fun h2 => ?_)
  · have := J_f (i := 2) h t0 rfl (by decide) rfl
    exact gT_ret ⟨rfl, trivial, h⟩
  · have := J_f (i := 2) h t0 rfl (by decide) rfl
    have hJ3 : J p s1 := (J_wf h t0 rfl (by decide) (by decide) (fun q hq => by cases hq; dsimp only; have := J_f (i := 2) h t0 rfl (by decide) rfl; have := g32_eq (v := ((gI s a0 2) - 1)) (by omega) (by omega); constructor <;> omega))
    refine gT_chk (by have := rd_same (show s1 = (gw s a0 2 (g32 ((gI s a0 2) - 1))) from rfl); have := J_f (i := 2) h t0 rfl (by decide) rfl; have := g32_eq (v := ((gI s a0 2) - 1)) (by omega) (by omega); omega) (by have := rd_same (show s1 = (gw s a0 2 (g32 ((gI s a0 2) - 1))) from rfl); have := J_f (i := 2) h t0 rfl (by decide) rfl; have := g32_eq (v := ((gI s a0 2) - 1)) (by omega) (by omega); omega) ?_
    exact gT_ret ⟨rfl, trivial, hJ3⟩
-- X3_push
theorem d_40 {p : gP} {a0 : Nat} {a1 : Int} {s : gS} (hp : -1 ≤ p.1 ∧ p.1 ≤ 0) (h : J p s) (t0 : T 3 a0) : gT (f_40 a0 a1 s) (fun r => r.1 = 0 ∧ J p r.2.2.2) := by
  unfold f_40
  extract_lets -merge s1 s2
  refine gT_ite (fun h1 => ?_) (fun h2 => ?_)
  · have := J_f (i := 2) h t0 rfl (by decide) rfl
    refine gT_chk (by have := J_f (i := 2) h t0 rfl (by decide) rfl; omega) (by have := J_f (i := 2) h t0 rfl (by decide) rfl; omega) ?_
    have hJ3 : J p s1 := (J_wa h (T_f (i := 1) h t0 (by decide) rfl rfl) rfl)
    have hJ4 : J p s2 := (J_wf hJ3 t0 rfl (by decide) (by decide) (fun q hq => by cases hq; dsimp only; have := rd_T (a := a0) (k := 2) (show s1 = (gw s (gR s a0 1) ((gI s a0 2) : Int).toNat a1) from rfl) t0 (T_f (i := 1) h t0 (by decide) rfl rfl) (by decide); have := J_f (i := 2) h t0 rfl (by decide) rfl; have := g32_eq (v := ((gI s1 a0 2) + 1)) (by omega) (by omega); constructor <;> omega))
    exact gT_ret ⟨rfl, hJ4⟩
  · have := J_f (i := 2) h t0 rfl (by decide) rfl
    exact gT_ret ⟨rfl, h⟩
-- X3_combine
theorem d_38 {p : gP} {a0 : Nat} {a1 : Int} {s : gS} (hp : -1 ≤ p.1 ∧ p.1 ≤ 0) (h : J p s) (t0 : T 3 a0) : gT (f_38 a0 a1 s) (fun r => r.1 = 0 ∧ J p r.2.2.2) := by
  unfold f_38
  refine gT_v1 (A := fun w9 u9 => True ∧ J p u9) (d_41 hp h t0) (fun v2 s1 h1 => ?_)
  obtain ⟨h1r, hJ2⟩ := h1
  refine gT_ite (fun h3 => ?_) (fun h4 => ?_)
  · refine gT_v0 (A := fun u9 => J p u9) (d_40 hp hJ2 t0) (fun s3 h5 => ?_)
    have hJ6 := h5
    exact gT_ret ⟨rfl, hJ6⟩
  · refine gT_v1 (A := fun w9 u9 => True ∧ J p u9) (d_41 hp hJ2 t0) (fun v6 s5 h7 => ?_)
    obtain ⟨h7r, hJ8⟩ := h7
    refine gT_ite (fun h9 => ?_) (fun h10 => ?_)
    · unfold fb_38_114
      refine gT_v0 (A := fun u9 => J p u9) (d_40 hp hJ8 t0) (fun s7 h11 => ?_)
      have hJ12 := h11
      exact gT_ret ⟨rfl, hJ12⟩
    · refine gT_ite (fun h13 => ?_) (fun h14 => ?_)
      · refine gT_v0 (A := fun u9 => J p u9) (d_40 hp hJ8 t0) (fun s9 h15 => ?_)
        have hJ16 := h15
        exact gT_ret ⟨rfl, hJ16⟩
      · refine gT_ite (fun h17 => ?_) (fun h18 => ?_)
        · refine gT_ite (fun h19 => ?_) (fun h20 => ?_)
          · unfold fb_38_81
            refine gT_v0 (A := fun u9 => J p u9) (d_40 hp hJ8 t0) (fun s11 h21 => ?_)
            have hJ22 := h21
            exact gT_ret ⟨rfl, hJ22⟩
          · unfold fb_38_81
            refine gT_v0 (A := fun u9 => J p u9) (d_40 hp hJ8 t0) (fun s11 h23 => ?_)
            have hJ24 := h23
            exact gT_ret ⟨rfl, hJ24⟩
        · refine gT_ite (fun h25 => ?_) (fun h26 => ?_)
          · refine gT_ite (fun h27 => ?_) (fun h28 => ?_)
            · unfold fb_38_98
              refine gT_v0 (A := fun u9 => J p u9) (d_40 hp hJ8 t0) (fun s13 h29 => ?_)
              have hJ30 := h29
              exact gT_ret ⟨rfl, hJ30⟩
            · unfold fb_38_98
              refine gT_v0 (A := fun u9 => J p u9) (d_40 hp hJ8 t0) (fun s13 h31 => ?_)
              have hJ32 := h31
              exact gT_ret ⟨rfl, hJ32⟩
          · refine gT_ite (fun h33 => ?_) (fun h34 => ?_)
            · unfold fb_38_114
              refine gT_v0 (A := fun u9 => J p u9) (d_40 hp hJ8 t0) (fun s7 h35 => ?_)
              have hJ36 := h35
              exact gT_ret ⟨rfl, hJ36⟩
            · refine gT_ite (fun h37 => ?_) (fun h38 => ?_)
              · refine gT_v0 (A := fun u9 => J p u9) (d_40 hp hJ8 t0) (fun s15 h39 => ?_)
                have hJ40 := h39
                exact gT_ret ⟨rfl, hJ40⟩
              · unfold fb_38_114
                refine gT_v0 (A := fun u9 => J p u9) (d_40 hp hJ8 t0) (fun s7 h41 => ?_)
                have hJ42 := h41
                exact gT_ret ⟨rfl, hJ42⟩
-- X3_factAt
theorem d_39 {p : gP} {a0 : Nat} {a1 : Int} {s : gS} (hp : -1 ≤ p.1 ∧ p.1 ≤ 0) (h : J p s) (t0 : T 3 a0) : gT (f_39 a0 a1 s) (fun r => r.1 = 1 ∧ True ∧ J p r.2.2.2) := by
  unfold f_39
  refine gT_ite (fun h1 => ?_) (fun h2 => ?_)
  · unfold fb_39_19
    exact gT_ret ⟨rfl, trivial, h⟩
  · refine gT_ite (fun h3 => ?_) (fun h4 => ?_)
    · refine gT_chk (by omega) (by omega) ?_
      exact gT_ret ⟨rfl, trivial, h⟩
    · unfold fb_39_19
      exact gT_ret ⟨rfl, trivial, h⟩
-- X2_menIn
theorem d_29 {p : gP} {a0 : Nat} {a1 : Int} {s : gS} (hp : -1 ≤ p.1 ∧ p.1 ≤ 0) (h : J p s) (t0 : T 2 a0) : gT (f_29 a0 a1 s) (fun r => r.1 = 1 ∧ True ∧ J p r.2.2.2) := by
  unfold f_29
  refine gT_loop (fun y => T 2 y.1 ∧ (0 ≤ y.2.2.2.1 ∧ y.2.2.2.1 ≤ 6) ∧ y.2.1 = a1 ∧ J p y.2.2.2.2) (fun y => (6 - y.2.2.2.1).toNat) (fun y hy => ?_) ?_
  · obtain ⟨x0, x1, x2, x3, s⟩ := y
    obtain ⟨t1, r2, e3, hJ4⟩ := hy
    dsimp only at t1 r2 e3 hJ4
    show gT (sb_29_4 x0 x1 x2 x3 s) _
    unfold sb_29_4
    extract_lets -merge v1
    refine gT_ite (fun h5 => ?_) (fun h6 => ?_)
    · have := J_f (i := 4) hJ4 t1 rfl (by decide) rfl
      refine gT_chk (by omega) (by omega) ?_
      refine gT_ite (fun h7 => ?_) (fun h8 => ?_)
      · have := gshl_5 (x := x3) (by constructor <;> omega)
        have hv9 : v1 = (gor x2 (gshl 1 x3)) := rfl
        exact gT_ret ⟨⟨t1, (show (0 : Int) ≤ (g32 (x3 + 1)) ∧ (g32 (x3 + 1)) ≤ 6 by have := g32_eq (v := (x3 + 1)) (by omega) (by omega); constructor <;> omega), (by first | assumption | omega | (dsimp only; omega)), hJ4⟩, by dsimp only; have := g32_eq (v := (x3 + 1)) (by omega) (by omega); omega⟩
      · exact gT_ret ⟨⟨t1, (show (0 : Int) ≤ (g32 (x3 + 1)) ∧ (g32 (x3 + 1)) ≤ 6 by have := g32_eq (v := (x3 + 1)) (by omega) (by omega); constructor <;> omega), (by first | assumption | omega | (dsimp only; omega)), hJ4⟩, by dsimp only; have := g32_eq (v := (x3 + 1)) (by omega) (by omega); omega⟩
    · have := J_f (i := 4) hJ4 t1 rfl (by decide) rfl
      refine gT_map ?_
      exact gT_ret ⟨rfl, trivial, hJ4⟩
  · exact ⟨t0, (show (0 : Int) ≤ 0 ∧ 0 ≤ 6 by constructor <;> omega), rfl, h⟩
-- X2_trustOfKept
theorem d_30 {p : gP} {a0 : Nat} {s : gS} (hp : -1 ≤ p.1 ∧ p.1 ≤ 0) (h : J p s) (t0 : T 2 a0) : gT (f_30 a0 s) (fun r => r.1 = 1 ∧ True ∧ J p r.2.2.2) := by
  unfold f_30
  refine gT_loop (fun y => T 2 y.1 ∧ (0 ≤ y.2.2.1 ∧ y.2.2.1 ≤ 6) ∧ J p y.2.2.2) (fun y => (6 - y.2.2.1).toNat) (fun y hy => ?_) ?_
  · obtain ⟨x0, x1, x2, s⟩ := y
    obtain ⟨t1, r2, hJ3⟩ := hy
    dsimp only at t1 r2 hJ3
    show gT (sb_30_4 x0 x1 x2 s) _
    unfold sb_30_4
    extract_lets -merge v1
    refine gT_ite (fun h4 => ?_) (fun h5 => ?_)
    · have := J_f (i := 4) hJ3 t1 rfl (by decide) rfl
      refine gT_chk (by omega) (by omega) ?_
      refine gT_ite (fun h6 => ?_) (fun h7 => ?_)
      · refine gT_chk (by omega) (by omega) ?_
        have := J_f (i := 0) hJ3 (T_man (i := (x2 : Int).toNat) hJ3 (T_f (i := 0) hJ3 t1 (by decide) rfl rfl) (by omega)) rfl (by decide) rfl
        have hv8 : v1 = (g32 (x1 + (gI s (gR s (gR s x0 0) (x2 : Int).toNat) 0))) := rfl
        exact gT_ret ⟨⟨t1, (show (0 : Int) ≤ (g32 (x2 + 1)) ∧ (g32 (x2 + 1)) ≤ 6 by have := g32_eq (v := (x2 + 1)) (by omega) (by omega); constructor <;> omega), hJ3⟩, by dsimp only; have := g32_eq (v := (x2 + 1)) (by omega) (by omega); omega⟩
      · exact gT_ret ⟨⟨t1, (show (0 : Int) ≤ (g32 (x2 + 1)) ∧ (g32 (x2 + 1)) ≤ 6 by have := g32_eq (v := (x2 + 1)) (by omega) (by omega); constructor <;> omega), hJ3⟩, by dsimp only; have := g32_eq (v := (x2 + 1)) (by omega) (by omega); omega⟩
    · have := J_f (i := 4) hJ3 t1 rfl (by decide) rfl
      refine gT_map ?_
      exact gT_ret ⟨rfl, trivial, hJ3⟩
  · exact ⟨t0, (show (0 : Int) ≤ 0 ∧ 0 ≤ 6 by constructor <;> omega), h⟩
-- X2_holdersOf
theorem d_31 {p : gP} {a0 : Nat} {a1 : Int} {s : gS} (hp : -1 ≤ p.1 ∧ p.1 ≤ 0) (h : J p s) (t0 : T 2 a0) : gT (f_31 a0 a1 s) (fun r => r.1 = 1 ∧ True ∧ J p r.2.2.2) := by
  unfold f_31
  refine gT_loop (fun y => T 2 y.1 ∧ (0 ≤ y.2.2.2.1 ∧ y.2.2.2.1 ≤ 6) ∧ y.2.1 = a1 ∧ J p y.2.2.2.2) (fun y => (6 - y.2.2.2.1).toNat) (fun y hy => ?_) ?_
  · obtain ⟨x0, x1, x2, x3, s⟩ := y
    obtain ⟨t1, r2, e3, hJ4⟩ := hy
    dsimp only at t1 r2 e3 hJ4
    show gT (sb_31_4 x0 x1 x2 x3 s) _
    unfold sb_31_4
    extract_lets -merge v1
    refine gT_ite (fun h5 => ?_) (fun h6 => ?_)
    · have := J_f (i := 5) hJ4 t1 rfl (by decide) rfl
      refine gT_chk (by omega) (by omega) ?_
      have := gand_le (x := (gshr (gI s (gR s x0 2) (x3 : Int).toNat) x1)) (m := 1) (by omega) (by omega)
      have hv7 : v1 = (gor x2 (gshl (gand (gshr (gI s (gR s x0 2) (x3 : Int).toNat) x1) 1) x3)) := rfl
      exact gT_ret ⟨⟨t1, (show (0 : Int) ≤ (g32 (x3 + 1)) ∧ (g32 (x3 + 1)) ≤ 6 by have := g32_eq (v := (x3 + 1)) (by omega) (by omega); constructor <;> omega), (by first | assumption | omega | (dsimp only; omega)), hJ4⟩, by dsimp only; have := g32_eq (v := (x3 + 1)) (by omega) (by omega); omega⟩
    · have := J_f (i := 5) hJ4 t1 rfl (by decide) rfl
      refine gT_map ?_
      exact gT_ret ⟨rfl, trivial, hJ4⟩
  · exact ⟨t0, (show (0 : Int) ≤ 0 ∧ 0 ≤ 6 by constructor <;> omega), rfl, h⟩
-- X2_partsOf
theorem d_32 {p : gP} {a0 : Nat} {a1 : Int} {s : gS} (hp : -1 ≤ p.1 ∧ p.1 ≤ 0) (h : J p s) (t0 : T 2 a0) : gT (f_32 a0 a1 s) (fun r => r.1 = 1 ∧ True ∧ J p r.2.2.2) := by
  unfold f_32
  refine gT_loop (fun y => T 2 y.1 ∧ (0 ≤ y.2.2.2.1 ∧ y.2.2.2.1 ≤ 6) ∧ y.2.1 = a1 ∧ J p y.2.2.2.2) (fun y => (6 - y.2.2.2.1).toNat) (fun y hy => ?_) ?_
  · obtain ⟨x0, x1, x2, x3, s⟩ := y
    obtain ⟨t1, r2, e3, hJ4⟩ := hy
    dsimp only at t1 r2 e3 hJ4
    show gT (sb_32_4 x0 x1 x2 x3 s) _
    unfold sb_32_4
    extract_lets -merge v1
    refine gT_ite (fun h5 => ?_) (fun h6 => ?_)
    · have := J_f (i := 5) hJ4 t1 rfl (by decide) rfl
      refine gT_ite (fun h7 => ?_) (fun h8 => ?_)
      · have := gand_le (x := (gshr x1 x3)) (m := 1) (by omega) (by omega)
        exact gT_ret ⟨⟨t1, (show (0 : Int) ≤ (g32 (x3 + 1)) ∧ (g32 (x3 + 1)) ≤ 6 by have := g32_eq (v := (x3 + 1)) (by omega) (by omega); constructor <;> omega), (by first | assumption | omega | (dsimp only; omega)), hJ4⟩, by dsimp only; have := g32_eq (v := (x3 + 1)) (by omega) (by omega); omega⟩
      · have := gand_le (x := (gshr x1 x3)) (m := 1) (by omega) (by omega)
        refine gT_chk (by omega) (by omega) ?_
        have hv9 : v1 = (gor x2 (gI s (gR s x0 2) (x3 : Int).toNat)) := rfl
        exact gT_ret ⟨⟨t1, (show (0 : Int) ≤ (g32 (x3 + 1)) ∧ (g32 (x3 + 1)) ≤ 6 by have := g32_eq (v := (x3 + 1)) (by omega) (by omega); constructor <;> omega), (by first | assumption | omega | (dsimp only; omega)), hJ4⟩, by dsimp only; have := g32_eq (v := (x3 + 1)) (by omega) (by omega); omega⟩
    · have := J_f (i := 5) hJ4 t1 rfl (by decide) rfl
      refine gT_map ?_
      exact gT_ret ⟨rfl, trivial, hJ4⟩
  · exact ⟨t0, (show (0 : Int) ≤ 0 ∧ 0 ≤ 6 by constructor <;> omega), rfl, h⟩
-- X5_namedFact
-- X6_add
theorem d_55 {p : gP} {a0 : Nat} {a1 : Int} {a2 : Int} {a3 : Int} {a4 : Int} {s : gS} (hp : -1 ≤ p.1 ∧ p.1 ≤ 0) (h : J p s) (t0 : T 6 a0) : gT (f_55 a0 a1 a2 a3 a4 s) (fun r => r.1 = 0 ∧ J p r.2.2.2) := by
  unfold f_55
  extract_lets -merge s7 s8
  refine gT_ite (fun h1 => ?_) (fun h2 => ?_)
  · have := J_f (i := 1) h t0 rfl (by decide) rfl
    unfold fb_55_31
    extract_lets -merge v1 s2 s3 s4 s5 s6
    have := J_f (i := 1) h t0 rfl (by decide) rfl
    have := g32_eq (v := ((gI s a0 1) * 4)) (by omega) (by omega)
    have hv3 : v1 = (g32 ((gI s a0 1) * 4)) := rfl
    refine gT_chk (by omega) (by omega) ?_
    have hJ4 : J p s2 := (J_wa h (T_f (i := 0) h t0 (by decide) rfl rfl) rfl)
    refine gT_chk (by have := g32_eq (v := (v1 + 1)) (by omega) (by omega); omega) (by have := g32_eq (v := (v1 + 1)) (by omega) (by omega); omega) ?_
    have hJ5 : J p s3 := (J_wa hJ4 (T_f (i := 0) hJ4 t0 (by decide) rfl rfl) rfl)
    refine gT_chk (by have := g32_eq (v := (v1 + 2)) (by omega) (by omega); omega) (by have := g32_eq (v := (v1 + 2)) (by omega) (by omega); omega) ?_
    have hJ6 : J p s4 := (J_wa hJ5 (T_f (i := 0) hJ5 t0 (by decide) rfl rfl) rfl)
    refine gT_chk (by have := g32_eq (v := (v1 + 3)) (by omega) (by omega); omega) (by have := g32_eq (v := (v1 + 3)) (by omega) (by omega); omega) ?_
    have hJ7 : J p s5 := (J_wa hJ6 (T_f (i := 0) hJ6 t0 (by decide) rfl rfl) rfl)
    have hJ8 : J p s6 := (J_wf hJ7 t0 rfl (by decide) (by decide) (fun q hq => by cases hq; dsimp only; have := rd_T (a := a0) (k := 1) (show s5 = (gw s4 (gR s4 a0 0) ((g32 (v1 + 3)) : Int).toNat a4) from rfl) t0 (T_f (i := 0) hJ6 t0 (by decide) rfl rfl) (by decide); have := rd_T (a := a0) (k := 1) (show s4 = (gw s3 (gR s3 a0 0) ((g32 (v1 + 2)) : Int).toNat a3) from rfl) t0 (T_f (i := 0) hJ5 t0 (by decide) rfl rfl) (by decide); have := rd_T (a := a0) (k := 1) (show s3 = (gw s2 (gR s2 a0 0) ((g32 (v1 + 1)) : Int).toNat a2) from rfl) t0 (T_f (i := 0) hJ4 t0 (by decide) rfl rfl) (by decide); have := rd_T (a := a0) (k := 1) (show s2 = (gw s (gR s a0 0) (v1 : Int).toNat a1) from rfl) t0 (T_f (i := 0) h t0 (by decide) rfl rfl) (by decide); have := J_f (i := 1) h t0 rfl (by decide) rfl; have := g32_eq (v := ((gI s5 a0 1) + 1)) (by omega) (by omega); constructor <;> omega))
    exact gT_ret ⟨rfl, hJ8⟩
  · have := J_f (i := 1) h t0 rfl (by decide) rfl
    have hJ9 : J p s7 := (J_ca h (T_f (i := 0) h t0 (by decide) rfl rfl) rfl)
    have hJ10 : J p s8 := (J_wf hJ9 t0 rfl (by decide) (by decide) (fun q hq => by cases hq; dsimp only; constructor <;> omega))
    unfold fb_55_31
    extract_lets -merge v1 s2 s3 s4 s5 s6
    have := rd_same (show s8 = (gw s7 a0 1 59) from rfl)
    have := g32_eq (v := ((gI s8 a0 1) * 4)) (by omega) (by omega)
    have hv11 : v1 = (g32 ((gI s8 a0 1) * 4)) := rfl
    refine gT_chk (by omega) (by omega) ?_
    have hJ12 : J p s2 := (J_wa hJ10 (T_f (i := 0) hJ10 t0 (by decide) rfl rfl) rfl)
    refine gT_chk (by have := g32_eq (v := (v1 + 1)) (by omega) (by omega); omega) (by have := g32_eq (v := (v1 + 1)) (by omega) (by omega); omega) ?_
    have hJ13 : J p s3 := (J_wa hJ12 (T_f (i := 0) hJ12 t0 (by decide) rfl rfl) rfl)
    refine gT_chk (by have := g32_eq (v := (v1 + 2)) (by omega) (by omega); omega) (by have := g32_eq (v := (v1 + 2)) (by omega) (by omega); omega) ?_
    have hJ14 : J p s4 := (J_wa hJ13 (T_f (i := 0) hJ13 t0 (by decide) rfl rfl) rfl)
    refine gT_chk (by have := g32_eq (v := (v1 + 3)) (by omega) (by omega); omega) (by have := g32_eq (v := (v1 + 3)) (by omega) (by omega); omega) ?_
    have hJ15 : J p s5 := (J_wa hJ14 (T_f (i := 0) hJ14 t0 (by decide) rfl rfl) rfl)
    have hJ16 : J p s6 := (J_wf hJ15 t0 rfl (by decide) (by decide) (fun q hq => by cases hq; dsimp only; have := rd_T (a := a0) (k := 1) (show s5 = (gw s4 (gR s4 a0 0) ((g32 (v1 + 3)) : Int).toNat a4) from rfl) t0 (T_f (i := 0) hJ14 t0 (by decide) rfl rfl) (by decide); have := rd_T (a := a0) (k := 1) (show s4 = (gw s3 (gR s3 a0 0) ((g32 (v1 + 2)) : Int).toNat a3) from rfl) t0 (T_f (i := 0) hJ13 t0 (by decide) rfl rfl) (by decide); have := rd_T (a := a0) (k := 1) (show s3 = (gw s2 (gR s2 a0 0) ((g32 (v1 + 1)) : Int).toNat a2) from rfl) t0 (T_f (i := 0) hJ12 t0 (by decide) rfl rfl) (by decide); have := rd_T (a := a0) (k := 1) (show s2 = (gw s8 (gR s8 a0 0) (v1 : Int).toNat a1) from rfl) t0 (T_f (i := 0) hJ10 t0 (by decide) rfl rfl) (by decide); have := rd_same (show s8 = (gw s7 a0 1 59) from rfl); have := g32_eq (v := ((gI s5 a0 1) + 1)) (by omega) (by omega); constructor <;> omega))
    exact gT_ret ⟨rfl, hJ16⟩
-- X6_cell
theorem d_56 {p : gP} {a0 : Nat} {a1 : Int} {a2 : Int} {s : gS} (hp : -1 ≤ p.1 ∧ p.1 ≤ 0) (h : J p s) (t0 : T 6 a0) : gT (f_56 a0 a1 a2 s) (fun r => r.1 = 1 ∧ True ∧ J p r.2.2.2) := by
  unfold f_56
  refine gT_ite (fun h1 => ?_) (fun h2 => ?_)
  · exact gT_ret ⟨rfl, trivial, h⟩
  · refine gT_ite (fun h3 => ?_) (fun h4 => ?_)
    · have := J_f (i := 1) h t0 rfl (by decide) rfl
      refine gT_ite (fun h5 => ?_) (fun h6 => ?_)
      · exact gT_ret ⟨rfl, trivial, h⟩
      · refine gT_ite (fun h7 => ?_) (fun h8 => ?_)
        · refine gT_chk (by have := J_f (i := 1) h t0 rfl (by decide) rfl; have := g32_eq (v := ((gI s a0 1) - 1)) (by omega) (by omega); have := g32_eq (v := ((g32 ((gI s a0 1) - 1)) - a1)) (by omega) (by omega); have := g32_eq (v := ((g32 ((g32 ((gI s a0 1) - 1)) - a1)) * 4)) (by omega) (by omega); have := g32_eq (v := ((g32 ((g32 ((g32 ((gI s a0 1) - 1)) - a1)) * 4)) + a2)) (by omega) (by omega); omega) (by have := J_f (i := 1) h t0 rfl (by decide) rfl; have := g32_eq (v := ((gI s a0 1) - 1)) (by omega) (by omega); have := g32_eq (v := ((g32 ((gI s a0 1) - 1)) - a1)) (by omega) (by omega); have := g32_eq (v := ((g32 ((g32 ((gI s a0 1) - 1)) - a1)) * 4)) (by omega) (by omega); have := g32_eq (v := ((g32 ((g32 ((g32 ((gI s a0 1) - 1)) - a1)) * 4)) + a2)) (by omega) (by omega); omega) ?_
          exact gT_ret ⟨rfl, trivial, h⟩
        · exact gT_ret ⟨rfl, trivial, h⟩
    · have := J_f (i := 1) h t0 rfl (by decide) rfl
      exact gT_ret ⟨rfl, trivial, h⟩
-- X6_rowsOf
theorem d_57 {p : gP} {a0 : Nat} {a1 : Int} {a2 : Int} {s : gS} (hp : -1 ≤ p.1 ∧ p.1 ≤ 0) (h : J p s) (t0 : T 6 a0) (r2 : 0 ≤ a2 ∧ a2 ≤ 1) : gT (f_57 a0 a1 a2 s) (fun r => r.1 = 1 ∧ True ∧ J p r.2.2.2) := by
  unfold f_57
  refine gT_loop (fun y => T 6 y.1 ∧ (0 ≤ y.2.2.1 ∧ y.2.2.1 ≤ 1) ∧ (0 ≤ y.2.2.2.2.1 ∧ y.2.2.2.2.1 ≤ 60) ∧ y.2.1 = a1 ∧ y.2.2.1 = a2 ∧ J p y.2.2.2.2.2) (fun y => (60 - y.2.2.2.2.1).toNat) (fun y hy => ?_) ?_
  · obtain ⟨x0, x1, x2, x3, x4, s⟩ := y
    obtain ⟨t1, r2, r3, e4, e5, hJ6⟩ := hy
    dsimp only at t1 r2 r3 e4 e5 hJ6
    show gT (sb_57_5 x0 x1 x2 x3 x4 s) _
    unfold sb_57_5
    refine gT_ite (fun h7 => ?_) (fun h8 => ?_)
    · have := J_f (i := 1) hJ6 t1 rfl (by decide) rfl
      refine gT_chk (by have := g32_eq (v := (x4 * 4)) (by omega) (by omega); have := g32_eq (v := ((g32 (x4 * 4)) + 1)) (by omega) (by omega); omega) (by have := g32_eq (v := (x4 * 4)) (by omega) (by omega); have := g32_eq (v := ((g32 (x4 * 4)) + 1)) (by omega) (by omega); omega) ?_
      refine gT_ite (fun h9 => ?_) (fun h10 => ?_)
      · unfold fb_57_34
        refine gT_ite (fun h11 => ?_) (fun h12 => ?_)
        · exact gT_ret ⟨⟨t1, (show (0 : Int) ≤ x2 ∧ x2 ≤ 1 by constructor <;> omega), (show (0 : Int) ≤ (g32 (x4 + 1)) ∧ (g32 (x4 + 1)) ≤ 60 by have := g32_eq (v := (x4 + 1)) (by omega) (by omega); constructor <;> omega), (by first | assumption | omega | (dsimp only; omega)), (by first | assumption | omega | (dsimp only; omega)), hJ6⟩, by dsimp only; have := g32_eq (v := (x4 + 1)) (by omega) (by omega); omega⟩
        · refine gT_ite (fun h13 => ?_) (fun h14 => ?_)
          · unfold fb_57_60
            exact gT_ret ⟨⟨t1, (show (0 : Int) ≤ x2 ∧ x2 ≤ 1 by constructor <;> omega), (show (0 : Int) ≤ (g32 (x4 + 1)) ∧ (g32 (x4 + 1)) ≤ 60 by have := g32_eq (v := (x4 + 1)) (by omega) (by omega); constructor <;> omega), (by first | assumption | omega | (dsimp only; omega)), (by first | assumption | omega | (dsimp only; omega)), hJ6⟩, by dsimp only; have := g32_eq (v := (x4 + 1)) (by omega) (by omega); omega⟩
          · refine gT_chk (by have := g32_eq (v := (x4 * 4)) (by omega) (by omega); have := g32_eq (v := ((g32 (x4 * 4)) + 2)) (by omega) (by omega); omega) (by have := g32_eq (v := (x4 * 4)) (by omega) (by omega); have := g32_eq (v := ((g32 (x4 * 4)) + 2)) (by omega) (by omega); omega) ?_
            refine gT_ite (fun h15 => ?_) (fun h16 => ?_)
            · unfold fb_57_60
              exact gT_ret ⟨⟨t1, (show (0 : Int) ≤ x2 ∧ x2 ≤ 1 by constructor <;> omega), (show (0 : Int) ≤ (g32 (x4 + 1)) ∧ (g32 (x4 + 1)) ≤ 60 by have := g32_eq (v := (x4 + 1)) (by omega) (by omega); constructor <;> omega), (by first | assumption | omega | (dsimp only; omega)), (by first | assumption | omega | (dsimp only; omega)), hJ6⟩, by dsimp only; have := g32_eq (v := (x4 + 1)) (by omega) (by omega); omega⟩
            · exact gT_ret ⟨⟨t1, (show (0 : Int) ≤ x2 ∧ x2 ≤ 1 by constructor <;> omega), (show (0 : Int) ≤ (g32 (x4 + 1)) ∧ (g32 (x4 + 1)) ≤ 60 by have := g32_eq (v := (x4 + 1)) (by omega) (by omega); constructor <;> omega), (by first | assumption | omega | (dsimp only; omega)), (by first | assumption | omega | (dsimp only; omega)), hJ6⟩, by dsimp only; have := g32_eq (v := (x4 + 1)) (by omega) (by omega); omega⟩
      · unfold fb_57_34
        refine gT_ite (fun h17 => ?_) (fun h18 => ?_)
        · exact gT_ret ⟨⟨t1, (show (0 : Int) ≤ x2 ∧ x2 ≤ 1 by constructor <;> omega), (show (0 : Int) ≤ (g32 (x4 + 1)) ∧ (g32 (x4 + 1)) ≤ 60 by have := g32_eq (v := (x4 + 1)) (by omega) (by omega); constructor <;> omega), (by first | assumption | omega | (dsimp only; omega)), (by first | assumption | omega | (dsimp only; omega)), hJ6⟩, by dsimp only; have := g32_eq (v := (x4 + 1)) (by omega) (by omega); omega⟩
        · refine gT_ite (fun h19 => ?_) (fun h20 => ?_)
          · unfold fb_57_60
            exact gT_ret ⟨⟨t1, (show (0 : Int) ≤ x2 ∧ x2 ≤ 1 by constructor <;> omega), (show (0 : Int) ≤ (g32 (x4 + 1)) ∧ (g32 (x4 + 1)) ≤ 60 by have := g32_eq (v := (x4 + 1)) (by omega) (by omega); constructor <;> omega), (by first | assumption | omega | (dsimp only; omega)), (by first | assumption | omega | (dsimp only; omega)), hJ6⟩, by dsimp only; have := g32_eq (v := (x4 + 1)) (by omega) (by omega); omega⟩
          · refine gT_chk (by have := g32_eq (v := (x4 * 4)) (by omega) (by omega); have := g32_eq (v := ((g32 (x4 * 4)) + 2)) (by omega) (by omega); omega) (by have := g32_eq (v := (x4 * 4)) (by omega) (by omega); have := g32_eq (v := ((g32 (x4 * 4)) + 2)) (by omega) (by omega); omega) ?_
            refine gT_ite (fun h21 => ?_) (fun h22 => ?_)
            · unfold fb_57_60
              exact gT_ret ⟨⟨t1, (show (0 : Int) ≤ x2 ∧ x2 ≤ 1 by constructor <;> omega), (show (0 : Int) ≤ (g32 (x4 + 1)) ∧ (g32 (x4 + 1)) ≤ 60 by have := g32_eq (v := (x4 + 1)) (by omega) (by omega); constructor <;> omega), (by first | assumption | omega | (dsimp only; omega)), (by first | assumption | omega | (dsimp only; omega)), hJ6⟩, by dsimp only; have := g32_eq (v := (x4 + 1)) (by omega) (by omega); omega⟩
            · exact gT_ret ⟨⟨t1, (show (0 : Int) ≤ x2 ∧ x2 ≤ 1 by constructor <;> omega), (show (0 : Int) ≤ (g32 (x4 + 1)) ∧ (g32 (x4 + 1)) ≤ 60 by have := g32_eq (v := (x4 + 1)) (by omega) (by omega); constructor <;> omega), (by first | assumption | omega | (dsimp only; omega)), (by first | assumption | omega | (dsimp only; omega)), hJ6⟩, by dsimp only; have := g32_eq (v := (x4 + 1)) (by omega) (by omega); omega⟩
    · have := J_f (i := 1) hJ6 t1 rfl (by decide) rfl
      refine gT_map ?_
      exact gT_ret ⟨rfl, trivial, hJ6⟩
  · exact ⟨t0, (show (0 : Int) ≤ a2 ∧ a2 ≤ 1 by constructor <;> omega), (show (0 : Int) ≤ 0 ∧ 0 ≤ 60 by constructor <;> omega), rfl, rfl, h⟩
-- J7_fill_53178
theorem d_273 {p : gP} {a0 : Nat} {a1 : Int} {s : gS} (hp : -1 ≤ p.1 ∧ p.1 ≤ 0) (h : J p s) (t0 : T 3684 a0) : gT (f_273 a0 a1 s) (fun r => r.1 = 0 ∧ J p r.2.2.2) := by
  unfold f_273
  refine gT_loop (fun y => T 3684 y.1 ∧ (0 ≤ y.2.2.1 ∧ y.2.2.1 ≤ 448) ∧ (448 ≤ y.2.2.2.1 ∧ y.2.2.2.1 ≤ 448) ∧ y.2.1 = a1 ∧ J p y.2.2.2.2) (fun y => (448 - y.2.2.1).toNat) (fun y hy => ?_) ?_
  · obtain ⟨x0, x1, x2, x3, s⟩ := y
    obtain ⟨t1, r2, r3, e4, hJ5⟩ := hy
    dsimp only at t1 r2 r3 e4 hJ5
    show gT (sb_273_5 x0 x1 x2 x3 s) _
    unfold sb_273_5
    extract_lets -merge s1
    refine gT_ite (fun h6 => ?_) (fun h7 => ?_)
    · refine gT_chk (by omega) (by omega) ?_
      have hJ8 : J p s1 := (J_wa hJ5 t1 rfl)
      exact gT_ret ⟨⟨t1, (show (0 : Int) ≤ (g32 (x2 + 1)) ∧ (g32 (x2 + 1)) ≤ 448 by have := g32_eq (v := (x2 + 1)) (by omega) (by omega); constructor <;> omega), (show (448 : Int) ≤ x3 ∧ x3 ≤ 448 by constructor <;> omega), (by first | assumption | omega | (dsimp only; omega)), hJ8⟩, by dsimp only; have := g32_eq (v := (x2 + 1)) (by omega) (by omega); omega⟩
    · refine gT_map ?_
      exact gT_ret ⟨rfl, hJ5⟩
  · exact ⟨t0, (show (0 : Int) ≤ 0 ∧ 0 ≤ 448 by constructor <;> omega), (show (448 : Int) ≤ 448 ∧ 448 ≤ 448 by constructor <;> omega), rfl, h⟩
-- X8_given
theorem d_64 {p : gP} {a0 : Nat} {a1 : Int} {a2 : Int} {a3 : Int} {s : gS} (hp : -1 ≤ p.1 ∧ p.1 ≤ 0) (h : J p s) (t0 : T 8 a0) (r1 : 0 ≤ a1 ∧ a1 ≤ 5) (r2 : 0 ≤ a2 ∧ a2 ≤ 63) (r3 : -1 ≤ a3 ∧ a3 ≤ 5) : gT (f_64 a0 a1 a2 a3 s) (fun r => r.1 = 1 ∧ True ∧ J p r.2.2.2) := by
  unfold f_64
  extract_lets -merge v1 v2
  have := g32_eq (v := (a1 + 1)) (by omega) (by omega)
  have := g32_eq (v := ((g32 (a1 + 1)) * 64)) (by omega) (by omega)
  have hv1 : v1 = (g32 ((g32 (a1 + 1)) * 64)) := rfl
  refine gT_ite (fun h2 => ?_) (fun h3 => ?_)
  · refine gT_chk (by have := g32_eq (v := (v1 + a2)) (by omega) (by omega); omega) (by have := g32_eq (v := (v1 + a2)) (by omega) (by omega); omega) ?_
    exact gT_ret ⟨rfl, trivial, h⟩
  · refine gT_chk (by omega) (by omega) ?_
    have hT4 : T 7 v2 := (T_man (i := (a3 : Int).toNat) h (T_f (i := 0) h (T_f (i := 0) h t0 (by decide) rfl rfl) (by decide) rfl rfl) (by omega))
    refine gT_ite (fun h5 => ?_) (fun h6 => ?_)
    · refine gT_ite (fun h7 => ?_) (fun h8 => ?_)
      · have := gand_le (x := (gshr a2 a3)) (m := 1) (by omega) (by omega)
        refine gT_chk (by omega) (by omega) ?_
        refine gT_chk (by have := gshl_5 (x := a3) (by constructor <;> omega); have := gor_lt (x := a2) (y := (gshl 1 a3)) 6 (by decide) (by constructor <;> omega) (by constructor <;> omega); have := g32_eq (v := (v1 + (gor a2 (gshl 1 a3)))) (by omega) (by omega); omega) (by have := gshl_5 (x := a3) (by constructor <;> omega); have := gor_lt (x := a2) (y := (gshl 1 a3)) 6 (by decide) (by constructor <;> omega) (by constructor <;> omega); have := g32_eq (v := (v1 + (gor a2 (gshl 1 a3)))) (by omega) (by omega); omega) ?_
        exact gT_ret ⟨rfl, trivial, h⟩
      · have := gand_le (x := (gshr a2 a3)) (m := 1) (by omega) (by omega)
        exact gT_ret ⟨rfl, trivial, h⟩
    · exact gT_ret ⟨rfl, trivial, h⟩
-- X8_weigh
theorem d_63 {p : gP} {a0 : Nat} {s : gS} (hp : -1 ≤ p.1 ∧ p.1 ≤ 0) (h : J p s) (t0 : T 8 a0) : gT (f_63 a0 s) (fun r => r.1 = 0 ∧ J p r.2.2.2) := by
  unfold f_63
  refine gT_v0 (A := fun u9 => J p u9) (d_273 hp h (T_f (i := 1) h t0 (by decide) rfl rfl)) (fun s1 h1 => ?_)
  have hJ2 := h1
  extract_lets -merge v3
  have := J_f (i := 5) hJ2 (T_f (i := 0) hJ2 t0 (by decide) rfl rfl) rfl (by decide) rfl
  have := g32_eq (v := ((gI s1 (gR s1 a0 0) 5) - 1)) (by omega) (by omega)
  have hv3 : v3 = (g32 ((gI s1 (gR s1 a0 0) 5) - 1)) := rfl
  refine gT_loop (fun y => T 8 y.1 ∧ (-1 ≤ y.2.1 ∧ y.2.1 ≤ 5) ∧ J p y.2.2) (fun y => (y.2.1 - (-1)).toNat) (fun y hy => ?_) ?_
  · obtain ⟨x0, x1, s⟩ := y
    obtain ⟨t4, r5, hJ6⟩ := hy
    dsimp only at t4 r5 hJ6
    show gT (sb_63_18 x0 x1 s) _
    unfold sb_63_18
    refine gT_ite (fun h7 => ?_) (fun h8 => ?_)
    · refine gT_map ?_
      exact gT_ret ⟨rfl, hJ6⟩
    · refine gT_loop (fun y => T 8 y.1 ∧ (0 ≤ y.2.1 ∧ y.2.1 ≤ 5) ∧ (0 ≤ y.2.2.1 ∧ y.2.2.1 ≤ 64) ∧ y.2.1 = x1 ∧ J p y.2.2.2) (fun y => (64 - y.2.2.1).toNat) (fun y hy => ?_) ?_
      · obtain ⟨x0, x1, x2, s⟩ := y
        obtain ⟨t9, r10, r11, e12, hJ13⟩ := hy
        dsimp only at t9 r10 r11 e12 hJ13
        show gT (sb_63_24 x0 x1 x2 s) _
        unfold sb_63_24
        refine gT_ite (fun h14 => ?_) (fun h15 => ?_)
        · have := J_f (i := 4) hJ13 (T_f (i := 0) hJ13 t9 (by decide) rfl rfl) rfl (by decide) rfl
          have := gshl_6 (x := (gI s (gR s x0 0) 4)) (by constructor <;> omega)
          refine gT_v1 (A := fun w9 u9 => True ∧ J p u9) (d_64 hp hJ13 t9 (show (0 : Int) ≤ x1 ∧ x1 ≤ 5 by constructor <;> omega) (show (0 : Int) ≤ x2 ∧ x2 ≤ 63 by constructor <;> omega) (show (-1 : Int) ≤ (-1) ∧ (-1) ≤ 5 by constructor <;> omega)) (fun v5 s4 h16 => ?_)
          obtain ⟨h16r, hJ17⟩ := h16
          refine gT_loop (fun y => T 8 y.1 ∧ (0 ≤ y.2.1 ∧ y.2.1 ≤ 5) ∧ (0 ≤ y.2.2.1 ∧ y.2.2.1 ≤ 63) ∧ (0 ≤ y.2.2.2.2.1 ∧ y.2.2.2.2.1 ≤ 6) ∧ y.2.1 = x1 ∧ y.2.2.1 = x2 ∧ J p y.2.2.2.2.2) (fun y => (6 - y.2.2.2.2.1).toNat) (fun y hy => ?_) ?_
          · obtain ⟨x0, x1, x2, x3, x4, s⟩ := y
            obtain ⟨t18, r19, r20, r21, e22, e23, hJ24⟩ := hy
            dsimp only at t18 r19 r20 r21 e22 e23 hJ24
            show gT (sb_63_48 x0 x1 x2 x3 x4 s) _
            unfold sb_63_48
            extract_lets -merge s8
            refine gT_ite (fun h25 => ?_) (fun h26 => ?_)
            · have := J_f (i := 4) hJ24 (T_f (i := 0) hJ24 t18 (by decide) rfl rfl) rfl (by decide) rfl
              refine gT_v1 (A := fun w9 u9 => True ∧ J p u9) (d_64 hp hJ24 t18 (show (0 : Int) ≤ x1 ∧ x1 ≤ 5 by constructor <;> omega) (show (0 : Int) ≤ x2 ∧ x2 ≤ 63 by constructor <;> omega) (show (-1 : Int) ≤ x4 ∧ x4 ≤ 5 by constructor <;> omega)) (fun v7 s6 h27 => ?_)
              obtain ⟨h27r, hJ28⟩ := h27
              exact gT_ret ⟨⟨t18, (show (0 : Int) ≤ x1 ∧ x1 ≤ 5 by constructor <;> omega), (show (0 : Int) ≤ x2 ∧ x2 ≤ 63 by constructor <;> omega), (show (0 : Int) ≤ (g32 (x4 + 1)) ∧ (g32 (x4 + 1)) ≤ 6 by have := g32_eq (v := (x4 + 1)) (by omega) (by omega); constructor <;> omega), (by first | assumption | omega | (dsimp only; omega)), (by first | assumption | omega | (dsimp only; omega)), hJ28⟩, by dsimp only; have := g32_eq (v := (x4 + 1)) (by omega) (by omega); omega⟩
            · have := J_f (i := 4) hJ24 (T_f (i := 0) hJ24 t18 (by decide) rfl rfl) rfl (by decide) rfl
              refine gT_map ?_
              refine gT_chk (by have := g32_eq (v := (x1 * 64)) (by omega) (by omega); have := g32_eq (v := ((g32 (x1 * 64)) + x2)) (by omega) (by omega); omega) (by have := g32_eq (v := (x1 * 64)) (by omega) (by omega); have := g32_eq (v := ((g32 (x1 * 64)) + x2)) (by omega) (by omega); omega) ?_
              have hJ29 : J p s8 := (J_wa hJ24 (T_f (i := 1) hJ24 t18 (by decide) rfl rfl) rfl)
              exact gT_ret ⟨⟨t18, (show (0 : Int) ≤ x1 ∧ x1 ≤ 5 by constructor <;> omega), (show (0 : Int) ≤ (g32 (x2 + 1)) ∧ (g32 (x2 + 1)) ≤ 64 by have := g32_eq (v := (x2 + 1)) (by omega) (by omega); constructor <;> omega), (by first | assumption | omega | (dsimp only; omega)), hJ29⟩, by dsimp only; have := g32_eq (v := (x2 + 1)) (by omega) (by omega); omega⟩
          · exact ⟨t9, (show (0 : Int) ≤ x1 ∧ x1 ≤ 5 by constructor <;> omega), (show (0 : Int) ≤ x2 ∧ x2 ≤ 63 by constructor <;> omega), (show (0 : Int) ≤ 0 ∧ 0 ≤ 6 by constructor <;> omega), rfl, rfl, hJ17⟩
        · have := J_f (i := 4) hJ13 (T_f (i := 0) hJ13 t9 (by decide) rfl rfl) rfl (by decide) rfl
          have := gshl_6 (x := (gI s (gR s x0 0) 4)) (by constructor <;> omega)
          refine gT_map ?_
          exact gT_ret ⟨⟨t9, (show (-1 : Int) ≤ (g32 (x1 + (-1))) ∧ (g32 (x1 + (-1))) ≤ 5 by have := g32_eq (v := (x1 + (-1))) (by omega) (by omega); constructor <;> omega), hJ13⟩, by dsimp only; have := g32_eq (v := (x1 + (-1))) (by omega) (by omega); omega⟩
      · exact ⟨t4, (show (0 : Int) ≤ x1 ∧ x1 ≤ 5 by constructor <;> omega), (show (0 : Int) ≤ 0 ∧ 0 ≤ 64 by constructor <;> omega), rfl, hJ6⟩
  · exact ⟨t0, (show (-1 : Int) ≤ v3 ∧ v3 ≤ 5 by constructor <;> omega), hJ2⟩
-- X8_most
theorem d_65 {p : gP} {a0 : Nat} {s : gS} (hp : -1 ≤ p.1 ∧ p.1 ≤ 0) (h : J p s) (t0 : T 8 a0) : gT (f_65 a0 s) (fun r => r.1 = 1 ∧ True ∧ J p r.2.2.2) := by
  unfold f_65
  exact gT_ret ⟨rfl, trivial, h⟩
-- X8_gets
theorem d_66 {p : gP} {a0 : Nat} {a1 : Int} {s : gS} (hp : -1 ≤ p.1 ∧ p.1 ≤ 0) (h : J p s) (t0 : T 8 a0) (r1 : 0 ≤ a1 ∧ a1 ≤ 5) : gT (f_66 a0 a1 s) (fun r => r.1 = 1 ∧ True ∧ J p r.2.2.2) := by
  unfold f_66
  refine gT_loop (fun y => T 8 y.1 ∧ (0 ≤ y.2.1 ∧ y.2.1 ≤ 5) ∧ (0 ≤ y.2.2.1 ∧ y.2.2.1 ≤ 63) ∧ (-1 ≤ y.2.2.2.1 ∧ y.2.2.2.1 ≤ 5) ∧ (0 ≤ y.2.2.2.2.1 ∧ y.2.2.2.2.1 ≤ 6) ∧ y.2.1 = a1 ∧ J p y.2.2.2.2.2) (fun y => (6 - y.2.2.2.2.1).toNat) (fun y hy => ?_) ?_
  · obtain ⟨x0, x1, x2, x3, x4, s⟩ := y
    obtain ⟨t1, r2, r3, r4, r5, e6, hJ7⟩ := hy
    dsimp only at t1 r2 r3 r4 r5 e6 hJ7
    show gT (sb_66_7 x0 x1 x2 x3 x4 s) _
    unfold sb_66_7
    refine gT_ite (fun h8 => ?_) (fun h9 => ?_)
    · refine gT_map ?_
      exact gT_ret ⟨rfl, trivial, hJ7⟩
    · refine gT_loop (fun y => T 8 y.1 ∧ (0 ≤ y.2.1 ∧ y.2.1 ≤ 5) ∧ (0 ≤ y.2.2.1 ∧ y.2.2.1 ≤ 63) ∧ (-1 ≤ y.2.2.2.1 ∧ y.2.2.2.1 ≤ 5) ∧ (0 ≤ y.2.2.2.2.1 ∧ y.2.2.2.2.1 ≤ 5) ∧ y.2.1 = x1 ∧ y.2.2.1 = x2 ∧ y.2.2.2.2.1 = x4 ∧ J p y.2.2.2.2.2) (fun y => (5 - y.2.2.2.1).toNat) (fun y hy => ?_) ?_
      · obtain ⟨x0, x1, x2, x3, x4, s⟩ := y
        obtain ⟨t10, r11, r12, r13, r14, e15, e16, e17, hJ18⟩ := hy
        dsimp only at t10 r11 r12 r13 r14 e15 e16 e17 hJ18
        show gT (sb_66_15 x0 x1 x2 x3 x4 s) _
        unfold sb_66_15
        refine gT_ite (fun h19 => ?_) (fun h20 => ?_)
        · have := J_f (i := 4) hJ18 (T_f (i := 0) hJ18 t10 (by decide) rfl rfl) rfl (by decide) rfl
          have := g32_eq (v := ((gI s (gR s x0 0) 4) - 1)) (by omega) (by omega)
          refine gT_v1 (A := fun w9 u9 => True ∧ J p u9) (d_64 hp hJ18 t10 (show (0 : Int) ≤ x4 ∧ x4 ≤ 5 by constructor <;> omega) (show (0 : Int) ≤ x2 ∧ x2 ≤ 63 by constructor <;> omega) (show (-1 : Int) ≤ x3 ∧ x3 ≤ 5 by constructor <;> omega)) (fun v2 s1 h21 => ?_)
          obtain ⟨h21r, hJ22⟩ := h21
          refine gT_chk (by have := g32_eq (v := (x4 * 64)) (by omega) (by omega); have := g32_eq (v := ((g32 (x4 * 64)) + x2)) (by omega) (by omega); omega) (by have := g32_eq (v := (x4 * 64)) (by omega) (by omega); have := g32_eq (v := ((g32 (x4 * 64)) + x2)) (by omega) (by omega); omega) ?_
          refine gT_ite (fun h23 => ?_) (fun h24 => ?_)
          · exact gT_ret ⟨⟨t10, (show (0 : Int) ≤ x1 ∧ x1 ≤ 5 by constructor <;> omega), (show (0 : Int) ≤ x2 ∧ x2 ≤ 63 by constructor <;> omega), (show (-1 : Int) ≤ (g32 (x3 + 1)) ∧ (g32 (x3 + 1)) ≤ 5 by have := g32_eq (v := (x3 + 1)) (by omega) (by omega); constructor <;> omega), (show (0 : Int) ≤ x4 ∧ x4 ≤ 5 by constructor <;> omega), (by first | assumption | omega | (dsimp only; omega)), (by first | assumption | omega | (dsimp only; omega)), (by first | assumption | omega | (dsimp only; omega)), hJ22⟩, by dsimp only; have := g32_eq (v := (x3 + 1)) (by omega) (by omega); omega⟩
          · refine gT_map ?_
            unfold fb_66_57
            extract_lets -merge v3
            refine gT_ite (fun h25 => ?_) (fun h26 => ?_)
            · exact gT_ret ⟨⟨t10, (show (0 : Int) ≤ x1 ∧ x1 ≤ 5 by constructor <;> omega), (show (0 : Int) ≤ x2 ∧ x2 ≤ 63 by constructor <;> omega), (show (-1 : Int) ≤ x3 ∧ x3 ≤ 5 by constructor <;> omega), (show (0 : Int) ≤ (g32 (x4 + 1)) ∧ (g32 (x4 + 1)) ≤ 6 by have := g32_eq (v := (x4 + 1)) (by omega) (by omega); constructor <;> omega), (by first | assumption | omega | (dsimp only; omega)), hJ22⟩, by dsimp only; have := g32_eq (v := (x4 + 1)) (by omega) (by omega); omega⟩
            · have := gshl_5 (x := x3) (by constructor <;> omega)
              have := gor_lt (x := x2) (y := (gshl 1 x3)) 6 (by decide) (by constructor <;> omega) (by constructor <;> omega)
              have hv27 : v3 = (gor x2 (gshl 1 x3)) := rfl
              exact gT_ret ⟨⟨t10, (show (0 : Int) ≤ x1 ∧ x1 ≤ 5 by constructor <;> omega), (show (0 : Int) ≤ v3 ∧ v3 ≤ 63 by constructor <;> omega), (show (-1 : Int) ≤ x3 ∧ x3 ≤ 5 by constructor <;> omega), (show (0 : Int) ≤ (g32 (x4 + 1)) ∧ (g32 (x4 + 1)) ≤ 6 by have := g32_eq (v := (x4 + 1)) (by omega) (by omega); constructor <;> omega), (by first | assumption | omega | (dsimp only; omega)), hJ22⟩, by dsimp only; have := g32_eq (v := (x4 + 1)) (by omega) (by omega); omega⟩
        · have := J_f (i := 4) hJ18 (T_f (i := 0) hJ18 t10 (by decide) rfl rfl) rfl (by decide) rfl
          have := g32_eq (v := ((gI s (gR s x0 0) 4) - 1)) (by omega) (by omega)
          refine gT_map ?_
          unfold fb_66_57
          extract_lets -merge v3
          refine gT_ite (fun h28 => ?_) (fun h29 => ?_)
          · exact gT_ret ⟨⟨t10, (show (0 : Int) ≤ x1 ∧ x1 ≤ 5 by constructor <;> omega), (show (0 : Int) ≤ x2 ∧ x2 ≤ 63 by constructor <;> omega), (show (-1 : Int) ≤ x3 ∧ x3 ≤ 5 by constructor <;> omega), (show (0 : Int) ≤ (g32 (x4 + 1)) ∧ (g32 (x4 + 1)) ≤ 6 by have := g32_eq (v := (x4 + 1)) (by omega) (by omega); constructor <;> omega), (by first | assumption | omega | (dsimp only; omega)), hJ18⟩, by dsimp only; have := g32_eq (v := (x4 + 1)) (by omega) (by omega); omega⟩
          · have := gshl_5 (x := x3) (by constructor <;> omega)
            have := gor_lt (x := x2) (y := (gshl 1 x3)) 6 (by decide) (by constructor <;> omega) (by constructor <;> omega)
            have hv30 : v3 = (gor x2 (gshl 1 x3)) := rfl
            exact gT_ret ⟨⟨t10, (show (0 : Int) ≤ x1 ∧ x1 ≤ 5 by constructor <;> omega), (show (0 : Int) ≤ v3 ∧ v3 ≤ 63 by constructor <;> omega), (show (-1 : Int) ≤ x3 ∧ x3 ≤ 5 by constructor <;> omega), (show (0 : Int) ≤ (g32 (x4 + 1)) ∧ (g32 (x4 + 1)) ≤ 6 by have := g32_eq (v := (x4 + 1)) (by omega) (by omega); constructor <;> omega), (by first | assumption | omega | (dsimp only; omega)), hJ18⟩, by dsimp only; have := g32_eq (v := (x4 + 1)) (by omega) (by omega); omega⟩
      · exact ⟨t1, (show (0 : Int) ≤ x1 ∧ x1 ≤ 5 by constructor <;> omega), (show (0 : Int) ≤ x2 ∧ x2 ≤ 63 by constructor <;> omega), (show (-1 : Int) ≤ (-1) ∧ (-1) ≤ 5 by constructor <;> omega), (show (0 : Int) ≤ x4 ∧ x4 ≤ 5 by constructor <;> omega), rfl, rfl, rfl, hJ7⟩
  · exact ⟨t0, (show (0 : Int) ≤ a1 ∧ a1 ≤ 5 by constructor <;> omega), (show (0 : Int) ≤ 0 ∧ 0 ≤ 63 by constructor <;> omega), (show (-1 : Int) ≤ (-1) ∧ (-1) ≤ 5 by constructor <;> omega), (show (0 : Int) ≤ 0 ∧ 0 ≤ 6 by constructor <;> omega), rfl, h⟩
-- J7_fill_d0a16
theorem d_272 {p : gP} {a0 : Nat} {a1 : Int} {s : gS} (hp : -1 ≤ p.1 ∧ p.1 ≤ 0) (h : J p s) (t0 : T 24101 a0) : gT (f_272 a0 a1 s) (fun r => r.1 = 0 ∧ J p r.2.2.2) := by
  unfold f_272
  refine gT_loop (fun y => T 24101 y.1 ∧ (0 ≤ y.2.2.1 ∧ y.2.2.1 ≤ 3000) ∧ (3000 ≤ y.2.2.2.1 ∧ y.2.2.2.1 ≤ 3000) ∧ y.2.1 = a1 ∧ J p y.2.2.2.2) (fun y => (3000 - y.2.2.1).toNat) (fun y hy => ?_) ?_
  · obtain ⟨x0, x1, x3, x4, s⟩ := y
    obtain ⟨t1, r2, r3, e4, hJ5⟩ := hy
    dsimp only at t1 r2 r3 e4 hJ5
    show gT (sb_272_6 x0 x1 x3 x4 s) _
    unfold sb_272_6
    extract_lets -merge s1
    refine gT_ite (fun h6 => ?_) (fun h7 => ?_)
    · refine gT_chk (by omega) (by omega) ?_
      have hJ8 : J p s1 := (J_wa hJ5 t1 rfl)
      exact gT_ret ⟨⟨t1, (show (0 : Int) ≤ (g32 (x3 + 1)) ∧ (g32 (x3 + 1)) ≤ 3000 by have := g32_eq (v := (x3 + 1)) (by omega) (by omega); constructor <;> omega), (show (3000 : Int) ≤ x4 ∧ x4 ≤ 3000 by constructor <;> omega), (by first | assumption | omega | (dsimp only; omega)), hJ8⟩, by dsimp only; have := g32_eq (v := (x3 + 1)) (by omega) (by omega); omega⟩
    · refine gT_map ?_
      exact gT_ret ⟨rfl, hJ5⟩
  · exact ⟨t0, (show (0 : Int) ≤ 0 ∧ 0 ≤ 3000 by constructor <;> omega), (show (3000 : Int) ≤ 3000 ∧ 3000 ≤ 3000 by constructor <;> omega), rfl, h⟩
-- X9_proven
-- X11_fault
theorem d_91 {p : gP} {a0 : Nat} {s : gS} (hp : -1 ≤ p.1 ∧ p.1 ≤ 0) (h : J p s) (t0 : T 11 a0) : gT (f_91 a0 s) (fun r => r.1 = 1 ∧ True ∧ J p r.2.2.2) := by
  unfold f_91
  exact gT_ret ⟨rfl, trivial, h⟩
-- X11_needStep
theorem d_134 {p : gP} {a0 : Nat} {a1 : Int} {s : gS} (hp : -1 ≤ p.1 ∧ p.1 ≤ 0) (h : J p s) (t0 : T 11 a0) : gT (f_134 a0 a1 s) (fun r => (r.1 = 0 ∧ (0 ≤ a1 ∧ a1 ≤ 7) ∧ J p r.2.2.2) ∨ (2 ≤ r.1 ∧ r.1 ≤ 6 ∧ (r.1 = 5) ∧ J p r.2.2.2)) := by
  unfold f_134
  refine gT_ite (fun h1 => ?_) (fun h2 => ?_)
  · unfold fb_134_15
    exact gT_ret (Or.inr ⟨Nat.le_of_ble_eq_true rfl, Nat.le_of_ble_eq_true rfl, by simp, (J_nw h)⟩)
  · refine gT_ite (fun h3 => ?_) (fun h4 => ?_)
    · have := J_f (i := 5) h (T_f (i := 4) h t0 (by decide) rfl rfl) rfl (by decide) rfl
      exact gT_ret (Or.inl ⟨rfl, (by first | omega | (dsimp only; omega)), h⟩)
    · have := J_f (i := 5) h (T_f (i := 4) h t0 (by decide) rfl rfl) rfl (by decide) rfl
      unfold fb_134_15
      exact gT_ret (Or.inr ⟨Nat.le_of_ble_eq_true rfl, Nat.le_of_ble_eq_true rfl, by simp, (J_nw h)⟩)
-- X11_step
theorem d_92 {p : gP} {a0 : Nat} {a1 : Int} {a2 : Int} {s : gS} (hp : -1 ≤ p.1 ∧ p.1 ≤ 0) (h : J p s) (t0 : T 11 a0) : gT (f_92 a0 a1 a2 s) (fun r => (r.1 = 1 ∧ True ∧ J p r.2.2.2) ∨ (2 ≤ r.1 ∧ r.1 ≤ 6 ∧ (r.1 = 4 ∨ r.1 = 5) ∧ J p r.2.2.2)) := by
  unfold f_92
  refine gT_t0 (A := fun u9 => (0 ≤ a1 ∧ a1 ≤ 7) ∧ J p u9) (B := fun t9 u9 => (t9 = 5) ∧ J p u9) (d_134 hp h t0) (fun s1 h1 => ?_) (fun t s h1 h2 h3 => Or.inr ⟨h1, h2, by have := h3.1; dsimp only; omega, h3.2⟩)
  obtain ⟨h1e, hJ2⟩ := h1
  refine gT_ite (fun h3 => ?_) (fun h4 => ?_)
  · exact gT_ret (Or.inr ⟨Nat.le_of_ble_eq_true rfl, Nat.le_of_ble_eq_true rfl, by simp, (J_nw hJ2)⟩)
  · refine gT_ite (fun h5 => ?_) (fun h6 => ?_)
    · refine gT_chk (by omega) (by omega) ?_
      exact gT_ret (Or.inl ⟨rfl, trivial, hJ2⟩)
    · refine gT_ite (fun h7 => ?_) (fun h8 => ?_)
      · refine gT_chk (by omega) (by omega) ?_
        exact gT_ret (Or.inl ⟨rfl, trivial, hJ2⟩)
      · refine gT_ite (fun h9 => ?_) (fun h10 => ?_)
        · refine gT_chk (by omega) (by omega) ?_
          exact gT_ret (Or.inl ⟨rfl, trivial, hJ2⟩)
        · refine gT_ite (fun h11 => ?_) (fun h12 => ?_)
          · refine gT_v1 (A := fun w9 u9 => True ∧ J p u9) (d_31 hp hJ2 (T_f (i := 5) hJ2 t0 (by decide) rfl rfl)) (fun v4 s3 h13 => ?_)
            obtain ⟨h13r, hJ14⟩ := h13
            exact gT_ret (Or.inl ⟨rfl, trivial, hJ14⟩)
          · exact gT_ret (Or.inr ⟨Nat.le_of_ble_eq_true rfl, Nat.le_of_ble_eq_true rfl, by simp, (J_nw hJ2)⟩)
-- X11_needMan
theorem d_135 {p : gP} {a0 : Nat} {a1 : Int} {s : gS} (hp : -1 ≤ p.1 ∧ p.1 ≤ 0) (h : J p s) (t0 : T 11 a0) : gT (f_135 a0 a1 s) (fun r => (r.1 = 0 ∧ (0 ≤ a1 ∧ a1 ≤ 5) ∧ J p r.2.2.2) ∨ (2 ≤ r.1 ∧ r.1 ≤ 6 ∧ (r.1 = 5) ∧ J p r.2.2.2)) := by
  unfold f_135
  refine gT_ite (fun h1 => ?_) (fun h2 => ?_)
  · unfold fb_135_15
    exact gT_ret (Or.inr ⟨Nat.le_of_ble_eq_true rfl, Nat.le_of_ble_eq_true rfl, by simp, (J_nw h)⟩)
  · refine gT_ite (fun h3 => ?_) (fun h4 => ?_)
    · have := J_f (i := 4) h (T_f (i := 5) h t0 (by decide) rfl rfl) rfl (by decide) rfl
      exact gT_ret (Or.inl ⟨rfl, (by first | omega | (dsimp only; omega)), h⟩)
    · have := J_f (i := 4) h (T_f (i := 5) h t0 (by decide) rfl rfl) rfl (by decide) rfl
      unfold fb_135_15
      exact gT_ret (Or.inr ⟨Nat.le_of_ble_eq_true rfl, Nat.le_of_ble_eq_true rfl, by simp, (J_nw h)⟩)
-- X11_needTest
theorem d_136 {p : gP} {a0 : Nat} {a1 : Int} {s : gS} (hp : -1 ≤ p.1 ∧ p.1 ≤ 0) (h : J p s) (t0 : T 11 a0) : gT (f_136 a0 a1 s) (fun r => (r.1 = 0 ∧ (0 ≤ a1 ∧ a1 ≤ 5) ∧ J p r.2.2.2) ∨ (2 ≤ r.1 ∧ r.1 ≤ 6 ∧ (r.1 = 5) ∧ J p r.2.2.2)) := by
  unfold f_136
  refine gT_ite (fun h1 => ?_) (fun h2 => ?_)
  · unfold fb_136_15
    exact gT_ret (Or.inr ⟨Nat.le_of_ble_eq_true rfl, Nat.le_of_ble_eq_true rfl, by simp, (J_nw h)⟩)
  · refine gT_ite (fun h3 => ?_) (fun h4 => ?_)
    · have := J_f (i := 6) h (T_f (i := 4) h t0 (by decide) rfl rfl) rfl (by decide) rfl
      exact gT_ret (Or.inl ⟨rfl, (by first | omega | (dsimp only; omega)), h⟩)
    · have := J_f (i := 6) h (T_f (i := 4) h t0 (by decide) rfl rfl) rfl (by decide) rfl
      unfold fb_136_15
      exact gT_ret (Or.inr ⟨Nat.le_of_ble_eq_true rfl, Nat.le_of_ble_eq_true rfl, by simp, (J_nw h)⟩)
-- X11_test
theorem d_94 {p : gP} {a0 : Nat} {a1 : Int} {a2 : Int} {s : gS} (hp : -1 ≤ p.1 ∧ p.1 ≤ 0) (h : J p s) (t0 : T 11 a0) (r2 : 0 ≤ a2 ∧ a2 ≤ 1) : gT (f_94 a0 a1 a2 s) (fun r => (r.1 = 1 ∧ True ∧ J p r.2.2.2) ∨ (2 ≤ r.1 ∧ r.1 ≤ 6 ∧ (r.1 = 5) ∧ J p r.2.2.2)) := by
  unfold f_94
  refine gT_t0 (A := fun u9 => (0 ≤ a1 ∧ a1 ≤ 5) ∧ J p u9) (B := fun t9 u9 => (t9 = 5) ∧ J p u9) (d_136 hp h t0) (fun s1 h1 => ?_) (fun t s h1 h2 h3 => Or.inr ⟨h1, h2, by have := h3.1; dsimp only; omega, h3.2⟩)
  obtain ⟨h1e, hJ2⟩ := h1
  refine gT_ite (fun h3 => ?_) (fun h4 => ?_)
  · refine gT_chk (by omega) (by omega) ?_
    exact gT_ret (Or.inl ⟨rfl, trivial, hJ2⟩)
  · refine gT_chk (by omega) (by omega) ?_
    exact gT_ret (Or.inl ⟨rfl, trivial, hJ2⟩)
-- X11_needRival
theorem d_137 {p : gP} {a0 : Nat} {a1 : Int} {s : gS} (hp : -1 ≤ p.1 ∧ p.1 ≤ 0) (h : J p s) (t0 : T 11 a0) : gT (f_137 a0 a1 s) (fun r => (r.1 = 0 ∧ (0 ≤ a1 ∧ a1 ≤ 5) ∧ J p r.2.2.2) ∨ (2 ≤ r.1 ∧ r.1 ≤ 6 ∧ (r.1 = 5) ∧ J p r.2.2.2)) := by
  unfold f_137
  refine gT_ite (fun h1 => ?_) (fun h2 => ?_)
  · unfold fb_137_15
    exact gT_ret (Or.inr ⟨Nat.le_of_ble_eq_true rfl, Nat.le_of_ble_eq_true rfl, by simp, (J_nw h)⟩)
  · refine gT_ite (fun h3 => ?_) (fun h4 => ?_)
    · have := J_f (i := 5) h (T_f (i := 5) h t0 (by decide) rfl rfl) rfl (by decide) rfl
      exact gT_ret (Or.inl ⟨rfl, (by first | omega | (dsimp only; omega)), h⟩)
    · have := J_f (i := 5) h (T_f (i := 5) h t0 (by decide) rfl rfl) rfl (by decide) rfl
      unfold fb_137_15
      exact gT_ret (Or.inr ⟨Nat.le_of_ble_eq_true rfl, Nat.le_of_ble_eq_true rfl, by simp, (J_nw h)⟩)
-- X11_rival
theorem d_95 {p : gP} {a0 : Nat} {a1 : Int} {a2 : Int} {s : gS} (hp : -1 ≤ p.1 ∧ p.1 ≤ 0) (h : J p s) (t0 : T 11 a0) (r2 : 0 ≤ a2 ∧ a2 ≤ 1) : gT (f_95 a0 a1 a2 s) (fun r => (r.1 = 1 ∧ True ∧ J p r.2.2.2) ∨ (2 ≤ r.1 ∧ r.1 ≤ 6 ∧ (r.1 = 5) ∧ J p r.2.2.2)) := by
  unfold f_95
  refine gT_t0 (A := fun u9 => (0 ≤ a1 ∧ a1 ≤ 5) ∧ J p u9) (B := fun t9 u9 => (t9 = 5) ∧ J p u9) (d_137 hp h t0) (fun s1 h1 => ?_) (fun t s h1 h2 h3 => Or.inr ⟨h1, h2, by have := h3.1; dsimp only; omega, h3.2⟩)
  obtain ⟨h1e, hJ2⟩ := h1
  refine gT_ite (fun h3 => ?_) (fun h4 => ?_)
  · refine gT_chk (by omega) (by omega) ?_
    exact gT_ret (Or.inl ⟨rfl, trivial, hJ2⟩)
  · refine gT_chk (by omega) (by omega) ?_
    exact gT_ret (Or.inl ⟨rfl, trivial, hJ2⟩)
-- X11_needKept
theorem d_139 {p : gP} {a0 : Nat} {a1 : Int} {s : gS} (hp : -1 ≤ p.1 ∧ p.1 ≤ 0) (h : J p s) (t0 : T 11 a0) (r1 : 0 ≤ a1 ∧ a1 ≤ 5) : gT (f_139 a0 a1 s) (fun r => (r.1 = 0 ∧ J p r.2.2.2) ∨ (2 ≤ r.1 ∧ r.1 ≤ 6 ∧ (r.1 = 6) ∧ J p r.2.2.2)) := by
  unfold f_139
  refine gT_chk (by omega) (by omega) ?_
  refine gT_ite (fun h1 => ?_) (fun h2 => ?_)
  · exact gT_ret (Or.inl ⟨rfl, h⟩)
  · exact gT_ret (Or.inr ⟨Nat.le_of_ble_eq_true rfl, Nat.le_of_ble_eq_true rfl, by simp, (J_nw h)⟩)
-- X11_remember
theorem d_140 {p : gP} {a0 : Nat} {s : gS} (hp : -1 ≤ p.1 ∧ p.1 ≤ 0) (h : J p s) (t0 : T 11 a0) : gT (f_140 a0 s) (fun r => r.1 = 0 ∧ J p r.2.2.2) := by
  unfold f_140
  extract_lets -merge s1
  have hJ1 : J p s1 := (J_wf h t0 rfl (by decide) (by decide) (fun q hq => by cases hq; dsimp only; have := J_f (i := 13) h t0 rfl (by decide) rfl; have := g32_eq (v := ((gI s a0 13) + 1)) (by omega) (by omega); have := grem_eq (x := (g32 ((gI s a0 13) + 1))) (c := 12) (by constructor <;> omega) (by decide); constructor <;> omega))
  refine gT_chk (by have := rd_same (show s1 = (gw s a0 13 (grem (g32 ((gI s a0 13) + 1)) 12)) from rfl); have := J_f (i := 13) h t0 rfl (by decide) rfl; have := g32_eq (v := ((gI s a0 13) + 1)) (by omega) (by omega); have := grem_eq (x := (g32 ((gI s a0 13) + 1))) (c := 12) (by constructor <;> omega) (by decide); omega) (by have := rd_same (show s1 = (gw s a0 13 (grem (g32 ((gI s a0 13) + 1)) 12)) from rfl); have := J_f (i := 13) h t0 rfl (by decide) rfl; have := g32_eq (v := ((gI s a0 13) + 1)) (by omega) (by omega); have := grem_eq (x := (g32 ((gI s a0 13) + 1))) (c := 12) (by constructor <;> omega) (by decide); omega) ?_
  refine gT_v0 (A := fun u9 => J p u9) (d_22 hp hJ1 (T_pastc (i := ((gI s1 a0 13) : Int).toNat) hJ1 hJ1 t0 (by have := rd_same (show s1 = (gw s a0 13 (grem (g32 ((gI s a0 13) + 1)) 12)) from rfl); have := J_f (i := 13) h t0 rfl (by decide) rfl; have := g32_eq (v := ((gI s a0 13) + 1)) (by omega) (by omega); have := grem_eq (x := (g32 ((gI s a0 13) + 1))) (c := 12) (by constructor <;> omega) (by decide); omega)) (T_f (i := 5) hJ1 t0 (by decide) rfl rfl)) (fun s2 h2 => ?_)
  have hJ3 := h2
  extract_lets -merge s4
  have hJ4 : J p s4 := (J_wf hJ3 t0 rfl (by decide) (by decide) (fun q hq => by cases hq))
  exact gT_ret ⟨rfl, hJ4⟩
-- X11_tried
theorem d_97 {p : gP} {a0 : Nat} {a1 : Int} {a2 : Int} {s : gS} (hp : -1 ≤ p.1 ∧ p.1 ≤ 0) (h : J p s) (t0 : T 11 a0) : gT (f_97 a0 a1 a2 s) (fun r => (r.1 = 1 ∧ (0 ≤ r.2.1 ∧ r.2.1 ≤ 1) ∧ J p r.2.2.2) ∨ (2 ≤ r.1 ∧ r.1 ≤ 6 ∧ (r.1 = 5 ∨ r.1 = 6) ∧ J p r.2.2.2)) := by
  unfold f_97
  refine gT_t0 (A := fun u9 => (0 ≤ a1 ∧ a1 ≤ 5) ∧ J p u9) (B := fun t9 u9 => (t9 = 5) ∧ J p u9) (d_135 hp h t0) (fun s1 h1 => ?_) (fun t s h1 h2 h3 => Or.inr ⟨h1, h2, by have := h3.1; dsimp only; omega, h3.2⟩)
  obtain ⟨h1e, hJ2⟩ := h1
  refine gT_t0 (A := fun u9 => (0 ≤ a2 ∧ a2 ≤ 5) ∧ J p u9) (B := fun t9 u9 => (t9 = 5) ∧ J p u9) (d_136 hp hJ2 t0) (fun s3 h3 => ?_) (fun t s h1 h2 h3 => Or.inr ⟨h1, h2, by have := h3.1; dsimp only; omega, h3.2⟩)
  obtain ⟨h3e, hJ4⟩ := h3
  refine gT_t0 (A := fun u9 => J p u9) (B := fun t9 u9 => (t9 = 6) ∧ J p u9) (d_139 hp hJ4 t0 (show (0 : Int) ≤ a1 ∧ a1 ≤ 5 by constructor <;> omega)) (fun s5 h5 => ?_) (fun t s h1 h2 h3 => Or.inr ⟨h1, h2, by have := h3.1; dsimp only; omega, h3.2⟩)
  have hJ6 := h5
  refine gT_v0 (A := fun u9 => J p u9) (d_140 hp hJ6 t0) (fun s7 h7 => ?_)
  have hJ8 := h7
  refine gT_chk (by omega) (by omega) ?_
  refine gT_v0 (A := fun u9 => J p u9) (d_26 hp hJ8 (T_f (i := 5) hJ8 t0 (by decide) rfl rfl)) (fun s9 h9 => ?_)
  have hJ10 := h9
  extract_lets -merge v11
  refine gT_chk (by omega) (by omega) ?_
  have hT11 : T 7 v11 := (T_man (i := (a1 : Int).toNat) hJ10 (T_f (i := 0) hJ10 (T_f (i := 5) hJ10 t0 (by decide) rfl rfl) (by decide) rfl rfl) (by omega))
  refine gT_v1 (A := fun w9 u9 => (0 ≤ w9 ∧ w9 ≤ 1) ∧ J p u9) (d_4 hp hJ10 (T_f (i := 4) hJ10 t0 (by decide) rfl rfl) (show (0 : Int) ≤ a2 ∧ a2 ≤ 5 by constructor <;> omega)) (fun v13 s12 h12 => ?_)
  obtain ⟨h12r, hJ13⟩ := h12
  extract_lets -merge s20
  refine gT_ite (fun h14 => ?_) (fun h15 => ?_)
  · refine gT_v0 (A := fun u9 => J p u9) (d_60 hp hJ13 hT11) (fun s15 h16 => ?_)
    have hJ17 := h16
    unfold fb_97_82
    extract_lets -merge s17
    refine gT_ite (fun h18 => ?_) (fun h19 => ?_)
    · have := J_f (i := 0) hJ17 hT11 rfl (by decide) rfl
      have hJ20 : J p s17 := (J_wf hJ17 hT11 rfl (by decide) (by decide) (fun q hq => by cases hq))
      unfold fb_97_101
      refine gT_ite (fun h21 => ?_) (fun h22 => ?_)
      · unfold fb_97_126
        refine gT_v0 (A := fun u9 => J p u9) (d_55 hp hJ20 (T_f (i := 3) hJ20 (T_f (i := 5) hJ20 t0 (by decide) rfl rfl) (by decide) rfl rfl)) (fun s18 h23 => ?_)
        have hJ24 := h23
        refine gT_bool (by omega) ?_
        exact gT_ret (Or.inl ⟨rfl, (by dsimp only; constructor <;> omega), hJ24⟩)
      · unfold fb_97_126
        refine gT_v0 (A := fun u9 => J p u9) (d_55 hp hJ20 (T_f (i := 3) hJ20 (T_f (i := 5) hJ20 t0 (by decide) rfl rfl) (by decide) rfl rfl)) (fun s18 h25 => ?_)
        have hJ26 := h25
        refine gT_bool (by omega) ?_
        exact gT_ret (Or.inl ⟨rfl, (by dsimp only; constructor <;> omega), hJ26⟩)
    · have := J_f (i := 0) hJ17 hT11 rfl (by decide) rfl
      unfold fb_97_101
      refine gT_ite (fun h27 => ?_) (fun h28 => ?_)
      · unfold fb_97_126
        refine gT_v0 (A := fun u9 => J p u9) (d_55 hp hJ17 (T_f (i := 3) hJ17 (T_f (i := 5) hJ17 t0 (by decide) rfl rfl) (by decide) rfl rfl)) (fun s18 h29 => ?_)
        have hJ30 := h29
        refine gT_bool (by omega) ?_
        exact gT_ret (Or.inl ⟨rfl, (by dsimp only; constructor <;> omega), hJ30⟩)
      · unfold fb_97_126
        refine gT_v0 (A := fun u9 => J p u9) (d_55 hp hJ17 (T_f (i := 3) hJ17 (T_f (i := 5) hJ17 t0 (by decide) rfl rfl) (by decide) rfl rfl)) (fun s18 h31 => ?_)
        have hJ32 := h31
        refine gT_bool (by omega) ?_
        exact gT_ret (Or.inl ⟨rfl, (by dsimp only; constructor <;> omega), hJ32⟩)
  · have hJ33 : J p s20 := (J_wf hJ13 hT11 rfl (by decide) (by decide) (fun q hq => by cases hq; dsimp only; have := J_f (i := 0) hJ13 hT11 rfl (by decide) rfl; have := gdiv_eq (x := (gI s12 v11 0)) (c := 2) (by constructor <;> omega) (by decide); constructor <;> omega))
    unfold fb_97_82
    extract_lets -merge s17
    refine gT_ite (fun h34 => ?_) (fun h35 => ?_)
    · have := rd_same (show s20 = (gw s12 v11 0 (gdiv (gI s12 v11 0) 2)) from rfl)
      have := J_f (i := 0) hJ13 hT11 rfl (by decide) rfl
      have := gdiv_eq (x := (gI s12 v11 0)) (c := 2) (by constructor <;> omega) (by decide)
      have := rd_k (a := (gR s20 a0 4)) (k := 7) (show s20 = (gw s12 v11 0 (gdiv (gI s12 v11 0) 2)) from rfl) (by decide)
      have hJ36 : J p s17 := (J_wf hJ33 hT11 rfl (by decide) (by decide) (fun q hq => by cases hq))
      unfold fb_97_101
      refine gT_ite (fun h37 => ?_) (fun h38 => ?_)
      · unfold fb_97_126
        refine gT_v0 (A := fun u9 => J p u9) (d_55 hp hJ36 (T_f (i := 3) hJ36 (T_f (i := 5) hJ36 t0 (by decide) rfl rfl) (by decide) rfl rfl)) (fun s18 h39 => ?_)
        have hJ40 := h39
        refine gT_bool (by omega) ?_
        exact gT_ret (Or.inl ⟨rfl, (by dsimp only; constructor <;> omega), hJ40⟩)
      · unfold fb_97_126
        refine gT_v0 (A := fun u9 => J p u9) (d_55 hp hJ36 (T_f (i := 3) hJ36 (T_f (i := 5) hJ36 t0 (by decide) rfl rfl) (by decide) rfl rfl)) (fun s18 h41 => ?_)
        have hJ42 := h41
        refine gT_bool (by omega) ?_
        exact gT_ret (Or.inl ⟨rfl, (by dsimp only; constructor <;> omega), hJ42⟩)
    · have := rd_same (show s20 = (gw s12 v11 0 (gdiv (gI s12 v11 0) 2)) from rfl)
      have := J_f (i := 0) hJ13 hT11 rfl (by decide) rfl
      have := gdiv_eq (x := (gI s12 v11 0)) (c := 2) (by constructor <;> omega) (by decide)
      have := rd_k (a := (gR s20 a0 4)) (k := 7) (show s20 = (gw s12 v11 0 (gdiv (gI s12 v11 0) 2)) from rfl) (by decide)
      unfold fb_97_101
      refine gT_ite (fun h43 => ?_) (fun h44 => ?_)
      · unfold fb_97_126
        refine gT_v0 (A := fun u9 => J p u9) (d_55 hp hJ33 (T_f (i := 3) hJ33 (T_f (i := 5) hJ33 t0 (by decide) rfl rfl) (by decide) rfl rfl)) (fun s18 h45 => ?_)
        have hJ46 := h45
        refine gT_bool (by omega) ?_
        exact gT_ret (Or.inl ⟨rfl, (by dsimp only; constructor <;> omega), hJ46⟩)
      · unfold fb_97_126
        refine gT_v0 (A := fun u9 => J p u9) (d_55 hp hJ33 (T_f (i := 3) hJ33 (T_f (i := 5) hJ33 t0 (by decide) rfl rfl) (by decide) rfl rfl)) (fun s18 h47 => ?_)
        have hJ48 := h47
        refine gT_bool (by omega) ?_
        exact gT_ret (Or.inl ⟨rfl, (by dsimp only; constructor <;> omega), hJ48⟩)
-- X11_flee
theorem d_98 {p : gP} {a0 : Nat} {a1 : Int} {s : gS} (hp : -1 ≤ p.1 ∧ p.1 ≤ 0) (h : J p s) (t0 : T 11 a0) : gT (f_98 a0 a1 s) (fun r => (r.1 = 1 ∧ True ∧ J p r.2.2.2) ∨ (2 ≤ r.1 ∧ r.1 ≤ 6 ∧ (r.1 = 5 ∨ r.1 = 6) ∧ J p r.2.2.2)) := by
  unfold f_98
  refine gT_t0 (A := fun u9 => (0 ≤ a1 ∧ a1 ≤ 5) ∧ J p u9) (B := fun t9 u9 => (t9 = 5) ∧ J p u9) (d_135 hp h t0) (fun s1 h1 => ?_) (fun t s h1 h2 h3 => Or.inr ⟨h1, h2, by have := h3.1; dsimp only; omega, h3.2⟩)
  obtain ⟨h1e, hJ2⟩ := h1
  refine gT_t0 (A := fun u9 => J p u9) (B := fun t9 u9 => (t9 = 6) ∧ J p u9) (d_139 hp hJ2 t0 (show (0 : Int) ≤ a1 ∧ a1 ≤ 5 by constructor <;> omega)) (fun s3 h3 => ?_) (fun t s h1 h2 h3 => Or.inr ⟨h1, h2, by have := h3.1; dsimp only; omega, h3.2⟩)
  have hJ4 := h3
  extract_lets -merge v5
  refine gT_chk (by omega) (by omega) ?_
  have hT5 : T 7 v5 := (T_man (i := (a1 : Int).toNat) hJ4 (T_f (i := 0) hJ4 (T_f (i := 5) hJ4 t0 (by decide) rfl rfl) (by decide) rfl rfl) (by omega))
  refine gT_ite (fun h6 => ?_) (fun h7 => ?_)
  · exact gT_ret (Or.inr ⟨Nat.le_of_ble_eq_true rfl, Nat.le_of_ble_eq_true rfl, by simp, (J_nw hJ4)⟩)
  · refine gT_v0 (A := fun u9 => J p u9) (d_140 hp hJ4 t0) (fun s6 h8 => ?_)
    have hJ9 := h8
    extract_lets -merge s8
    have hJ10 : J p s8 := (J_wf hJ9 hT5 rfl (by decide) (by decide) (fun q hq => by cases hq))
    exact gT_ret (Or.inl ⟨rfl, trivial, hJ10⟩)
-- X11_needWithin
theorem d_138 {p : gP} {a0 : Nat} {a1 : Int} {a2 : Int} {a3 : Int} {s : gS} (hp : -1 ≤ p.1 ∧ p.1 ≤ 0) (h : J p s) (t0 : T 11 a0) : gT (f_138 a0 a1 a2 a3 s) (fun r => (r.1 = 0 ∧ (a2 ≤ a1 ∧ a1 ≤ a3) ∧ J p r.2.2.2) ∨ (2 ≤ r.1 ∧ r.1 ≤ 6 ∧ (r.1 = 2) ∧ J p r.2.2.2)) := by
  unfold f_138
  refine gT_ite (fun h1 => ?_) (fun h2 => ?_)
  · unfold fb_138_10
    exact gT_ret (Or.inr ⟨Nat.le_of_ble_eq_true rfl, Nat.le_of_ble_eq_true rfl, by simp, (J_nw h)⟩)
  · refine gT_ite (fun h3 => ?_) (fun h4 => ?_)
    · unfold fb_138_10
      exact gT_ret (Or.inr ⟨Nat.le_of_ble_eq_true rfl, Nat.le_of_ble_eq_true rfl, by simp, (J_nw h)⟩)
    · exact gT_ret (Or.inl ⟨rfl, (by first | omega | (dsimp only; omega)), h⟩)
-- X11_sell
theorem d_99 {p : gP} {a0 : Nat} {a1 : Int} {a2 : Int} {a3 : Int} {s : gS} (hp : -1 ≤ p.1 ∧ p.1 ≤ 0) (h : J p s) (t0 : T 11 a0) : gT (f_99 a0 a1 a2 a3 s) (fun r => (r.1 = 1 ∧ True ∧ J p r.2.2.2) ∨ (2 ≤ r.1 ∧ r.1 ≤ 6 ∧ (r.1 = 2 ∨ r.1 = 5 ∨ r.1 = 6) ∧ J p r.2.2.2)) := by
  unfold f_99
  refine gT_t0 (A := fun u9 => (0 ≤ a1 ∧ a1 ≤ 5) ∧ J p u9) (B := fun t9 u9 => (t9 = 5) ∧ J p u9) (d_135 hp h t0) (fun s1 h1 => ?_) (fun t s h1 h2 h3 => Or.inr ⟨h1, h2, by have := h3.1; dsimp only; omega, h3.2⟩)
  obtain ⟨h1e, hJ2⟩ := h1
  refine gT_t0 (A := fun u9 => (0 ≤ a2 ∧ a2 ≤ 5) ∧ J p u9) (B := fun t9 u9 => (t9 = 5) ∧ J p u9) (d_137 hp hJ2 t0) (fun s3 h3 => ?_) (fun t s h1 h2 h3 => Or.inr ⟨h1, h2, by have := h3.1; dsimp only; omega, h3.2⟩)
  obtain ⟨h3e, hJ4⟩ := h3
  refine gT_chk (by omega) (by omega) ?_
  refine gT_t0 (A := fun u9 => (0 ≤ a3 ∧ a3 ≤ (gI s3 (gR s3 (gR s3 a0 5) 1) (a2 : Int).toNat)) ∧ J p u9) (B := fun t9 u9 => (t9 = 2) ∧ J p u9) (d_138 hp hJ4 t0) (fun s5 h5 => ?_) (fun t s h1 h2 h3 => Or.inr ⟨h1, h2, by have := h3.1; dsimp only; omega, h3.2⟩)
  obtain ⟨h5e, hJ6⟩ := h5
  refine gT_t0 (A := fun u9 => J p u9) (B := fun t9 u9 => (t9 = 6) ∧ J p u9) (d_139 hp hJ6 t0 (show (0 : Int) ≤ a1 ∧ a1 ≤ 5 by constructor <;> omega)) (fun s7 h7 => ?_) (fun t s h1 h2 h3 => Or.inr ⟨h1, h2, by have := h3.1; dsimp only; omega, h3.2⟩)
  have hJ8 := h7
  refine gT_v0 (A := fun u9 => J p u9) (d_140 hp hJ8 t0) (fun s9 h9 => ?_)
  have hJ10 := h9
  extract_lets -merge v11 s12 s13 s14 s15
  refine gT_chk (by omega) (by omega) ?_
  have hT11 : T 7 v11 := (T_man (i := (a1 : Int).toNat) hJ10 (T_f (i := 0) hJ10 (T_f (i := 5) hJ10 t0 (by decide) rfl rfl) (by decide) rfl rfl) (by omega))
  refine gT_chk (by omega) (by omega) ?_
  refine gT_chk (by omega) (by omega) ?_
  have hJ12 : J p s12 := (J_wa hJ10 (T_f (i := 1) hJ10 (T_f (i := 5) hJ10 t0 (by decide) rfl rfl) (by decide) rfl rfl) rfl)
  have hJ13 : J p s13 := (J_wf hJ12 (T_f (i := 5) hJ12 t0 (by decide) rfl rfl) rfl (by decide) (by decide) (fun q hq => by cases hq))
  refine gT_chk (by omega) (by omega) ?_
  refine gT_chk (by omega) (by omega) ?_
  have hJ14 : J p s14 := (J_wa hJ13 (T_f (i := 2) hJ13 (T_f (i := 5) hJ13 t0 (by decide) rfl rfl) (by decide) rfl rfl) rfl)
  have hJ15 : J p s15 := (J_wf hJ14 hT11 rfl (by decide) (by decide) (fun q hq => by cases hq))
  exact gT_ret (Or.inl ⟨rfl, trivial, hJ15⟩)
-- X11_part
theorem d_100 {p : gP} {a0 : Nat} {a1 : Int} {a2 : Int} {s : gS} (hp : -1 ≤ p.1 ∧ p.1 ≤ 0) (h : J p s) (t0 : T 11 a0) : gT (f_100 a0 a1 a2 s) (fun r => (r.1 = 1 ∧ True ∧ J p r.2.2.2) ∨ (2 ≤ r.1 ∧ r.1 ≤ 6 ∧ (r.1 = 5 ∨ r.1 = 6) ∧ J p r.2.2.2)) := by
  unfold f_100
  refine gT_t0 (A := fun u9 => (0 ≤ a1 ∧ a1 ≤ 7) ∧ J p u9) (B := fun t9 u9 => (t9 = 5) ∧ J p u9) (d_134 hp h t0) (fun s1 h1 => ?_) (fun t s h1 h2 h3 => Or.inr ⟨h1, h2, by have := h3.1; dsimp only; omega, h3.2⟩)
  obtain ⟨h1e, hJ2⟩ := h1
  refine gT_t0 (A := fun u9 => (0 ≤ a2 ∧ a2 ≤ 5) ∧ J p u9) (B := fun t9 u9 => (t9 = 5) ∧ J p u9) (d_137 hp hJ2 t0) (fun s3 h3 => ?_) (fun t s h1 h2 h3 => Or.inr ⟨h1, h2, by have := h3.1; dsimp only; omega, h3.2⟩)
  obtain ⟨h3e, hJ4⟩ := h3
  refine gT_chk (by omega) (by omega) ?_
  refine gT_ite (fun h5 => ?_) (fun h6 => ?_)
  · have := gand_le (x := (gshr (gI s3 (gR s3 (gR s3 a0 5) 2) (a2 : Int).toNat) a1)) (m := 1) (by omega) (by omega)
    refine gT_chk (by omega) (by omega) ?_
    refine gT_ite (fun h7 => ?_) (fun h8 => ?_)
    · unfold fb_100_40
      exact gT_ret (Or.inr ⟨Nat.le_of_ble_eq_true rfl, Nat.le_of_ble_eq_true rfl, by simp, (J_nw hJ4)⟩)
    · refine gT_v0 (A := fun u9 => J p u9) (d_140 hp hJ4 t0) (fun s5 h9 => ?_)
      have hJ10 := h9
      extract_lets -merge s7 s8
      refine gT_chk (by omega) (by omega) ?_
      refine gT_chk (by omega) (by omega) ?_
      have hJ11 : J p s7 := (J_wa hJ10 (T_f (i := 1) hJ10 (T_f (i := 5) hJ10 t0 (by decide) rfl rfl) (by decide) rfl rfl) rfl)
      refine gT_chk (by omega) (by omega) ?_
      refine gT_chk (by omega) (by omega) ?_
      have hJ12 : J p s8 := (J_wa hJ11 (T_f (i := 2) hJ11 (T_f (i := 5) hJ11 t0 (by decide) rfl rfl) (by decide) rfl rfl) rfl)
      refine gT_chk (by omega) (by omega) ?_
      exact gT_ret (Or.inl ⟨rfl, trivial, hJ12⟩)
  · have := gand_le (x := (gshr (gI s3 (gR s3 (gR s3 a0 5) 2) (a2 : Int).toNat) a1)) (m := 1) (by omega) (by omega)
    unfold fb_100_40
    exact gT_ret (Or.inr ⟨Nat.le_of_ble_eq_true rfl, Nat.le_of_ble_eq_true rfl, by simp, (J_nw hJ4)⟩)
-- X11_pay
theorem d_101 {p : gP} {a0 : Nat} {a1 : Int} {s : gS} (hp : -1 ≤ p.1 ∧ p.1 ≤ 0) (h : J p s) (t0 : T 11 a0) : gT (f_101 a0 a1 s) (fun r => (r.1 = 1 ∧ True ∧ J p r.2.2.2) ∨ (2 ≤ r.1 ∧ r.1 ≤ 6 ∧ (r.1 = 2) ∧ J p r.2.2.2)) := by
  unfold f_101
  refine gT_t0 (A := fun u9 => (1 ≤ a1 ∧ a1 ≤ (min (gI s (gR s a0 5) 7) (gI s (gR s a0 5) 6))) ∧ J p u9) (B := fun t9 u9 => (t9 = 2) ∧ J p u9) (d_138 hp h t0) (fun s1 h1 => ?_) (fun t s h1 h2 h3 => Or.inr ⟨h1, h2, by have := h3.1; dsimp only; omega, h3.2⟩)
  obtain ⟨h1e, hJ2⟩ := h1
  refine gT_v0 (A := fun u9 => J p u9) (d_140 hp hJ2 t0) (fun s3 h3 => ?_)
  have hJ4 := h3
  extract_lets -merge s5 s6
  have hJ5 : J p s5 := (J_wf hJ4 (T_f (i := 5) hJ4 t0 (by decide) rfl rfl) rfl (by decide) (by decide) (fun q hq => by cases hq))
  have hJ6 : J p s6 := (J_wf hJ5 (T_f (i := 5) hJ5 t0 (by decide) rfl rfl) rfl (by decide) (by decide) (fun q hq => by cases hq))
  exact gT_ret (Or.inl ⟨rfl, trivial, hJ6⟩)
-- X11_stopped
theorem d_110 {p : gP} {a0 : Nat} {a1 : Int} {a2 : Int} {s : gS} (hp : -1 ≤ p.1 ∧ p.1 ≤ 0) (h : J p s) (t0 : T 11 a0) : gT (f_110 a0 a1 a2 s) (fun r => (r.1 = 1 ∧ (0 ≤ r.2.1 ∧ r.2.1 ≤ 1) ∧ J p r.2.2.2) ∨ (2 ≤ r.1 ∧ r.1 ≤ 6 ∧ (r.1 = 5) ∧ J p r.2.2.2)) := by
  unfold f_110
  refine gT_t0 (A := fun u9 => (0 ≤ a1 ∧ a1 ≤ 5) ∧ J p u9) (B := fun t9 u9 => (t9 = 5) ∧ J p u9) (d_135 hp h t0) (fun s1 h1 => ?_) (fun t s h1 h2 h3 => Or.inr ⟨h1, h2, by have := h3.1; dsimp only; omega, h3.2⟩)
  obtain ⟨h1e, hJ2⟩ := h1
  refine gT_chk (by omega) (by omega) ?_
  refine gT_v1 (A := fun w9 u9 => (0 ≤ w9 ∧ w9 ≤ 1) ∧ J p u9) (d_5 hp hJ2 (T_f (i := 4) hJ2 t0 (by decide) rfl rfl)) (fun v4 s3 h3 => ?_)
  obtain ⟨h3r, hJ4⟩ := h3
  exact gT_ret (Or.inl ⟨rfl, (by dsimp only; constructor <;> omega), hJ4⟩)
-- J6_bitCount_0f7a4
theorem d_264 {p : gP} {a0 : Int} {s : gS} (hp : -1 ≤ p.1 ∧ p.1 ≤ 0) (h : J p s)  : gT (f_264 a0 s) (fun r => r.1 = 1 ∧ (0 ≤ r.2.1 ∧ r.2.1 ≤ 63) ∧ J p r.2.2.2) := by
  unfold f_264
  extract_lets -merge v1 v2 v3 v4 v5
  have := gand_le (x := (gushr a0 1)) (m := 1431655765) (by omega) (by omega)
  have hv1 : v1 = (g32 (a0 - (gand (gushr a0 1) 1431655765))) := rfl
  have := gand_le (x := v1) (m := 858993459) (by omega) (by omega)
  have := gand_le (x := (gushr v1 2)) (m := 858993459) (by omega) (by omega)
  have := g32_eq (v := ((gand v1 858993459) + (gand (gushr v1 2) 858993459))) (by omega) (by omega)
  have hv2 : v2 = (g32 ((gand v1 858993459) + (gand (gushr v1 2) 858993459))) := rfl
  have := gand_le (x := (g32 (v2 + (gushr v2 4)))) (m := 252645135) (by omega) (by omega)
  have hv3 : v3 = (gand (g32 (v2 + (gushr v2 4))) 252645135) := rfl
  have hv4 : v4 = (g32 (v3 + (gushr v3 8))) := rfl
  have hv5 : v5 = (g32 (v4 + (gushr v4 16))) := rfl
  exact gT_ret ⟨rfl, (by have := gand_le (x := v5) (m := 63) (by omega) (by omega); dsimp only; constructor <;> omega), h⟩
-- X11_fewest
theorem d_111 {p : gP} {a0 : Nat} {a1 : Int} {s : gS} (hp : -1 ≤ p.1 ∧ p.1 ≤ 0) (h : J p s) (t0 : T 11 a0) : gT (f_111 a0 a1 s) (fun r => (r.1 = 1 ∧ True ∧ J p r.2.2.2) ∨ (2 ≤ r.1 ∧ r.1 ≤ 6 ∧ (r.1 = 5) ∧ J p r.2.2.2)) := by
  unfold f_111
  refine gT_t0 (A := fun u9 => (0 ≤ a1 ∧ a1 ≤ 5) ∧ J p u9) (B := fun t9 u9 => (t9 = 5) ∧ J p u9) (d_135 hp h t0) (fun s1 h1 => ?_) (fun t s h1 h2 h3 => Or.inr ⟨h1, h2, by have := h3.1; dsimp only; omega, h3.2⟩)
  obtain ⟨h1e, hJ2⟩ := h1
  refine gT_loop (fun y => T 11 y.1 ∧ (0 ≤ y.2.1 ∧ y.2.1 ≤ 5) ∧ (0 ≤ y.2.2.2.1 ∧ y.2.2.2.1 ≤ 64) ∧ y.2.1 = a1 ∧ J p y.2.2.2.2) (fun y => (64 - y.2.2.2.1).toNat) (fun y hy => ?_) ?_
  · obtain ⟨x0, x1, x2, x3, s⟩ := y
    obtain ⟨t3, r4, r5, e6, hJ7⟩ := hy
    dsimp only at t3 r4 r5 e6 hJ7
    show gT (sb_111_9 x0 x1 x2 x3 s) _
    unfold sb_111_9
    refine gT_ite (fun h8 => ?_) (fun h9 => ?_)
    · have := J_f (i := 6) hJ7 (T_f (i := 4) hJ7 t3 (by decide) rfl rfl) rfl (by decide) rfl
      have := gshl_6 (x := (gI s (gR s x0 4) 6)) (by constructor <;> omega)
      refine gT_chk (by omega) (by omega) ?_
      refine gT_v1 (A := fun w9 u9 => (0 ≤ w9 ∧ w9 ≤ 1) ∧ J p u9) (d_5 hp hJ7 (T_f (i := 4) hJ7 t3 (by decide) rfl rfl)) (fun v4 s3 h10 => ?_)
      obtain ⟨h10r, hJ11⟩ := h10
      refine gT_ite (fun h12 => ?_) (fun h13 => ?_)
      · exact gT_ret ⟨⟨t3, (show (0 : Int) ≤ x1 ∧ x1 ≤ 5 by constructor <;> omega), (show (0 : Int) ≤ (g32 (x3 + 1)) ∧ (g32 (x3 + 1)) ≤ 64 by have := g32_eq (v := (x3 + 1)) (by omega) (by omega); constructor <;> omega), (by first | assumption | omega | (dsimp only; omega)), hJ11⟩, by dsimp only; have := g32_eq (v := (x3 + 1)) (by omega) (by omega); omega⟩
      · refine gT_ite (fun h14 => ?_) (fun h15 => ?_)
        · unfold fb_111_61
          exact gT_ret ⟨⟨t3, (show (0 : Int) ≤ x1 ∧ x1 ≤ 5 by constructor <;> omega), (show (0 : Int) ≤ (g32 (x3 + 1)) ∧ (g32 (x3 + 1)) ≤ 64 by have := g32_eq (v := (x3 + 1)) (by omega) (by omega); constructor <;> omega), (by first | assumption | omega | (dsimp only; omega)), hJ11⟩, by dsimp only; have := g32_eq (v := (x3 + 1)) (by omega) (by omega); omega⟩
        · refine gT_v1 (A := fun w9 u9 => (0 ≤ w9 ∧ w9 ≤ 63) ∧ J p u9) (d_264 hp hJ11) (fun v7 s6 h16 => ?_)
          obtain ⟨h16r, hJ17⟩ := h16
          refine gT_v1 (A := fun w9 u9 => (0 ≤ w9 ∧ w9 ≤ 63) ∧ J p u9) (d_264 hp hJ17) (fun v9 s8 h18 => ?_)
          obtain ⟨h18r, hJ19⟩ := h18
          refine gT_ite (fun h20 => ?_) (fun h21 => ?_)
          · unfold fb_111_61
            exact gT_ret ⟨⟨t3, (show (0 : Int) ≤ x1 ∧ x1 ≤ 5 by constructor <;> omega), (show (0 : Int) ≤ (g32 (x3 + 1)) ∧ (g32 (x3 + 1)) ≤ 64 by have := g32_eq (v := (x3 + 1)) (by omega) (by omega); constructor <;> omega), (by first | assumption | omega | (dsimp only; omega)), hJ19⟩, by dsimp only; have := g32_eq (v := (x3 + 1)) (by omega) (by omega); omega⟩
          · exact gT_ret ⟨⟨t3, (show (0 : Int) ≤ x1 ∧ x1 ≤ 5 by constructor <;> omega), (show (0 : Int) ≤ (g32 (x3 + 1)) ∧ (g32 (x3 + 1)) ≤ 64 by have := g32_eq (v := (x3 + 1)) (by omega) (by omega); constructor <;> omega), (by first | assumption | omega | (dsimp only; omega)), hJ19⟩, by dsimp only; have := g32_eq (v := (x3 + 1)) (by omega) (by omega); omega⟩
    · have := J_f (i := 6) hJ7 (T_f (i := 4) hJ7 t3 (by decide) rfl rfl) rfl (by decide) rfl
      have := gshl_6 (x := (gI s (gR s x0 4) 6)) (by constructor <;> omega)
      refine gT_map ?_
      exact gT_ret (Or.inl ⟨rfl, trivial, hJ7⟩)
  · exact ⟨t0, (show (0 : Int) ≤ a1 ∧ a1 ≤ 5 by constructor <;> omega), (show (0 : Int) ≤ 0 ∧ 0 ≤ 64 by constructor <;> omega), rfl, hJ2⟩
-- X11_cheapest
theorem d_112 {p : gP} {a0 : Nat} {a1 : Int} {a2 : Int} {s : gS} (hp : -1 ≤ p.1 ∧ p.1 ≤ 0) (h : J p s) (t0 : T 11 a0) (r2 : 0 ≤ a2 ∧ a2 ≤ 1) : gT (f_112 a0 a1 a2 s) (fun r => (r.1 = 1 ∧ True ∧ J p r.2.2.2) ∨ (2 ≤ r.1 ∧ r.1 ≤ 6 ∧ (r.1 = 5) ∧ J p r.2.2.2)) := by
  unfold f_112
  refine gT_t0 (A := fun u9 => (0 ≤ a1 ∧ a1 ≤ 5) ∧ J p u9) (B := fun t9 u9 => (t9 = 5) ∧ J p u9) (d_135 hp h t0) (fun s1 h1 => ?_) (fun t s h1 h2 h3 => Or.inr ⟨h1, h2, by have := h3.1; dsimp only; omega, h3.2⟩)
  obtain ⟨h1e, hJ2⟩ := h1
  refine gT_loop (fun y => T 11 y.1 ∧ (0 ≤ y.2.1 ∧ y.2.1 ≤ 5) ∧ (0 ≤ y.2.2.1 ∧ y.2.2.1 ≤ 1) ∧ (0 ≤ y.2.2.2.2.2.1 ∧ y.2.2.2.2.2.1 ≤ 64) ∧ y.2.1 = a1 ∧ y.2.2.1 = a2 ∧ J p y.2.2.2.2.2.2) (fun y => (64 - y.2.2.2.2.2.1).toNat) (fun y hy => ?_) ?_
  · obtain ⟨x0, x1, x2, x3, x4, x5, s⟩ := y
    obtain ⟨t3, r4, r5, r6, e7, e8, hJ9⟩ := hy
    dsimp only at t3 r4 r5 r6 e7 e8 hJ9
    show gT (sb_112_13 x0 x1 x2 x3 x4 x5 s) _
    unfold sb_112_13
    refine gT_ite (fun h10 => ?_) (fun h11 => ?_)
    · have := J_f (i := 6) hJ9 (T_f (i := 4) hJ9 t3 (by decide) rfl rfl) rfl (by decide) rfl
      have := gshl_6 (x := (gI s (gR s x0 4) 6)) (by constructor <;> omega)
      refine gT_chk (by omega) (by omega) ?_
      refine gT_v1 (A := fun w9 u9 => (0 ≤ w9 ∧ w9 ≤ 1) ∧ J p u9) (d_5 hp hJ9 (T_f (i := 4) hJ9 t3 (by decide) rfl rfl)) (fun v4 s3 h12 => ?_)
      obtain ⟨h12r, hJ13⟩ := h12
      refine gT_ite (fun h14 => ?_) (fun h15 => ?_)
      · exact gT_ret ⟨⟨t3, (show (0 : Int) ≤ x1 ∧ x1 ≤ 5 by constructor <;> omega), (show (0 : Int) ≤ x2 ∧ x2 ≤ 1 by constructor <;> omega), (show (0 : Int) ≤ (g32 (x5 + 1)) ∧ (g32 (x5 + 1)) ≤ 64 by have := g32_eq (v := (x5 + 1)) (by omega) (by omega); constructor <;> omega), (by first | assumption | omega | (dsimp only; omega)), (by first | assumption | omega | (dsimp only; omega)), hJ13⟩, by dsimp only; have := g32_eq (v := (x5 + 1)) (by omega) (by omega); omega⟩
      · refine gT_v1 (A := fun w9 u9 => True ∧ J p u9) (d_6 hp hJ13 (T_f (i := 4) hJ13 t3 (by decide) rfl rfl)) (fun v7 s6 h16 => ?_)
        obtain ⟨h16r, hJ17⟩ := h16
        refine gT_ite (fun h18 => ?_) (fun h19 => ?_)
        · unfold fb_112_74
          exact gT_ret ⟨⟨t3, (show (0 : Int) ≤ x1 ∧ x1 ≤ 5 by constructor <;> omega), (show (0 : Int) ≤ x2 ∧ x2 ≤ 1 by constructor <;> omega), (show (0 : Int) ≤ (g32 (x5 + 1)) ∧ (g32 (x5 + 1)) ≤ 64 by have := g32_eq (v := (x5 + 1)) (by omega) (by omega); constructor <;> omega), (by first | assumption | omega | (dsimp only; omega)), (by first | assumption | omega | (dsimp only; omega)), hJ17⟩, by dsimp only; have := g32_eq (v := (x5 + 1)) (by omega) (by omega); omega⟩
        · refine gT_ite (fun h20 => ?_) (fun h21 => ?_)
          · unfold fb_112_74
            exact gT_ret ⟨⟨t3, (show (0 : Int) ≤ x1 ∧ x1 ≤ 5 by constructor <;> omega), (show (0 : Int) ≤ x2 ∧ x2 ≤ 1 by constructor <;> omega), (show (0 : Int) ≤ (g32 (x5 + 1)) ∧ (g32 (x5 + 1)) ≤ 64 by have := g32_eq (v := (x5 + 1)) (by omega) (by omega); constructor <;> omega), (by first | assumption | omega | (dsimp only; omega)), (by first | assumption | omega | (dsimp only; omega)), hJ17⟩, by dsimp only; have := g32_eq (v := (x5 + 1)) (by omega) (by omega); omega⟩
          · exact gT_ret ⟨⟨t3, (show (0 : Int) ≤ x1 ∧ x1 ≤ 5 by constructor <;> omega), (show (0 : Int) ≤ x2 ∧ x2 ≤ 1 by constructor <;> omega), (show (0 : Int) ≤ (g32 (x5 + 1)) ∧ (g32 (x5 + 1)) ≤ 64 by have := g32_eq (v := (x5 + 1)) (by omega) (by omega); constructor <;> omega), (by first | assumption | omega | (dsimp only; omega)), (by first | assumption | omega | (dsimp only; omega)), hJ17⟩, by dsimp only; have := g32_eq (v := (x5 + 1)) (by omega) (by omega); omega⟩
    · have := J_f (i := 6) hJ9 (T_f (i := 4) hJ9 t3 (by decide) rfl rfl) rfl (by decide) rfl
      have := gshl_6 (x := (gI s (gR s x0 4) 6)) (by constructor <;> omega)
      refine gT_map ?_
      refine gT_ite (fun h22 => ?_) (fun h23 => ?_)
      · exact gT_ret (Or.inl ⟨rfl, trivial, hJ9⟩)
      · exact gT_ret (Or.inl ⟨rfl, trivial, hJ9⟩)
  · exact ⟨t0, (show (0 : Int) ≤ a1 ∧ a1 ≤ 5 by constructor <;> omega), (show (0 : Int) ≤ a2 ∧ a2 ≤ 1 by constructor <;> omega), (show (0 : Int) ≤ 0 ∧ 0 ≤ 64 by constructor <;> omega), rfl, rfl, hJ2⟩
-- X11_slips
theorem d_113 {p : gP} {a0 : Nat} {a1 : Int} {s : gS} (hp : -1 ≤ p.1 ∧ p.1 ≤ 0) (h : J p s) (t0 : T 11 a0) : gT (f_113 a0 a1 s) (fun r => (r.1 = 1 ∧ True ∧ J p r.2.2.2) ∨ (2 ≤ r.1 ∧ r.1 ≤ 6 ∧ (r.1 = 5) ∧ J p r.2.2.2)) := by
  unfold f_113
  refine gT_t0 (A := fun u9 => (0 ≤ a1 ∧ a1 ≤ 5) ∧ J p u9) (B := fun t9 u9 => (t9 = 5) ∧ J p u9) (d_135 hp h t0) (fun s1 h1 => ?_) (fun t s h1 h2 h3 => Or.inr ⟨h1, h2, by have := h3.1; dsimp only; omega, h3.2⟩)
  obtain ⟨h1e, hJ2⟩ := h1
  refine gT_loop (fun y => T 11 y.1 ∧ (0 ≤ y.2.1 ∧ y.2.1 ≤ 5) ∧ (0 ≤ y.2.2.2.1 ∧ y.2.2.2.1 ≤ 6) ∧ y.2.1 = a1 ∧ J p y.2.2.2.2) (fun y => (6 - y.2.2.2.1).toNat) (fun y hy => ?_) ?_
  · obtain ⟨x0, x1, x2, x3, s⟩ := y
    obtain ⟨t3, r4, r5, e6, hJ7⟩ := hy
    dsimp only at t3 r4 r5 e6 hJ7
    show gT (sb_113_9 x0 x1 x2 x3 s) _
    unfold sb_113_9
    refine gT_ite (fun h8 => ?_) (fun h9 => ?_)
    · have := J_f (i := 6) hJ7 (T_f (i := 4) hJ7 t3 (by decide) rfl rfl) rfl (by decide) rfl
      refine gT_chk (by omega) (by omega) ?_
      refine gT_v1 (A := fun w9 u9 => (0 ≤ w9 ∧ w9 ≤ 1) ∧ J p u9) (d_4 hp hJ7 (T_f (i := 4) hJ7 t3 (by decide) rfl rfl) (show (0 : Int) ≤ x3 ∧ x3 ≤ 5 by constructor <;> omega)) (fun v4 s3 h10 => ?_)
      obtain ⟨h10r, hJ11⟩ := h10
      extract_lets -merge v6
      refine gT_ite (fun h12 => ?_) (fun h13 => ?_)
      · have := gshl_5 (x := x3) (by constructor <;> omega)
        have hv14 : v6 = (gor x2 (gshl 1 x3)) := rfl
        exact gT_ret ⟨⟨t3, (show (0 : Int) ≤ x1 ∧ x1 ≤ 5 by constructor <;> omega), (show (0 : Int) ≤ (g32 (x3 + 1)) ∧ (g32 (x3 + 1)) ≤ 6 by have := g32_eq (v := (x3 + 1)) (by omega) (by omega); constructor <;> omega), (by first | assumption | omega | (dsimp only; omega)), hJ11⟩, by dsimp only; have := g32_eq (v := (x3 + 1)) (by omega) (by omega); omega⟩
      · exact gT_ret ⟨⟨t3, (show (0 : Int) ≤ x1 ∧ x1 ≤ 5 by constructor <;> omega), (show (0 : Int) ≤ (g32 (x3 + 1)) ∧ (g32 (x3 + 1)) ≤ 6 by have := g32_eq (v := (x3 + 1)) (by omega) (by omega); constructor <;> omega), (by first | assumption | omega | (dsimp only; omega)), hJ11⟩, by dsimp only; have := g32_eq (v := (x3 + 1)) (by omega) (by omega); omega⟩
    · have := J_f (i := 6) hJ7 (T_f (i := 4) hJ7 t3 (by decide) rfl rfl) rfl (by decide) rfl
      refine gT_map ?_
      exact gT_ret (Or.inl ⟨rfl, trivial, hJ7⟩)
  · exact ⟨t0, (show (0 : Int) ≤ a1 ∧ a1 ≤ 5 by constructor <;> omega), (show (0 : Int) ≤ 0 ∧ 0 ≤ 6 by constructor <;> omega), rfl, hJ2⟩
-- J13_bitCount_95d88
theorem d_265 {p : gP} {a0 : Int} {s : gS} (hp : -1 ≤ p.1 ∧ p.1 ≤ 0) (h : J p s)  : gT (f_265 a0 s) (fun r => r.1 = 1 ∧ True ∧ J p r.2.2.2) := by
  unfold f_265
  extract_lets -merge v1 v2 v3 v4 v5 v6
  have hv1 : v1 = (g64 (a0 - (gland (glushr a0 1) 6148914691236517205))) := rfl
  have hv2 : v2 = (g64 ((gland v1 3689348814741910323) + (gland (glushr v1 2) 3689348814741910323))) := rfl
  have hv3 : v3 = (gland (g64 (v2 + (glushr v2 4))) 1085102592571150095) := rfl
  have hv4 : v4 = (g64 (v3 + (glushr v3 8))) := rfl
  have hv5 : v5 = (g64 (v4 + (glushr v4 16))) := rfl
  have hv6 : v6 = (g64 (v5 + (glushr v5 32))) := rfl
  exact gT_ret ⟨rfl, trivial, h⟩
-- X11_caughtAmong
theorem d_145 {p : gP} {a0 : Nat} {a1 : Int} {a3 : Int} {s : gS} (hp : -1 ≤ p.1 ∧ p.1 ≤ 0) (h : J p s) (t0 : T 11 a0) (r2 : 0 ≤ a3 ∧ a3 ≤ 5) : gT (f_145 a0 a1 a3 s) (fun r => r.1 = 1 ∧ True ∧ J p r.2.2.2) := by
  unfold f_145
  refine gT_loop (fun y => T 11 y.1 ∧ (0 ≤ y.2.2.1 ∧ y.2.2.1 ≤ 5) ∧ (1 ≤ y.2.2.2.2.1 ∧ y.2.2.2.2.1 ≤ 64) ∧ y.2.1 = a1 ∧ y.2.2.1 = a3 ∧ J p y.2.2.2.2.2) (fun y => (64 - y.2.2.2.2.1).toNat) (fun y hy => ?_) ?_
  · obtain ⟨x0, x1, x3, x4, x5, s⟩ := y
    obtain ⟨t1, r2, r3, e4, e5, hJ6⟩ := hy
    dsimp only at t1 r2 r3 e4 e5 hJ6
    show gT (sb_145_6 x0 x1 x3 x4 x5 s) _
    unfold sb_145_6
    refine gT_ite (fun h7 => ?_) (fun h8 => ?_)
    · refine gT_ite (fun h9 => ?_) (fun h10 => ?_)
      · exact gT_ret ⟨⟨t1, (show (0 : Int) ≤ x3 ∧ x3 ≤ 5 by constructor <;> omega), (show (1 : Int) ≤ (g32 (x5 + 1)) ∧ (g32 (x5 + 1)) ≤ 64 by have := g32_eq (v := (x5 + 1)) (by omega) (by omega); constructor <;> omega), (by first | assumption | omega | (dsimp only; omega)), (by first | assumption | omega | (dsimp only; omega)), hJ6⟩, by dsimp only; have := g32_eq (v := (x5 + 1)) (by omega) (by omega); omega⟩
      · refine gT_v1 (A := fun w9 u9 => (0 ≤ w9 ∧ w9 ≤ 1) ∧ J p u9) (d_4 hp hJ6 (T_f (i := 4) hJ6 t1 (by decide) rfl rfl) (show (0 : Int) ≤ x3 ∧ x3 ≤ 5 by constructor <;> omega)) (fun v2 s1 h11 => ?_)
        obtain ⟨h11r, hJ12⟩ := h11
        refine gT_ite (fun h13 => ?_) (fun h14 => ?_)
        · exact gT_ret ⟨⟨t1, (show (0 : Int) ≤ x3 ∧ x3 ≤ 5 by constructor <;> omega), (show (1 : Int) ≤ (g32 (x5 + 1)) ∧ (g32 (x5 + 1)) ≤ 64 by have := g32_eq (v := (x5 + 1)) (by omega) (by omega); constructor <;> omega), (by first | assumption | omega | (dsimp only; omega)), (by first | assumption | omega | (dsimp only; omega)), hJ12⟩, by dsimp only; have := g32_eq (v := (x5 + 1)) (by omega) (by omega); omega⟩
        · exact gT_ret ⟨⟨t1, (show (0 : Int) ≤ x3 ∧ x3 ≤ 5 by constructor <;> omega), (show (1 : Int) ≤ (g32 (x5 + 1)) ∧ (g32 (x5 + 1)) ≤ 64 by have := g32_eq (v := (x5 + 1)) (by omega) (by omega); constructor <;> omega), (by first | assumption | omega | (dsimp only; omega)), (by first | assumption | omega | (dsimp only; omega)), hJ12⟩, by dsimp only; have := g32_eq (v := (x5 + 1)) (by omega) (by omega); omega⟩
    · refine gT_map ?_
      exact gT_ret ⟨rfl, trivial, hJ6⟩
  · exact ⟨t0, (show (0 : Int) ≤ a3 ∧ a3 ≤ 5 by constructor <;> omega), (show (1 : Int) ≤ 1 ∧ 1 ≤ 64 by constructor <;> omega), rfl, rfl, h⟩
-- X11_princePays
theorem d_146 {p : gP} {a0 : Nat} {a1 : Int} {a2 : Int} {a3 : Int} {a4 : Int} {s : gS} (hp : -1 ≤ p.1 ∧ p.1 ≤ 0) (h : J p s) (t0 : T 11 a0) (r3 : 0 ≤ a3 ∧ a3 ≤ 5) (r4 : 0 ≤ a4 ∧ a4 ≤ 1) : gT (f_146 a0 a1 a2 a3 a4 s) (fun r => r.1 = 1 ∧ True ∧ J p r.2.2.2) := by
  unfold f_146
  refine gT_ite (fun h1 => ?_) (fun h2 => ?_)
  · refine gT_chk (by omega) (by omega) ?_
    unfold fb_146_17
    refine gT_ite (fun h3 => ?_) (fun h4 => ?_)
    · refine gT_ite (fun h5 => ?_) (fun h6 => ?_)
      · unfold fb_146_38
        refine gT_ite (fun h7 => ?_) (fun h8 => ?_)
        · exact gT_ret ⟨rfl, trivial, h⟩
        · exact gT_ret ⟨rfl, trivial, h⟩
      · refine gT_ite (fun h9 => ?_) (fun h10 => ?_)
        · unfold fb_146_38
          refine gT_ite (fun h11 => ?_) (fun h12 => ?_)
          · exact gT_ret ⟨rfl, trivial, h⟩
          · exact gT_ret ⟨rfl, trivial, h⟩
        · unfold fb_146_37
          unfold fb_146_38
          refine gT_ite (fun h13 => ?_) (fun h14 => ?_)
          · exact gT_ret ⟨rfl, trivial, h⟩
          · exact gT_ret ⟨rfl, trivial, h⟩
    · unfold fb_146_37
      unfold fb_146_38
      refine gT_ite (fun h15 => ?_) (fun h16 => ?_)
      · exact gT_ret ⟨rfl, trivial, h⟩
      · exact gT_ret ⟨rfl, trivial, h⟩
  · unfold fb_146_17
    refine gT_ite (fun h17 => ?_) (fun h18 => ?_)
    · refine gT_ite (fun h19 => ?_) (fun h20 => ?_)
      · unfold fb_146_38
        refine gT_ite (fun h21 => ?_) (fun h22 => ?_)
        · exact gT_ret ⟨rfl, trivial, h⟩
        · exact gT_ret ⟨rfl, trivial, h⟩
      · refine gT_ite (fun h23 => ?_) (fun h24 => ?_)
        · unfold fb_146_38
          refine gT_ite (fun h25 => ?_) (fun h26 => ?_)
          · exact gT_ret ⟨rfl, trivial, h⟩
          · exact gT_ret ⟨rfl, trivial, h⟩
        · unfold fb_146_37
          unfold fb_146_38
          refine gT_ite (fun h27 => ?_) (fun h28 => ?_)
          · exact gT_ret ⟨rfl, trivial, h⟩
          · exact gT_ret ⟨rfl, trivial, h⟩
    · unfold fb_146_37
      unfold fb_146_38
      refine gT_ite (fun h29 => ?_) (fun h30 => ?_)
      · exact gT_ret ⟨rfl, trivial, h⟩
      · exact gT_ret ⟨rfl, trivial, h⟩
-- X11_manHas
theorem d_147 {p : gP} {a0 : Int} {a1 : Int} {a2 : Int} {a3 : Int} {s : gS} (hp : -1 ≤ p.1 ∧ p.1 ≤ 0) (h : J p s) (r3 : 0 ≤ a3 ∧ a3 ≤ 1) : gT (f_147 a0 a1 a2 a3 s) (fun r => r.1 = 1 ∧ True ∧ J p r.2.2.2) := by
  unfold f_147
  refine gT_ite (fun h1 => ?_) (fun h2 => ?_)
  · exact gT_ret ⟨rfl, trivial, h⟩
  · refine gT_ite (fun h3 => ?_) (fun h4 => ?_)
    · refine gT_ite (fun h5 => ?_) (fun h6 => ?_)
      · unfold fb_147_21
        exact gT_ret ⟨rfl, trivial, h⟩
      · exact gT_ret ⟨rfl, trivial, h⟩
    · unfold fb_147_21
      exact gT_ret ⟨rfl, trivial, h⟩
-- X11_rests
theorem d_116 {p : gP} {a0 : Nat} {a1 : Int} {a2 : Int} {s : gS} (hp : -1 ≤ p.1 ∧ p.1 ≤ 0) (h : J p s) (t0 : T 11 a0) : gT (f_116 a0 a1 a2 s) (fun r => (r.1 = 1 ∧ True ∧ J p r.2.2.2) ∨ (2 ≤ r.1 ∧ r.1 ≤ 6 ∧ (r.1 = 5) ∧ J p r.2.2.2)) := by
  unfold f_116
  refine gT_t0 (A := fun u9 => (0 ≤ a1 ∧ a1 ≤ 5) ∧ J p u9) (B := fun t9 u9 => (t9 = 5) ∧ J p u9) (d_135 hp h t0) (fun s1 h1 => ?_) (fun t s h1 h2 h3 => Or.inr ⟨h1, h2, by have := h3.1; dsimp only; omega, h3.2⟩)
  obtain ⟨h1e, hJ2⟩ := h1
  refine gT_t0 (A := fun u9 => (0 ≤ a2 ∧ a2 ≤ 5) ∧ J p u9) (B := fun t9 u9 => (t9 = 5) ∧ J p u9) (d_136 hp hJ2 t0) (fun s3 h3 => ?_) (fun t s h1 h2 h3 => Or.inr ⟨h1, h2, by have := h3.1; dsimp only; omega, h3.2⟩)
  obtain ⟨h3e, hJ4⟩ := h3
  extract_lets -merge v5
  refine gT_chk (by omega) (by omega) ?_
  have hT5 : T 7 v5 := (T_man (i := (a1 : Int).toNat) hJ4 (T_f (i := 0) hJ4 (T_f (i := 5) hJ4 t0 (by decide) rfl rfl) (by decide) rfl rfl) (by omega))
  refine gT_v1 (A := fun w9 u9 => (0 ≤ w9 ∧ w9 ≤ 1) ∧ J p u9) (d_4 hp hJ4 (T_f (i := 4) hJ4 t0 (by decide) rfl rfl) (show (0 : Int) ≤ a2 ∧ a2 ≤ 5 by constructor <;> omega)) (fun v7 s6 h6 => ?_)
  obtain ⟨h6r, hJ7⟩ := h6
  refine gT_loop (fun y => T 11 y.1 ∧ T 7 y.2.2.1 ∧ (0 ≤ y.2.1 ∧ y.2.1 ≤ 5) ∧ (0 ≤ y.2.2.2.1 ∧ y.2.2.2.1 ≤ 1) ∧ (0 ≤ y.2.2.2.2.2.1 ∧ y.2.2.2.2.2.1 ≤ 4) ∧ y.2.1 = a2 ∧ y.2.2.2.1 = v7 ∧ J p y.2.2.2.2.2.2) (fun y => (4 - y.2.2.2.2.2.1).toNat) (fun y hy => ?_) ?_
  · obtain ⟨x0, x2, x3, x4, x5, x6, s⟩ := y
    obtain ⟨t8, t9, r10, r11, r12, e13, e14, hJ15⟩ := hy
    dsimp only at t8 t9 r10 r11 r12 e13 e14 hJ15
    show gT (sb_116_40 x0 x2 x3 x4 x5 x6 s) _
    unfold sb_116_40
    refine gT_ite (fun h16 => ?_) (fun h17 => ?_)
    · refine gT_v1 (A := fun w9 u9 => True ∧ J p u9) (d_146 hp hJ15 t8 (show (0 : Int) ≤ x2 ∧ x2 ≤ 5 by constructor <;> omega) (show (0 : Int) ≤ x4 ∧ x4 ≤ 1 by constructor <;> omega)) (fun v10 s9 h18 => ?_)
      obtain ⟨h18r, hJ19⟩ := h18
      refine gT_v1 (A := fun w9 u9 => True ∧ J p u9) (d_146 hp hJ19 t8 (show (0 : Int) ≤ x2 ∧ x2 ≤ 5 by constructor <;> omega) (show (0 : Int) ≤ x4 ∧ x4 ≤ 1 by constructor <;> omega)) (fun v12 s11 h20 => ?_)
      obtain ⟨h20r, hJ21⟩ := h20
      refine gT_ite (fun h22 => ?_) (fun h23 => ?_)
      · unfold fb_116_90
        refine gT_v1 (A := fun w9 u9 => True ∧ J p u9) (d_147 hp hJ21 (show (0 : Int) ≤ x4 ∧ x4 ≤ 1 by constructor <;> omega)) (fun v14 s13 h24 => ?_)
        obtain ⟨h24r, hJ25⟩ := h24
        refine gT_v1 (A := fun w9 u9 => True ∧ J p u9) (d_147 hp hJ25 (show (0 : Int) ≤ x4 ∧ x4 ≤ 1 by constructor <;> omega)) (fun v16 s15 h26 => ?_)
        obtain ⟨h26r, hJ27⟩ := h26
        refine gT_ite (fun h28 => ?_) (fun h29 => ?_)
        · unfold fb_116_128
          extract_lets -merge v17
          refine gT_ite (fun h30 => ?_) (fun h31 => ?_)
          · exact gT_ret ⟨⟨t8, t9, (show (0 : Int) ≤ x2 ∧ x2 ≤ 5 by constructor <;> omega), (show (0 : Int) ≤ x4 ∧ x4 ≤ 1 by constructor <;> omega), (show (0 : Int) ≤ (g32 (x6 + 1)) ∧ (g32 (x6 + 1)) ≤ 4 by have := g32_eq (v := (x6 + 1)) (by omega) (by omega); constructor <;> omega), (by first | assumption | omega | (dsimp only; omega)), (by first | assumption | omega | (dsimp only; omega)), hJ27⟩, by dsimp only; have := g32_eq (v := (x6 + 1)) (by omega) (by omega); omega⟩
          · refine gT_ite (fun h32 => ?_) (fun h33 => ?_)
            · exact gT_ret ⟨⟨t8, t9, (show (0 : Int) ≤ x2 ∧ x2 ≤ 5 by constructor <;> omega), (show (0 : Int) ≤ x4 ∧ x4 ≤ 1 by constructor <;> omega), (show (0 : Int) ≤ (g32 (x6 + 1)) ∧ (g32 (x6 + 1)) ≤ 4 by have := g32_eq (v := (x6 + 1)) (by omega) (by omega); constructor <;> omega), (by first | assumption | omega | (dsimp only; omega)), (by first | assumption | omega | (dsimp only; omega)), hJ27⟩, by dsimp only; have := g32_eq (v := (x6 + 1)) (by omega) (by omega); omega⟩
            · have := gshl_5 (x := x6) (by constructor <;> omega)
              have hv34 : v17 = (gor x5 (gshl 1 x6)) := rfl
              exact gT_ret ⟨⟨t8, t9, (show (0 : Int) ≤ x2 ∧ x2 ≤ 5 by constructor <;> omega), (show (0 : Int) ≤ x4 ∧ x4 ≤ 1 by constructor <;> omega), (show (0 : Int) ≤ (g32 (x6 + 1)) ∧ (g32 (x6 + 1)) ≤ 4 by have := g32_eq (v := (x6 + 1)) (by omega) (by omega); constructor <;> omega), (by first | assumption | omega | (dsimp only; omega)), (by first | assumption | omega | (dsimp only; omega)), hJ27⟩, by dsimp only; have := g32_eq (v := (x6 + 1)) (by omega) (by omega); omega⟩
        · unfold fb_116_128
          extract_lets -merge v17
          refine gT_ite (fun h35 => ?_) (fun h36 => ?_)
          · exact gT_ret ⟨⟨t8, t9, (show (0 : Int) ≤ x2 ∧ x2 ≤ 5 by constructor <;> omega), (show (0 : Int) ≤ x4 ∧ x4 ≤ 1 by constructor <;> omega), (show (0 : Int) ≤ (g32 (x6 + 1)) ∧ (g32 (x6 + 1)) ≤ 4 by have := g32_eq (v := (x6 + 1)) (by omega) (by omega); constructor <;> omega), (by first | assumption | omega | (dsimp only; omega)), (by first | assumption | omega | (dsimp only; omega)), hJ27⟩, by dsimp only; have := g32_eq (v := (x6 + 1)) (by omega) (by omega); omega⟩
          · refine gT_ite (fun h37 => ?_) (fun h38 => ?_)
            · exact gT_ret ⟨⟨t8, t9, (show (0 : Int) ≤ x2 ∧ x2 ≤ 5 by constructor <;> omega), (show (0 : Int) ≤ x4 ∧ x4 ≤ 1 by constructor <;> omega), (show (0 : Int) ≤ (g32 (x6 + 1)) ∧ (g32 (x6 + 1)) ≤ 4 by have := g32_eq (v := (x6 + 1)) (by omega) (by omega); constructor <;> omega), (by first | assumption | omega | (dsimp only; omega)), (by first | assumption | omega | (dsimp only; omega)), hJ27⟩, by dsimp only; have := g32_eq (v := (x6 + 1)) (by omega) (by omega); omega⟩
            · have := gshl_5 (x := x6) (by constructor <;> omega)
              have hv39 : v17 = (gor x5 (gshl 1 x6)) := rfl
              exact gT_ret ⟨⟨t8, t9, (show (0 : Int) ≤ x2 ∧ x2 ≤ 5 by constructor <;> omega), (show (0 : Int) ≤ x4 ∧ x4 ≤ 1 by constructor <;> omega), (show (0 : Int) ≤ (g32 (x6 + 1)) ∧ (g32 (x6 + 1)) ≤ 4 by have := g32_eq (v := (x6 + 1)) (by omega) (by omega); constructor <;> omega), (by first | assumption | omega | (dsimp only; omega)), (by first | assumption | omega | (dsimp only; omega)), hJ27⟩, by dsimp only; have := g32_eq (v := (x6 + 1)) (by omega) (by omega); omega⟩
      · unfold fb_116_90
        refine gT_v1 (A := fun w9 u9 => True ∧ J p u9) (d_147 hp hJ21 (show (0 : Int) ≤ x4 ∧ x4 ≤ 1 by constructor <;> omega)) (fun v14 s13 h40 => ?_)
        obtain ⟨h40r, hJ41⟩ := h40
        refine gT_v1 (A := fun w9 u9 => True ∧ J p u9) (d_147 hp hJ41 (show (0 : Int) ≤ x4 ∧ x4 ≤ 1 by constructor <;> omega)) (fun v16 s15 h42 => ?_)
        obtain ⟨h42r, hJ43⟩ := h42
        refine gT_ite (fun h44 => ?_) (fun h45 => ?_)
        · unfold fb_116_128
          extract_lets -merge v17
          refine gT_ite (fun h46 => ?_) (fun h47 => ?_)
          · exact gT_ret ⟨⟨t8, t9, (show (0 : Int) ≤ x2 ∧ x2 ≤ 5 by constructor <;> omega), (show (0 : Int) ≤ x4 ∧ x4 ≤ 1 by constructor <;> omega), (show (0 : Int) ≤ (g32 (x6 + 1)) ∧ (g32 (x6 + 1)) ≤ 4 by have := g32_eq (v := (x6 + 1)) (by omega) (by omega); constructor <;> omega), (by first | assumption | omega | (dsimp only; omega)), (by first | assumption | omega | (dsimp only; omega)), hJ43⟩, by dsimp only; have := g32_eq (v := (x6 + 1)) (by omega) (by omega); omega⟩
          · refine gT_ite (fun h48 => ?_) (fun h49 => ?_)
            · exact gT_ret ⟨⟨t8, t9, (show (0 : Int) ≤ x2 ∧ x2 ≤ 5 by constructor <;> omega), (show (0 : Int) ≤ x4 ∧ x4 ≤ 1 by constructor <;> omega), (show (0 : Int) ≤ (g32 (x6 + 1)) ∧ (g32 (x6 + 1)) ≤ 4 by have := g32_eq (v := (x6 + 1)) (by omega) (by omega); constructor <;> omega), (by first | assumption | omega | (dsimp only; omega)), (by first | assumption | omega | (dsimp only; omega)), hJ43⟩, by dsimp only; have := g32_eq (v := (x6 + 1)) (by omega) (by omega); omega⟩
            · have := gshl_5 (x := x6) (by constructor <;> omega)
              have hv50 : v17 = (gor x5 (gshl 1 x6)) := rfl
              exact gT_ret ⟨⟨t8, t9, (show (0 : Int) ≤ x2 ∧ x2 ≤ 5 by constructor <;> omega), (show (0 : Int) ≤ x4 ∧ x4 ≤ 1 by constructor <;> omega), (show (0 : Int) ≤ (g32 (x6 + 1)) ∧ (g32 (x6 + 1)) ≤ 4 by have := g32_eq (v := (x6 + 1)) (by omega) (by omega); constructor <;> omega), (by first | assumption | omega | (dsimp only; omega)), (by first | assumption | omega | (dsimp only; omega)), hJ43⟩, by dsimp only; have := g32_eq (v := (x6 + 1)) (by omega) (by omega); omega⟩
        · unfold fb_116_128
          extract_lets -merge v17
          refine gT_ite (fun h51 => ?_) (fun h52 => ?_)
          · exact gT_ret ⟨⟨t8, t9, (show (0 : Int) ≤ x2 ∧ x2 ≤ 5 by constructor <;> omega), (show (0 : Int) ≤ x4 ∧ x4 ≤ 1 by constructor <;> omega), (show (0 : Int) ≤ (g32 (x6 + 1)) ∧ (g32 (x6 + 1)) ≤ 4 by have := g32_eq (v := (x6 + 1)) (by omega) (by omega); constructor <;> omega), (by first | assumption | omega | (dsimp only; omega)), (by first | assumption | omega | (dsimp only; omega)), hJ43⟩, by dsimp only; have := g32_eq (v := (x6 + 1)) (by omega) (by omega); omega⟩
          · refine gT_ite (fun h53 => ?_) (fun h54 => ?_)
            · exact gT_ret ⟨⟨t8, t9, (show (0 : Int) ≤ x2 ∧ x2 ≤ 5 by constructor <;> omega), (show (0 : Int) ≤ x4 ∧ x4 ≤ 1 by constructor <;> omega), (show (0 : Int) ≤ (g32 (x6 + 1)) ∧ (g32 (x6 + 1)) ≤ 4 by have := g32_eq (v := (x6 + 1)) (by omega) (by omega); constructor <;> omega), (by first | assumption | omega | (dsimp only; omega)), (by first | assumption | omega | (dsimp only; omega)), hJ43⟩, by dsimp only; have := g32_eq (v := (x6 + 1)) (by omega) (by omega); omega⟩
            · have := gshl_5 (x := x6) (by constructor <;> omega)
              have hv55 : v17 = (gor x5 (gshl 1 x6)) := rfl
              exact gT_ret ⟨⟨t8, t9, (show (0 : Int) ≤ x2 ∧ x2 ≤ 5 by constructor <;> omega), (show (0 : Int) ≤ x4 ∧ x4 ≤ 1 by constructor <;> omega), (show (0 : Int) ≤ (g32 (x6 + 1)) ∧ (g32 (x6 + 1)) ≤ 4 by have := g32_eq (v := (x6 + 1)) (by omega) (by omega); constructor <;> omega), (by first | assumption | omega | (dsimp only; omega)), (by first | assumption | omega | (dsimp only; omega)), hJ43⟩, by dsimp only; have := g32_eq (v := (x6 + 1)) (by omega) (by omega); omega⟩
    · refine gT_map ?_
      exact gT_ret (Or.inl ⟨rfl, trivial, hJ15⟩)
  · exact ⟨t0, hT5, (show (0 : Int) ≤ a2 ∧ a2 ≤ 5 by constructor <;> omega), (show (0 : Int) ≤ v7 ∧ v7 ≤ 1 by constructor <;> omega), (show (0 : Int) ≤ 0 ∧ 0 ≤ 4 by constructor <;> omega), rfl, rfl, hJ7⟩
-- X11_waysOf
theorem d_148 {p : gP} {a0 : Nat} {a1 : Int} {a2 : Int} {s : gS} (hp : -1 ≤ p.1 ∧ p.1 ≤ 0) (h : J p s) (t0 : T 11 a0) (r1 : 0 ≤ a1 ∧ a1 ≤ 5) (r2 : 0 ≤ a2 ∧ a2 ≤ 5) : gT (f_148 a0 a1 a2 s) (fun r => r.1 = 1 ∧ True ∧ J p r.2.2.2) := by
  unfold f_148
  refine gT_loop (fun y => T 11 y.1 ∧ (0 ≤ y.2.1 ∧ y.2.1 ≤ 5) ∧ (0 ≤ y.2.2.1 ∧ y.2.2.1 ≤ 5) ∧ (0 ≤ y.2.2.2.2.1 ∧ y.2.2.2.2.1 ≤ 5) ∧ y.2.1 = a1 ∧ y.2.2.1 = a2 ∧ J p y.2.2.2.2.2) (fun y => (5 - y.2.2.2.2.1).toNat) (fun y hy => ?_) ?_
  · obtain ⟨x0, x1, x2, x3, x5, s⟩ := y
    obtain ⟨t1, r2, r3, r4, e5, e6, hJ7⟩ := hy
    dsimp only at t1 r2 r3 r4 e5 e6 hJ7
    show gT (sb_148_5 x0 x1 x2 x3 x5 s) _
    unfold sb_148_5
    extract_lets -merge v1
    refine gT_ite (fun h8 => ?_) (fun h9 => ?_)
    · refine gT_ite (fun h10 => ?_) (fun h11 => ?_)
      · have := g32_eq (v := (x5 + 1)) (by omega) (by omega)
        exfalso; omega
      · have := g32_eq (v := (x5 + 1)) (by omega) (by omega)
        have := g32_eq (v := (x1 - x5)) (by omega) (by omega)
        have := g32_eq (v := (x5 + 1)) (by omega) (by omega)
        have hv12 : v1 = (gldiv (g64 (x3 * (g32 (x1 - x5)))) (g32 (x5 + 1))) := rfl
        exact gT_ret ⟨⟨t1, (show (0 : Int) ≤ x1 ∧ x1 ≤ 5 by constructor <;> omega), (show (0 : Int) ≤ x2 ∧ x2 ≤ 5 by constructor <;> omega), (show (0 : Int) ≤ (g32 (x5 + 1)) ∧ (g32 (x5 + 1)) ≤ 5 by have := g32_eq (v := (x5 + 1)) (by omega) (by omega); constructor <;> omega), (by first | assumption | omega | (dsimp only; omega)), (by first | assumption | omega | (dsimp only; omega)), hJ7⟩, by dsimp only; have := g32_eq (v := (x5 + 1)) (by omega) (by omega); omega⟩
    · refine gT_map ?_
      refine gT_loop (fun y => T 11 y.1 ∧ (0 ≤ y.2.1 ∧ y.2.1 ≤ 5) ∧ (0 ≤ y.2.2.1 ∧ y.2.2.1 ≤ 5) ∧ (0 ≤ y.2.2.2.2.1 ∧ y.2.2.2.2.1 ≤ 5) ∧ y.2.1 = x1 ∧ y.2.2.1 = x2 ∧ J p y.2.2.2.2.2) (fun y => (5 - y.2.2.2.2.1).toNat) (fun y hy => ?_) ?_
      · obtain ⟨x0, x1, x2, x3, x5, s⟩ := y
        obtain ⟨t13, r14, r15, r16, e17, e18, hJ19⟩ := hy
        dsimp only at t13 r14 r15 r16 e17 e18 hJ19
        show gT (sb_148_34 x0 x1 x2 x3 x5 s) _
        unfold sb_148_34
        extract_lets -merge v2 v3
        refine gT_ite (fun h20 => ?_) (fun h21 => ?_)
        · refine gT_ite (fun h22 => ?_) (fun h23 => ?_)
          · have hv24 : v2 = (g64 (x3 * (gI s (gR s x0 4) 8))) := rfl
            exact gT_ret ⟨⟨t13, (show (0 : Int) ≤ x1 ∧ x1 ≤ 5 by constructor <;> omega), (show (0 : Int) ≤ x2 ∧ x2 ≤ 5 by constructor <;> omega), (show (0 : Int) ≤ (g32 (x5 + 1)) ∧ (g32 (x5 + 1)) ≤ 5 by have := g32_eq (v := (x5 + 1)) (by omega) (by omega); constructor <;> omega), (by first | assumption | omega | (dsimp only; omega)), (by first | assumption | omega | (dsimp only; omega)), hJ19⟩, by dsimp only; have := g32_eq (v := (x5 + 1)) (by omega) (by omega); omega⟩
          · have hv25 : v3 = (g64 (x3 * (g32 (100 - (gI s (gR s x0 4) 8))))) := rfl
            exact gT_ret ⟨⟨t13, (show (0 : Int) ≤ x1 ∧ x1 ≤ 5 by constructor <;> omega), (show (0 : Int) ≤ x2 ∧ x2 ≤ 5 by constructor <;> omega), (show (0 : Int) ≤ (g32 (x5 + 1)) ∧ (g32 (x5 + 1)) ≤ 5 by have := g32_eq (v := (x5 + 1)) (by omega) (by omega); constructor <;> omega), (by first | assumption | omega | (dsimp only; omega)), (by first | assumption | omega | (dsimp only; omega)), hJ19⟩, by dsimp only; have := g32_eq (v := (x5 + 1)) (by omega) (by omega); omega⟩
        · refine gT_map ?_
          exact gT_ret ⟨rfl, trivial, hJ19⟩
      · exact ⟨t1, (show (0 : Int) ≤ x1 ∧ x1 ≤ 5 by constructor <;> omega), (show (0 : Int) ≤ x2 ∧ x2 ≤ 5 by constructor <;> omega), (show (0 : Int) ≤ 0 ∧ 0 ≤ 5 by constructor <;> omega), rfl, rfl, hJ7⟩
  · exact ⟨t0, (show (0 : Int) ≤ a1 ∧ a1 ≤ 5 by constructor <;> omega), (show (0 : Int) ≤ a2 ∧ a2 ≤ 5 by constructor <;> omega), (show (0 : Int) ≤ 0 ∧ 0 ≤ 5 by constructor <;> omega), rfl, rfl, h⟩
-- X11_bids
theorem d_118 {p : gP} {a0 : Nat} {a1 : Int} {s : gS} (hp : -1 ≤ p.1 ∧ p.1 ≤ 0) (h : J p s) (t0 : T 11 a0) (r1 : 0 ≤ a1 ∧ a1 ≤ 1) : gT (f_118 a0 a1 s) (fun r => r.1 = 1 ∧ True ∧ J p r.2.2.2) := by
  unfold f_118
  refine gT_loop (fun y => T 11 y.1 ∧ (0 ≤ y.2.1 ∧ y.2.1 ≤ 1) ∧ (-1 ≤ y.2.2.1 ∧ y.2.2.1 ≤ 5) ∧ (0 ≤ y.2.2.2.2.1 ∧ y.2.2.2.2.1 ≤ 6) ∧ y.2.1 = a1 ∧ J p y.2.2.2.2.2) (fun y => (6 - y.2.2.2.2.1).toNat) (fun y hy => ?_) ?_
  · obtain ⟨x0, x1, x2, x3, x4, s⟩ := y
    obtain ⟨t1, r2, r3, r4, e5, hJ6⟩ := hy
    dsimp only at t1 r2 r3 r4 e5 hJ6
    show gT (sb_118_7 x0 x1 x2 x3 x4 s) _
    unfold sb_118_7
    extract_lets -merge v1 v2
    refine gT_ite (fun h7 => ?_) (fun h8 => ?_)
    · have := J_f (i := 5) hJ6 (T_f (i := 5) hJ6 t1 (by decide) rfl rfl) rfl (by decide) rfl
      refine gT_chk (by omega) (by omega) ?_
      have hv9 : v1 = (gI s (gR s (gR s x0 5) 1) (x4 : Int).toNat) := rfl
      refine gT_ite (fun h10 => ?_) (fun h11 => ?_)
      · exact gT_ret ⟨⟨t1, (show (0 : Int) ≤ x1 ∧ x1 ≤ 1 by constructor <;> omega), (show (-1 : Int) ≤ x4 ∧ x4 ≤ 5 by constructor <;> omega), (show (0 : Int) ≤ (g32 (x4 + 1)) ∧ (g32 (x4 + 1)) ≤ 6 by have := g32_eq (v := (x4 + 1)) (by omega) (by omega); constructor <;> omega), (by first | assumption | omega | (dsimp only; omega)), hJ6⟩, by dsimp only; have := g32_eq (v := (x4 + 1)) (by omega) (by omega); omega⟩
      · refine gT_chk (by omega) (by omega) ?_
        refine gT_ite (fun h12 => ?_) (fun h13 => ?_)
        · refine gT_chk (by omega) (by omega) ?_
          have hv14 : v2 = (gI s (gR s (gR s x0 5) 1) (x2 : Int).toNat) := rfl
          exact gT_ret ⟨⟨t1, (show (0 : Int) ≤ x1 ∧ x1 ≤ 1 by constructor <;> omega), (show (-1 : Int) ≤ x4 ∧ x4 ≤ 5 by constructor <;> omega), (show (0 : Int) ≤ (g32 (x4 + 1)) ∧ (g32 (x4 + 1)) ≤ 6 by have := g32_eq (v := (x4 + 1)) (by omega) (by omega); constructor <;> omega), (by first | assumption | omega | (dsimp only; omega)), hJ6⟩, by dsimp only; have := g32_eq (v := (x4 + 1)) (by omega) (by omega); omega⟩
        · exact gT_ret ⟨⟨t1, (show (0 : Int) ≤ x1 ∧ x1 ≤ 1 by constructor <;> omega), (show (-1 : Int) ≤ x2 ∧ x2 ≤ 5 by constructor <;> omega), (show (0 : Int) ≤ (g32 (x4 + 1)) ∧ (g32 (x4 + 1)) ≤ 6 by have := g32_eq (v := (x4 + 1)) (by omega) (by omega); constructor <;> omega), (by first | assumption | omega | (dsimp only; omega)), hJ6⟩, by dsimp only; have := g32_eq (v := (x4 + 1)) (by omega) (by omega); omega⟩
    · have := J_f (i := 5) hJ6 (T_f (i := 5) hJ6 t1 (by decide) rfl rfl) rfl (by decide) rfl
      refine gT_map ?_
      refine gT_ite (fun h15 => ?_) (fun h16 => ?_)
      · exact gT_ret ⟨rfl, trivial, hJ6⟩
      · exact gT_ret ⟨rfl, trivial, hJ6⟩
  · exact ⟨t0, (show (0 : Int) ≤ a1 ∧ a1 ≤ 1 by constructor <;> omega), (show (-1 : Int) ≤ (-1) ∧ (-1) ≤ 5 by constructor <;> omega), (show (0 : Int) ≤ 0 ∧ 0 ≤ 6 by constructor <;> omega), rfl, h⟩
-- X11_sold
theorem d_119 {p : gP} {a0 : Nat} {a1 : Int} {s : gS} (hp : -1 ≤ p.1 ∧ p.1 ≤ 0) (h : J p s) (t0 : T 11 a0) : gT (f_119 a0 a1 s) (fun r => (r.1 = 1 ∧ True ∧ J p r.2.2.2) ∨ (2 ≤ r.1 ∧ r.1 ≤ 6 ∧ (r.1 = 5) ∧ J p r.2.2.2)) := by
  unfold f_119
  refine gT_ite (fun h1 => ?_) (fun h2 => ?_)
  · unfold fb_119_10
    refine gT_v0 (A := fun u9 => J p u9) (d_63 hp h (T_f (i := 7) h t0 (by decide) rfl rfl)) (fun s1 h3 => ?_)
    have hJ4 := h3
    refine gT_ite (fun h5 => ?_) (fun h6 => ?_)
    · refine gT_v1 (A := fun w9 u9 => True ∧ J p u9) (d_65 hp hJ4 (T_f (i := 7) hJ4 t0 (by decide) rfl rfl)) (fun v4 s3 h7 => ?_)
      obtain ⟨h7r, hJ8⟩ := h7
      exact gT_ret (Or.inl ⟨rfl, trivial, hJ8⟩)
    · refine gT_v1 (A := fun w9 u9 => True ∧ J p u9) (d_66 hp hJ4 (T_f (i := 7) hJ4 t0 (by decide) rfl rfl) (show (0 : Int) ≤ a1 ∧ a1 ≤ 5 by constructor <;> omega)) (fun v6 s5 h9 => ?_)
      obtain ⟨h9r, hJ10⟩ := h9
      exact gT_ret (Or.inl ⟨rfl, trivial, hJ10⟩)
  · refine gT_t0 (A := fun u9 => (0 ≤ a1 ∧ a1 ≤ 5) ∧ J p u9) (B := fun t9 u9 => (t9 = 5) ∧ J p u9) (d_137 hp h t0) (fun s7 h11 => ?_) (fun t s h1 h2 h3 => Or.inr ⟨h1, h2, by have := h3.1; dsimp only; omega, h3.2⟩)
    obtain ⟨h11e, hJ12⟩ := h11
    unfold fb_119_10
    refine gT_v0 (A := fun u9 => J p u9) (d_63 hp hJ12 (T_f (i := 7) hJ12 t0 (by decide) rfl rfl)) (fun s1 h13 => ?_)
    have hJ14 := h13
    refine gT_ite (fun h15 => ?_) (fun h16 => ?_)
    · refine gT_v1 (A := fun w9 u9 => True ∧ J p u9) (d_65 hp hJ14 (T_f (i := 7) hJ14 t0 (by decide) rfl rfl)) (fun v4 s3 h17 => ?_)
      obtain ⟨h17r, hJ18⟩ := h17
      exact gT_ret (Or.inl ⟨rfl, trivial, hJ18⟩)
    · refine gT_v1 (A := fun w9 u9 => True ∧ J p u9) (d_66 hp hJ14 (T_f (i := 7) hJ14 t0 (by decide) rfl rfl) (show (0 : Int) ≤ a1 ∧ a1 ≤ 5 by constructor <;> omega)) (fun v6 s5 h19 => ?_)
      obtain ⟨h19r, hJ20⟩ := h19
      exact gT_ret (Or.inl ⟨rfl, trivial, hJ20⟩)
-- X11_secret
theorem d_120 {p : gP} {a0 : Nat} {s : gS} (hp : -1 ≤ p.1 ∧ p.1 ≤ 0) (h : J p s) (t0 : T 11 a0) : gT (f_120 a0 s) (fun r => r.1 = 1 ∧ True ∧ J p r.2.2.2) := by
  unfold f_120
  extract_lets -merge v1
  have := J_f (i := 5) h (T_f (i := 4) h t0 (by decide) rfl rfl) rfl (by decide) rfl
  have := gshl_1 (x := (gI s (gR s a0 4) 5)) (by constructor <;> omega)
  have := g32_eq (v := ((gshl 1 (gI s (gR s a0 4) 5)) - 1)) (by omega) (by omega)
  have hv1 : v1 = (g32 ((gshl 1 (gI s (gR s a0 4) 5)) - 1)) := rfl
  refine gT_loop (fun y => T 11 y.1 ∧ (0 ≤ y.2.1 ∧ y.2.1 ≤ 255) ∧ (0 ≤ y.2.2.2.1 ∧ y.2.2.2.1 ≤ 64) ∧ y.2.1 = v1 ∧ J p y.2.2.2.2) (fun y => (64 - y.2.2.2.1).toNat) (fun y hy => ?_) ?_
  · obtain ⟨x0, x1, x2, x3, s⟩ := y
    obtain ⟨t2, r3, r4, e5, hJ6⟩ := hy
    dsimp only at t2 r3 r4 e5 hJ6
    show gT (sb_120_16 x0 x1 x2 x3 s) _
    unfold sb_120_16
    refine gT_ite (fun h7 => ?_) (fun h8 => ?_)
    · have := J_f (i := 5) hJ6 (T_f (i := 5) hJ6 t2 (by decide) rfl rfl) rfl (by decide) rfl
      have := gshl_6 (x := (gI s (gR s x0 5) 5)) (by constructor <;> omega)
      refine gT_v1 (A := fun w9 u9 => True ∧ J p u9) (d_32 hp hJ6 (T_f (i := 5) hJ6 t2 (by decide) rfl rfl)) (fun v3 s2 h9 => ?_)
      obtain ⟨h9r, hJ10⟩ := h9
      refine gT_ite (fun h11 => ?_) (fun h12 => ?_)
      · refine gT_ite (fun h13 => ?_) (fun h14 => ?_)
        · unfold fb_120_57
          exact gT_ret ⟨⟨t2, (show (0 : Int) ≤ x1 ∧ x1 ≤ 255 by constructor <;> omega), (show (0 : Int) ≤ (g32 (x3 + 1)) ∧ (g32 (x3 + 1)) ≤ 64 by have := g32_eq (v := (x3 + 1)) (by omega) (by omega); constructor <;> omega), (by first | assumption | omega | (dsimp only; omega)), hJ10⟩, by dsimp only; have := g32_eq (v := (x3 + 1)) (by omega) (by omega); omega⟩
        · refine gT_v1 (A := fun w9 u9 => (0 ≤ w9 ∧ w9 ≤ 63) ∧ J p u9) (d_264 hp hJ10) (fun v5 s4 h15 => ?_)
          obtain ⟨h15r, hJ16⟩ := h15
          refine gT_v1 (A := fun w9 u9 => (0 ≤ w9 ∧ w9 ≤ 63) ∧ J p u9) (d_264 hp hJ16) (fun v7 s6 h17 => ?_)
          obtain ⟨h17r, hJ18⟩ := h17
          refine gT_ite (fun h19 => ?_) (fun h20 => ?_)
          · unfold fb_120_57
            exact gT_ret ⟨⟨t2, (show (0 : Int) ≤ x1 ∧ x1 ≤ 255 by constructor <;> omega), (show (0 : Int) ≤ (g32 (x3 + 1)) ∧ (g32 (x3 + 1)) ≤ 64 by have := g32_eq (v := (x3 + 1)) (by omega) (by omega); constructor <;> omega), (by first | assumption | omega | (dsimp only; omega)), hJ18⟩, by dsimp only; have := g32_eq (v := (x3 + 1)) (by omega) (by omega); omega⟩
          · exact gT_ret ⟨⟨t2, (show (0 : Int) ≤ x1 ∧ x1 ≤ 255 by constructor <;> omega), (show (0 : Int) ≤ (g32 (x3 + 1)) ∧ (g32 (x3 + 1)) ≤ 64 by have := g32_eq (v := (x3 + 1)) (by omega) (by omega); constructor <;> omega), (by first | assumption | omega | (dsimp only; omega)), hJ18⟩, by dsimp only; have := g32_eq (v := (x3 + 1)) (by omega) (by omega); omega⟩
      · exact gT_ret ⟨⟨t2, (show (0 : Int) ≤ x1 ∧ x1 ≤ 255 by constructor <;> omega), (show (0 : Int) ≤ (g32 (x3 + 1)) ∧ (g32 (x3 + 1)) ≤ 64 by have := g32_eq (v := (x3 + 1)) (by omega) (by omega); constructor <;> omega), (by first | assumption | omega | (dsimp only; omega)), hJ10⟩, by dsimp only; have := g32_eq (v := (x3 + 1)) (by omega) (by omega); omega⟩
    · have := J_f (i := 5) hJ6 (T_f (i := 5) hJ6 t2 (by decide) rfl rfl) rfl (by decide) rfl
      have := gshl_6 (x := (gI s (gR s x0 5) 5)) (by constructor <;> omega)
      refine gT_map ?_
      exact gT_ret ⟨rfl, trivial, hJ6⟩
  · exact ⟨t0, (show (0 : Int) ≤ v1 ∧ v1 ≤ 255 by constructor <;> omega), (show (0 : Int) ≤ 0 ∧ 0 ≤ 64 by constructor <;> omega), rfl, h⟩
-- X11_mates
theorem d_121 {p : gP} {a0 : Nat} {s : gS} (hp : -1 ≤ p.1 ∧ p.1 ≤ 0) (h : J p s) (t0 : T 11 a0) : gT (f_121 a0 s) (fun r => r.1 = 1 ∧ True ∧ J p r.2.2.2) := by
  unfold f_121
  refine gT_loop (fun y => T 11 y.1 ∧ (0 ≤ y.2.2.1 ∧ y.2.2.1 ≤ 6) ∧ J p y.2.2.2) (fun y => (6 - y.2.2.1).toNat) (fun y hy => ?_) ?_
  · obtain ⟨x0, x1, x2, s⟩ := y
    obtain ⟨t1, r2, hJ3⟩ := hy
    dsimp only at t1 r2 hJ3
    show gT (sb_121_4 x0 x1 x2 s) _
    unfold sb_121_4
    refine gT_ite (fun h4 => ?_) (fun h5 => ?_)
    · have := J_f (i := 4) hJ3 (T_f (i := 5) hJ3 t1 (by decide) rfl rfl) rfl (by decide) rfl
      refine gT_loop (fun y => T 11 y.1 ∧ (0 ≤ y.2.2.1 ∧ y.2.2.1 ≤ 5) ∧ (1 ≤ y.2.2.2.1 ∧ y.2.2.2.1 ≤ 6) ∧ y.2.2.1 = x2 ∧ J p y.2.2.2.2) (fun y => (6 - y.2.2.2.1).toNat) (fun y hy => ?_) ?_
      · obtain ⟨x0, x1, x2, x3, s⟩ := y
        obtain ⟨t6, r7, r8, e9, hJ10⟩ := hy
        dsimp only at t6 r7 r8 e9 hJ10
        show gT (sb_121_19 x0 x1 x2 x3 s) _
        unfold sb_121_19
        refine gT_ite (fun h11 => ?_) (fun h12 => ?_)
        · have := J_f (i := 4) hJ10 (T_f (i := 5) hJ10 t6 (by decide) rfl rfl) rfl (by decide) rfl
          refine gT_chk (by omega) (by omega) ?_
          refine gT_chk (by omega) (by omega) ?_
          refine gT_ite (fun h13 => ?_) (fun h14 => ?_)
          · exact gT_ret ⟨⟨t6, (show (0 : Int) ≤ x2 ∧ x2 ≤ 5 by constructor <;> omega), (show (1 : Int) ≤ (g32 (x3 + 1)) ∧ (g32 (x3 + 1)) ≤ 6 by have := g32_eq (v := (x3 + 1)) (by omega) (by omega); constructor <;> omega), (by first | assumption | omega | (dsimp only; omega)), hJ10⟩, by dsimp only; have := g32_eq (v := (x3 + 1)) (by omega) (by omega); omega⟩
          · exact gT_ret ⟨⟨t6, (show (0 : Int) ≤ x2 ∧ x2 ≤ 5 by constructor <;> omega), (show (1 : Int) ≤ (g32 (x3 + 1)) ∧ (g32 (x3 + 1)) ≤ 6 by have := g32_eq (v := (x3 + 1)) (by omega) (by omega); constructor <;> omega), (by first | assumption | omega | (dsimp only; omega)), hJ10⟩, by dsimp only; have := g32_eq (v := (x3 + 1)) (by omega) (by omega); omega⟩
        · have := J_f (i := 4) hJ10 (T_f (i := 5) hJ10 t6 (by decide) rfl rfl) rfl (by decide) rfl
          refine gT_map ?_
          exact gT_ret ⟨⟨t6, (show (0 : Int) ≤ (g32 (x2 + 1)) ∧ (g32 (x2 + 1)) ≤ 6 by have := g32_eq (v := (x2 + 1)) (by omega) (by omega); constructor <;> omega), hJ10⟩, by dsimp only; have := g32_eq (v := (x2 + 1)) (by omega) (by omega); omega⟩
      · exact ⟨t1, (show (0 : Int) ≤ x2 ∧ x2 ≤ 5 by constructor <;> omega), (show (1 : Int) ≤ (g32 (x2 + 1)) ∧ (g32 (x2 + 1)) ≤ 6 by have := g32_eq (v := (x2 + 1)) (by omega) (by omega); constructor <;> omega), rfl, hJ3⟩
    · have := J_f (i := 4) hJ3 (T_f (i := 5) hJ3 t1 (by decide) rfl rfl) rfl (by decide) rfl
      refine gT_map ?_
      exact gT_ret ⟨rfl, trivial, hJ3⟩
  · exact ⟨t0, (show (0 : Int) ≤ 0 ∧ 0 ≤ 6 by constructor <;> omega), h⟩
-- X11_knows
theorem d_122 {p : gP} {a0 : Nat} {a1 : Int} {s : gS} (hp : -1 ≤ p.1 ∧ p.1 ≤ 0) (h : J p s) (t0 : T 11 a0) : gT (f_122 a0 a1 s) (fun r => (r.1 = 1 ∧ True ∧ J p r.2.2.2) ∨ (2 ≤ r.1 ∧ r.1 ≤ 6 ∧ (r.1 = 2) ∧ J p r.2.2.2)) := by
  unfold f_122
  refine gT_t0 (A := fun u9 => (0 ≤ a1 ∧ a1 ≤ 5) ∧ J p u9) (B := fun t9 u9 => (t9 = 2) ∧ J p u9) (d_138 hp h t0) (fun s1 h1 => ?_) (fun t s h1 h2 h3 => Or.inr ⟨h1, h2, by have := h3.1; dsimp only; omega, h3.2⟩)
  obtain ⟨h1e, hJ2⟩ := h1
  refine gT_loop (fun y => T 11 y.1 ∧ (0 ≤ y.2.1 ∧ y.2.1 ≤ 5) ∧ (0 ≤ y.2.2.2.1 ∧ y.2.2.2.1 ≤ 6) ∧ y.2.1 = a1 ∧ J p y.2.2.2.2) (fun y => (6 - y.2.2.2.1).toNat) (fun y hy => ?_) ?_
  · obtain ⟨x0, x1, x2, x3, s⟩ := y
    obtain ⟨t3, r4, r5, e6, hJ7⟩ := hy
    dsimp only at t3 r4 r5 e6 hJ7
    show gT (sb_122_11 x0 x1 x2 x3 s) _
    unfold sb_122_11
    extract_lets -merge v3
    refine gT_ite (fun h8 => ?_) (fun h9 => ?_)
    · have := J_f (i := 4) hJ7 (T_f (i := 5) hJ7 t3 (by decide) rfl rfl) rfl (by decide) rfl
      refine gT_chk (by omega) (by omega) ?_
      have := gand_le (x := (gshr (gI s (gR s (gR s (gR s x0 5) 0) (x3 : Int).toNat) 2) x1)) (m := 1) (by omega) (by omega)
      have hv10 : v3 = (gor x2 (gshl (gand (gshr (gI s (gR s (gR s (gR s x0 5) 0) (x3 : Int).toNat) 2) x1) 1) x3)) := rfl
      exact gT_ret ⟨⟨t3, (show (0 : Int) ≤ x1 ∧ x1 ≤ 5 by constructor <;> omega), (show (0 : Int) ≤ (g32 (x3 + 1)) ∧ (g32 (x3 + 1)) ≤ 6 by have := g32_eq (v := (x3 + 1)) (by omega) (by omega); constructor <;> omega), (by first | assumption | omega | (dsimp only; omega)), hJ7⟩, by dsimp only; have := g32_eq (v := (x3 + 1)) (by omega) (by omega); omega⟩
    · have := J_f (i := 4) hJ7 (T_f (i := 5) hJ7 t3 (by decide) rfl rfl) rfl (by decide) rfl
      refine gT_map ?_
      exact gT_ret (Or.inl ⟨rfl, trivial, hJ7⟩)
  · exact ⟨t0, (show (0 : Int) ≤ a1 ∧ a1 ≤ 5 by constructor <;> omega), (show (0 : Int) ≤ 0 ∧ 0 ≤ 6 by constructor <;> omega), rfl, hJ2⟩
-- X11_dearest
theorem d_123 {p : gP} {a0 : Nat} {s : gS} (hp : -1 ≤ p.1 ∧ p.1 ≤ 0) (h : J p s) (t0 : T 11 a0) : gT (f_123 a0 s) (fun r => r.1 = 1 ∧ True ∧ J p r.2.2.2) := by
  unfold f_123
  refine gT_loop (fun y => T 11 y.1 ∧ (-1 ≤ y.2.1 ∧ y.2.1 ≤ 7) ∧ (0 ≤ y.2.2.1 ∧ y.2.2.1 ≤ 8) ∧ J p y.2.2.2) (fun y => (8 - y.2.2.1).toNat) (fun y hy => ?_) ?_
  · obtain ⟨x0, x1, x2, s⟩ := y
    obtain ⟨t1, r2, r3, hJ4⟩ := hy
    dsimp only at t1 r2 r3 hJ4
    show gT (sb_123_4 x0 x1 x2 s) _
    unfold sb_123_4
    refine gT_ite (fun h5 => ?_) (fun h6 => ?_)
    · have := J_f (i := 5) hJ4 (T_f (i := 4) hJ4 t1 (by decide) rfl rfl) rfl (by decide) rfl
      refine gT_ite (fun h7 => ?_) (fun h8 => ?_)
      · unfold fb_123_41
        exact gT_ret ⟨⟨t1, (show (-1 : Int) ≤ x2 ∧ x2 ≤ 7 by constructor <;> omega), (show (0 : Int) ≤ (g32 (x2 + 1)) ∧ (g32 (x2 + 1)) ≤ 8 by have := g32_eq (v := (x2 + 1)) (by omega) (by omega); constructor <;> omega), hJ4⟩, by dsimp only; have := g32_eq (v := (x2 + 1)) (by omega) (by omega); omega⟩
      · refine gT_chk (by omega) (by omega) ?_
        refine gT_chk (by omega) (by omega) ?_
        refine gT_ite (fun h9 => ?_) (fun h10 => ?_)
        · unfold fb_123_41
          exact gT_ret ⟨⟨t1, (show (-1 : Int) ≤ x2 ∧ x2 ≤ 7 by constructor <;> omega), (show (0 : Int) ≤ (g32 (x2 + 1)) ∧ (g32 (x2 + 1)) ≤ 8 by have := g32_eq (v := (x2 + 1)) (by omega) (by omega); constructor <;> omega), hJ4⟩, by dsimp only; have := g32_eq (v := (x2 + 1)) (by omega) (by omega); omega⟩
        · exact gT_ret ⟨⟨t1, (show (-1 : Int) ≤ x1 ∧ x1 ≤ 7 by constructor <;> omega), (show (0 : Int) ≤ (g32 (x2 + 1)) ∧ (g32 (x2 + 1)) ≤ 8 by have := g32_eq (v := (x2 + 1)) (by omega) (by omega); constructor <;> omega), hJ4⟩, by dsimp only; have := g32_eq (v := (x2 + 1)) (by omega) (by omega); omega⟩
    · have := J_f (i := 5) hJ4 (T_f (i := 4) hJ4 t1 (by decide) rfl rfl) rfl (by decide) rfl
      refine gT_map ?_
      exact gT_ret ⟨rfl, trivial, hJ4⟩
  · exact ⟨t0, (show (-1 : Int) ≤ (-1) ∧ (-1) ≤ 7 by constructor <;> omega), (show (0 : Int) ≤ 0 ∧ 0 ≤ 8 by constructor <;> omega), h⟩
-- X11_kept
theorem d_124 {p : gP} {a0 : Nat} {a1 : Int} {s : gS} (hp : -1 ≤ p.1 ∧ p.1 ≤ 0) (h : J p s) (t0 : T 11 a0) (r1 : 0 ≤ a1 ∧ a1 ≤ 1) : gT (f_124 a0 a1 s) (fun r => r.1 = 1 ∧ True ∧ J p r.2.2.2) := by
  unfold f_124
  refine gT_ite (fun h1 => ?_) (fun h2 => ?_)
  · unfold fb_124_13
    refine gT_v1 (A := fun w9 u9 => True ∧ J p u9) (d_29 hp h (T_f (i := 5) h t0 (by decide) rfl rfl)) (fun v2 s1 h3 => ?_)
    obtain ⟨h3r, hJ4⟩ := h3
    exact gT_ret ⟨rfl, trivial, hJ4⟩
  · unfold fb_124_13
    refine gT_v1 (A := fun w9 u9 => True ∧ J p u9) (d_29 hp h (T_f (i := 5) h t0 (by decide) rfl rfl)) (fun v2 s1 h5 => ?_)
    obtain ⟨h5r, hJ6⟩ := h5
    exact gT_ret ⟨rfl, trivial, hJ6⟩
-- X11_led
theorem d_127 {p : gP} {a0 : Nat} {a1 : Int} {a2 : Int} {s : gS} (hp : -1 ≤ p.1 ∧ p.1 ≤ 0) (h : J p s) (t0 : T 11 a0) (r2 : 0 ≤ a2 ∧ a2 ≤ 1) : gT (f_127 a0 a1 a2 s) (fun r => (r.1 = 1 ∧ True ∧ J p r.2.2.2) ∨ (2 ≤ r.1 ∧ r.1 ≤ 6 ∧ (r.1 = 5) ∧ J p r.2.2.2)) := by
  unfold f_127
  refine gT_t0 (A := fun u9 => (0 ≤ a1 ∧ a1 ≤ 5) ∧ J p u9) (B := fun t9 u9 => (t9 = 5) ∧ J p u9) (d_135 hp h t0) (fun s1 h1 => ?_) (fun t s h1 h2 h3 => Or.inr ⟨h1, h2, by have := h3.1; dsimp only; omega, h3.2⟩)
  obtain ⟨h1e, hJ2⟩ := h1
  refine gT_v1 (A := fun w9 u9 => True ∧ J p u9) (d_57 hp hJ2 (T_f (i := 3) hJ2 (T_f (i := 5) hJ2 t0 (by decide) rfl rfl) (by decide) rfl rfl) (show (0 : Int) ≤ a2 ∧ a2 ≤ 1 by constructor <;> omega)) (fun v4 s3 h3 => ?_)
  obtain ⟨h3r, hJ4⟩ := h3
  exact gT_ret (Or.inl ⟨rfl, trivial, hJ4⟩)
-- X11_log
theorem d_128 {p : gP} {a0 : Nat} {a1 : Int} {a2 : Int} {s : gS} (hp : -1 ≤ p.1 ∧ p.1 ≤ 0) (h : J p s) (t0 : T 11 a0) : gT (f_128 a0 a1 a2 s) (fun r => (r.1 = 1 ∧ True ∧ J p r.2.2.2) ∨ (2 ≤ r.1 ∧ r.1 ≤ 6 ∧ (r.1 = 4) ∧ J p r.2.2.2)) := by
  unfold f_128
  refine gT_ite (fun h1 => ?_) (fun h2 => ?_)
  · unfold fb_128_9
    exact gT_ret (Or.inr ⟨Nat.le_of_ble_eq_true rfl, Nat.le_of_ble_eq_true rfl, by simp, (J_nw h)⟩)
  · refine gT_ite (fun h3 => ?_) (fun h4 => ?_)
    · refine gT_v1 (A := fun w9 u9 => True ∧ J p u9) (d_56 hp h (T_f (i := 3) h (T_f (i := 5) h t0 (by decide) rfl rfl) (by decide) rfl rfl)) (fun v2 s1 h5 => ?_)
      obtain ⟨h5r, hJ6⟩ := h5
      exact gT_ret (Or.inl ⟨rfl, trivial, hJ6⟩)
    · unfold fb_128_9
      exact gT_ret (Or.inr ⟨Nat.le_of_ble_eq_true rfl, Nat.le_of_ble_eq_true rfl, by simp, (J_nw h)⟩)
-- X11_seed
theorem d_129 {p : gP} {a0 : Nat} {a1 : Int} {s : gS} (hp : -1 ≤ p.1 ∧ p.1 ≤ 0) (h : J p s) (t0 : T 11 a0) : gT (f_129 a0 a1 s) (fun r => r.1 = 1 ∧ True ∧ J p r.2.2.2) := by
  unfold f_129
  extract_lets -merge v1 s2
  have hv1 : v1 = (gI s (gR s a0 5) 9) := rfl
  have hJ2 : J p s2 := (J_wf h (T_f (i := 5) h t0 (by decide) rfl rfl) rfl (by decide) (by decide) (fun q hq => by cases hq))
  exact gT_ret ⟨rfl, trivial, hJ2⟩
-- X11_undo
theorem d_130 {p : gP} {a0 : Nat} {s : gS} (hp : -1 ≤ p.1 ∧ p.1 ≤ 0) (h : J p s) (t0 : T 11 a0) : gT (f_130 a0 s) (fun r => r.1 = 1 ∧ (0 ≤ r.2.1 ∧ r.2.1 ≤ 1) ∧ J p r.2.2.2) := by
  unfold f_130
  refine gT_ite (fun h1 => ?_) (fun h2 => ?_)
  · exact gT_ret ⟨rfl, (by dsimp only; constructor <;> omega), h⟩
  · refine gT_chk (by have := J_f (i := 13) h t0 rfl (by decide) rfl; omega) (by have := J_f (i := 13) h t0 rfl (by decide) rfl; omega) ?_
    refine gT_v0 (A := fun u9 => J p u9) (d_22 hp h (T_f (i := 5) h t0 (by decide) rfl rfl) (T_pastc (i := ((gI s a0 13) : Int).toNat) h h t0 (by have := J_f (i := 13) h t0 rfl (by decide) rfl; omega))) (fun s1 h3 => ?_)
    have hJ4 := h3
    extract_lets -merge s3 s4
    have hJ5 : J p s3 := (J_wf hJ4 t0 rfl (by decide) (by decide) (fun q hq => by cases hq; dsimp only; have := J_f (i := 13) hJ4 t0 rfl (by decide) rfl; have := g32_eq (v := ((gI s1 a0 13) + 12)) (by omega) (by omega); have := g32_eq (v := ((g32 ((gI s1 a0 13) + 12)) - 1)) (by omega) (by omega); have := grem_eq (x := (g32 ((g32 ((gI s1 a0 13) + 12)) - 1))) (c := 12) (by constructor <;> omega) (by decide); constructor <;> omega))
    have hJ6 : J p s4 := (J_wf hJ5 t0 rfl (by decide) (by decide) (fun q hq => by cases hq))
    exact gT_ret ⟨rfl, (by dsimp only; constructor <;> omega), hJ6⟩
-- X11_count
theorem d_133 {p : gP} {a0 : Nat} {a1 : Int} {s : gS} (hp : -1 ≤ p.1 ∧ p.1 ≤ 0) (h : J p s) (t0 : T 11 a0) : gT (f_133 a0 a1 s) (fun r => r.1 = 1 ∧ True ∧ J p r.2.2.2) := by
  unfold f_133
  refine gT_ite (fun h1 => ?_) (fun h2 => ?_)
  · exact gT_ret ⟨rfl, trivial, h⟩
  · refine gT_ite (fun h3 => ?_) (fun h4 => ?_)
    · exact gT_ret ⟨rfl, trivial, h⟩
    · refine gT_ite (fun h5 => ?_) (fun h6 => ?_)
      · exact gT_ret ⟨rfl, trivial, h⟩
      · refine gT_ite (fun h7 => ?_) (fun h8 => ?_)
        · exact gT_ret ⟨rfl, trivial, h⟩
        · refine gT_ite (fun h9 => ?_) (fun h10 => ?_)
          · exact gT_ret ⟨rfl, trivial, h⟩
          · refine gT_ite (fun h11 => ?_) (fun h12 => ?_)
            · exact gT_ret ⟨rfl, trivial, h⟩
            · refine gT_ite (fun h13 => ?_) (fun h14 => ?_)
              · refine gT_ite (fun h15 => ?_) (fun h16 => ?_)
                · exact gT_ret ⟨rfl, trivial, h⟩
                · refine gT_ite (fun h17 => ?_) (fun h18 => ?_)
                  · exfalso; omega
                  · exact gT_ret ⟨rfl, trivial, h⟩
              · refine gT_ite (fun h19 => ?_) (fun h20 => ?_)
                · exact gT_ret ⟨rfl, trivial, h⟩
                · refine gT_ite (fun h21 => ?_) (fun h22 => ?_)
                  · exact gT_ret ⟨rfl, trivial, h⟩
                  · refine gT_ite (fun h23 => ?_) (fun h24 => ?_)
                    · exact gT_ret ⟨rfl, trivial, h⟩
                    · refine gT_ite (fun h25 => ?_) (fun h26 => ?_)
                      · exact gT_ret ⟨rfl, trivial, h⟩
                      · refine gT_ite (fun h27 => ?_) (fun h28 => ?_)
                        · exact gT_ret ⟨rfl, trivial, h⟩
                        · refine gT_ite (fun h29 => ?_) (fun h30 => ?_)
                          · exact gT_ret ⟨rfl, trivial, h⟩
                          · refine gT_ite (fun h31 => ?_) (fun h32 => ?_)
                            · refine gT_v1 (A := fun w9 u9 => True ∧ J p u9) (d_30 hp h (T_f (i := 5) h t0 (by decide) rfl rfl)) (fun v2 s1 h33 => ?_)
                              obtain ⟨h33r, hJ34⟩ := h33
                              exact gT_ret ⟨rfl, trivial, hJ34⟩
                            · refine gT_ite (fun h35 => ?_) (fun h36 => ?_)
                              · exact gT_ret ⟨rfl, trivial, h⟩
                              · refine gT_ite (fun h37 => ?_) (fun h38 => ?_)
                                · exact gT_ret ⟨rfl, trivial, h⟩
                                · exact gT_ret ⟨rfl, trivial, h⟩
-- X12_isIn
theorem d_150 {p : gP} {a0 : Int} {a1 : Int} {a2 : Int} {s : gS} (hp : -1 ≤ p.1 ∧ p.1 ≤ 0) (h : J p s)  : gT (f_150 a0 a1 a2 s) (fun r => r.1 = 1 ∧ ((r.2.1 = 1 → a1 ≤ a0 ∧ a0 ≤ a2) ∧ (r.2.1 = 0 → a0 < a1 ∨ a2 < a0)) ∧ (0 ≤ r.2.1 ∧ r.2.1 ≤ 1) ∧ J p r.2.2.2) := by
  unfold f_150
  refine gT_ite (fun h1 => ?_) (fun h2 => ?_)
  · unfold fb_150_14
    exact gT_ret ⟨rfl, (by first | omega | (dsimp only; omega)), (by dsimp only; constructor <;> omega), h⟩
  · refine gT_ite (fun h3 => ?_) (fun h4 => ?_)
    · unfold fb_150_14
      exact gT_ret ⟨rfl, (by first | omega | (dsimp only; omega)), (by dsimp only; constructor <;> omega), h⟩
    · exact gT_ret ⟨rfl, (by first | omega | (dsimp only; omega)), (by dsimp only; constructor <;> omega), h⟩
-- X12_lesser
theorem d_151 {p : gP} {a0 : Int} {a1 : Int} {s : gS} (hp : -1 ≤ p.1 ∧ p.1 ≤ 0) (h : J p s)  : gT (f_151 a0 a1 s) (fun r => r.1 = 1 ∧ (r.2.1 ≤ a0 ∧ r.2.1 ≤ a1 ∧ (r.2.1 = a0 ∨ r.2.1 = a1)) ∧ True ∧ J p r.2.2.2) := by
  unfold f_151
  refine gT_ite (fun h1 => ?_) (fun h2 => ?_)
  · exact gT_ret ⟨rfl, (by first | omega | (dsimp only; omega)), trivial, h⟩
  · exact gT_ret ⟨rfl, (by first | omega | (dsimp only; omega)), trivial, h⟩
-- X12_greater
theorem d_152 {p : gP} {a0 : Int} {a1 : Int} {s : gS} (hp : -1 ≤ p.1 ∧ p.1 ≤ 0) (h : J p s)  : gT (f_152 a0 a1 s) (fun r => r.1 = 1 ∧ (a0 ≤ r.2.1 ∧ a1 ≤ r.2.1 ∧ (r.2.1 = a0 ∨ r.2.1 = a1)) ∧ True ∧ J p r.2.2.2) := by
  unfold f_152
  refine gT_ite (fun h1 => ?_) (fun h2 => ?_)
  · exact gT_ret ⟨rfl, (by first | omega | (dsimp only; omega)), trivial, h⟩
  · exact gT_ret ⟨rfl, (by first | omega | (dsimp only; omega)), trivial, h⟩
-- X12_isOf
theorem d_153 {p : gP} {a0 : Int} {a1 : Int} {s : gS} (hp : -1 ≤ p.1 ∧ p.1 ≤ 0) (h : J p s)  : gT (f_153 a0 a1 s) (fun r => r.1 = 1 ∧ (0 ≤ r.2.1 ∧ r.2.1 ≤ 1) ∧ J p r.2.2.2) := by
  unfold f_153
  refine gT_ite (fun h1 => ?_) (fun h2 => ?_)
  · have := gand_le (x := (gshr a0 a1)) (m := 1) (by omega) (by omega)
    exact gT_ret ⟨rfl, (by dsimp only; constructor <;> omega), h⟩
  · have := gand_le (x := (gshr a0 a1)) (m := 1) (by omega) (by omega)
    exact gT_ret ⟨rfl, (by dsimp only; constructor <;> omega), h⟩
-- X12_bits
theorem d_154 {p : gP} {a0 : Int} {s : gS} (hp : -1 ≤ p.1 ∧ p.1 ≤ 0) (h : J p s)  : gT (f_154 a0 s) (fun r => r.1 = 1 ∧ True ∧ J p r.2.2.2) := by
  unfold f_154
  refine gT_loop (fun y => (0 ≤ y.2.2.1 ∧ y.2.2.1 ≤ 31) ∧ y.1 = a0 ∧ J p y.2.2.2) (fun y => (31 - y.2.2.1).toNat) (fun y hy => ?_) ?_
  · obtain ⟨x0, x1, x2, s⟩ := y
    obtain ⟨r1, e2, hJ3⟩ := hy
    dsimp only at r1 e2 hJ3
    show gT (sb_154_4 x0 x1 x2 s) _
    unfold sb_154_4
    extract_lets -merge v1
    refine gT_ite (fun h4 => ?_) (fun h5 => ?_)
    · have := gand_le (x := (gshr x0 x2)) (m := 1) (by omega) (by omega)
      have hv6 : v1 = (g32 (x1 + (gand (gshr x0 x2) 1))) := rfl
      exact gT_ret ⟨⟨(show (0 : Int) ≤ (g32 (x2 + 1)) ∧ (g32 (x2 + 1)) ≤ 31 by have := g32_eq (v := (x2 + 1)) (by omega) (by omega); constructor <;> omega), (by first | assumption | omega | (dsimp only; omega)), hJ3⟩, by dsimp only; have := g32_eq (v := (x2 + 1)) (by omega) (by omega); omega⟩
    · refine gT_map ?_
      exact gT_ret ⟨rfl, trivial, hJ3⟩
  · exact ⟨(show (0 : Int) ≤ 0 ∧ 0 ≤ 31 by constructor <;> omega), rfl, h⟩
-- X12_ofStep
theorem d_155 {p : gP} {a0 : Nat} {a1 : Int} {a2 : Int} {s : gS} (hp : -1 ≤ p.1 ∧ p.1 ≤ 0) (h : J p s) (t0 : T 12 a0) (r1 : 0 ≤ a1 ∧ a1 ≤ 8) (r2 : 0 ≤ a2 ∧ a2 ≤ 2) : gT (f_155 a0 a1 a2 s) (fun r => r.1 = 1 ∧ True ∧ J p r.2.2.2) := by
  unfold f_155
  refine gT_chk (by have := g32_eq (v := (3 * a1)) (by omega) (by omega); have := g32_eq (v := (16 + (g32 (3 * a1)))) (by omega) (by omega); have := g32_eq (v := ((g32 (16 + (g32 (3 * a1)))) + a2)) (by omega) (by omega); omega) (by have := g32_eq (v := (3 * a1)) (by omega) (by omega); have := g32_eq (v := (16 + (g32 (3 * a1)))) (by omega) (by omega); have := g32_eq (v := ((g32 (16 + (g32 (3 * a1)))) + a2)) (by omega) (by omega); omega) ?_
  exact gT_ret ⟨rfl, trivial, h⟩
-- X12_of
theorem d_156 {p : gP} {a0 : Nat} {a1 : Int} {a2 : Int} {s : gS} (hp : -1 ≤ p.1 ∧ p.1 ≤ 0) (h : J p s) (t0 : T 12 a0) (r1 : 0 ≤ a1 ∧ a1 ≤ 5) (r2 : 0 ≤ a2 ∧ a2 ≤ 5) : gT (f_156 a0 a1 a2 s) (fun r => r.1 = 1 ∧ True ∧ J p r.2.2.2) := by
  unfold f_156
  refine gT_chk (by have := g32_eq (v := (6 * a1)) (by omega) (by omega); have := g32_eq (v := (40 + (g32 (6 * a1)))) (by omega) (by omega); have := g32_eq (v := ((g32 (40 + (g32 (6 * a1)))) + a2)) (by omega) (by omega); omega) (by have := g32_eq (v := (6 * a1)) (by omega) (by omega); have := g32_eq (v := (40 + (g32 (6 * a1)))) (by omega) (by omega); have := g32_eq (v := ((g32 (40 + (g32 (6 * a1)))) + a2)) (by omega) (by omega); omega) ?_
  exact gT_ret ⟨rfl, trivial, h⟩
-- X12_costOf
theorem d_158 {p : gP} {a0 : Nat} {a1 : Int} {s : gS} (hp : -1 ≤ p.1 ∧ p.1 ≤ 0) (h : J p s) (t0 : T 12 a0) (r1 : 0 ≤ a1 ∧ a1 ≤ 255) : gT (f_158 a0 a1 s) (fun r => r.1 = 1 ∧ True ∧ J p r.2.2.2) := by
  unfold f_158
  refine gT_chk (by have := g32_eq (v := (2 * a1)) (by omega) (by omega); have := g32_eq (v := (76 + (g32 (2 * a1)))) (by omega) (by omega); omega) (by have := g32_eq (v := (2 * a1)) (by omega) (by omega); have := g32_eq (v := (76 + (g32 (2 * a1)))) (by omega) (by omega); omega) ?_
  exact gT_ret ⟨rfl, trivial, h⟩
-- X12_stopsOf
theorem d_159 {p : gP} {a0 : Nat} {a1 : Int} {s : gS} (hp : -1 ≤ p.1 ∧ p.1 ≤ 0) (h : J p s) (t0 : T 12 a0) (r1 : 0 ≤ a1 ∧ a1 ≤ 255) : gT (f_159 a0 a1 s) (fun r => r.1 = 1 ∧ True ∧ J p r.2.2.2) := by
  unfold f_159
  refine gT_chk (by have := g32_eq (v := (2 * a1)) (by omega) (by omega); have := g32_eq (v := (76 + (g32 (2 * a1)))) (by omega) (by omega); have := g32_eq (v := ((g32 (76 + (g32 (2 * a1)))) + 1)) (by omega) (by omega); omega) (by have := g32_eq (v := (2 * a1)) (by omega) (by omega); have := g32_eq (v := (76 + (g32 (2 * a1)))) (by omega) (by omega); have := g32_eq (v := ((g32 (76 + (g32 (2 * a1)))) + 1)) (by omega) (by omega); omega) ?_
  exact gT_ret ⟨rfl, trivial, h⟩
-- X12_ofRival
theorem d_160 {p : gP} {a0 : Nat} {a1 : Int} {a2 : Int} {s : gS} (hp : -1 ≤ p.1 ∧ p.1 ≤ 0) (h : J p s) (t0 : T 12 a0) (r1 : 0 ≤ a1 ∧ a1 ≤ 5) (r2 : 0 ≤ a2 ∧ a2 ≤ 1) : gT (f_160 a0 a1 a2 s) (fun r => r.1 = 1 ∧ True ∧ J p r.2.2.2) := by
  unfold f_160
  refine gT_chk (by have := g32_eq (v := (2 * a1)) (by omega) (by omega); have := g32_eq (v := (88 + (g32 (2 * a1)))) (by omega) (by omega); have := g32_eq (v := ((g32 (88 + (g32 (2 * a1)))) + a2)) (by omega) (by omega); omega) (by have := g32_eq (v := (2 * a1)) (by omega) (by omega); have := g32_eq (v := (88 + (g32 (2 * a1)))) (by omega) (by omega); have := g32_eq (v := ((g32 (88 + (g32 (2 * a1)))) + a2)) (by omega) (by omega); omega) ?_
  exact gT_ret ⟨rfl, trivial, h⟩
-- X12_isStep
theorem d_161 {p : gP} {a0 : Nat} {a1 : Int} {s : gS} (hp : -1 ≤ p.1 ∧ p.1 ≤ 0) (h : J p s) (t0 : T 12 a0) : gT (f_161 a0 a1 s) (fun r => r.1 = 1 ∧ (r.2.1 = 1 → 0 ≤ a1 ∧ a1 ≤ 7) ∧ (0 ≤ r.2.1 ∧ r.2.1 ≤ 1) ∧ J p r.2.2.2) := by
  unfold f_161
  refine gT_v1 (A := fun w9 u9 => ((w9 = 1 → 0 ≤ a1 ∧ a1 ≤ (g32 ((gI s (gR s a0 1) 3) - 1))) ∧ (w9 = 0 → a1 < 0 ∨ (g32 ((gI s (gR s a0 1) 3) - 1)) < a1)) ∧ (0 ≤ w9 ∧ w9 ≤ 1) ∧ J p u9) (d_150 hp h) (fun v2 s1 h1 => ?_)
  obtain ⟨h1e, h1r, hJ2⟩ := h1
  have := J_m (k := 3) h h t0 rfl
  have := g32_eq (v := ((gI s (gR s a0 1) 3) - 1)) (by omega) (by omega)
  exact gT_ret ⟨rfl, (by first | omega | (dsimp only; omega)), (by dsimp only; constructor <;> omega), hJ2⟩
-- X12_isMan
theorem d_162 {p : gP} {a0 : Nat} {a1 : Int} {s : gS} (hp : -1 ≤ p.1 ∧ p.1 ≤ 0) (h : J p s) (t0 : T 12 a0) : gT (f_162 a0 a1 s) (fun r => r.1 = 1 ∧ (r.2.1 = 1 → 0 ≤ a1 ∧ a1 ≤ 5) ∧ (0 ≤ r.2.1 ∧ r.2.1 ≤ 1) ∧ J p r.2.2.2) := by
  unfold f_162
  refine gT_v1 (A := fun w9 u9 => ((w9 = 1 → 0 ≤ a1 ∧ a1 ≤ (g32 ((gI s (gR s a0 1) 4) - 1))) ∧ (w9 = 0 → a1 < 0 ∨ (g32 ((gI s (gR s a0 1) 4) - 1)) < a1)) ∧ (0 ≤ w9 ∧ w9 ≤ 1) ∧ J p u9) (d_150 hp h) (fun v2 s1 h1 => ?_)
  obtain ⟨h1e, h1r, hJ2⟩ := h1
  have := J_m (k := 4) h h t0 rfl
  have := g32_eq (v := ((gI s (gR s a0 1) 4) - 1)) (by omega) (by omega)
  exact gT_ret ⟨rfl, (by first | omega | (dsimp only; omega)), (by dsimp only; constructor <;> omega), hJ2⟩
-- X12_isTest
theorem d_163 {p : gP} {a0 : Nat} {a1 : Int} {s : gS} (hp : -1 ≤ p.1 ∧ p.1 ≤ 0) (h : J p s) (t0 : T 12 a0) : gT (f_163 a0 a1 s) (fun r => r.1 = 1 ∧ (r.2.1 = 1 → 0 ≤ a1 ∧ a1 ≤ 5) ∧ (0 ≤ r.2.1 ∧ r.2.1 ≤ 1) ∧ J p r.2.2.2) := by
  unfold f_163
  refine gT_v1 (A := fun w9 u9 => ((w9 = 1 → 0 ≤ a1 ∧ a1 ≤ (g32 ((gI s (gR s a0 1) 5) - 1))) ∧ (w9 = 0 → a1 < 0 ∨ (g32 ((gI s (gR s a0 1) 5) - 1)) < a1)) ∧ (0 ≤ w9 ∧ w9 ≤ 1) ∧ J p u9) (d_150 hp h) (fun v2 s1 h1 => ?_)
  obtain ⟨h1e, h1r, hJ2⟩ := h1
  have := J_m (k := 5) h h t0 rfl
  have := g32_eq (v := ((gI s (gR s a0 1) 5) - 1)) (by omega) (by omega)
  exact gT_ret ⟨rfl, (by first | omega | (dsimp only; omega)), (by dsimp only; constructor <;> omega), hJ2⟩
-- X12_isRival
theorem d_164 {p : gP} {a0 : Nat} {a1 : Int} {s : gS} (hp : -1 ≤ p.1 ∧ p.1 ≤ 0) (h : J p s) (t0 : T 12 a0) : gT (f_164 a0 a1 s) (fun r => r.1 = 1 ∧ (r.2.1 = 1 → 0 ≤ a1 ∧ a1 ≤ 5) ∧ (0 ≤ r.2.1 ∧ r.2.1 ≤ 1) ∧ J p r.2.2.2) := by
  unfold f_164
  refine gT_v1 (A := fun w9 u9 => ((w9 = 1 → 0 ≤ a1 ∧ a1 ≤ (g32 ((gI s (gR s a0 1) 6) - 1))) ∧ (w9 = 0 → a1 < 0 ∨ (g32 ((gI s (gR s a0 1) 6) - 1)) < a1)) ∧ (0 ≤ w9 ∧ w9 ≤ 1) ∧ J p u9) (d_150 hp h) (fun v2 s1 h1 => ?_)
  obtain ⟨h1e, h1r, hJ2⟩ := h1
  have := J_m (k := 6) h h t0 rfl
  have := g32_eq (v := ((gI s (gR s a0 1) 6) - 1)) (by omega) (by omega)
  exact gT_ret ⟨rfl, (by first | omega | (dsimp only; omega)), (by dsimp only; constructor <;> omega), hJ2⟩
-- X12_isKept
theorem d_165 {p : gP} {a0 : Nat} {a1 : Int} {s : gS} (hp : -1 ≤ p.1 ∧ p.1 ≤ 0) (h : J p s) (t0 : T 12 a0) (r1 : 0 ≤ a1 ∧ a1 ≤ 5) : gT (f_165 a0 a1 s) (fun r => r.1 = 1 ∧ (0 ≤ r.2.1 ∧ r.2.1 ≤ 1) ∧ J p r.2.2.2) := by
  unfold f_165
  refine gT_v1 (A := fun w9 u9 => True ∧ J p u9) (d_156 hp h t0 (show (0 : Int) ≤ a1 ∧ a1 ≤ 5 by constructor <;> omega) (show (0 : Int) ≤ 5 ∧ 5 ≤ 5 by constructor <;> omega)) (fun v2 s1 h1 => ?_)
  obtain ⟨h1r, hJ2⟩ := h1
  refine gT_ite (fun h3 => ?_) (fun h4 => ?_)
  · exact gT_ret ⟨rfl, (by dsimp only; constructor <;> omega), hJ2⟩
  · exact gT_ret ⟨rfl, (by dsimp only; constructor <;> omega), hJ2⟩
-- X12_letter
-- X12_wrong
-- X12_begins
theorem d_183 {p : gP} {a0 : Nat} {s : gS} (hp : -1 ≤ p.1 ∧ p.1 ≤ 0) (h : J p s) (t0 : T 12 a0) : gT (f_183 a0 s) (fun r => r.1 = 0 ∧ J (p.1, p.2.1, 0, p.2.2.2.1, p.2.2.2.2) r.2.2.2) := by
  unfold f_183
  extract_lets -merge s1 s2 s3 s4 s5 s6
  have hJ1 : J p s1 := (J_wf h t0 rfl (by decide) (by decide) (fun q hq => by cases hq))
  have hJ2 : J p s2 := (J_wf hJ1 t0 rfl (by decide) (by decide) (fun q hq => by cases hq; dsimp only; constructor <;> omega))
  have hJ3 : J p s3 := (J_wf hJ2 t0 rfl (by decide) (by decide) (fun q hq => by cases hq; dsimp only; have := rd_k (a := a0) (k := 8) (show s2 = (gw s1 a0 9 (-1)) from rfl) (by decide); have := rd_k (a := a0) (k := 8) (show s1 = (gw s a0 12 (-1)) from rfl) (by decide); have := J_f (i := 8) h t0 rfl (by decide) rfl; constructor <;> omega))
  have hJ4 : J (p.1, p.2.1, 0, p.2.2.2.1, p.2.2.2.2) s4 := (J_t hJ3 t0 (by constructor <;> omega))
  have hJ5 : J (p.1, p.2.1, 0, p.2.2.2.1, p.2.2.2.2) s5 := (J_wf hJ4 t0 rfl (by decide) (by decide) (fun q hq => by cases hq; dsimp only; constructor <;> omega))
  have hJ6 : J (p.1, p.2.1, 0, p.2.2.2.1, p.2.2.2.2) s6 := (J_wf hJ5 t0 rfl (by decide) (by decide) (fun q hq => by cases hq; dsimp only; constructor <;> omega))
  exact gT_ret ⟨rfl, hJ6⟩
-- X12_fault
theorem d_196 {p : gP} {a0 : Nat} {s : gS} (hp : -1 ≤ p.1 ∧ p.1 ≤ 0) (h : J p s) (t0 : T 12 a0) : gT (f_196 a0 s) (fun r => r.1 = 1 ∧ True ∧ J p r.2.2.2) := by
  unfold f_196
  extract_lets -merge s1
  have hJ1 : J p s1 := (J_wf h t0 rfl (by decide) (by decide) (fun q hq => by cases hq))
  exact gT_ret ⟨rfl, trivial, hJ1⟩
-- X12_draw
theorem d_199 {p : gP} {a0 : Nat} {a1 : Int} {s : gS} (hp : -1 ≤ p.1 ∧ p.1 ≤ 0) (h : J p s) (t0 : T 12 a0) (r1 : 1 ≤ a1 ∧ a1 ≤ 100) : gT (f_199 a0 a1 s) (fun r => r.1 = 1 ∧ True ∧ J p r.2.2.2) := by
  unfold f_199
  extract_lets -merge s1
  have hJ1 : J p s1 := (J_wm h h t0 (fun q hq => by cases hq))
  refine gT_ite (fun h2 => ?_) (fun h3 => ?_)
  · exfalso; omega
  · exact gT_ret ⟨rfl, trivial, hJ1⟩
-- X12_pays
theorem d_200 {p : gP} {a0 : Nat} {a1 : Int} {s : gS} (hp : -1 ≤ p.1 ∧ p.1 ≤ 0) (h : J p s) (t0 : T 12 a0) : gT (f_200 a0 a1 s) (fun r => r.1 = 0 ∧ J p r.2.2.2) := by
  unfold f_200
  refine gT_v1 (A := fun w9 u9 => (w9 ≤ a1 ∧ w9 ≤ (gI s (gR s a0 1) 8) ∧ (w9 = a1 ∨ w9 = (gI s (gR s a0 1) 8))) ∧ True ∧ J p u9) (d_151 hp h) (fun v2 s1 h1 => ?_)
  obtain ⟨h1e, h1r, hJ2⟩ := h1
  extract_lets -merge s3
  have hJ3 : J p s3 := (J_wm hJ2 hJ2 t0 (fun q hq => by cases hq))
  refine gT_v1 (A := fun w9 u9 => (w9 ≤ 9999 ∧ w9 ≤ (g32 ((g32 ((gI s3 (gR s3 a0 1) 9) + a1)) - v2)) ∧ (w9 = 9999 ∨ w9 = (g32 ((g32 ((gI s3 (gR s3 a0 1) 9) + a1)) - v2)))) ∧ True ∧ J p u9) (d_151 hp hJ3) (fun v5 s4 h4 => ?_)
  obtain ⟨h4e, h4r, hJ5⟩ := h4
  have := rd_k (a := (gR s3 a0 1)) (k := 9) (show s3 = (gw s1 (gR s1 a0 1) 8 (g32 ((gI s1 (gR s1 a0 1) 8) - v2))) from rfl) (by decide)
  extract_lets -merge s6
  have hJ6 : J p s6 := (J_wm hJ5 hJ3 t0 (fun q hq => by cases hq))
  exact gT_ret ⟨rfl, hJ6⟩
-- X12_step
theorem d_203 {p : gP} {a0 : Nat} {a1 : Int} {a2 : Int} {s : gS} (hp : -1 ≤ p.1 ∧ p.1 ≤ 0) (h : J p s) (t0 : T 12 a0) : gT (f_203 a0 a1 a2 s) (fun r => r.1 = 1 ∧ True ∧ J p r.2.2.2) := by
  unfold f_203
  refine gT_v1 (A := fun w9 u9 => (w9 = 1 → 0 ≤ a1 ∧ a1 ≤ 7) ∧ (0 ≤ w9 ∧ w9 ≤ 1) ∧ J p u9) (d_161 hp h t0) (fun v2 s1 h1 => ?_)
  obtain ⟨h1e, h1r, hJ2⟩ := h1
  refine gT_ite (fun h3 => ?_) (fun h4 => ?_)
  · unfold fb_203_27
    extract_lets -merge s4
    have hJ5 : J p s4 := (J_wf hJ2 t0 rfl (by decide) (by decide) (fun q hq => by cases hq))
    refine gT_ite (fun h6 => ?_) (fun h7 => ?_)
    · have := rd_same (show s4 = (gw s1 a0 0 1) from rfl)
      exact gT_ret ⟨rfl, trivial, hJ5⟩
    · have := rd_same (show s4 = (gw s1 a0 0 1) from rfl)
      refine gT_ite (fun h8 => ?_) (fun h9 => ?_)
      · refine gT_v1 (A := fun w9 u9 => True ∧ J p u9) (d_155 hp hJ5 t0 (show (0 : Int) ≤ a1 ∧ a1 ≤ 8 by constructor <;> omega) (show (0 : Int) ≤ a2 ∧ a2 ≤ 2 by constructor <;> omega)) (fun v6 s5 h10 => ?_)
        obtain ⟨h10r, hJ11⟩ := h10
        exact gT_ret ⟨rfl, trivial, hJ11⟩
      · refine gT_loop (fun y => T 12 y.1 ∧ (0 ≤ y.2.2.2.1 ∧ y.2.2.2.1 ≤ 6) ∧ y.2.1 = a1 ∧ J p y.2.2.2.2) (fun y => (6 - y.2.2.2.1).toNat) (fun y hy => ?_) ?_
        · obtain ⟨x0, x1, x3, x4, s⟩ := y
          obtain ⟨t12, r13, e14, hJ15⟩ := hy
          dsimp only at t12 r13 e14 hJ15
          show gT (sb_203_56 x0 x1 x3 x4 s) _
          unfold sb_203_56
          refine gT_ite (fun h16 => ?_) (fun h17 => ?_)
          · have := J_m (k := 6) hJ15 hJ15 t12 rfl
            refine gT_v1 (A := fun w9 u9 => True ∧ J p u9) (d_160 hp hJ15 t12 (show (0 : Int) ≤ x4 ∧ x4 ≤ 5 by constructor <;> omega) (show (0 : Int) ≤ 1 ∧ 1 ≤ 1 by constructor <;> omega)) (fun v8 s7 h18 => ?_)
            obtain ⟨h18r, hJ19⟩ := h18
            refine gT_v1 (A := fun w9 u9 => (0 ≤ w9 ∧ w9 ≤ 1) ∧ J p u9) (d_153 hp hJ19) (fun v10 s9 h20 => ?_)
            obtain ⟨h20r, hJ21⟩ := h20
            extract_lets -merge v12
            refine gT_ite (fun h22 => ?_) (fun h23 => ?_)
            · exact gT_ret ⟨⟨t12, (show (0 : Int) ≤ (g32 (x4 + 1)) ∧ (g32 (x4 + 1)) ≤ 6 by have := g32_eq (v := (x4 + 1)) (by omega) (by omega); constructor <;> omega), (by first | assumption | omega | (dsimp only; omega)), hJ21⟩, by dsimp only; have := g32_eq (v := (x4 + 1)) (by omega) (by omega); omega⟩
            · have := gshl_5 (x := x4) (by constructor <;> omega)
              have hv24 : v12 = (gor x3 (gshl 1 x4)) := rfl
              exact gT_ret ⟨⟨t12, (show (0 : Int) ≤ (g32 (x4 + 1)) ∧ (g32 (x4 + 1)) ≤ 6 by have := g32_eq (v := (x4 + 1)) (by omega) (by omega); constructor <;> omega), (by first | assumption | omega | (dsimp only; omega)), hJ21⟩, by dsimp only; have := g32_eq (v := (x4 + 1)) (by omega) (by omega); omega⟩
          · have := J_m (k := 6) hJ15 hJ15 t12 rfl
            refine gT_map ?_
            exact gT_ret ⟨rfl, trivial, hJ15⟩
        · exact ⟨t0, (show (0 : Int) ≤ 0 ∧ 0 ≤ 6 by constructor <;> omega), rfl, hJ5⟩
  · refine gT_v1 (A := fun w9 u9 => ((w9 = 1 → 0 ≤ a2 ∧ a2 ≤ 3) ∧ (w9 = 0 → a2 < 0 ∨ 3 < a2)) ∧ (0 ≤ w9 ∧ w9 ≤ 1) ∧ J p u9) (d_150 hp hJ2) (fun v14 s13 h25 => ?_)
    obtain ⟨h25e, h25r, hJ26⟩ := h25
    refine gT_ite (fun h27 => ?_) (fun h28 => ?_)
    · unfold fb_203_27
      extract_lets -merge s4
      have hJ29 : J p s4 := (J_wf hJ26 t0 rfl (by decide) (by decide) (fun q hq => by cases hq))
      refine gT_ite (fun h30 => ?_) (fun h31 => ?_)
      · have := rd_same (show s4 = (gw s13 a0 0 2) from rfl)
        exact gT_ret ⟨rfl, trivial, hJ29⟩
      · have := rd_same (show s4 = (gw s13 a0 0 2) from rfl)
        refine gT_ite (fun h32 => ?_) (fun h33 => ?_)
        · refine gT_v1 (A := fun w9 u9 => True ∧ J p u9) (d_155 hp hJ29 t0 (show (0 : Int) ≤ a1 ∧ a1 ≤ 8 by constructor <;> omega) (show (0 : Int) ≤ a2 ∧ a2 ≤ 2 by constructor <;> omega)) (fun v6 s5 h34 => ?_)
          obtain ⟨h34r, hJ35⟩ := h34
          exact gT_ret ⟨rfl, trivial, hJ35⟩
        · refine gT_loop (fun y => T 12 y.1 ∧ (0 ≤ y.2.1 ∧ y.2.1 ≤ 7) ∧ (0 ≤ y.2.2.2.1 ∧ y.2.2.2.1 ≤ 6) ∧ y.2.1 = a1 ∧ J p y.2.2.2.2) (fun y => (6 - y.2.2.2.1).toNat) (fun y hy => ?_) ?_
          · obtain ⟨x0, x1, x3, x4, s⟩ := y
            obtain ⟨t36, r37, r38, e39, hJ40⟩ := hy
            dsimp only at t36 r37 r38 e39 hJ40
            show gT (sb_203_56 x0 x1 x3 x4 s) _
            unfold sb_203_56
            refine gT_ite (fun h41 => ?_) (fun h42 => ?_)
            · have := J_m (k := 6) hJ40 hJ40 t36 rfl
              refine gT_v1 (A := fun w9 u9 => True ∧ J p u9) (d_160 hp hJ40 t36 (show (0 : Int) ≤ x4 ∧ x4 ≤ 5 by constructor <;> omega) (show (0 : Int) ≤ 1 ∧ 1 ≤ 1 by constructor <;> omega)) (fun v8 s7 h43 => ?_)
              obtain ⟨h43r, hJ44⟩ := h43
              refine gT_v1 (A := fun w9 u9 => (0 ≤ w9 ∧ w9 ≤ 1) ∧ J p u9) (d_153 hp hJ44) (fun v10 s9 h45 => ?_)
              obtain ⟨h45r, hJ46⟩ := h45
              extract_lets -merge v12
              refine gT_ite (fun h47 => ?_) (fun h48 => ?_)
              · exact gT_ret ⟨⟨t36, (show (0 : Int) ≤ x1 ∧ x1 ≤ 7 by constructor <;> omega), (show (0 : Int) ≤ (g32 (x4 + 1)) ∧ (g32 (x4 + 1)) ≤ 6 by have := g32_eq (v := (x4 + 1)) (by omega) (by omega); constructor <;> omega), (by first | assumption | omega | (dsimp only; omega)), hJ46⟩, by dsimp only; have := g32_eq (v := (x4 + 1)) (by omega) (by omega); omega⟩
              · have := gshl_5 (x := x4) (by constructor <;> omega)
                have hv49 : v12 = (gor x3 (gshl 1 x4)) := rfl
                exact gT_ret ⟨⟨t36, (show (0 : Int) ≤ x1 ∧ x1 ≤ 7 by constructor <;> omega), (show (0 : Int) ≤ (g32 (x4 + 1)) ∧ (g32 (x4 + 1)) ≤ 6 by have := g32_eq (v := (x4 + 1)) (by omega) (by omega); constructor <;> omega), (by first | assumption | omega | (dsimp only; omega)), hJ46⟩, by dsimp only; have := g32_eq (v := (x4 + 1)) (by omega) (by omega); omega⟩
            · have := J_m (k := 6) hJ40 hJ40 t36 rfl
              refine gT_map ?_
              exact gT_ret ⟨rfl, trivial, hJ40⟩
          · exact ⟨t0, (show (0 : Int) ≤ a1 ∧ a1 ≤ 7 by constructor <;> omega), (show (0 : Int) ≤ 0 ∧ 0 ≤ 6 by constructor <;> omega), rfl, hJ29⟩
    · unfold fb_203_27
      extract_lets -merge s4
      have hJ50 : J p s4 := (J_wf hJ26 t0 rfl (by decide) (by decide) (fun q hq => by cases hq))
      refine gT_ite (fun h51 => ?_) (fun h52 => ?_)
      · have := rd_same (show s4 = (gw s13 a0 0 0) from rfl)
        exact gT_ret ⟨rfl, trivial, hJ50⟩
      · have := rd_same (show s4 = (gw s13 a0 0 0) from rfl)
        refine gT_ite (fun h53 => ?_) (fun h54 => ?_)
        · refine gT_v1 (A := fun w9 u9 => True ∧ J p u9) (d_155 hp hJ50 t0 (show (0 : Int) ≤ a1 ∧ a1 ≤ 8 by constructor <;> omega) (show (0 : Int) ≤ a2 ∧ a2 ≤ 2 by constructor <;> omega)) (fun v6 s5 h55 => ?_)
          obtain ⟨h55r, hJ56⟩ := h55
          exact gT_ret ⟨rfl, trivial, hJ56⟩
        · refine gT_loop (fun y => T 12 y.1 ∧ (0 ≤ y.2.1 ∧ y.2.1 ≤ 7) ∧ (0 ≤ y.2.2.2.1 ∧ y.2.2.2.1 ≤ 6) ∧ y.2.1 = a1 ∧ J p y.2.2.2.2) (fun y => (6 - y.2.2.2.1).toNat) (fun y hy => ?_) ?_
          · obtain ⟨x0, x1, x3, x4, s⟩ := y
            obtain ⟨t57, r58, r59, e60, hJ61⟩ := hy
            dsimp only at t57 r58 r59 e60 hJ61
            show gT (sb_203_56 x0 x1 x3 x4 s) _
            unfold sb_203_56
            refine gT_ite (fun h62 => ?_) (fun h63 => ?_)
            · have := J_m (k := 6) hJ61 hJ61 t57 rfl
              refine gT_v1 (A := fun w9 u9 => True ∧ J p u9) (d_160 hp hJ61 t57 (show (0 : Int) ≤ x4 ∧ x4 ≤ 5 by constructor <;> omega) (show (0 : Int) ≤ 1 ∧ 1 ≤ 1 by constructor <;> omega)) (fun v8 s7 h64 => ?_)
              obtain ⟨h64r, hJ65⟩ := h64
              refine gT_v1 (A := fun w9 u9 => (0 ≤ w9 ∧ w9 ≤ 1) ∧ J p u9) (d_153 hp hJ65) (fun v10 s9 h66 => ?_)
              obtain ⟨h66r, hJ67⟩ := h66
              extract_lets -merge v12
              refine gT_ite (fun h68 => ?_) (fun h69 => ?_)
              · exact gT_ret ⟨⟨t57, (show (0 : Int) ≤ x1 ∧ x1 ≤ 7 by constructor <;> omega), (show (0 : Int) ≤ (g32 (x4 + 1)) ∧ (g32 (x4 + 1)) ≤ 6 by have := g32_eq (v := (x4 + 1)) (by omega) (by omega); constructor <;> omega), (by first | assumption | omega | (dsimp only; omega)), hJ67⟩, by dsimp only; have := g32_eq (v := (x4 + 1)) (by omega) (by omega); omega⟩
              · have := gshl_5 (x := x4) (by constructor <;> omega)
                have hv70 : v12 = (gor x3 (gshl 1 x4)) := rfl
                exact gT_ret ⟨⟨t57, (show (0 : Int) ≤ x1 ∧ x1 ≤ 7 by constructor <;> omega), (show (0 : Int) ≤ (g32 (x4 + 1)) ∧ (g32 (x4 + 1)) ≤ 6 by have := g32_eq (v := (x4 + 1)) (by omega) (by omega); constructor <;> omega), (by first | assumption | omega | (dsimp only; omega)), hJ67⟩, by dsimp only; have := g32_eq (v := (x4 + 1)) (by omega) (by omega); omega⟩
            · have := J_m (k := 6) hJ61 hJ61 t57 rfl
              refine gT_map ?_
              exact gT_ret ⟨rfl, trivial, hJ61⟩
          · exact ⟨t0, (show (0 : Int) ≤ a1 ∧ a1 ≤ 7 by constructor <;> omega), (show (0 : Int) ≤ 0 ∧ 0 ≤ 6 by constructor <;> omega), rfl, hJ50⟩
-- X12_test
theorem d_207 {p : gP} {a0 : Nat} {a1 : Int} {a2 : Int} {s : gS} (hp : -1 ≤ p.1 ∧ p.1 ≤ 0) (h : J p s) (t0 : T 12 a0) (r2 : 0 ≤ a2 ∧ a2 ≤ 1) : gT (f_207 a0 a1 a2 s) (fun r => r.1 = 1 ∧ True ∧ J p r.2.2.2) := by
  unfold f_207
  refine gT_v1 (A := fun w9 u9 => (w9 = 1 → 0 ≤ a1 ∧ a1 ≤ 5) ∧ (0 ≤ w9 ∧ w9 ≤ 1) ∧ J p u9) (d_163 hp h t0) (fun v2 s1 h1 => ?_)
  obtain ⟨h1e, h1r, hJ2⟩ := h1
  refine gT_ite (fun h3 => ?_) (fun h4 => ?_)
  · unfold fb_207_14
    extract_lets -merge s4
    have hJ5 : J p s4 := (J_wf hJ2 t0 rfl (by decide) (by decide) (fun q hq => by cases hq))
    refine gT_ite (fun h6 => ?_) (fun h7 => ?_)
    · have := rd_same (show s4 = (gw s1 a0 0 1) from rfl)
      exact gT_ret ⟨rfl, trivial, hJ5⟩
    · have := rd_same (show s4 = (gw s1 a0 0 1) from rfl)
      refine gT_ite (fun h8 => ?_) (fun h9 => ?_)
      · refine gT_v1 (A := fun w9 u9 => True ∧ J p u9) (d_158 hp hJ5 t0 (show (0 : Int) ≤ a1 ∧ a1 ≤ 255 by constructor <;> omega)) (fun v6 s5 h10 => ?_)
        obtain ⟨h10r, hJ11⟩ := h10
        exact gT_ret ⟨rfl, trivial, hJ11⟩
      · refine gT_v1 (A := fun w9 u9 => True ∧ J p u9) (d_159 hp hJ5 t0 (show (0 : Int) ≤ a1 ∧ a1 ≤ 255 by constructor <;> omega)) (fun v8 s7 h12 => ?_)
        obtain ⟨h12r, hJ13⟩ := h12
        exact gT_ret ⟨rfl, trivial, hJ13⟩
  · unfold fb_207_14
    extract_lets -merge s4
    have hJ14 : J p s4 := (J_wf hJ2 t0 rfl (by decide) (by decide) (fun q hq => by cases hq))
    refine gT_ite (fun h15 => ?_) (fun h16 => ?_)
    · have := rd_same (show s4 = (gw s1 a0 0 0) from rfl)
      exact gT_ret ⟨rfl, trivial, hJ14⟩
    · have := rd_same (show s4 = (gw s1 a0 0 0) from rfl)
      refine gT_ite (fun h17 => ?_) (fun h18 => ?_)
      · refine gT_v1 (A := fun w9 u9 => True ∧ J p u9) (d_158 hp hJ14 t0 (show (0 : Int) ≤ a1 ∧ a1 ≤ 255 by constructor <;> omega)) (fun v6 s5 h19 => ?_)
        obtain ⟨h19r, hJ20⟩ := h19
        exact gT_ret ⟨rfl, trivial, hJ20⟩
      · refine gT_v1 (A := fun w9 u9 => True ∧ J p u9) (d_159 hp hJ14 t0 (show (0 : Int) ≤ a1 ∧ a1 ≤ 255 by constructor <;> omega)) (fun v8 s7 h21 => ?_)
        obtain ⟨h21r, hJ22⟩ := h21
        exact gT_ret ⟨rfl, trivial, hJ22⟩
-- X12_rival
theorem d_208 {p : gP} {a0 : Nat} {a1 : Int} {a2 : Int} {s : gS} (hp : -1 ≤ p.1 ∧ p.1 ≤ 0) (h : J p s) (t0 : T 12 a0) (r2 : 0 ≤ a2 ∧ a2 ≤ 1) : gT (f_208 a0 a1 a2 s) (fun r => r.1 = 1 ∧ True ∧ J p r.2.2.2) := by
  unfold f_208
  refine gT_v1 (A := fun w9 u9 => (w9 = 1 → 0 ≤ a1 ∧ a1 ≤ 5) ∧ (0 ≤ w9 ∧ w9 ≤ 1) ∧ J p u9) (d_164 hp h t0) (fun v2 s1 h1 => ?_)
  obtain ⟨h1e, h1r, hJ2⟩ := h1
  refine gT_ite (fun h3 => ?_) (fun h4 => ?_)
  · unfold fb_208_14
    extract_lets -merge s4
    have hJ5 : J p s4 := (J_wf hJ2 t0 rfl (by decide) (by decide) (fun q hq => by cases hq))
    refine gT_ite (fun h6 => ?_) (fun h7 => ?_)
    · have := rd_same (show s4 = (gw s1 a0 0 1) from rfl)
      exact gT_ret ⟨rfl, trivial, hJ5⟩
    · have := rd_same (show s4 = (gw s1 a0 0 1) from rfl)
      refine gT_ite (fun h8 => ?_) (fun h9 => ?_)
      · unfold fb_208_39
        refine gT_v1 (A := fun w9 u9 => True ∧ J p u9) (d_160 hp hJ5 t0 (show (0 : Int) ≤ a1 ∧ a1 ≤ 5 by constructor <;> omega) (show (0 : Int) ≤ 0 ∧ 0 ≤ 1 by constructor <;> omega)) (fun v6 s5 h10 => ?_)
        obtain ⟨h10r, hJ11⟩ := h10
        exact gT_ret ⟨rfl, trivial, hJ11⟩
      · unfold fb_208_39
        refine gT_v1 (A := fun w9 u9 => True ∧ J p u9) (d_160 hp hJ5 t0 (show (0 : Int) ≤ a1 ∧ a1 ≤ 5 by constructor <;> omega) (show (0 : Int) ≤ 1 ∧ 1 ≤ 1 by constructor <;> omega)) (fun v6 s5 h12 => ?_)
        obtain ⟨h12r, hJ13⟩ := h12
        exact gT_ret ⟨rfl, trivial, hJ13⟩
  · unfold fb_208_14
    extract_lets -merge s4
    have hJ14 : J p s4 := (J_wf hJ2 t0 rfl (by decide) (by decide) (fun q hq => by cases hq))
    refine gT_ite (fun h15 => ?_) (fun h16 => ?_)
    · have := rd_same (show s4 = (gw s1 a0 0 0) from rfl)
      exact gT_ret ⟨rfl, trivial, hJ14⟩
    · have := rd_same (show s4 = (gw s1 a0 0 0) from rfl)
      refine gT_ite (fun h17 => ?_) (fun h18 => ?_)
      · unfold fb_208_39
        refine gT_v1 (A := fun w9 u9 => True ∧ J p u9) (d_160 hp hJ14 t0 (show (0 : Int) ≤ a1 ∧ a1 ≤ 5 by constructor <;> omega) (show (0 : Int) ≤ 0 ∧ 0 ≤ 1 by constructor <;> omega)) (fun v6 s5 h19 => ?_)
        obtain ⟨h19r, hJ20⟩ := h19
        exact gT_ret ⟨rfl, trivial, hJ20⟩
      · unfold fb_208_39
        refine gT_v1 (A := fun w9 u9 => True ∧ J p u9) (d_160 hp hJ14 t0 (show (0 : Int) ≤ a1 ∧ a1 ≤ 5 by constructor <;> omega) (show (0 : Int) ≤ 1 ∧ 1 ≤ 1 by constructor <;> omega)) (fun v6 s5 h21 => ?_)
        obtain ⟨h21r, hJ22⟩ := h21
        exact gT_ret ⟨rfl, trivial, hJ22⟩
-- X12_catches
theorem d_212 {p : gP} {a0 : Nat} {a1 : Int} {a2 : Int} {s : gS} (hp : -1 ≤ p.1 ∧ p.1 ≤ 0) (h : J p s) (t0 : T 12 a0) (r1 : 0 ≤ a1 ∧ a1 ≤ 255) : gT (f_212 a0 a1 a2 s) (fun r => r.1 = 1 ∧ (0 ≤ r.2.1 ∧ r.2.1 ≤ 1) ∧ J p r.2.2.2) := by
  unfold f_212
  refine gT_v1 (A := fun w9 u9 => True ∧ J p u9) (d_159 hp h t0 (show (0 : Int) ≤ a1 ∧ a1 ≤ 255 by constructor <;> omega)) (fun v2 s1 h1 => ?_)
  obtain ⟨h1r, hJ2⟩ := h1
  refine gT_ite (fun h3 => ?_) (fun h4 => ?_)
  · exact gT_ret ⟨rfl, (by dsimp only; constructor <;> omega), hJ2⟩
  · exact gT_ret ⟨rfl, (by dsimp only; constructor <;> omega), hJ2⟩
-- X12_stopped
theorem d_231 {p : gP} {a0 : Nat} {a1 : Int} {s : gS} (hp : -1 ≤ p.1 ∧ p.1 ≤ 0) (h : J p s) (t0 : T 12 a0) : gT (f_231 a0 a1 s) (fun r => r.1 = 1 ∧ True ∧ J p r.2.2.2) := by
  unfold f_231
  refine gT_loop (fun y => T 12 y.1 ∧ (0 ≤ y.2.2.2.1 ∧ y.2.2.2.1 ≤ 6) ∧ y.2.1 = a1 ∧ J p y.2.2.2.2) (fun y => (6 - y.2.2.2.1).toNat) (fun y hy => ?_) ?_
  · obtain ⟨x0, x1, x2, x3, s⟩ := y
    obtain ⟨t1, r2, e3, hJ4⟩ := hy
    dsimp only at t1 r2 e3 hJ4
    show gT (sb_231_4 x0 x1 x2 x3 s) _
    unfold sb_231_4
    refine gT_ite (fun h5 => ?_) (fun h6 => ?_)
    · have := J_m (k := 5) hJ4 hJ4 t1 rfl
      refine gT_v1 (A := fun w9 u9 => (0 ≤ w9 ∧ w9 ≤ 1) ∧ J p u9) (d_153 hp hJ4) (fun v2 s1 h7 => ?_)
      obtain ⟨h7r, hJ8⟩ := h7
      refine gT_ite (fun h9 => ?_) (fun h10 => ?_)
      · exact gT_ret ⟨⟨t1, (show (0 : Int) ≤ (g32 (x3 + 1)) ∧ (g32 (x3 + 1)) ≤ 6 by have := g32_eq (v := (x3 + 1)) (by omega) (by omega); constructor <;> omega), (by first | assumption | omega | (dsimp only; omega)), hJ8⟩, by dsimp only; have := g32_eq (v := (x3 + 1)) (by omega) (by omega); omega⟩
      · refine gT_v1 (A := fun w9 u9 => True ∧ J p u9) (d_159 hp hJ8 t1 (show (0 : Int) ≤ x3 ∧ x3 ≤ 255 by constructor <;> omega)) (fun v5 s4 h11 => ?_)
        obtain ⟨h11r, hJ12⟩ := h11
        exact gT_ret ⟨⟨t1, (show (0 : Int) ≤ (g32 (x3 + 1)) ∧ (g32 (x3 + 1)) ≤ 6 by have := g32_eq (v := (x3 + 1)) (by omega) (by omega); constructor <;> omega), (by first | assumption | omega | (dsimp only; omega)), hJ12⟩, by dsimp only; have := g32_eq (v := (x3 + 1)) (by omega) (by omega); omega⟩
    · have := J_m (k := 5) hJ4 hJ4 t1 rfl
      refine gT_map ?_
      exact gT_ret ⟨rfl, trivial, hJ4⟩
  · exact ⟨t0, (show (0 : Int) ≤ 0 ∧ 0 ≤ 6 by constructor <;> omega), rfl, h⟩
-- X12_costs
theorem d_232 {p : gP} {a0 : Nat} {a1 : Int} {s : gS} (hp : -1 ≤ p.1 ∧ p.1 ≤ 0) (h : J p s) (t0 : T 12 a0) : gT (f_232 a0 a1 s) (fun r => r.1 = 1 ∧ True ∧ J p r.2.2.2) := by
  unfold f_232
  refine gT_loop (fun y => T 12 y.1 ∧ (0 ≤ y.2.2.2.1 ∧ y.2.2.2.1 ≤ 6) ∧ y.2.1 = a1 ∧ J p y.2.2.2.2) (fun y => (6 - y.2.2.2.1).toNat) (fun y hy => ?_) ?_
  · obtain ⟨x0, x1, x2, x3, s⟩ := y
    obtain ⟨t1, r2, e3, hJ4⟩ := hy
    dsimp only at t1 r2 e3 hJ4
    show gT (sb_232_4 x0 x1 x2 x3 s) _
    unfold sb_232_4
    refine gT_ite (fun h5 => ?_) (fun h6 => ?_)
    · have := J_m (k := 5) hJ4 hJ4 t1 rfl
      refine gT_v1 (A := fun w9 u9 => (0 ≤ w9 ∧ w9 ≤ 1) ∧ J p u9) (d_153 hp hJ4) (fun v2 s1 h7 => ?_)
      obtain ⟨h7r, hJ8⟩ := h7
      refine gT_ite (fun h9 => ?_) (fun h10 => ?_)
      · exact gT_ret ⟨⟨t1, (show (0 : Int) ≤ (g32 (x3 + 1)) ∧ (g32 (x3 + 1)) ≤ 6 by have := g32_eq (v := (x3 + 1)) (by omega) (by omega); constructor <;> omega), (by first | assumption | omega | (dsimp only; omega)), hJ8⟩, by dsimp only; have := g32_eq (v := (x3 + 1)) (by omega) (by omega); omega⟩
      · refine gT_v1 (A := fun w9 u9 => True ∧ J p u9) (d_158 hp hJ8 t1 (show (0 : Int) ≤ x3 ∧ x3 ≤ 255 by constructor <;> omega)) (fun v5 s4 h11 => ?_)
        obtain ⟨h11r, hJ12⟩ := h11
        exact gT_ret ⟨⟨t1, (show (0 : Int) ≤ (g32 (x3 + 1)) ∧ (g32 (x3 + 1)) ≤ 6 by have := g32_eq (v := (x3 + 1)) (by omega) (by omega); constructor <;> omega), (by first | assumption | omega | (dsimp only; omega)), hJ12⟩, by dsimp only; have := g32_eq (v := (x3 + 1)) (by omega) (by omega); omega⟩
    · have := J_m (k := 5) hJ4 hJ4 t1 rfl
      refine gT_map ?_
      exact gT_ret ⟨rfl, trivial, hJ4⟩
  · exact ⟨t0, (show (0 : Int) ≤ 0 ∧ 0 ≤ 6 by constructor <;> omega), rfl, h⟩
-- X12_stopped_
theorem d_233 {p : gP} {a0 : Nat} {a1 : Int} {a2 : Int} {s : gS} (hp : -1 ≤ p.1 ∧ p.1 ≤ 0) (h : J p s) (t0 : T 12 a0) : gT (f_233 a0 a1 a2 s) (fun r => r.1 = 1 ∧ (0 ≤ r.2.1 ∧ r.2.1 ≤ 1) ∧ J p r.2.2.2) := by
  unfold f_233
  refine gT_v1 (A := fun w9 u9 => (w9 = 1 → 0 ≤ a1 ∧ a1 ≤ 5) ∧ (0 ≤ w9 ∧ w9 ≤ 1) ∧ J p u9) (d_162 hp h t0) (fun v2 s1 h1 => ?_)
  obtain ⟨h1e, h1r, hJ2⟩ := h1
  refine gT_ite (fun h3 => ?_) (fun h4 => ?_)
  · unfold fb_233_14
    extract_lets -merge s4
    have hJ5 : J p s4 := (J_wf hJ2 t0 rfl (by decide) (by decide) (fun q hq => by cases hq))
    refine gT_ite (fun h6 => ?_) (fun h7 => ?_)
    · have := rd_same (show s4 = (gw s1 a0 0 1) from rfl)
      refine gT_v1 (A := fun w9 u9 => True ∧ J p u9) (d_156 hp hJ5 t0 (show (0 : Int) ≤ a1 ∧ a1 ≤ 5 by constructor <;> omega) (show (0 : Int) ≤ 2 ∧ 2 ≤ 5 by constructor <;> omega)) (fun v6 s5 h8 => ?_)
      obtain ⟨h8r, hJ9⟩ := h8
      refine gT_v1 (A := fun w9 u9 => True ∧ J p u9) (d_231 hp hJ9 t0) (fun v8 s7 h10 => ?_)
      obtain ⟨h10r, hJ11⟩ := h10
      refine gT_ite (fun h12 => ?_) (fun h13 => ?_)
      · exact gT_ret ⟨rfl, (by dsimp only; constructor <;> omega), hJ11⟩
      · unfold fb_233_45
        exact gT_ret ⟨rfl, (by dsimp only; constructor <;> omega), hJ11⟩
    · have := rd_same (show s4 = (gw s1 a0 0 1) from rfl)
      unfold fb_233_45
      exact gT_ret ⟨rfl, (by dsimp only; constructor <;> omega), hJ5⟩
  · unfold fb_233_14
    extract_lets -merge s4
    have hJ14 : J p s4 := (J_wf hJ2 t0 rfl (by decide) (by decide) (fun q hq => by cases hq))
    refine gT_ite (fun h15 => ?_) (fun h16 => ?_)
    · have := rd_same (show s4 = (gw s1 a0 0 0) from rfl)
      refine gT_v1 (A := fun w9 u9 => True ∧ J p u9) (d_156 hp hJ14 t0 (show (0 : Int) ≤ a1 ∧ a1 ≤ 5 by constructor <;> omega) (show (0 : Int) ≤ 2 ∧ 2 ≤ 5 by constructor <;> omega)) (fun v6 s5 h17 => ?_)
      obtain ⟨h17r, hJ18⟩ := h17
      refine gT_v1 (A := fun w9 u9 => True ∧ J p u9) (d_231 hp hJ18 t0) (fun v8 s7 h19 => ?_)
      obtain ⟨h19r, hJ20⟩ := h19
      refine gT_ite (fun h21 => ?_) (fun h22 => ?_)
      · exact gT_ret ⟨rfl, (by dsimp only; constructor <;> omega), hJ20⟩
      · unfold fb_233_45
        exact gT_ret ⟨rfl, (by dsimp only; constructor <;> omega), hJ20⟩
    · have := rd_same (show s4 = (gw s1 a0 0 0) from rfl)
      unfold fb_233_45
      exact gT_ret ⟨rfl, (by dsimp only; constructor <;> omega), hJ14⟩
-- X12_bestSet
theorem d_234 {p : gP} {a0 : Nat} {a1 : Int} {a2 : Int} {s : gS} (hp : -1 ≤ p.1 ∧ p.1 ≤ 0) (h : J p s) (t0 : T 12 a0) (r1 : 0 ≤ a1 ∧ a1 ≤ 5) (r2 : 0 ≤ a2 ∧ a2 ≤ 1) : gT (f_234 a0 a1 a2 s) (fun r => r.1 = 1 ∧ True ∧ J p r.2.2.2) := by
  unfold f_234
  refine gT_loop (fun y => T 12 y.1 ∧ (0 ≤ y.2.1 ∧ y.2.1 ≤ 5) ∧ (0 ≤ y.2.2.1 ∧ y.2.2.1 ≤ 1) ∧ (0 ≤ y.2.2.2.2.1 ∧ y.2.2.2.2.1 ≤ 64) ∧ y.2.1 = a1 ∧ y.2.2.1 = a2 ∧ J p y.2.2.2.2.2) (fun y => (64 - y.2.2.2.2.1).toNat) (fun y hy => ?_) ?_
  · obtain ⟨x0, x1, x2, x3, x4, s⟩ := y
    obtain ⟨t1, r2, r3, r4, e5, e6, hJ7⟩ := hy
    dsimp only at t1 r2 r3 r4 e5 e6 hJ7
    show gT (sb_234_5 x0 x1 x2 x3 x4 s) _
    unfold sb_234_5
    refine gT_ite (fun h8 => ?_) (fun h9 => ?_)
    · have := J_m (k := 5) hJ7 hJ7 t1 rfl
      have := gshl_6 (x := (gI s (gR s x0 1) 5)) (by constructor <;> omega)
      refine gT_v1 (A := fun w9 u9 => True ∧ J p u9) (d_156 hp hJ7 t1 (show (0 : Int) ≤ x1 ∧ x1 ≤ 5 by constructor <;> omega) (show (0 : Int) ≤ 2 ∧ 2 ≤ 5 by constructor <;> omega)) (fun v2 s1 h10 => ?_)
      obtain ⟨h10r, hJ11⟩ := h10
      refine gT_v1 (A := fun w9 u9 => True ∧ J p u9) (d_231 hp hJ11 t1) (fun v4 s3 h12 => ?_)
      obtain ⟨h12r, hJ13⟩ := h12
      refine gT_ite (fun h14 => ?_) (fun h15 => ?_)
      · refine gT_ite (fun h16 => ?_) (fun h17 => ?_)
        · unfold fb_234_77
          exact gT_ret ⟨⟨t1, (show (0 : Int) ≤ x1 ∧ x1 ≤ 5 by constructor <;> omega), (show (0 : Int) ≤ x2 ∧ x2 ≤ 1 by constructor <;> omega), (show (0 : Int) ≤ (g32 (x4 + 1)) ∧ (g32 (x4 + 1)) ≤ 64 by have := g32_eq (v := (x4 + 1)) (by omega) (by omega); constructor <;> omega), (by first | assumption | omega | (dsimp only; omega)), (by first | assumption | omega | (dsimp only; omega)), hJ13⟩, by dsimp only; have := g32_eq (v := (x4 + 1)) (by omega) (by omega); omega⟩
        · refine gT_ite (fun h18 => ?_) (fun h19 => ?_)
          · refine gT_v1 (A := fun w9 u9 => True ∧ J p u9) (d_232 hp hJ13 t1) (fun v6 s5 h20 => ?_)
            obtain ⟨h20r, hJ21⟩ := h20
            refine gT_v1 (A := fun w9 u9 => True ∧ J p u9) (d_232 hp hJ21 t1) (fun v8 s7 h22 => ?_)
            obtain ⟨h22r, hJ23⟩ := h22
            refine gT_ite (fun h24 => ?_) (fun h25 => ?_)
            · unfold fb_234_77
              exact gT_ret ⟨⟨t1, (show (0 : Int) ≤ x1 ∧ x1 ≤ 5 by constructor <;> omega), (show (0 : Int) ≤ x2 ∧ x2 ≤ 1 by constructor <;> omega), (show (0 : Int) ≤ (g32 (x4 + 1)) ∧ (g32 (x4 + 1)) ≤ 64 by have := g32_eq (v := (x4 + 1)) (by omega) (by omega); constructor <;> omega), (by first | assumption | omega | (dsimp only; omega)), (by first | assumption | omega | (dsimp only; omega)), hJ23⟩, by dsimp only; have := g32_eq (v := (x4 + 1)) (by omega) (by omega); omega⟩
            · exact gT_ret ⟨⟨t1, (show (0 : Int) ≤ x1 ∧ x1 ≤ 5 by constructor <;> omega), (show (0 : Int) ≤ x2 ∧ x2 ≤ 1 by constructor <;> omega), (show (0 : Int) ≤ (g32 (x4 + 1)) ∧ (g32 (x4 + 1)) ≤ 64 by have := g32_eq (v := (x4 + 1)) (by omega) (by omega); constructor <;> omega), (by first | assumption | omega | (dsimp only; omega)), (by first | assumption | omega | (dsimp only; omega)), hJ23⟩, by dsimp only; have := g32_eq (v := (x4 + 1)) (by omega) (by omega); omega⟩
          · refine gT_v1 (A := fun w9 u9 => True ∧ J p u9) (d_154 hp hJ13) (fun v10 s9 h26 => ?_)
            obtain ⟨h26r, hJ27⟩ := h26
            refine gT_v1 (A := fun w9 u9 => True ∧ J p u9) (d_154 hp hJ27) (fun v12 s11 h28 => ?_)
            obtain ⟨h28r, hJ29⟩ := h28
            refine gT_ite (fun h30 => ?_) (fun h31 => ?_)
            · unfold fb_234_77
              exact gT_ret ⟨⟨t1, (show (0 : Int) ≤ x1 ∧ x1 ≤ 5 by constructor <;> omega), (show (0 : Int) ≤ x2 ∧ x2 ≤ 1 by constructor <;> omega), (show (0 : Int) ≤ (g32 (x4 + 1)) ∧ (g32 (x4 + 1)) ≤ 64 by have := g32_eq (v := (x4 + 1)) (by omega) (by omega); constructor <;> omega), (by first | assumption | omega | (dsimp only; omega)), (by first | assumption | omega | (dsimp only; omega)), hJ29⟩, by dsimp only; have := g32_eq (v := (x4 + 1)) (by omega) (by omega); omega⟩
            · exact gT_ret ⟨⟨t1, (show (0 : Int) ≤ x1 ∧ x1 ≤ 5 by constructor <;> omega), (show (0 : Int) ≤ x2 ∧ x2 ≤ 1 by constructor <;> omega), (show (0 : Int) ≤ (g32 (x4 + 1)) ∧ (g32 (x4 + 1)) ≤ 64 by have := g32_eq (v := (x4 + 1)) (by omega) (by omega); constructor <;> omega), (by first | assumption | omega | (dsimp only; omega)), (by first | assumption | omega | (dsimp only; omega)), hJ29⟩, by dsimp only; have := g32_eq (v := (x4 + 1)) (by omega) (by omega); omega⟩
      · exact gT_ret ⟨⟨t1, (show (0 : Int) ≤ x1 ∧ x1 ≤ 5 by constructor <;> omega), (show (0 : Int) ≤ x2 ∧ x2 ≤ 1 by constructor <;> omega), (show (0 : Int) ≤ (g32 (x4 + 1)) ∧ (g32 (x4 + 1)) ≤ 64 by have := g32_eq (v := (x4 + 1)) (by omega) (by omega); constructor <;> omega), (by first | assumption | omega | (dsimp only; omega)), (by first | assumption | omega | (dsimp only; omega)), hJ13⟩, by dsimp only; have := g32_eq (v := (x4 + 1)) (by omega) (by omega); omega⟩
    · have := J_m (k := 5) hJ7 hJ7 t1 rfl
      have := gshl_6 (x := (gI s (gR s x0 1) 5)) (by constructor <;> omega)
      refine gT_map ?_
      exact gT_ret ⟨rfl, trivial, hJ7⟩
  · exact ⟨t0, (show (0 : Int) ≤ a1 ∧ a1 ≤ 5 by constructor <;> omega), (show (0 : Int) ≤ a2 ∧ a2 ≤ 1 by constructor <;> omega), (show (0 : Int) ≤ 0 ∧ 0 ≤ 64 by constructor <;> omega), rfl, rfl, h⟩
-- X12_fewest
theorem d_235 {p : gP} {a0 : Nat} {a1 : Int} {s : gS} (hp : -1 ≤ p.1 ∧ p.1 ≤ 0) (h : J p s) (t0 : T 12 a0) : gT (f_235 a0 a1 s) (fun r => r.1 = 1 ∧ True ∧ J p r.2.2.2) := by
  unfold f_235
  refine gT_v1 (A := fun w9 u9 => (w9 = 1 → 0 ≤ a1 ∧ a1 ≤ 5) ∧ (0 ≤ w9 ∧ w9 ≤ 1) ∧ J p u9) (d_162 hp h t0) (fun v2 s1 h1 => ?_)
  obtain ⟨h1e, h1r, hJ2⟩ := h1
  refine gT_ite (fun h3 => ?_) (fun h4 => ?_)
  · unfold fb_235_14
    extract_lets -merge s4
    have hJ5 : J p s4 := (J_wf hJ2 t0 rfl (by decide) (by decide) (fun q hq => by cases hq))
    refine gT_ite (fun h6 => ?_) (fun h7 => ?_)
    · have := rd_same (show s4 = (gw s1 a0 0 1) from rfl)
      exact gT_ret ⟨rfl, trivial, hJ5⟩
    · have := rd_same (show s4 = (gw s1 a0 0 1) from rfl)
      refine gT_v1 (A := fun w9 u9 => True ∧ J p u9) (d_234 hp hJ5 t0 (show (0 : Int) ≤ a1 ∧ a1 ≤ 5 by constructor <;> omega) (show (0 : Int) ≤ 1 ∧ 1 ≤ 1 by constructor <;> omega)) (fun v6 s5 h8 => ?_)
      obtain ⟨h8r, hJ9⟩ := h8
      exact gT_ret ⟨rfl, trivial, hJ9⟩
  · unfold fb_235_14
    extract_lets -merge s4
    have hJ10 : J p s4 := (J_wf hJ2 t0 rfl (by decide) (by decide) (fun q hq => by cases hq))
    refine gT_ite (fun h11 => ?_) (fun h12 => ?_)
    · have := rd_same (show s4 = (gw s1 a0 0 0) from rfl)
      exact gT_ret ⟨rfl, trivial, hJ10⟩
    · have := rd_same (show s4 = (gw s1 a0 0 0) from rfl)
      refine gT_v1 (A := fun w9 u9 => True ∧ J p u9) (d_234 hp hJ10 t0 (show (0 : Int) ≤ a1 ∧ a1 ≤ 5 by constructor <;> omega) (show (0 : Int) ≤ 1 ∧ 1 ≤ 1 by constructor <;> omega)) (fun v6 s5 h13 => ?_)
      obtain ⟨h13r, hJ14⟩ := h13
      exact gT_ret ⟨rfl, trivial, hJ14⟩
-- X12_cheapest
theorem d_236 {p : gP} {a0 : Nat} {a1 : Int} {a2 : Int} {s : gS} (hp : -1 ≤ p.1 ∧ p.1 ≤ 0) (h : J p s) (t0 : T 12 a0) (r2 : 0 ≤ a2 ∧ a2 ≤ 1) : gT (f_236 a0 a1 a2 s) (fun r => r.1 = 1 ∧ True ∧ J p r.2.2.2) := by
  unfold f_236
  refine gT_v1 (A := fun w9 u9 => (w9 = 1 → 0 ≤ a1 ∧ a1 ≤ 5) ∧ (0 ≤ w9 ∧ w9 ≤ 1) ∧ J p u9) (d_162 hp h t0) (fun v2 s1 h1 => ?_)
  obtain ⟨h1e, h1r, hJ2⟩ := h1
  refine gT_ite (fun h3 => ?_) (fun h4 => ?_)
  · unfold fb_236_14
    extract_lets -merge s4
    have hJ5 : J p s4 := (J_wf hJ2 t0 rfl (by decide) (by decide) (fun q hq => by cases hq))
    refine gT_ite (fun h6 => ?_) (fun h7 => ?_)
    · have := rd_same (show s4 = (gw s1 a0 0 1) from rfl)
      exact gT_ret ⟨rfl, trivial, hJ5⟩
    · have := rd_same (show s4 = (gw s1 a0 0 1) from rfl)
      refine gT_v1 (A := fun w9 u9 => True ∧ J p u9) (d_234 hp hJ5 t0 (show (0 : Int) ≤ a1 ∧ a1 ≤ 5 by constructor <;> omega) (show (0 : Int) ≤ 0 ∧ 0 ≤ 1 by constructor <;> omega)) (fun v6 s5 h8 => ?_)
      obtain ⟨h8r, hJ9⟩ := h8
      refine gT_ite (fun h10 => ?_) (fun h11 => ?_)
      · unfold fb_236_50
        exact gT_ret ⟨rfl, trivial, hJ9⟩
      · refine gT_ite (fun h12 => ?_) (fun h13 => ?_)
        · unfold fb_236_50
          exact gT_ret ⟨rfl, trivial, hJ9⟩
        · refine gT_v1 (A := fun w9 u9 => True ∧ J p u9) (d_232 hp hJ9 t0) (fun v8 s7 h14 => ?_)
          obtain ⟨h14r, hJ15⟩ := h14
          exact gT_ret ⟨rfl, trivial, hJ15⟩
  · unfold fb_236_14
    extract_lets -merge s4
    have hJ16 : J p s4 := (J_wf hJ2 t0 rfl (by decide) (by decide) (fun q hq => by cases hq))
    refine gT_ite (fun h17 => ?_) (fun h18 => ?_)
    · have := rd_same (show s4 = (gw s1 a0 0 0) from rfl)
      exact gT_ret ⟨rfl, trivial, hJ16⟩
    · have := rd_same (show s4 = (gw s1 a0 0 0) from rfl)
      refine gT_v1 (A := fun w9 u9 => True ∧ J p u9) (d_234 hp hJ16 t0 (show (0 : Int) ≤ a1 ∧ a1 ≤ 5 by constructor <;> omega) (show (0 : Int) ≤ 0 ∧ 0 ≤ 1 by constructor <;> omega)) (fun v6 s5 h19 => ?_)
      obtain ⟨h19r, hJ20⟩ := h19
      refine gT_ite (fun h21 => ?_) (fun h22 => ?_)
      · unfold fb_236_50
        exact gT_ret ⟨rfl, trivial, hJ20⟩
      · refine gT_ite (fun h23 => ?_) (fun h24 => ?_)
        · unfold fb_236_50
          exact gT_ret ⟨rfl, trivial, hJ20⟩
        · refine gT_v1 (A := fun w9 u9 => True ∧ J p u9) (d_232 hp hJ20 t0) (fun v8 s7 h25 => ?_)
          obtain ⟨h25r, hJ26⟩ := h25
          exact gT_ret ⟨rfl, trivial, hJ26⟩
-- X12_told
theorem d_238 {p : gP} {a0 : Nat} {s : gS} (hp : -1 ≤ p.1 ∧ p.1 ≤ 0) (h : J p s) (t0 : T 12 a0) : gT (f_238 a0 s) (fun r => r.1 = 1 ∧ True ∧ J (p.1, p.2.1, 0, p.2.2.2.1, p.2.2.2.2) r.2.2.2) := by
  unfold f_238
  extract_lets -merge s1
  have hJ1 : J (p.1, p.2.1, 0, p.2.2.2.1, p.2.2.2.2) s1 := (J_t h t0 (by constructor <;> omega))
  refine gT_ite (fun h2 => ?_) (fun h3 => ?_)
  · have := J_f (i := 8) h t0 rfl (by decide) rfl
    have := grem_eq (x := (gI s a0 8)) (c := 2) (by constructor <;> omega) (by decide)
    refine gT_ite (fun h4 => ?_) (fun h5 => ?_)
    · have := J_f (i := 8) h t0 rfl (by decide) rfl
      unfold fb_238_26
      unfold fb_238_27
      refine gT_loop (fun y => T 12 y.1 ∧ (41 ≤ y.2.1 ∧ y.2.1 ≤ 400) ∧ (0 ≤ y.2.2.1 ∧ y.2.2.1 ≤ 0) ∧ (0 ≤ y.2.2.2.1 ∧ y.2.2.2.1 ≤ 400) ∧ J (p.1, p.2.1, 0, p.2.2.2.1, p.2.2.2.2) y.2.2.2.2) (fun y => (400 - y.2.2.2.1).toNat) (fun y hy => ?_) ?_
      · obtain ⟨x0, x1, x2, x3, s⟩ := y
        obtain ⟨t6, r7, r8, r9, hJ10⟩ := hy
        dsimp only at t6 r7 r8 r9 hJ10
        show gT (sb_238_30 x0 x1 x2 x3 s) _
        unfold sb_238_30
        refine gT_ite (fun h11 => ?_) (fun h12 => ?_)
        · refine gT_ite (fun h13 => ?_) (fun h14 => ?_)
          · refine gT_map ?_
            unfold fb_238_76
            refine gT_ite (fun h15 => ?_) (fun h16 => ?_)
            · exact gT_ret ⟨rfl, trivial, hJ10⟩
            · refine gT_loop (fun y => T 12 y.1 ∧ (41 ≤ y.2.1 ∧ y.2.1 ≤ 400) ∧ (1 ≤ y.2.2.2.1 ∧ y.2.2.2.1 ≤ 64) ∧ y.2.1 = x1 ∧ J (p.1, p.2.1, 0, p.2.2.2.1, p.2.2.2.2) y.2.2.2.2) (fun y => (64 - y.2.2.2.1).toNat) (fun y hy => ?_) ?_
              · obtain ⟨x0, x1, x3, x4, s⟩ := y
                obtain ⟨t17, r18, r19, e20, hJ21⟩ := hy
                dsimp only at t17 r18 r19 e20 hJ21
                show gT (sb_238_87 x0 x1 x3 x4 s) _
                unfold sb_238_87
                extract_lets -merge s2
                refine gT_ite (fun h22 => ?_) (fun h23 => ?_)
                · refine gT_chk (by omega) (by omega) ?_
                  refine gT_bool (by omega) ?_
                  have hJ24 : J (p.1, p.2.1, 0, p.2.2.2.1, p.2.2.2.2) s2 := (J_wa hJ21 (T_f (i := 23) hJ21 t17 (by decide) rfl rfl) rfl)
                  refine gT_loop (fun y => T 12 y.1 ∧ (41 ≤ y.2.1 ∧ y.2.1 ≤ 400) ∧ (1 ≤ y.2.2.2.1 ∧ y.2.2.2.1 ≤ 63) ∧ (0 ≤ y.2.2.2.2.1 ∧ y.2.2.2.2.1 ≤ 42) ∧ y.2.1 = x1 ∧ y.2.2.1 = x3 ∧ y.2.2.2.1 = x4 ∧ J (p.1, p.2.1, 0, p.2.2.2.1, p.2.2.2.2) y.2.2.2.2.2) (fun y => (42 - y.2.2.2.2.1).toNat) (fun y hy => ?_) ?_
                  · obtain ⟨x0, x1, x3, x4, x5, s⟩ := y
                    obtain ⟨t25, r26, r27, r28, e29, e30, e31, hJ32⟩ := hy
                    dsimp only at t25 r26 r27 r28 e29 e30 e31 hJ32
                    show gT (sb_238_105 x0 x1 x3 x4 x5 s) _
                    unfold sb_238_105
                    refine gT_ite (fun h33 => ?_) (fun h34 => ?_)
                    · refine gT_chk (by omega) (by omega) ?_
                      refine gT_ite (fun h35 => ?_) (fun h36 => ?_)
                      · refine gT_map ?_
                        unfold fb_238_173
                        refine gT_chk (by omega) (by omega) ?_
                        refine gT_ite (fun h37 => ?_) (fun h38 => ?_)
                        · exact gT_ret ⟨⟨t25, (show (41 : Int) ≤ x1 ∧ x1 ≤ 400 by constructor <;> omega), (show (1 : Int) ≤ (g32 (x4 + 1)) ∧ (g32 (x4 + 1)) ≤ 64 by have := g32_eq (v := (x4 + 1)) (by omega) (by omega); constructor <;> omega), (by first | assumption | omega | (dsimp only; omega)), hJ32⟩, by dsimp only; have := g32_eq (v := (x4 + 1)) (by omega) (by omega); omega⟩
                        · exact gT_ret ⟨⟨t25, (show (41 : Int) ≤ x1 ∧ x1 ≤ 400 by constructor <;> omega), (show (1 : Int) ≤ (g32 (x4 + 1)) ∧ (g32 (x4 + 1)) ≤ 64 by have := g32_eq (v := (x4 + 1)) (by omega) (by omega); constructor <;> omega), (by first | assumption | omega | (dsimp only; omega)), hJ32⟩, by dsimp only; have := g32_eq (v := (x4 + 1)) (by omega) (by omega); omega⟩
                      · refine gT_chk (by omega) (by omega) ?_
                        refine gT_v1 (A := fun w9 u9 => (0 ≤ w9 ∧ w9 ≤ 1) ∧ J (p.1, p.2.1, 0, p.2.2.2.1, p.2.2.2.2) u9) (d_212 hp hJ32 t25 (show (0 : Int) ≤ (gI s (gR s x0 7) (x5 : Int).toNat) ∧ (gI s (gR s x0 7) (x5 : Int).toNat) ≤ 255 by have := J_mt (k := (x5 : Int).toNat) hJ32 hJ32 t25; constructor <;> omega)) (fun v4 s3 h39 => ?_)
                        obtain ⟨h39r, hJ40⟩ := h39
                        refine gT_chk (by have := g32_eq (v := (x5 + 1)) (by omega) (by omega); omega) (by have := g32_eq (v := (x5 + 1)) (by omega) (by omega); omega) ?_
                        refine gT_ite (fun h41 => ?_) (fun h42 => ?_)
                        · have := J_mt (k := ((g32 (x5 + 1)) : Int).toNat) hJ40 hJ40 t25
                          unfold fb_238_158
                          extract_lets -merge s6 s7
                          refine gT_ite (fun h43 => ?_) (fun h44 => ?_)
                          · refine gT_chk (by omega) (by omega) ?_
                            refine gT_bool (by omega) ?_
                            have hJ45 : J (p.1, p.2.1, 0, p.2.2.2.1, p.2.2.2.2) s6 := (J_wa hJ40 (T_f (i := 23) hJ32 t25 (by decide) rfl rfl) rfl)
                            exact gT_ret ⟨⟨t25, (show (41 : Int) ≤ x1 ∧ x1 ≤ 400 by constructor <;> omega), (show (1 : Int) ≤ x4 ∧ x4 ≤ 63 by constructor <;> omega), (show (0 : Int) ≤ (g32 (x5 + 2)) ∧ (g32 (x5 + 2)) ≤ 42 by have := g32_eq (v := (x5 + 2)) (by omega) (by omega); constructor <;> omega), (by first | assumption | omega | (dsimp only; omega)), (by first | assumption | omega | (dsimp only; omega)), (by first | assumption | omega | (dsimp only; omega)), hJ45⟩, by dsimp only; have := g32_eq (v := (x5 + 2)) (by omega) (by omega); omega⟩
                          · refine gT_chk (by omega) (by omega) ?_
                            refine gT_bool (by omega) ?_
                            have hJ46 : J (p.1, p.2.1, 0, p.2.2.2.1, p.2.2.2.2) s7 := (J_wa hJ40 (T_f (i := 23) hJ32 t25 (by decide) rfl rfl) rfl)
                            exact gT_ret ⟨⟨t25, (show (41 : Int) ≤ x1 ∧ x1 ≤ 400 by constructor <;> omega), (show (1 : Int) ≤ x4 ∧ x4 ≤ 63 by constructor <;> omega), (show (0 : Int) ≤ (g32 (x5 + 2)) ∧ (g32 (x5 + 2)) ≤ 42 by have := g32_eq (v := (x5 + 2)) (by omega) (by omega); constructor <;> omega), (by first | assumption | omega | (dsimp only; omega)), (by first | assumption | omega | (dsimp only; omega)), (by first | assumption | omega | (dsimp only; omega)), hJ46⟩, by dsimp only; have := g32_eq (v := (x5 + 2)) (by omega) (by omega); omega⟩
                        · have := J_mt (k := ((g32 (x5 + 1)) : Int).toNat) hJ40 hJ40 t25
                          unfold fb_238_158
                          extract_lets -merge s6 s7
                          refine gT_ite (fun h47 => ?_) (fun h48 => ?_)
                          · refine gT_chk (by omega) (by omega) ?_
                            refine gT_bool (by omega) ?_
                            have hJ49 : J (p.1, p.2.1, 0, p.2.2.2.1, p.2.2.2.2) s6 := (J_wa hJ40 (T_f (i := 23) hJ32 t25 (by decide) rfl rfl) rfl)
                            exact gT_ret ⟨⟨t25, (show (41 : Int) ≤ x1 ∧ x1 ≤ 400 by constructor <;> omega), (show (1 : Int) ≤ x4 ∧ x4 ≤ 63 by constructor <;> omega), (show (0 : Int) ≤ (g32 (x5 + 2)) ∧ (g32 (x5 + 2)) ≤ 42 by have := g32_eq (v := (x5 + 2)) (by omega) (by omega); constructor <;> omega), (by first | assumption | omega | (dsimp only; omega)), (by first | assumption | omega | (dsimp only; omega)), (by first | assumption | omega | (dsimp only; omega)), hJ49⟩, by dsimp only; have := g32_eq (v := (x5 + 2)) (by omega) (by omega); omega⟩
                          · refine gT_chk (by omega) (by omega) ?_
                            refine gT_bool (by omega) ?_
                            have hJ50 : J (p.1, p.2.1, 0, p.2.2.2.1, p.2.2.2.2) s7 := (J_wa hJ40 (T_f (i := 23) hJ32 t25 (by decide) rfl rfl) rfl)
                            exact gT_ret ⟨⟨t25, (show (41 : Int) ≤ x1 ∧ x1 ≤ 400 by constructor <;> omega), (show (1 : Int) ≤ x4 ∧ x4 ≤ 63 by constructor <;> omega), (show (0 : Int) ≤ (g32 (x5 + 2)) ∧ (g32 (x5 + 2)) ≤ 42 by have := g32_eq (v := (x5 + 2)) (by omega) (by omega); constructor <;> omega), (by first | assumption | omega | (dsimp only; omega)), (by first | assumption | omega | (dsimp only; omega)), (by first | assumption | omega | (dsimp only; omega)), hJ50⟩, by dsimp only; have := g32_eq (v := (x5 + 2)) (by omega) (by omega); omega⟩
                    · refine gT_map ?_
                      unfold fb_238_173
                      refine gT_chk (by omega) (by omega) ?_
                      refine gT_ite (fun h51 => ?_) (fun h52 => ?_)
                      · exact gT_ret ⟨⟨t25, (show (41 : Int) ≤ x1 ∧ x1 ≤ 400 by constructor <;> omega), (show (1 : Int) ≤ (g32 (x4 + 1)) ∧ (g32 (x4 + 1)) ≤ 64 by have := g32_eq (v := (x4 + 1)) (by omega) (by omega); constructor <;> omega), (by first | assumption | omega | (dsimp only; omega)), hJ32⟩, by dsimp only; have := g32_eq (v := (x4 + 1)) (by omega) (by omega); omega⟩
                      · exact gT_ret ⟨⟨t25, (show (41 : Int) ≤ x1 ∧ x1 ≤ 400 by constructor <;> omega), (show (1 : Int) ≤ (g32 (x4 + 1)) ∧ (g32 (x4 + 1)) ≤ 64 by have := g32_eq (v := (x4 + 1)) (by omega) (by omega); constructor <;> omega), (by first | assumption | omega | (dsimp only; omega)), hJ32⟩, by dsimp only; have := g32_eq (v := (x4 + 1)) (by omega) (by omega); omega⟩
                  · exact ⟨t17, (show (41 : Int) ≤ x1 ∧ x1 ≤ 400 by constructor <;> omega), (show (1 : Int) ≤ x4 ∧ x4 ≤ 63 by constructor <;> omega), (show (0 : Int) ≤ 0 ∧ 0 ≤ 42 by constructor <;> omega), rfl, rfl, rfl, hJ24⟩
                · refine gT_map ?_
                  exact gT_ret ⟨rfl, trivial, hJ21⟩
              · exact ⟨t6, (show (41 : Int) ≤ x1 ∧ x1 ≤ 400 by constructor <;> omega), (show (1 : Int) ≤ 1 ∧ 1 ≤ 64 by constructor <;> omega), rfl, hJ10⟩
          · refine gT_chk (by omega) (by omega) ?_
            refine gT_ite (fun h53 => ?_) (fun h54 => ?_)
            · have := grem_eq (x := x3) (c := 2) (by constructor <;> omega) (by decide)
              unfold fb_238_61
              refine gT_ite (fun h55 => ?_) (fun h56 => ?_)
              · have := J_mt (k := (x3 : Int).toNat) hJ10 hJ10 t6
                have := J_m (k := 5) hJ10 hJ10 t6 rfl
                exact gT_ret ⟨⟨t6, (show (41 : Int) ≤ x1 ∧ x1 ≤ 400 by constructor <;> omega), (show (0 : Int) ≤ 1 ∧ 1 ≤ 0 by constructor <;> omega), (show (0 : Int) ≤ (g32 (x3 + 1)) ∧ (g32 (x3 + 1)) ≤ 400 by have := g32_eq (v := (x3 + 1)) (by omega) (by omega); constructor <;> omega), hJ10⟩, by dsimp only; have := g32_eq (v := (x3 + 1)) (by omega) (by omega); omega⟩
              · have := J_mt (k := (x3 : Int).toNat) hJ10 hJ10 t6
                have := J_m (k := 5) hJ10 hJ10 t6 rfl
                exact gT_ret ⟨⟨t6, (show (41 : Int) ≤ x1 ∧ x1 ≤ 400 by constructor <;> omega), (show (0 : Int) ≤ 0 ∧ 0 ≤ 0 by constructor <;> omega), (show (0 : Int) ≤ (g32 (x3 + 1)) ∧ (g32 (x3 + 1)) ≤ 400 by have := g32_eq (v := (x3 + 1)) (by omega) (by omega); constructor <;> omega), hJ10⟩, by dsimp only; have := g32_eq (v := (x3 + 1)) (by omega) (by omega); omega⟩
            · have := grem_eq (x := x3) (c := 2) (by constructor <;> omega) (by decide)
              unfold fb_238_61
              refine gT_ite (fun h57 => ?_) (fun h58 => ?_)
              · have := J_mt (k := (x3 : Int).toNat) hJ10 hJ10 t6
                exact gT_ret ⟨⟨t6, (show (41 : Int) ≤ x1 ∧ x1 ≤ 400 by constructor <;> omega), (show (0 : Int) ≤ 1 ∧ 1 ≤ 0 by constructor <;> omega), (show (0 : Int) ≤ (g32 (x3 + 1)) ∧ (g32 (x3 + 1)) ≤ 400 by have := g32_eq (v := (x3 + 1)) (by omega) (by omega); constructor <;> omega), hJ10⟩, by dsimp only; have := g32_eq (v := (x3 + 1)) (by omega) (by omega); omega⟩
              · have := J_mt (k := (x3 : Int).toNat) hJ10 hJ10 t6
                exact gT_ret ⟨⟨t6, (show (41 : Int) ≤ x1 ∧ x1 ≤ 400 by constructor <;> omega), (show (0 : Int) ≤ 0 ∧ 0 ≤ 0 by constructor <;> omega), (show (0 : Int) ≤ (g32 (x3 + 1)) ∧ (g32 (x3 + 1)) ≤ 400 by have := g32_eq (v := (x3 + 1)) (by omega) (by omega); constructor <;> omega), hJ10⟩, by dsimp only; have := g32_eq (v := (x3 + 1)) (by omega) (by omega); omega⟩
        · refine gT_map ?_
          unfold fb_238_76
          refine gT_ite (fun h59 => ?_) (fun h60 => ?_)
          · exact gT_ret ⟨rfl, trivial, hJ10⟩
          · refine gT_loop (fun y => T 12 y.1 ∧ (41 ≤ y.2.1 ∧ y.2.1 ≤ 400) ∧ (1 ≤ y.2.2.2.1 ∧ y.2.2.2.1 ≤ 64) ∧ y.2.1 = x1 ∧ J (p.1, p.2.1, 0, p.2.2.2.1, p.2.2.2.2) y.2.2.2.2) (fun y => (64 - y.2.2.2.1).toNat) (fun y hy => ?_) ?_
            · obtain ⟨x0, x1, x3, x4, s⟩ := y
              obtain ⟨t61, r62, r63, e64, hJ65⟩ := hy
              dsimp only at t61 r62 r63 e64 hJ65
              show gT (sb_238_87 x0 x1 x3 x4 s) _
              unfold sb_238_87
              extract_lets -merge s2
              refine gT_ite (fun h66 => ?_) (fun h67 => ?_)
              · refine gT_chk (by omega) (by omega) ?_
                refine gT_bool (by omega) ?_
                have hJ68 : J (p.1, p.2.1, 0, p.2.2.2.1, p.2.2.2.2) s2 := (J_wa hJ65 (T_f (i := 23) hJ65 t61 (by decide) rfl rfl) rfl)
                refine gT_loop (fun y => T 12 y.1 ∧ (41 ≤ y.2.1 ∧ y.2.1 ≤ 400) ∧ (1 ≤ y.2.2.2.1 ∧ y.2.2.2.1 ≤ 63) ∧ (0 ≤ y.2.2.2.2.1 ∧ y.2.2.2.2.1 ≤ 42) ∧ y.2.1 = x1 ∧ y.2.2.1 = x3 ∧ y.2.2.2.1 = x4 ∧ J (p.1, p.2.1, 0, p.2.2.2.1, p.2.2.2.2) y.2.2.2.2.2) (fun y => (42 - y.2.2.2.2.1).toNat) (fun y hy => ?_) ?_
                · obtain ⟨x0, x1, x3, x4, x5, s⟩ := y
                  obtain ⟨t69, r70, r71, r72, e73, e74, e75, hJ76⟩ := hy
                  dsimp only at t69 r70 r71 r72 e73 e74 e75 hJ76
                  show gT (sb_238_105 x0 x1 x3 x4 x5 s) _
                  unfold sb_238_105
                  refine gT_ite (fun h77 => ?_) (fun h78 => ?_)
                  · refine gT_chk (by omega) (by omega) ?_
                    refine gT_ite (fun h79 => ?_) (fun h80 => ?_)
                    · refine gT_map ?_
                      unfold fb_238_173
                      refine gT_chk (by omega) (by omega) ?_
                      refine gT_ite (fun h81 => ?_) (fun h82 => ?_)
                      · exact gT_ret ⟨⟨t69, (show (41 : Int) ≤ x1 ∧ x1 ≤ 400 by constructor <;> omega), (show (1 : Int) ≤ (g32 (x4 + 1)) ∧ (g32 (x4 + 1)) ≤ 64 by have := g32_eq (v := (x4 + 1)) (by omega) (by omega); constructor <;> omega), (by first | assumption | omega | (dsimp only; omega)), hJ76⟩, by dsimp only; have := g32_eq (v := (x4 + 1)) (by omega) (by omega); omega⟩
                      · exact gT_ret ⟨⟨t69, (show (41 : Int) ≤ x1 ∧ x1 ≤ 400 by constructor <;> omega), (show (1 : Int) ≤ (g32 (x4 + 1)) ∧ (g32 (x4 + 1)) ≤ 64 by have := g32_eq (v := (x4 + 1)) (by omega) (by omega); constructor <;> omega), (by first | assumption | omega | (dsimp only; omega)), hJ76⟩, by dsimp only; have := g32_eq (v := (x4 + 1)) (by omega) (by omega); omega⟩
                    · refine gT_chk (by omega) (by omega) ?_
                      refine gT_v1 (A := fun w9 u9 => (0 ≤ w9 ∧ w9 ≤ 1) ∧ J (p.1, p.2.1, 0, p.2.2.2.1, p.2.2.2.2) u9) (d_212 hp hJ76 t69 (show (0 : Int) ≤ (gI s (gR s x0 7) (x5 : Int).toNat) ∧ (gI s (gR s x0 7) (x5 : Int).toNat) ≤ 255 by have := J_mt (k := (x5 : Int).toNat) hJ76 hJ76 t69; constructor <;> omega)) (fun v4 s3 h83 => ?_)
                      obtain ⟨h83r, hJ84⟩ := h83
                      refine gT_chk (by have := g32_eq (v := (x5 + 1)) (by omega) (by omega); omega) (by have := g32_eq (v := (x5 + 1)) (by omega) (by omega); omega) ?_
                      refine gT_ite (fun h85 => ?_) (fun h86 => ?_)
                      · have := J_mt (k := ((g32 (x5 + 1)) : Int).toNat) hJ84 hJ84 t69
                        unfold fb_238_158
                        extract_lets -merge s6 s7
                        refine gT_ite (fun h87 => ?_) (fun h88 => ?_)
                        · refine gT_chk (by omega) (by omega) ?_
                          refine gT_bool (by omega) ?_
                          have hJ89 : J (p.1, p.2.1, 0, p.2.2.2.1, p.2.2.2.2) s6 := (J_wa hJ84 (T_f (i := 23) hJ76 t69 (by decide) rfl rfl) rfl)
                          exact gT_ret ⟨⟨t69, (show (41 : Int) ≤ x1 ∧ x1 ≤ 400 by constructor <;> omega), (show (1 : Int) ≤ x4 ∧ x4 ≤ 63 by constructor <;> omega), (show (0 : Int) ≤ (g32 (x5 + 2)) ∧ (g32 (x5 + 2)) ≤ 42 by have := g32_eq (v := (x5 + 2)) (by omega) (by omega); constructor <;> omega), (by first | assumption | omega | (dsimp only; omega)), (by first | assumption | omega | (dsimp only; omega)), (by first | assumption | omega | (dsimp only; omega)), hJ89⟩, by dsimp only; have := g32_eq (v := (x5 + 2)) (by omega) (by omega); omega⟩
                        · refine gT_chk (by omega) (by omega) ?_
                          refine gT_bool (by omega) ?_
                          have hJ90 : J (p.1, p.2.1, 0, p.2.2.2.1, p.2.2.2.2) s7 := (J_wa hJ84 (T_f (i := 23) hJ76 t69 (by decide) rfl rfl) rfl)
                          exact gT_ret ⟨⟨t69, (show (41 : Int) ≤ x1 ∧ x1 ≤ 400 by constructor <;> omega), (show (1 : Int) ≤ x4 ∧ x4 ≤ 63 by constructor <;> omega), (show (0 : Int) ≤ (g32 (x5 + 2)) ∧ (g32 (x5 + 2)) ≤ 42 by have := g32_eq (v := (x5 + 2)) (by omega) (by omega); constructor <;> omega), (by first | assumption | omega | (dsimp only; omega)), (by first | assumption | omega | (dsimp only; omega)), (by first | assumption | omega | (dsimp only; omega)), hJ90⟩, by dsimp only; have := g32_eq (v := (x5 + 2)) (by omega) (by omega); omega⟩
                      · have := J_mt (k := ((g32 (x5 + 1)) : Int).toNat) hJ84 hJ84 t69
                        unfold fb_238_158
                        extract_lets -merge s6 s7
                        refine gT_ite (fun h91 => ?_) (fun h92 => ?_)
                        · refine gT_chk (by omega) (by omega) ?_
                          refine gT_bool (by omega) ?_
                          have hJ93 : J (p.1, p.2.1, 0, p.2.2.2.1, p.2.2.2.2) s6 := (J_wa hJ84 (T_f (i := 23) hJ76 t69 (by decide) rfl rfl) rfl)
                          exact gT_ret ⟨⟨t69, (show (41 : Int) ≤ x1 ∧ x1 ≤ 400 by constructor <;> omega), (show (1 : Int) ≤ x4 ∧ x4 ≤ 63 by constructor <;> omega), (show (0 : Int) ≤ (g32 (x5 + 2)) ∧ (g32 (x5 + 2)) ≤ 42 by have := g32_eq (v := (x5 + 2)) (by omega) (by omega); constructor <;> omega), (by first | assumption | omega | (dsimp only; omega)), (by first | assumption | omega | (dsimp only; omega)), (by first | assumption | omega | (dsimp only; omega)), hJ93⟩, by dsimp only; have := g32_eq (v := (x5 + 2)) (by omega) (by omega); omega⟩
                        · refine gT_chk (by omega) (by omega) ?_
                          refine gT_bool (by omega) ?_
                          have hJ94 : J (p.1, p.2.1, 0, p.2.2.2.1, p.2.2.2.2) s7 := (J_wa hJ84 (T_f (i := 23) hJ76 t69 (by decide) rfl rfl) rfl)
                          exact gT_ret ⟨⟨t69, (show (41 : Int) ≤ x1 ∧ x1 ≤ 400 by constructor <;> omega), (show (1 : Int) ≤ x4 ∧ x4 ≤ 63 by constructor <;> omega), (show (0 : Int) ≤ (g32 (x5 + 2)) ∧ (g32 (x5 + 2)) ≤ 42 by have := g32_eq (v := (x5 + 2)) (by omega) (by omega); constructor <;> omega), (by first | assumption | omega | (dsimp only; omega)), (by first | assumption | omega | (dsimp only; omega)), (by first | assumption | omega | (dsimp only; omega)), hJ94⟩, by dsimp only; have := g32_eq (v := (x5 + 2)) (by omega) (by omega); omega⟩
                  · refine gT_map ?_
                    unfold fb_238_173
                    refine gT_chk (by omega) (by omega) ?_
                    refine gT_ite (fun h95 => ?_) (fun h96 => ?_)
                    · exact gT_ret ⟨⟨t69, (show (41 : Int) ≤ x1 ∧ x1 ≤ 400 by constructor <;> omega), (show (1 : Int) ≤ (g32 (x4 + 1)) ∧ (g32 (x4 + 1)) ≤ 64 by have := g32_eq (v := (x4 + 1)) (by omega) (by omega); constructor <;> omega), (by first | assumption | omega | (dsimp only; omega)), hJ76⟩, by dsimp only; have := g32_eq (v := (x4 + 1)) (by omega) (by omega); omega⟩
                    · exact gT_ret ⟨⟨t69, (show (41 : Int) ≤ x1 ∧ x1 ≤ 400 by constructor <;> omega), (show (1 : Int) ≤ (g32 (x4 + 1)) ∧ (g32 (x4 + 1)) ≤ 64 by have := g32_eq (v := (x4 + 1)) (by omega) (by omega); constructor <;> omega), (by first | assumption | omega | (dsimp only; omega)), hJ76⟩, by dsimp only; have := g32_eq (v := (x4 + 1)) (by omega) (by omega); omega⟩
                · exact ⟨t61, (show (41 : Int) ≤ x1 ∧ x1 ≤ 400 by constructor <;> omega), (show (1 : Int) ≤ x4 ∧ x4 ≤ 63 by constructor <;> omega), (show (0 : Int) ≤ 0 ∧ 0 ≤ 42 by constructor <;> omega), rfl, rfl, rfl, hJ68⟩
              · refine gT_map ?_
                exact gT_ret ⟨rfl, trivial, hJ65⟩
            · exact ⟨t6, (show (41 : Int) ≤ x1 ∧ x1 ≤ 400 by constructor <;> omega), (show (1 : Int) ≤ 1 ∧ 1 ≤ 64 by constructor <;> omega), rfl, hJ10⟩
      · exact ⟨t0, (show (41 : Int) ≤ (gI s a0 8) ∧ (gI s a0 8) ≤ 400 by have := J_f (i := 8) h t0 rfl (by decide) rfl; constructor <;> omega), (show (0 : Int) ≤ 0 ∧ 0 ≤ 0 by constructor <;> omega), (show (0 : Int) ≤ 0 ∧ 0 ≤ 400 by constructor <;> omega), hJ1⟩
    · have := J_f (i := 8) h t0 rfl (by decide) rfl
      unfold fb_238_27
      refine gT_loop (fun y => T 12 y.1 ∧ (0 ≤ y.2.1 ∧ y.2.1 ≤ 40) ∧ (0 ≤ y.2.2.1 ∧ y.2.2.1 ≤ 1) ∧ (0 ≤ y.2.2.2.1 ∧ y.2.2.2.1 ≤ 400) ∧ J (p.1, p.2.1, 0, p.2.2.2.1, p.2.2.2.2) y.2.2.2.2) (fun y => (400 - y.2.2.2.1).toNat) (fun y hy => ?_) ?_
      · obtain ⟨x0, x1, x2, x3, s⟩ := y
        obtain ⟨t97, r98, r99, r100, hJ101⟩ := hy
        dsimp only at t97 r98 r99 r100 hJ101
        show gT (sb_238_30 x0 x1 x2 x3 s) _
        unfold sb_238_30
        refine gT_ite (fun h102 => ?_) (fun h103 => ?_)
        · refine gT_ite (fun h104 => ?_) (fun h105 => ?_)
          · refine gT_map ?_
            unfold fb_238_76
            refine gT_ite (fun h106 => ?_) (fun h107 => ?_)
            · exact gT_ret ⟨rfl, trivial, hJ101⟩
            · refine gT_loop (fun y => T 12 y.1 ∧ (1 ≤ y.2.1 ∧ y.2.1 ≤ 40) ∧ (1 ≤ y.2.2.2.1 ∧ y.2.2.2.1 ≤ 64) ∧ y.2.1 = x1 ∧ J (p.1, p.2.1, 0, p.2.2.2.1, p.2.2.2.2) y.2.2.2.2) (fun y => (64 - y.2.2.2.1).toNat) (fun y hy => ?_) ?_
              · obtain ⟨x0, x1, x3, x4, s⟩ := y
                obtain ⟨t108, r109, r110, e111, hJ112⟩ := hy
                dsimp only at t108 r109 r110 e111 hJ112
                show gT (sb_238_87 x0 x1 x3 x4 s) _
                unfold sb_238_87
                extract_lets -merge s2
                refine gT_ite (fun h113 => ?_) (fun h114 => ?_)
                · refine gT_chk (by omega) (by omega) ?_
                  refine gT_bool (by omega) ?_
                  have hJ115 : J (p.1, p.2.1, 0, p.2.2.2.1, p.2.2.2.2) s2 := (J_wa hJ112 (T_f (i := 23) hJ112 t108 (by decide) rfl rfl) rfl)
                  refine gT_loop (fun y => T 12 y.1 ∧ (1 ≤ y.2.1 ∧ y.2.1 ≤ 40) ∧ (1 ≤ y.2.2.2.1 ∧ y.2.2.2.1 ≤ 63) ∧ (0 ≤ y.2.2.2.2.1 ∧ y.2.2.2.2.1 ≤ 42) ∧ y.2.1 = x1 ∧ y.2.2.1 = x3 ∧ y.2.2.2.1 = x4 ∧ J (p.1, p.2.1, 0, p.2.2.2.1, p.2.2.2.2) y.2.2.2.2.2) (fun y => (42 - y.2.2.2.2.1).toNat) (fun y hy => ?_) ?_
                  · obtain ⟨x0, x1, x3, x4, x5, s⟩ := y
                    obtain ⟨t116, r117, r118, r119, e120, e121, e122, hJ123⟩ := hy
                    dsimp only at t116 r117 r118 r119 e120 e121 e122 hJ123
                    show gT (sb_238_105 x0 x1 x3 x4 x5 s) _
                    unfold sb_238_105
                    refine gT_ite (fun h124 => ?_) (fun h125 => ?_)
                    · refine gT_chk (by omega) (by omega) ?_
                      refine gT_ite (fun h126 => ?_) (fun h127 => ?_)
                      · refine gT_map ?_
                        unfold fb_238_173
                        refine gT_chk (by omega) (by omega) ?_
                        refine gT_ite (fun h128 => ?_) (fun h129 => ?_)
                        · exact gT_ret ⟨⟨t116, (show (1 : Int) ≤ x1 ∧ x1 ≤ 40 by constructor <;> omega), (show (1 : Int) ≤ (g32 (x4 + 1)) ∧ (g32 (x4 + 1)) ≤ 64 by have := g32_eq (v := (x4 + 1)) (by omega) (by omega); constructor <;> omega), (by first | assumption | omega | (dsimp only; omega)), hJ123⟩, by dsimp only; have := g32_eq (v := (x4 + 1)) (by omega) (by omega); omega⟩
                        · exact gT_ret ⟨⟨t116, (show (1 : Int) ≤ x1 ∧ x1 ≤ 40 by constructor <;> omega), (show (1 : Int) ≤ (g32 (x4 + 1)) ∧ (g32 (x4 + 1)) ≤ 64 by have := g32_eq (v := (x4 + 1)) (by omega) (by omega); constructor <;> omega), (by first | assumption | omega | (dsimp only; omega)), hJ123⟩, by dsimp only; have := g32_eq (v := (x4 + 1)) (by omega) (by omega); omega⟩
                      · refine gT_chk (by omega) (by omega) ?_
                        refine gT_v1 (A := fun w9 u9 => (0 ≤ w9 ∧ w9 ≤ 1) ∧ J (p.1, p.2.1, 0, p.2.2.2.1, p.2.2.2.2) u9) (d_212 hp hJ123 t116 (show (0 : Int) ≤ (gI s (gR s x0 7) (x5 : Int).toNat) ∧ (gI s (gR s x0 7) (x5 : Int).toNat) ≤ 255 by have := J_mt (k := (x5 : Int).toNat) hJ123 hJ123 t116; constructor <;> omega)) (fun v4 s3 h130 => ?_)
                        obtain ⟨h130r, hJ131⟩ := h130
                        refine gT_chk (by have := g32_eq (v := (x5 + 1)) (by omega) (by omega); omega) (by have := g32_eq (v := (x5 + 1)) (by omega) (by omega); omega) ?_
                        refine gT_ite (fun h132 => ?_) (fun h133 => ?_)
                        · have := J_mt (k := ((g32 (x5 + 1)) : Int).toNat) hJ131 hJ131 t116
                          unfold fb_238_158
                          extract_lets -merge s6 s7
                          refine gT_ite (fun h134 => ?_) (fun h135 => ?_)
                          · refine gT_chk (by omega) (by omega) ?_
                            refine gT_bool (by omega) ?_
                            have hJ136 : J (p.1, p.2.1, 0, p.2.2.2.1, p.2.2.2.2) s6 := (J_wa hJ131 (T_f (i := 23) hJ123 t116 (by decide) rfl rfl) rfl)
                            exact gT_ret ⟨⟨t116, (show (1 : Int) ≤ x1 ∧ x1 ≤ 40 by constructor <;> omega), (show (1 : Int) ≤ x4 ∧ x4 ≤ 63 by constructor <;> omega), (show (0 : Int) ≤ (g32 (x5 + 2)) ∧ (g32 (x5 + 2)) ≤ 42 by have := g32_eq (v := (x5 + 2)) (by omega) (by omega); constructor <;> omega), (by first | assumption | omega | (dsimp only; omega)), (by first | assumption | omega | (dsimp only; omega)), (by first | assumption | omega | (dsimp only; omega)), hJ136⟩, by dsimp only; have := g32_eq (v := (x5 + 2)) (by omega) (by omega); omega⟩
                          · refine gT_chk (by omega) (by omega) ?_
                            refine gT_bool (by omega) ?_
                            have hJ137 : J (p.1, p.2.1, 0, p.2.2.2.1, p.2.2.2.2) s7 := (J_wa hJ131 (T_f (i := 23) hJ123 t116 (by decide) rfl rfl) rfl)
                            exact gT_ret ⟨⟨t116, (show (1 : Int) ≤ x1 ∧ x1 ≤ 40 by constructor <;> omega), (show (1 : Int) ≤ x4 ∧ x4 ≤ 63 by constructor <;> omega), (show (0 : Int) ≤ (g32 (x5 + 2)) ∧ (g32 (x5 + 2)) ≤ 42 by have := g32_eq (v := (x5 + 2)) (by omega) (by omega); constructor <;> omega), (by first | assumption | omega | (dsimp only; omega)), (by first | assumption | omega | (dsimp only; omega)), (by first | assumption | omega | (dsimp only; omega)), hJ137⟩, by dsimp only; have := g32_eq (v := (x5 + 2)) (by omega) (by omega); omega⟩
                        · have := J_mt (k := ((g32 (x5 + 1)) : Int).toNat) hJ131 hJ131 t116
                          unfold fb_238_158
                          extract_lets -merge s6 s7
                          refine gT_ite (fun h138 => ?_) (fun h139 => ?_)
                          · refine gT_chk (by omega) (by omega) ?_
                            refine gT_bool (by omega) ?_
                            have hJ140 : J (p.1, p.2.1, 0, p.2.2.2.1, p.2.2.2.2) s6 := (J_wa hJ131 (T_f (i := 23) hJ123 t116 (by decide) rfl rfl) rfl)
                            exact gT_ret ⟨⟨t116, (show (1 : Int) ≤ x1 ∧ x1 ≤ 40 by constructor <;> omega), (show (1 : Int) ≤ x4 ∧ x4 ≤ 63 by constructor <;> omega), (show (0 : Int) ≤ (g32 (x5 + 2)) ∧ (g32 (x5 + 2)) ≤ 42 by have := g32_eq (v := (x5 + 2)) (by omega) (by omega); constructor <;> omega), (by first | assumption | omega | (dsimp only; omega)), (by first | assumption | omega | (dsimp only; omega)), (by first | assumption | omega | (dsimp only; omega)), hJ140⟩, by dsimp only; have := g32_eq (v := (x5 + 2)) (by omega) (by omega); omega⟩
                          · refine gT_chk (by omega) (by omega) ?_
                            refine gT_bool (by omega) ?_
                            have hJ141 : J (p.1, p.2.1, 0, p.2.2.2.1, p.2.2.2.2) s7 := (J_wa hJ131 (T_f (i := 23) hJ123 t116 (by decide) rfl rfl) rfl)
                            exact gT_ret ⟨⟨t116, (show (1 : Int) ≤ x1 ∧ x1 ≤ 40 by constructor <;> omega), (show (1 : Int) ≤ x4 ∧ x4 ≤ 63 by constructor <;> omega), (show (0 : Int) ≤ (g32 (x5 + 2)) ∧ (g32 (x5 + 2)) ≤ 42 by have := g32_eq (v := (x5 + 2)) (by omega) (by omega); constructor <;> omega), (by first | assumption | omega | (dsimp only; omega)), (by first | assumption | omega | (dsimp only; omega)), (by first | assumption | omega | (dsimp only; omega)), hJ141⟩, by dsimp only; have := g32_eq (v := (x5 + 2)) (by omega) (by omega); omega⟩
                    · refine gT_map ?_
                      unfold fb_238_173
                      refine gT_chk (by omega) (by omega) ?_
                      refine gT_ite (fun h142 => ?_) (fun h143 => ?_)
                      · exact gT_ret ⟨⟨t116, (show (1 : Int) ≤ x1 ∧ x1 ≤ 40 by constructor <;> omega), (show (1 : Int) ≤ (g32 (x4 + 1)) ∧ (g32 (x4 + 1)) ≤ 64 by have := g32_eq (v := (x4 + 1)) (by omega) (by omega); constructor <;> omega), (by first | assumption | omega | (dsimp only; omega)), hJ123⟩, by dsimp only; have := g32_eq (v := (x4 + 1)) (by omega) (by omega); omega⟩
                      · exact gT_ret ⟨⟨t116, (show (1 : Int) ≤ x1 ∧ x1 ≤ 40 by constructor <;> omega), (show (1 : Int) ≤ (g32 (x4 + 1)) ∧ (g32 (x4 + 1)) ≤ 64 by have := g32_eq (v := (x4 + 1)) (by omega) (by omega); constructor <;> omega), (by first | assumption | omega | (dsimp only; omega)), hJ123⟩, by dsimp only; have := g32_eq (v := (x4 + 1)) (by omega) (by omega); omega⟩
                  · exact ⟨t108, (show (1 : Int) ≤ x1 ∧ x1 ≤ 40 by constructor <;> omega), (show (1 : Int) ≤ x4 ∧ x4 ≤ 63 by constructor <;> omega), (show (0 : Int) ≤ 0 ∧ 0 ≤ 42 by constructor <;> omega), rfl, rfl, rfl, hJ115⟩
                · refine gT_map ?_
                  exact gT_ret ⟨rfl, trivial, hJ112⟩
              · exact ⟨t97, (show (1 : Int) ≤ x1 ∧ x1 ≤ 40 by constructor <;> omega), (show (1 : Int) ≤ 1 ∧ 1 ≤ 64 by constructor <;> omega), rfl, hJ101⟩
          · refine gT_chk (by omega) (by omega) ?_
            refine gT_ite (fun h144 => ?_) (fun h145 => ?_)
            · have := grem_eq (x := x3) (c := 2) (by constructor <;> omega) (by decide)
              unfold fb_238_61
              refine gT_ite (fun h146 => ?_) (fun h147 => ?_)
              · have := J_mt (k := (x3 : Int).toNat) hJ101 hJ101 t97
                have := J_m (k := 5) hJ101 hJ101 t97 rfl
                exact gT_ret ⟨⟨t97, (show (0 : Int) ≤ x1 ∧ x1 ≤ 40 by constructor <;> omega), (show (0 : Int) ≤ 1 ∧ 1 ≤ 1 by constructor <;> omega), (show (0 : Int) ≤ (g32 (x3 + 1)) ∧ (g32 (x3 + 1)) ≤ 400 by have := g32_eq (v := (x3 + 1)) (by omega) (by omega); constructor <;> omega), hJ101⟩, by dsimp only; have := g32_eq (v := (x3 + 1)) (by omega) (by omega); omega⟩
              · have := J_mt (k := (x3 : Int).toNat) hJ101 hJ101 t97
                have := J_m (k := 5) hJ101 hJ101 t97 rfl
                exact gT_ret ⟨⟨t97, (show (0 : Int) ≤ x1 ∧ x1 ≤ 40 by constructor <;> omega), (show (0 : Int) ≤ 0 ∧ 0 ≤ 1 by constructor <;> omega), (show (0 : Int) ≤ (g32 (x3 + 1)) ∧ (g32 (x3 + 1)) ≤ 400 by have := g32_eq (v := (x3 + 1)) (by omega) (by omega); constructor <;> omega), hJ101⟩, by dsimp only; have := g32_eq (v := (x3 + 1)) (by omega) (by omega); omega⟩
            · have := grem_eq (x := x3) (c := 2) (by constructor <;> omega) (by decide)
              unfold fb_238_61
              refine gT_ite (fun h148 => ?_) (fun h149 => ?_)
              · have := J_mt (k := (x3 : Int).toNat) hJ101 hJ101 t97
                exact gT_ret ⟨⟨t97, (show (0 : Int) ≤ x1 ∧ x1 ≤ 40 by constructor <;> omega), (show (0 : Int) ≤ 1 ∧ 1 ≤ 1 by constructor <;> omega), (show (0 : Int) ≤ (g32 (x3 + 1)) ∧ (g32 (x3 + 1)) ≤ 400 by have := g32_eq (v := (x3 + 1)) (by omega) (by omega); constructor <;> omega), hJ101⟩, by dsimp only; have := g32_eq (v := (x3 + 1)) (by omega) (by omega); omega⟩
              · have := J_mt (k := (x3 : Int).toNat) hJ101 hJ101 t97
                exact gT_ret ⟨⟨t97, (show (0 : Int) ≤ x1 ∧ x1 ≤ 40 by constructor <;> omega), (show (0 : Int) ≤ 0 ∧ 0 ≤ 1 by constructor <;> omega), (show (0 : Int) ≤ (g32 (x3 + 1)) ∧ (g32 (x3 + 1)) ≤ 400 by have := g32_eq (v := (x3 + 1)) (by omega) (by omega); constructor <;> omega), hJ101⟩, by dsimp only; have := g32_eq (v := (x3 + 1)) (by omega) (by omega); omega⟩
        · refine gT_map ?_
          unfold fb_238_76
          refine gT_ite (fun h150 => ?_) (fun h151 => ?_)
          · exact gT_ret ⟨rfl, trivial, hJ101⟩
          · refine gT_loop (fun y => T 12 y.1 ∧ (0 ≤ y.2.1 ∧ y.2.1 ≤ 40) ∧ (1 ≤ y.2.2.2.1 ∧ y.2.2.2.1 ≤ 64) ∧ y.2.1 = x1 ∧ J (p.1, p.2.1, 0, p.2.2.2.1, p.2.2.2.2) y.2.2.2.2) (fun y => (64 - y.2.2.2.1).toNat) (fun y hy => ?_) ?_
            · obtain ⟨x0, x1, x3, x4, s⟩ := y
              obtain ⟨t152, r153, r154, e155, hJ156⟩ := hy
              dsimp only at t152 r153 r154 e155 hJ156
              show gT (sb_238_87 x0 x1 x3 x4 s) _
              unfold sb_238_87
              extract_lets -merge s2
              refine gT_ite (fun h157 => ?_) (fun h158 => ?_)
              · refine gT_chk (by omega) (by omega) ?_
                refine gT_bool (by omega) ?_
                have hJ159 : J (p.1, p.2.1, 0, p.2.2.2.1, p.2.2.2.2) s2 := (J_wa hJ156 (T_f (i := 23) hJ156 t152 (by decide) rfl rfl) rfl)
                refine gT_loop (fun y => T 12 y.1 ∧ (0 ≤ y.2.1 ∧ y.2.1 ≤ 40) ∧ (1 ≤ y.2.2.2.1 ∧ y.2.2.2.1 ≤ 63) ∧ (0 ≤ y.2.2.2.2.1 ∧ y.2.2.2.2.1 ≤ 42) ∧ y.2.1 = x1 ∧ y.2.2.1 = x3 ∧ y.2.2.2.1 = x4 ∧ J (p.1, p.2.1, 0, p.2.2.2.1, p.2.2.2.2) y.2.2.2.2.2) (fun y => (42 - y.2.2.2.2.1).toNat) (fun y hy => ?_) ?_
                · obtain ⟨x0, x1, x3, x4, x5, s⟩ := y
                  obtain ⟨t160, r161, r162, r163, e164, e165, e166, hJ167⟩ := hy
                  dsimp only at t160 r161 r162 r163 e164 e165 e166 hJ167
                  show gT (sb_238_105 x0 x1 x3 x4 x5 s) _
                  unfold sb_238_105
                  refine gT_ite (fun h168 => ?_) (fun h169 => ?_)
                  · refine gT_chk (by omega) (by omega) ?_
                    refine gT_ite (fun h170 => ?_) (fun h171 => ?_)
                    · refine gT_map ?_
                      unfold fb_238_173
                      refine gT_chk (by omega) (by omega) ?_
                      refine gT_ite (fun h172 => ?_) (fun h173 => ?_)
                      · exact gT_ret ⟨⟨t160, (show (0 : Int) ≤ x1 ∧ x1 ≤ 40 by constructor <;> omega), (show (1 : Int) ≤ (g32 (x4 + 1)) ∧ (g32 (x4 + 1)) ≤ 64 by have := g32_eq (v := (x4 + 1)) (by omega) (by omega); constructor <;> omega), (by first | assumption | omega | (dsimp only; omega)), hJ167⟩, by dsimp only; have := g32_eq (v := (x4 + 1)) (by omega) (by omega); omega⟩
                      · exact gT_ret ⟨⟨t160, (show (0 : Int) ≤ x1 ∧ x1 ≤ 40 by constructor <;> omega), (show (1 : Int) ≤ (g32 (x4 + 1)) ∧ (g32 (x4 + 1)) ≤ 64 by have := g32_eq (v := (x4 + 1)) (by omega) (by omega); constructor <;> omega), (by first | assumption | omega | (dsimp only; omega)), hJ167⟩, by dsimp only; have := g32_eq (v := (x4 + 1)) (by omega) (by omega); omega⟩
                    · refine gT_chk (by omega) (by omega) ?_
                      refine gT_v1 (A := fun w9 u9 => (0 ≤ w9 ∧ w9 ≤ 1) ∧ J (p.1, p.2.1, 0, p.2.2.2.1, p.2.2.2.2) u9) (d_212 hp hJ167 t160 (show (0 : Int) ≤ (gI s (gR s x0 7) (x5 : Int).toNat) ∧ (gI s (gR s x0 7) (x5 : Int).toNat) ≤ 255 by have := J_mt (k := (x5 : Int).toNat) hJ167 hJ167 t160; constructor <;> omega)) (fun v4 s3 h174 => ?_)
                      obtain ⟨h174r, hJ175⟩ := h174
                      refine gT_chk (by have := g32_eq (v := (x5 + 1)) (by omega) (by omega); omega) (by have := g32_eq (v := (x5 + 1)) (by omega) (by omega); omega) ?_
                      refine gT_ite (fun h176 => ?_) (fun h177 => ?_)
                      · have := J_mt (k := ((g32 (x5 + 1)) : Int).toNat) hJ175 hJ175 t160
                        unfold fb_238_158
                        extract_lets -merge s6 s7
                        refine gT_ite (fun h178 => ?_) (fun h179 => ?_)
                        · refine gT_chk (by omega) (by omega) ?_
                          refine gT_bool (by omega) ?_
                          have hJ180 : J (p.1, p.2.1, 0, p.2.2.2.1, p.2.2.2.2) s6 := (J_wa hJ175 (T_f (i := 23) hJ167 t160 (by decide) rfl rfl) rfl)
                          exact gT_ret ⟨⟨t160, (show (0 : Int) ≤ x1 ∧ x1 ≤ 40 by constructor <;> omega), (show (1 : Int) ≤ x4 ∧ x4 ≤ 63 by constructor <;> omega), (show (0 : Int) ≤ (g32 (x5 + 2)) ∧ (g32 (x5 + 2)) ≤ 42 by have := g32_eq (v := (x5 + 2)) (by omega) (by omega); constructor <;> omega), (by first | assumption | omega | (dsimp only; omega)), (by first | assumption | omega | (dsimp only; omega)), (by first | assumption | omega | (dsimp only; omega)), hJ180⟩, by dsimp only; have := g32_eq (v := (x5 + 2)) (by omega) (by omega); omega⟩
                        · refine gT_chk (by omega) (by omega) ?_
                          refine gT_bool (by omega) ?_
                          have hJ181 : J (p.1, p.2.1, 0, p.2.2.2.1, p.2.2.2.2) s7 := (J_wa hJ175 (T_f (i := 23) hJ167 t160 (by decide) rfl rfl) rfl)
                          exact gT_ret ⟨⟨t160, (show (0 : Int) ≤ x1 ∧ x1 ≤ 40 by constructor <;> omega), (show (1 : Int) ≤ x4 ∧ x4 ≤ 63 by constructor <;> omega), (show (0 : Int) ≤ (g32 (x5 + 2)) ∧ (g32 (x5 + 2)) ≤ 42 by have := g32_eq (v := (x5 + 2)) (by omega) (by omega); constructor <;> omega), (by first | assumption | omega | (dsimp only; omega)), (by first | assumption | omega | (dsimp only; omega)), (by first | assumption | omega | (dsimp only; omega)), hJ181⟩, by dsimp only; have := g32_eq (v := (x5 + 2)) (by omega) (by omega); omega⟩
                      · have := J_mt (k := ((g32 (x5 + 1)) : Int).toNat) hJ175 hJ175 t160
                        unfold fb_238_158
                        extract_lets -merge s6 s7
                        refine gT_ite (fun h182 => ?_) (fun h183 => ?_)
                        · refine gT_chk (by omega) (by omega) ?_
                          refine gT_bool (by omega) ?_
                          have hJ184 : J (p.1, p.2.1, 0, p.2.2.2.1, p.2.2.2.2) s6 := (J_wa hJ175 (T_f (i := 23) hJ167 t160 (by decide) rfl rfl) rfl)
                          exact gT_ret ⟨⟨t160, (show (0 : Int) ≤ x1 ∧ x1 ≤ 40 by constructor <;> omega), (show (1 : Int) ≤ x4 ∧ x4 ≤ 63 by constructor <;> omega), (show (0 : Int) ≤ (g32 (x5 + 2)) ∧ (g32 (x5 + 2)) ≤ 42 by have := g32_eq (v := (x5 + 2)) (by omega) (by omega); constructor <;> omega), (by first | assumption | omega | (dsimp only; omega)), (by first | assumption | omega | (dsimp only; omega)), (by first | assumption | omega | (dsimp only; omega)), hJ184⟩, by dsimp only; have := g32_eq (v := (x5 + 2)) (by omega) (by omega); omega⟩
                        · refine gT_chk (by omega) (by omega) ?_
                          refine gT_bool (by omega) ?_
                          have hJ185 : J (p.1, p.2.1, 0, p.2.2.2.1, p.2.2.2.2) s7 := (J_wa hJ175 (T_f (i := 23) hJ167 t160 (by decide) rfl rfl) rfl)
                          exact gT_ret ⟨⟨t160, (show (0 : Int) ≤ x1 ∧ x1 ≤ 40 by constructor <;> omega), (show (1 : Int) ≤ x4 ∧ x4 ≤ 63 by constructor <;> omega), (show (0 : Int) ≤ (g32 (x5 + 2)) ∧ (g32 (x5 + 2)) ≤ 42 by have := g32_eq (v := (x5 + 2)) (by omega) (by omega); constructor <;> omega), (by first | assumption | omega | (dsimp only; omega)), (by first | assumption | omega | (dsimp only; omega)), (by first | assumption | omega | (dsimp only; omega)), hJ185⟩, by dsimp only; have := g32_eq (v := (x5 + 2)) (by omega) (by omega); omega⟩
                  · refine gT_map ?_
                    unfold fb_238_173
                    refine gT_chk (by omega) (by omega) ?_
                    refine gT_ite (fun h186 => ?_) (fun h187 => ?_)
                    · exact gT_ret ⟨⟨t160, (show (0 : Int) ≤ x1 ∧ x1 ≤ 40 by constructor <;> omega), (show (1 : Int) ≤ (g32 (x4 + 1)) ∧ (g32 (x4 + 1)) ≤ 64 by have := g32_eq (v := (x4 + 1)) (by omega) (by omega); constructor <;> omega), (by first | assumption | omega | (dsimp only; omega)), hJ167⟩, by dsimp only; have := g32_eq (v := (x4 + 1)) (by omega) (by omega); omega⟩
                    · exact gT_ret ⟨⟨t160, (show (0 : Int) ≤ x1 ∧ x1 ≤ 40 by constructor <;> omega), (show (1 : Int) ≤ (g32 (x4 + 1)) ∧ (g32 (x4 + 1)) ≤ 64 by have := g32_eq (v := (x4 + 1)) (by omega) (by omega); constructor <;> omega), (by first | assumption | omega | (dsimp only; omega)), hJ167⟩, by dsimp only; have := g32_eq (v := (x4 + 1)) (by omega) (by omega); omega⟩
                · exact ⟨t152, (show (0 : Int) ≤ x1 ∧ x1 ≤ 40 by constructor <;> omega), (show (1 : Int) ≤ x4 ∧ x4 ≤ 63 by constructor <;> omega), (show (0 : Int) ≤ 0 ∧ 0 ≤ 42 by constructor <;> omega), rfl, rfl, rfl, hJ159⟩
              · refine gT_map ?_
                exact gT_ret ⟨rfl, trivial, hJ156⟩
            · exact ⟨t97, (show (0 : Int) ≤ x1 ∧ x1 ≤ 40 by constructor <;> omega), (show (1 : Int) ≤ 1 ∧ 1 ≤ 64 by constructor <;> omega), rfl, hJ101⟩
      · exact ⟨t0, (show (0 : Int) ≤ (gI s a0 8) ∧ (gI s a0 8) ≤ 40 by have := J_f (i := 8) h t0 rfl (by decide) rfl; constructor <;> omega), (show (0 : Int) ≤ 1 ∧ 1 ≤ 1 by constructor <;> omega), (show (0 : Int) ≤ 0 ∧ 0 ≤ 400 by constructor <;> omega), hJ1⟩
  · have := J_f (i := 8) h t0 rfl (by decide) rfl
    have := grem_eq (x := (gI s a0 8)) (c := 2) (by constructor <;> omega) (by decide)
    unfold fb_238_26
    unfold fb_238_27
    refine gT_loop (fun y => T 12 y.1 ∧ (0 ≤ y.2.1 ∧ y.2.1 ≤ 400) ∧ (0 ≤ y.2.2.1 ∧ y.2.2.1 ≤ 0) ∧ (0 ≤ y.2.2.2.1 ∧ y.2.2.2.1 ≤ 400) ∧ J (p.1, p.2.1, 0, p.2.2.2.1, p.2.2.2.2) y.2.2.2.2) (fun y => (400 - y.2.2.2.1).toNat) (fun y hy => ?_) ?_
    · obtain ⟨x0, x1, x2, x3, s⟩ := y
      obtain ⟨t188, r189, r190, r191, hJ192⟩ := hy
      dsimp only at t188 r189 r190 r191 hJ192
      show gT (sb_238_30 x0 x1 x2 x3 s) _
      unfold sb_238_30
      refine gT_ite (fun h193 => ?_) (fun h194 => ?_)
      · refine gT_ite (fun h195 => ?_) (fun h196 => ?_)
        · refine gT_map ?_
          unfold fb_238_76
          refine gT_ite (fun h197 => ?_) (fun h198 => ?_)
          · exact gT_ret ⟨rfl, trivial, hJ192⟩
          · refine gT_loop (fun y => T 12 y.1 ∧ (1 ≤ y.2.1 ∧ y.2.1 ≤ 400) ∧ (1 ≤ y.2.2.2.1 ∧ y.2.2.2.1 ≤ 64) ∧ y.2.1 = x1 ∧ J (p.1, p.2.1, 0, p.2.2.2.1, p.2.2.2.2) y.2.2.2.2) (fun y => (64 - y.2.2.2.1).toNat) (fun y hy => ?_) ?_
            · obtain ⟨x0, x1, x3, x4, s⟩ := y
              obtain ⟨t199, r200, r201, e202, hJ203⟩ := hy
              dsimp only at t199 r200 r201 e202 hJ203
              show gT (sb_238_87 x0 x1 x3 x4 s) _
              unfold sb_238_87
              extract_lets -merge s2
              refine gT_ite (fun h204 => ?_) (fun h205 => ?_)
              · refine gT_chk (by omega) (by omega) ?_
                refine gT_bool (by omega) ?_
                have hJ206 : J (p.1, p.2.1, 0, p.2.2.2.1, p.2.2.2.2) s2 := (J_wa hJ203 (T_f (i := 23) hJ203 t199 (by decide) rfl rfl) rfl)
                refine gT_loop (fun y => T 12 y.1 ∧ (1 ≤ y.2.1 ∧ y.2.1 ≤ 400) ∧ (1 ≤ y.2.2.2.1 ∧ y.2.2.2.1 ≤ 63) ∧ (0 ≤ y.2.2.2.2.1 ∧ y.2.2.2.2.1 ≤ 42) ∧ y.2.1 = x1 ∧ y.2.2.1 = x3 ∧ y.2.2.2.1 = x4 ∧ J (p.1, p.2.1, 0, p.2.2.2.1, p.2.2.2.2) y.2.2.2.2.2) (fun y => (42 - y.2.2.2.2.1).toNat) (fun y hy => ?_) ?_
                · obtain ⟨x0, x1, x3, x4, x5, s⟩ := y
                  obtain ⟨t207, r208, r209, r210, e211, e212, e213, hJ214⟩ := hy
                  dsimp only at t207 r208 r209 r210 e211 e212 e213 hJ214
                  show gT (sb_238_105 x0 x1 x3 x4 x5 s) _
                  unfold sb_238_105
                  refine gT_ite (fun h215 => ?_) (fun h216 => ?_)
                  · refine gT_chk (by omega) (by omega) ?_
                    refine gT_ite (fun h217 => ?_) (fun h218 => ?_)
                    · refine gT_map ?_
                      unfold fb_238_173
                      refine gT_chk (by omega) (by omega) ?_
                      refine gT_ite (fun h219 => ?_) (fun h220 => ?_)
                      · exact gT_ret ⟨⟨t207, (show (1 : Int) ≤ x1 ∧ x1 ≤ 400 by constructor <;> omega), (show (1 : Int) ≤ (g32 (x4 + 1)) ∧ (g32 (x4 + 1)) ≤ 64 by have := g32_eq (v := (x4 + 1)) (by omega) (by omega); constructor <;> omega), (by first | assumption | omega | (dsimp only; omega)), hJ214⟩, by dsimp only; have := g32_eq (v := (x4 + 1)) (by omega) (by omega); omega⟩
                      · exact gT_ret ⟨⟨t207, (show (1 : Int) ≤ x1 ∧ x1 ≤ 400 by constructor <;> omega), (show (1 : Int) ≤ (g32 (x4 + 1)) ∧ (g32 (x4 + 1)) ≤ 64 by have := g32_eq (v := (x4 + 1)) (by omega) (by omega); constructor <;> omega), (by first | assumption | omega | (dsimp only; omega)), hJ214⟩, by dsimp only; have := g32_eq (v := (x4 + 1)) (by omega) (by omega); omega⟩
                    · refine gT_chk (by omega) (by omega) ?_
                      refine gT_v1 (A := fun w9 u9 => (0 ≤ w9 ∧ w9 ≤ 1) ∧ J (p.1, p.2.1, 0, p.2.2.2.1, p.2.2.2.2) u9) (d_212 hp hJ214 t207 (show (0 : Int) ≤ (gI s (gR s x0 7) (x5 : Int).toNat) ∧ (gI s (gR s x0 7) (x5 : Int).toNat) ≤ 255 by have := J_mt (k := (x5 : Int).toNat) hJ214 hJ214 t207; constructor <;> omega)) (fun v4 s3 h221 => ?_)
                      obtain ⟨h221r, hJ222⟩ := h221
                      refine gT_chk (by have := g32_eq (v := (x5 + 1)) (by omega) (by omega); omega) (by have := g32_eq (v := (x5 + 1)) (by omega) (by omega); omega) ?_
                      refine gT_ite (fun h223 => ?_) (fun h224 => ?_)
                      · have := J_mt (k := ((g32 (x5 + 1)) : Int).toNat) hJ222 hJ222 t207
                        unfold fb_238_158
                        extract_lets -merge s6 s7
                        refine gT_ite (fun h225 => ?_) (fun h226 => ?_)
                        · refine gT_chk (by omega) (by omega) ?_
                          refine gT_bool (by omega) ?_
                          have hJ227 : J (p.1, p.2.1, 0, p.2.2.2.1, p.2.2.2.2) s6 := (J_wa hJ222 (T_f (i := 23) hJ214 t207 (by decide) rfl rfl) rfl)
                          exact gT_ret ⟨⟨t207, (show (1 : Int) ≤ x1 ∧ x1 ≤ 400 by constructor <;> omega), (show (1 : Int) ≤ x4 ∧ x4 ≤ 63 by constructor <;> omega), (show (0 : Int) ≤ (g32 (x5 + 2)) ∧ (g32 (x5 + 2)) ≤ 42 by have := g32_eq (v := (x5 + 2)) (by omega) (by omega); constructor <;> omega), (by first | assumption | omega | (dsimp only; omega)), (by first | assumption | omega | (dsimp only; omega)), (by first | assumption | omega | (dsimp only; omega)), hJ227⟩, by dsimp only; have := g32_eq (v := (x5 + 2)) (by omega) (by omega); omega⟩
                        · refine gT_chk (by omega) (by omega) ?_
                          refine gT_bool (by omega) ?_
                          have hJ228 : J (p.1, p.2.1, 0, p.2.2.2.1, p.2.2.2.2) s7 := (J_wa hJ222 (T_f (i := 23) hJ214 t207 (by decide) rfl rfl) rfl)
                          exact gT_ret ⟨⟨t207, (show (1 : Int) ≤ x1 ∧ x1 ≤ 400 by constructor <;> omega), (show (1 : Int) ≤ x4 ∧ x4 ≤ 63 by constructor <;> omega), (show (0 : Int) ≤ (g32 (x5 + 2)) ∧ (g32 (x5 + 2)) ≤ 42 by have := g32_eq (v := (x5 + 2)) (by omega) (by omega); constructor <;> omega), (by first | assumption | omega | (dsimp only; omega)), (by first | assumption | omega | (dsimp only; omega)), (by first | assumption | omega | (dsimp only; omega)), hJ228⟩, by dsimp only; have := g32_eq (v := (x5 + 2)) (by omega) (by omega); omega⟩
                      · have := J_mt (k := ((g32 (x5 + 1)) : Int).toNat) hJ222 hJ222 t207
                        unfold fb_238_158
                        extract_lets -merge s6 s7
                        refine gT_ite (fun h229 => ?_) (fun h230 => ?_)
                        · refine gT_chk (by omega) (by omega) ?_
                          refine gT_bool (by omega) ?_
                          have hJ231 : J (p.1, p.2.1, 0, p.2.2.2.1, p.2.2.2.2) s6 := (J_wa hJ222 (T_f (i := 23) hJ214 t207 (by decide) rfl rfl) rfl)
                          exact gT_ret ⟨⟨t207, (show (1 : Int) ≤ x1 ∧ x1 ≤ 400 by constructor <;> omega), (show (1 : Int) ≤ x4 ∧ x4 ≤ 63 by constructor <;> omega), (show (0 : Int) ≤ (g32 (x5 + 2)) ∧ (g32 (x5 + 2)) ≤ 42 by have := g32_eq (v := (x5 + 2)) (by omega) (by omega); constructor <;> omega), (by first | assumption | omega | (dsimp only; omega)), (by first | assumption | omega | (dsimp only; omega)), (by first | assumption | omega | (dsimp only; omega)), hJ231⟩, by dsimp only; have := g32_eq (v := (x5 + 2)) (by omega) (by omega); omega⟩
                        · refine gT_chk (by omega) (by omega) ?_
                          refine gT_bool (by omega) ?_
                          have hJ232 : J (p.1, p.2.1, 0, p.2.2.2.1, p.2.2.2.2) s7 := (J_wa hJ222 (T_f (i := 23) hJ214 t207 (by decide) rfl rfl) rfl)
                          exact gT_ret ⟨⟨t207, (show (1 : Int) ≤ x1 ∧ x1 ≤ 400 by constructor <;> omega), (show (1 : Int) ≤ x4 ∧ x4 ≤ 63 by constructor <;> omega), (show (0 : Int) ≤ (g32 (x5 + 2)) ∧ (g32 (x5 + 2)) ≤ 42 by have := g32_eq (v := (x5 + 2)) (by omega) (by omega); constructor <;> omega), (by first | assumption | omega | (dsimp only; omega)), (by first | assumption | omega | (dsimp only; omega)), (by first | assumption | omega | (dsimp only; omega)), hJ232⟩, by dsimp only; have := g32_eq (v := (x5 + 2)) (by omega) (by omega); omega⟩
                  · refine gT_map ?_
                    unfold fb_238_173
                    refine gT_chk (by omega) (by omega) ?_
                    refine gT_ite (fun h233 => ?_) (fun h234 => ?_)
                    · exact gT_ret ⟨⟨t207, (show (1 : Int) ≤ x1 ∧ x1 ≤ 400 by constructor <;> omega), (show (1 : Int) ≤ (g32 (x4 + 1)) ∧ (g32 (x4 + 1)) ≤ 64 by have := g32_eq (v := (x4 + 1)) (by omega) (by omega); constructor <;> omega), (by first | assumption | omega | (dsimp only; omega)), hJ214⟩, by dsimp only; have := g32_eq (v := (x4 + 1)) (by omega) (by omega); omega⟩
                    · exact gT_ret ⟨⟨t207, (show (1 : Int) ≤ x1 ∧ x1 ≤ 400 by constructor <;> omega), (show (1 : Int) ≤ (g32 (x4 + 1)) ∧ (g32 (x4 + 1)) ≤ 64 by have := g32_eq (v := (x4 + 1)) (by omega) (by omega); constructor <;> omega), (by first | assumption | omega | (dsimp only; omega)), hJ214⟩, by dsimp only; have := g32_eq (v := (x4 + 1)) (by omega) (by omega); omega⟩
                · exact ⟨t199, (show (1 : Int) ≤ x1 ∧ x1 ≤ 400 by constructor <;> omega), (show (1 : Int) ≤ x4 ∧ x4 ≤ 63 by constructor <;> omega), (show (0 : Int) ≤ 0 ∧ 0 ≤ 42 by constructor <;> omega), rfl, rfl, rfl, hJ206⟩
              · refine gT_map ?_
                exact gT_ret ⟨rfl, trivial, hJ203⟩
            · exact ⟨t188, (show (1 : Int) ≤ x1 ∧ x1 ≤ 400 by constructor <;> omega), (show (1 : Int) ≤ 1 ∧ 1 ≤ 64 by constructor <;> omega), rfl, hJ192⟩
        · refine gT_chk (by omega) (by omega) ?_
          refine gT_ite (fun h235 => ?_) (fun h236 => ?_)
          · have := grem_eq (x := x3) (c := 2) (by constructor <;> omega) (by decide)
            unfold fb_238_61
            refine gT_ite (fun h237 => ?_) (fun h238 => ?_)
            · have := J_mt (k := (x3 : Int).toNat) hJ192 hJ192 t188
              have := J_m (k := 5) hJ192 hJ192 t188 rfl
              exact gT_ret ⟨⟨t188, (show (0 : Int) ≤ x1 ∧ x1 ≤ 400 by constructor <;> omega), (show (0 : Int) ≤ 1 ∧ 1 ≤ 0 by constructor <;> omega), (show (0 : Int) ≤ (g32 (x3 + 1)) ∧ (g32 (x3 + 1)) ≤ 400 by have := g32_eq (v := (x3 + 1)) (by omega) (by omega); constructor <;> omega), hJ192⟩, by dsimp only; have := g32_eq (v := (x3 + 1)) (by omega) (by omega); omega⟩
            · have := J_mt (k := (x3 : Int).toNat) hJ192 hJ192 t188
              have := J_m (k := 5) hJ192 hJ192 t188 rfl
              exact gT_ret ⟨⟨t188, (show (0 : Int) ≤ x1 ∧ x1 ≤ 400 by constructor <;> omega), (show (0 : Int) ≤ 0 ∧ 0 ≤ 0 by constructor <;> omega), (show (0 : Int) ≤ (g32 (x3 + 1)) ∧ (g32 (x3 + 1)) ≤ 400 by have := g32_eq (v := (x3 + 1)) (by omega) (by omega); constructor <;> omega), hJ192⟩, by dsimp only; have := g32_eq (v := (x3 + 1)) (by omega) (by omega); omega⟩
          · have := grem_eq (x := x3) (c := 2) (by constructor <;> omega) (by decide)
            unfold fb_238_61
            refine gT_ite (fun h239 => ?_) (fun h240 => ?_)
            · have := J_mt (k := (x3 : Int).toNat) hJ192 hJ192 t188
              exact gT_ret ⟨⟨t188, (show (0 : Int) ≤ x1 ∧ x1 ≤ 400 by constructor <;> omega), (show (0 : Int) ≤ 1 ∧ 1 ≤ 0 by constructor <;> omega), (show (0 : Int) ≤ (g32 (x3 + 1)) ∧ (g32 (x3 + 1)) ≤ 400 by have := g32_eq (v := (x3 + 1)) (by omega) (by omega); constructor <;> omega), hJ192⟩, by dsimp only; have := g32_eq (v := (x3 + 1)) (by omega) (by omega); omega⟩
            · have := J_mt (k := (x3 : Int).toNat) hJ192 hJ192 t188
              exact gT_ret ⟨⟨t188, (show (0 : Int) ≤ x1 ∧ x1 ≤ 400 by constructor <;> omega), (show (0 : Int) ≤ 0 ∧ 0 ≤ 0 by constructor <;> omega), (show (0 : Int) ≤ (g32 (x3 + 1)) ∧ (g32 (x3 + 1)) ≤ 400 by have := g32_eq (v := (x3 + 1)) (by omega) (by omega); constructor <;> omega), hJ192⟩, by dsimp only; have := g32_eq (v := (x3 + 1)) (by omega) (by omega); omega⟩
      · refine gT_map ?_
        unfold fb_238_76
        refine gT_ite (fun h241 => ?_) (fun h242 => ?_)
        · exact gT_ret ⟨rfl, trivial, hJ192⟩
        · refine gT_loop (fun y => T 12 y.1 ∧ (0 ≤ y.2.1 ∧ y.2.1 ≤ 400) ∧ (1 ≤ y.2.2.2.1 ∧ y.2.2.2.1 ≤ 64) ∧ y.2.1 = x1 ∧ J (p.1, p.2.1, 0, p.2.2.2.1, p.2.2.2.2) y.2.2.2.2) (fun y => (64 - y.2.2.2.1).toNat) (fun y hy => ?_) ?_
          · obtain ⟨x0, x1, x3, x4, s⟩ := y
            obtain ⟨t243, r244, r245, e246, hJ247⟩ := hy
            dsimp only at t243 r244 r245 e246 hJ247
            show gT (sb_238_87 x0 x1 x3 x4 s) _
            unfold sb_238_87
            extract_lets -merge s2
            refine gT_ite (fun h248 => ?_) (fun h249 => ?_)
            · refine gT_chk (by omega) (by omega) ?_
              refine gT_bool (by omega) ?_
              have hJ250 : J (p.1, p.2.1, 0, p.2.2.2.1, p.2.2.2.2) s2 := (J_wa hJ247 (T_f (i := 23) hJ247 t243 (by decide) rfl rfl) rfl)
              refine gT_loop (fun y => T 12 y.1 ∧ (0 ≤ y.2.1 ∧ y.2.1 ≤ 400) ∧ (1 ≤ y.2.2.2.1 ∧ y.2.2.2.1 ≤ 63) ∧ (0 ≤ y.2.2.2.2.1 ∧ y.2.2.2.2.1 ≤ 42) ∧ y.2.1 = x1 ∧ y.2.2.1 = x3 ∧ y.2.2.2.1 = x4 ∧ J (p.1, p.2.1, 0, p.2.2.2.1, p.2.2.2.2) y.2.2.2.2.2) (fun y => (42 - y.2.2.2.2.1).toNat) (fun y hy => ?_) ?_
              · obtain ⟨x0, x1, x3, x4, x5, s⟩ := y
                obtain ⟨t251, r252, r253, r254, e255, e256, e257, hJ258⟩ := hy
                dsimp only at t251 r252 r253 r254 e255 e256 e257 hJ258
                show gT (sb_238_105 x0 x1 x3 x4 x5 s) _
                unfold sb_238_105
                refine gT_ite (fun h259 => ?_) (fun h260 => ?_)
                · refine gT_chk (by omega) (by omega) ?_
                  refine gT_ite (fun h261 => ?_) (fun h262 => ?_)
                  · refine gT_map ?_
                    unfold fb_238_173
                    refine gT_chk (by omega) (by omega) ?_
                    refine gT_ite (fun h263 => ?_) (fun h264 => ?_)
                    · exact gT_ret ⟨⟨t251, (show (0 : Int) ≤ x1 ∧ x1 ≤ 400 by constructor <;> omega), (show (1 : Int) ≤ (g32 (x4 + 1)) ∧ (g32 (x4 + 1)) ≤ 64 by have := g32_eq (v := (x4 + 1)) (by omega) (by omega); constructor <;> omega), (by first | assumption | omega | (dsimp only; omega)), hJ258⟩, by dsimp only; have := g32_eq (v := (x4 + 1)) (by omega) (by omega); omega⟩
                    · exact gT_ret ⟨⟨t251, (show (0 : Int) ≤ x1 ∧ x1 ≤ 400 by constructor <;> omega), (show (1 : Int) ≤ (g32 (x4 + 1)) ∧ (g32 (x4 + 1)) ≤ 64 by have := g32_eq (v := (x4 + 1)) (by omega) (by omega); constructor <;> omega), (by first | assumption | omega | (dsimp only; omega)), hJ258⟩, by dsimp only; have := g32_eq (v := (x4 + 1)) (by omega) (by omega); omega⟩
                  · refine gT_chk (by omega) (by omega) ?_
                    refine gT_v1 (A := fun w9 u9 => (0 ≤ w9 ∧ w9 ≤ 1) ∧ J (p.1, p.2.1, 0, p.2.2.2.1, p.2.2.2.2) u9) (d_212 hp hJ258 t251 (show (0 : Int) ≤ (gI s (gR s x0 7) (x5 : Int).toNat) ∧ (gI s (gR s x0 7) (x5 : Int).toNat) ≤ 255 by have := J_mt (k := (x5 : Int).toNat) hJ258 hJ258 t251; constructor <;> omega)) (fun v4 s3 h265 => ?_)
                    obtain ⟨h265r, hJ266⟩ := h265
                    refine gT_chk (by have := g32_eq (v := (x5 + 1)) (by omega) (by omega); omega) (by have := g32_eq (v := (x5 + 1)) (by omega) (by omega); omega) ?_
                    refine gT_ite (fun h267 => ?_) (fun h268 => ?_)
                    · have := J_mt (k := ((g32 (x5 + 1)) : Int).toNat) hJ266 hJ266 t251
                      unfold fb_238_158
                      extract_lets -merge s6 s7
                      refine gT_ite (fun h269 => ?_) (fun h270 => ?_)
                      · refine gT_chk (by omega) (by omega) ?_
                        refine gT_bool (by omega) ?_
                        have hJ271 : J (p.1, p.2.1, 0, p.2.2.2.1, p.2.2.2.2) s6 := (J_wa hJ266 (T_f (i := 23) hJ258 t251 (by decide) rfl rfl) rfl)
                        exact gT_ret ⟨⟨t251, (show (0 : Int) ≤ x1 ∧ x1 ≤ 400 by constructor <;> omega), (show (1 : Int) ≤ x4 ∧ x4 ≤ 63 by constructor <;> omega), (show (0 : Int) ≤ (g32 (x5 + 2)) ∧ (g32 (x5 + 2)) ≤ 42 by have := g32_eq (v := (x5 + 2)) (by omega) (by omega); constructor <;> omega), (by first | assumption | omega | (dsimp only; omega)), (by first | assumption | omega | (dsimp only; omega)), (by first | assumption | omega | (dsimp only; omega)), hJ271⟩, by dsimp only; have := g32_eq (v := (x5 + 2)) (by omega) (by omega); omega⟩
                      · refine gT_chk (by omega) (by omega) ?_
                        refine gT_bool (by omega) ?_
                        have hJ272 : J (p.1, p.2.1, 0, p.2.2.2.1, p.2.2.2.2) s7 := (J_wa hJ266 (T_f (i := 23) hJ258 t251 (by decide) rfl rfl) rfl)
                        exact gT_ret ⟨⟨t251, (show (0 : Int) ≤ x1 ∧ x1 ≤ 400 by constructor <;> omega), (show (1 : Int) ≤ x4 ∧ x4 ≤ 63 by constructor <;> omega), (show (0 : Int) ≤ (g32 (x5 + 2)) ∧ (g32 (x5 + 2)) ≤ 42 by have := g32_eq (v := (x5 + 2)) (by omega) (by omega); constructor <;> omega), (by first | assumption | omega | (dsimp only; omega)), (by first | assumption | omega | (dsimp only; omega)), (by first | assumption | omega | (dsimp only; omega)), hJ272⟩, by dsimp only; have := g32_eq (v := (x5 + 2)) (by omega) (by omega); omega⟩
                    · have := J_mt (k := ((g32 (x5 + 1)) : Int).toNat) hJ266 hJ266 t251
                      unfold fb_238_158
                      extract_lets -merge s6 s7
                      refine gT_ite (fun h273 => ?_) (fun h274 => ?_)
                      · refine gT_chk (by omega) (by omega) ?_
                        refine gT_bool (by omega) ?_
                        have hJ275 : J (p.1, p.2.1, 0, p.2.2.2.1, p.2.2.2.2) s6 := (J_wa hJ266 (T_f (i := 23) hJ258 t251 (by decide) rfl rfl) rfl)
                        exact gT_ret ⟨⟨t251, (show (0 : Int) ≤ x1 ∧ x1 ≤ 400 by constructor <;> omega), (show (1 : Int) ≤ x4 ∧ x4 ≤ 63 by constructor <;> omega), (show (0 : Int) ≤ (g32 (x5 + 2)) ∧ (g32 (x5 + 2)) ≤ 42 by have := g32_eq (v := (x5 + 2)) (by omega) (by omega); constructor <;> omega), (by first | assumption | omega | (dsimp only; omega)), (by first | assumption | omega | (dsimp only; omega)), (by first | assumption | omega | (dsimp only; omega)), hJ275⟩, by dsimp only; have := g32_eq (v := (x5 + 2)) (by omega) (by omega); omega⟩
                      · refine gT_chk (by omega) (by omega) ?_
                        refine gT_bool (by omega) ?_
                        have hJ276 : J (p.1, p.2.1, 0, p.2.2.2.1, p.2.2.2.2) s7 := (J_wa hJ266 (T_f (i := 23) hJ258 t251 (by decide) rfl rfl) rfl)
                        exact gT_ret ⟨⟨t251, (show (0 : Int) ≤ x1 ∧ x1 ≤ 400 by constructor <;> omega), (show (1 : Int) ≤ x4 ∧ x4 ≤ 63 by constructor <;> omega), (show (0 : Int) ≤ (g32 (x5 + 2)) ∧ (g32 (x5 + 2)) ≤ 42 by have := g32_eq (v := (x5 + 2)) (by omega) (by omega); constructor <;> omega), (by first | assumption | omega | (dsimp only; omega)), (by first | assumption | omega | (dsimp only; omega)), (by first | assumption | omega | (dsimp only; omega)), hJ276⟩, by dsimp only; have := g32_eq (v := (x5 + 2)) (by omega) (by omega); omega⟩
                · refine gT_map ?_
                  unfold fb_238_173
                  refine gT_chk (by omega) (by omega) ?_
                  refine gT_ite (fun h277 => ?_) (fun h278 => ?_)
                  · exact gT_ret ⟨⟨t251, (show (0 : Int) ≤ x1 ∧ x1 ≤ 400 by constructor <;> omega), (show (1 : Int) ≤ (g32 (x4 + 1)) ∧ (g32 (x4 + 1)) ≤ 64 by have := g32_eq (v := (x4 + 1)) (by omega) (by omega); constructor <;> omega), (by first | assumption | omega | (dsimp only; omega)), hJ258⟩, by dsimp only; have := g32_eq (v := (x4 + 1)) (by omega) (by omega); omega⟩
                  · exact gT_ret ⟨⟨t251, (show (0 : Int) ≤ x1 ∧ x1 ≤ 400 by constructor <;> omega), (show (1 : Int) ≤ (g32 (x4 + 1)) ∧ (g32 (x4 + 1)) ≤ 64 by have := g32_eq (v := (x4 + 1)) (by omega) (by omega); constructor <;> omega), (by first | assumption | omega | (dsimp only; omega)), hJ258⟩, by dsimp only; have := g32_eq (v := (x4 + 1)) (by omega) (by omega); omega⟩
              · exact ⟨t243, (show (0 : Int) ≤ x1 ∧ x1 ≤ 400 by constructor <;> omega), (show (1 : Int) ≤ x4 ∧ x4 ≤ 63 by constructor <;> omega), (show (0 : Int) ≤ 0 ∧ 0 ≤ 42 by constructor <;> omega), rfl, rfl, rfl, hJ250⟩
            · refine gT_map ?_
              exact gT_ret ⟨rfl, trivial, hJ247⟩
          · exact ⟨t188, (show (0 : Int) ≤ x1 ∧ x1 ≤ 400 by constructor <;> omega), (show (1 : Int) ≤ 1 ∧ 1 ≤ 64 by constructor <;> omega), rfl, hJ192⟩
    · exact ⟨t0, (show (0 : Int) ≤ (gI s a0 8) ∧ (gI s a0 8) ≤ 400 by have := J_f (i := 8) h t0 rfl (by decide) rfl; constructor <;> omega), (show (0 : Int) ≤ 0 ∧ 0 ≤ 0 by constructor <;> omega), (show (0 : Int) ≤ 0 ∧ 0 ≤ 400 by constructor <;> omega), hJ1⟩
-- X12_seen
theorem d_239 {p : gP} {a0 : Nat} {a1 : Int} {s : gS} (hp : -1 ≤ p.1 ∧ p.1 ≤ 0) (h : J p s) (t0 : T 12 a0) (r1 : 0 ≤ a1 ∧ a1 ≤ 1) : gT (f_239 a0 a1 s) (fun r => r.1 = 1 ∧ True ∧ J (p.1, p.2.1, 0, p.2.2.2.1, p.2.2.2.2) r.2.2.2) := by
  unfold f_239
  refine gT_v1 (A := fun w9 u9 => True ∧ J (p.1, p.2.1, 0, p.2.2.2.1, p.2.2.2.2) u9) (d_238 hp h t0) (fun v2 s1 h1 => ?_)
  obtain ⟨h1r, hJ2⟩ := h1
  refine gT_ite (fun h3 => ?_) (fun h4 => ?_)
  · unfold fb_239_16
    extract_lets -merge s3
    have hJ5 : J (p.1, p.2.1, 0, p.2.2.2.1, p.2.2.2.2) s3 := (J_wf hJ2 t0 rfl (by decide) (by decide) (fun q hq => by cases hq))
    refine gT_ite (fun h6 => ?_) (fun h7 => ?_)
    · have := rd_same (show s3 = (gw s1 a0 0 1) from rfl)
      unfold fb_239_30
      refine gT_ite (fun h8 => ?_) (fun h9 => ?_)
      · have := rd_same (show s3 = (gw s1 a0 0 1) from rfl)
        exact gT_ret ⟨rfl, trivial, hJ5⟩
      · have := rd_same (show s3 = (gw s1 a0 0 1) from rfl)
        exact gT_ret ⟨rfl, trivial, hJ5⟩
    · have := rd_same (show s3 = (gw s1 a0 0 1) from rfl)
      refine gT_ite (fun h10 => ?_) (fun h11 => ?_)
      · unfold fb_239_30
        refine gT_ite (fun h12 => ?_) (fun h13 => ?_)
        · have := rd_same (show s3 = (gw s1 a0 0 1) from rfl)
          exact gT_ret ⟨rfl, trivial, hJ5⟩
        · have := rd_same (show s3 = (gw s1 a0 0 1) from rfl)
          exact gT_ret ⟨rfl, trivial, hJ5⟩
      · refine gT_ite (fun h14 => ?_) (fun h15 => ?_)
        · unfold fb_239_53
          refine gT_loop (fun y => T 12 y.1 ∧ (1 ≤ y.2.2.1 ∧ y.2.2.1 ≤ 64) ∧ J (p.1, p.2.1, 0, p.2.2.2.1, p.2.2.2.2) y.2.2.2) (fun y => (64 - y.2.2.1).toNat) (fun y hy => ?_) ?_
          · obtain ⟨x0, x3, x4, s⟩ := y
            obtain ⟨t16, r17, hJ18⟩ := hy
            dsimp only at t16 r17 hJ18
            show gT (sb_239_57 x0 x3 x4 s) _
            unfold sb_239_57
            refine gT_ite (fun h19 => ?_) (fun h20 => ?_)
            · refine gT_chk (by omega) (by omega) ?_
              refine gT_ite (fun h21 => ?_) (fun h22 => ?_)
              · exact gT_ret ⟨⟨t16, (show (1 : Int) ≤ (g32 (x4 + 1)) ∧ (g32 (x4 + 1)) ≤ 64 by have := g32_eq (v := (x4 + 1)) (by omega) (by omega); constructor <;> omega), hJ18⟩, by dsimp only; have := g32_eq (v := (x4 + 1)) (by omega) (by omega); omega⟩
              · exact gT_ret ⟨⟨t16, (show (1 : Int) ≤ (g32 (x4 + 1)) ∧ (g32 (x4 + 1)) ≤ 64 by have := g32_eq (v := (x4 + 1)) (by omega) (by omega); constructor <;> omega), hJ18⟩, by dsimp only; have := g32_eq (v := (x4 + 1)) (by omega) (by omega); omega⟩
            · refine gT_map ?_
              exact gT_ret ⟨rfl, trivial, hJ18⟩
          · exact ⟨t0, (show (1 : Int) ≤ 1 ∧ 1 ≤ 64 by constructor <;> omega), hJ5⟩
        · unfold fb_239_53
          refine gT_loop (fun y => T 12 y.1 ∧ (1 ≤ y.2.2.1 ∧ y.2.2.1 ≤ 64) ∧ J (p.1, p.2.1, 0, p.2.2.2.1, p.2.2.2.2) y.2.2.2) (fun y => (64 - y.2.2.1).toNat) (fun y hy => ?_) ?_
          · obtain ⟨x0, x3, x4, s⟩ := y
            obtain ⟨t23, r24, hJ25⟩ := hy
            dsimp only at t23 r24 hJ25
            show gT (sb_239_57 x0 x3 x4 s) _
            unfold sb_239_57
            refine gT_ite (fun h26 => ?_) (fun h27 => ?_)
            · refine gT_chk (by omega) (by omega) ?_
              refine gT_ite (fun h28 => ?_) (fun h29 => ?_)
              · exact gT_ret ⟨⟨t23, (show (1 : Int) ≤ (g32 (x4 + 1)) ∧ (g32 (x4 + 1)) ≤ 64 by have := g32_eq (v := (x4 + 1)) (by omega) (by omega); constructor <;> omega), hJ25⟩, by dsimp only; have := g32_eq (v := (x4 + 1)) (by omega) (by omega); omega⟩
              · exact gT_ret ⟨⟨t23, (show (1 : Int) ≤ (g32 (x4 + 1)) ∧ (g32 (x4 + 1)) ≤ 64 by have := g32_eq (v := (x4 + 1)) (by omega) (by omega); constructor <;> omega), hJ25⟩, by dsimp only; have := g32_eq (v := (x4 + 1)) (by omega) (by omega); omega⟩
            · refine gT_map ?_
              exact gT_ret ⟨rfl, trivial, hJ25⟩
          · exact ⟨t0, (show (1 : Int) ≤ 1 ∧ 1 ≤ 64 by constructor <;> omega), hJ5⟩
  · unfold fb_239_16
    extract_lets -merge s3
    have hJ30 : J (p.1, p.2.1, 0, p.2.2.2.1, p.2.2.2.2) s3 := (J_wf hJ2 t0 rfl (by decide) (by decide) (fun q hq => by cases hq))
    refine gT_ite (fun h31 => ?_) (fun h32 => ?_)
    · have := rd_same (show s3 = (gw s1 a0 0 0) from rfl)
      unfold fb_239_30
      refine gT_ite (fun h33 => ?_) (fun h34 => ?_)
      · have := rd_same (show s3 = (gw s1 a0 0 0) from rfl)
        exact gT_ret ⟨rfl, trivial, hJ30⟩
      · have := rd_same (show s3 = (gw s1 a0 0 0) from rfl)
        exact gT_ret ⟨rfl, trivial, hJ30⟩
    · have := rd_same (show s3 = (gw s1 a0 0 0) from rfl)
      refine gT_ite (fun h35 => ?_) (fun h36 => ?_)
      · unfold fb_239_30
        refine gT_ite (fun h37 => ?_) (fun h38 => ?_)
        · have := rd_same (show s3 = (gw s1 a0 0 0) from rfl)
          exact gT_ret ⟨rfl, trivial, hJ30⟩
        · have := rd_same (show s3 = (gw s1 a0 0 0) from rfl)
          exact gT_ret ⟨rfl, trivial, hJ30⟩
      · refine gT_ite (fun h39 => ?_) (fun h40 => ?_)
        · unfold fb_239_53
          refine gT_loop (fun y => T 12 y.1 ∧ (1 ≤ y.2.2.1 ∧ y.2.2.1 ≤ 64) ∧ J (p.1, p.2.1, 0, p.2.2.2.1, p.2.2.2.2) y.2.2.2) (fun y => (64 - y.2.2.1).toNat) (fun y hy => ?_) ?_
          · obtain ⟨x0, x3, x4, s⟩ := y
            obtain ⟨t41, r42, hJ43⟩ := hy
            dsimp only at t41 r42 hJ43
            show gT (sb_239_57 x0 x3 x4 s) _
            unfold sb_239_57
            refine gT_ite (fun h44 => ?_) (fun h45 => ?_)
            · refine gT_chk (by omega) (by omega) ?_
              refine gT_ite (fun h46 => ?_) (fun h47 => ?_)
              · exact gT_ret ⟨⟨t41, (show (1 : Int) ≤ (g32 (x4 + 1)) ∧ (g32 (x4 + 1)) ≤ 64 by have := g32_eq (v := (x4 + 1)) (by omega) (by omega); constructor <;> omega), hJ43⟩, by dsimp only; have := g32_eq (v := (x4 + 1)) (by omega) (by omega); omega⟩
              · exact gT_ret ⟨⟨t41, (show (1 : Int) ≤ (g32 (x4 + 1)) ∧ (g32 (x4 + 1)) ≤ 64 by have := g32_eq (v := (x4 + 1)) (by omega) (by omega); constructor <;> omega), hJ43⟩, by dsimp only; have := g32_eq (v := (x4 + 1)) (by omega) (by omega); omega⟩
            · refine gT_map ?_
              exact gT_ret ⟨rfl, trivial, hJ43⟩
          · exact ⟨t0, (show (1 : Int) ≤ 1 ∧ 1 ≤ 64 by constructor <;> omega), hJ30⟩
        · unfold fb_239_53
          refine gT_loop (fun y => T 12 y.1 ∧ (1 ≤ y.2.2.1 ∧ y.2.2.1 ≤ 64) ∧ J (p.1, p.2.1, 0, p.2.2.2.1, p.2.2.2.2) y.2.2.2) (fun y => (64 - y.2.2.1).toNat) (fun y hy => ?_) ?_
          · obtain ⟨x0, x3, x4, s⟩ := y
            obtain ⟨t48, r49, hJ50⟩ := hy
            dsimp only at t48 r49 hJ50
            show gT (sb_239_57 x0 x3 x4 s) _
            unfold sb_239_57
            refine gT_ite (fun h51 => ?_) (fun h52 => ?_)
            · refine gT_chk (by omega) (by omega) ?_
              refine gT_ite (fun h53 => ?_) (fun h54 => ?_)
              · exact gT_ret ⟨⟨t48, (show (1 : Int) ≤ (g32 (x4 + 1)) ∧ (g32 (x4 + 1)) ≤ 64 by have := g32_eq (v := (x4 + 1)) (by omega) (by omega); constructor <;> omega), hJ50⟩, by dsimp only; have := g32_eq (v := (x4 + 1)) (by omega) (by omega); omega⟩
              · exact gT_ret ⟨⟨t48, (show (1 : Int) ≤ (g32 (x4 + 1)) ∧ (g32 (x4 + 1)) ≤ 64 by have := g32_eq (v := (x4 + 1)) (by omega) (by omega); constructor <;> omega), hJ50⟩, by dsimp only; have := g32_eq (v := (x4 + 1)) (by omega) (by omega); omega⟩
            · refine gT_map ?_
              exact gT_ret ⟨rfl, trivial, hJ50⟩
          · exact ⟨t0, (show (1 : Int) ≤ 1 ∧ 1 ≤ 64 by constructor <;> omega), hJ30⟩
-- X12_ask
theorem d_240 {p : gP} {a0 : Nat} {s : gS} (hp : -1 ≤ p.1 ∧ p.1 ≤ 0) (h : J p s) (t0 : T 12 a0) : gT (f_240 a0 s) (fun r => r.1 = 1 ∧ True ∧ J (p.1, p.2.1, 0, p.2.2.2.1, p.2.2.2.2) r.2.2.2) := by
  unfold f_240
  refine gT_v1 (A := fun w9 u9 => True ∧ J (p.1, p.2.1, 0, p.2.2.2.1, p.2.2.2.2) u9) (d_238 hp h t0) (fun v2 s1 h1 => ?_)
  obtain ⟨h1r, hJ2⟩ := h1
  refine gT_ite (fun h3 => ?_) (fun h4 => ?_)
  · unfold fb_240_16
    extract_lets -merge s3
    have hJ5 : J (p.1, p.2.1, 0, p.2.2.2.1, p.2.2.2.2) s3 := (J_wf hJ2 t0 rfl (by decide) (by decide) (fun q hq => by cases hq))
    refine gT_ite (fun h6 => ?_) (fun h7 => ?_)
    · have := rd_same (show s3 = (gw s1 a0 0 1) from rfl)
      exact gT_ret ⟨rfl, trivial, hJ5⟩
    · have := rd_same (show s3 = (gw s1 a0 0 1) from rfl)
      refine gT_loop (fun y => T 12 y.1 ∧ (-1 ≤ y.2.1 ∧ y.2.1 ≤ -1) ∧ (0 ≤ y.2.2.2.2.1 ∧ y.2.2.2.2.1 ≤ 6) ∧ y.2.1 = v2 ∧ J (p.1, p.2.1, 0, p.2.2.2.1, p.2.2.2.2) y.2.2.2.2.2) (fun y => (6 - y.2.2.2.2.1).toNat) (fun y hy => ?_) ?_
      · obtain ⟨x0, x1, x2, x3, x4, s⟩ := y
        obtain ⟨t8, r9, r10, e11, hJ12⟩ := hy
        dsimp only at t8 r9 r10 e11 hJ12
        show gT (sb_240_37 x0 x1 x2 x3 x4 s) _
        unfold sb_240_37
        refine gT_ite (fun h13 => ?_) (fun h14 => ?_)
        · have := J_m (k := 5) hJ12 hJ12 t8 rfl
          refine gT_ite (fun h15 => ?_) (fun h16 => ?_)
          · refine gT_loop (fun y => T 12 y.1 ∧ (2 ≤ y.2.1 ∧ y.2.1 ≤ -1) ∧ (0 ≤ y.2.2.2.2.1 ∧ y.2.2.2.2.1 ≤ 5) ∧ (1 ≤ y.2.2.2.2.2.2.1 ∧ y.2.2.2.2.2.2.1 ≤ 64) ∧ y.2.1 = x1 ∧ y.2.2.1 = x2 ∧ y.2.2.2.1 = x3 ∧ y.2.2.2.2.1 = x4 ∧ J (p.1, p.2.1, 0, p.2.2.2.1, p.2.2.2.2) y.2.2.2.2.2.2.2) (fun y => (64 - y.2.2.2.2.2.2.1).toNat) (fun y hy => ?_) ?_
            · obtain ⟨x0, x1, x2, x3, x4, x5, x6, s⟩ := y
              obtain ⟨t17, r18, r19, r20, e21, e22, e23, e24, hJ25⟩ := hy
              dsimp only at t17 r18 r19 r20 e21 e22 e23 e24 hJ25
              show gT (sb_240_59 x0 x1 x2 x3 x4 x5 x6 s) _
              unfold sb_240_59
              refine gT_ite (fun h26 => ?_) (fun h27 => ?_)
              · refine gT_chk (by omega) (by omega) ?_
                refine gT_ite (fun h28 => ?_) (fun h29 => ?_)
                · unfold fb_240_93
                  exact gT_ret ⟨⟨t17, (show (2 : Int) ≤ x1 ∧ x1 ≤ -1 by constructor <;> omega), (show (0 : Int) ≤ x4 ∧ x4 ≤ 5 by constructor <;> omega), (show (1 : Int) ≤ (g32 (x6 + 1)) ∧ (g32 (x6 + 1)) ≤ 64 by have := g32_eq (v := (x6 + 1)) (by omega) (by omega); constructor <;> omega), (by first | assumption | omega | (dsimp only; omega)), (by first | assumption | omega | (dsimp only; omega)), (by first | assumption | omega | (dsimp only; omega)), (by first | assumption | omega | (dsimp only; omega)), hJ25⟩, by dsimp only; have := g32_eq (v := (x6 + 1)) (by omega) (by omega); omega⟩
                · refine gT_v1 (A := fun w9 u9 => (0 ≤ w9 ∧ w9 ≤ 1) ∧ J (p.1, p.2.1, 0, p.2.2.2.1, p.2.2.2.2) u9) (d_212 hp hJ25 t17 (show (0 : Int) ≤ x4 ∧ x4 ≤ 255 by constructor <;> omega)) (fun v5 s4 h30 => ?_)
                  obtain ⟨h30r, hJ31⟩ := h30
                  refine gT_ite (fun h32 => ?_) (fun h33 => ?_)
                  · unfold fb_240_93
                    exact gT_ret ⟨⟨t17, (show (2 : Int) ≤ x1 ∧ x1 ≤ -1 by constructor <;> omega), (show (0 : Int) ≤ x4 ∧ x4 ≤ 5 by constructor <;> omega), (show (1 : Int) ≤ (g32 (x6 + 1)) ∧ (g32 (x6 + 1)) ≤ 64 by have := g32_eq (v := (x6 + 1)) (by omega) (by omega); constructor <;> omega), (by first | assumption | omega | (dsimp only; omega)), (by first | assumption | omega | (dsimp only; omega)), (by first | assumption | omega | (dsimp only; omega)), (by first | assumption | omega | (dsimp only; omega)), hJ31⟩, by dsimp only; have := g32_eq (v := (x6 + 1)) (by omega) (by omega); omega⟩
                  · exact gT_ret ⟨⟨t17, (show (2 : Int) ≤ x1 ∧ x1 ≤ -1 by constructor <;> omega), (show (0 : Int) ≤ x4 ∧ x4 ≤ 5 by constructor <;> omega), (show (1 : Int) ≤ (g32 (x6 + 1)) ∧ (g32 (x6 + 1)) ≤ 64 by have := g32_eq (v := (x6 + 1)) (by omega) (by omega); constructor <;> omega), (by first | assumption | omega | (dsimp only; omega)), (by first | assumption | omega | (dsimp only; omega)), (by first | assumption | omega | (dsimp only; omega)), (by first | assumption | omega | (dsimp only; omega)), hJ31⟩, by dsimp only; have := g32_eq (v := (x6 + 1)) (by omega) (by omega); omega⟩
              · refine gT_map ?_
                refine gT_v1 (A := fun w9 u9 => (x5 ≤ w9 ∧ (g32 (x1 - x5)) ≤ w9 ∧ (w9 = x5 ∨ w9 = (g32 (x1 - x5)))) ∧ True ∧ J (p.1, p.2.1, 0, p.2.2.2.1, p.2.2.2.2) u9) (d_152 hp hJ25) (fun v8 s7 h34 => ?_)
                obtain ⟨h34e, h34r, hJ35⟩ := h34
                refine gT_ite (fun h36 => ?_) (fun h37 => ?_)
                · refine gT_v1 (A := fun w9 u9 => (x5 ≤ w9 ∧ (g32 (x1 - x5)) ≤ w9 ∧ (w9 = x5 ∨ w9 = (g32 (x1 - x5)))) ∧ True ∧ J (p.1, p.2.1, 0, p.2.2.2.1, p.2.2.2.2) u9) (d_152 hp hJ35) (fun v10 s9 h38 => ?_)
                  obtain ⟨h38e, h38r, hJ39⟩ := h38
                  exact gT_ret ⟨⟨t17, (show (-1 : Int) ≤ x1 ∧ x1 ≤ -1 by constructor <;> omega), (show (0 : Int) ≤ (g32 (x4 + 1)) ∧ (g32 (x4 + 1)) ≤ 6 by have := g32_eq (v := (x4 + 1)) (by omega) (by omega); constructor <;> omega), (by first | assumption | omega | (dsimp only; omega)), hJ39⟩, by dsimp only; have := g32_eq (v := (x4 + 1)) (by omega) (by omega); omega⟩
                · exact gT_ret ⟨⟨t17, (show (-1 : Int) ≤ x1 ∧ x1 ≤ -1 by constructor <;> omega), (show (0 : Int) ≤ (g32 (x4 + 1)) ∧ (g32 (x4 + 1)) ≤ 6 by have := g32_eq (v := (x4 + 1)) (by omega) (by omega); constructor <;> omega), (by first | assumption | omega | (dsimp only; omega)), hJ35⟩, by dsimp only; have := g32_eq (v := (x4 + 1)) (by omega) (by omega); omega⟩
            · exact ⟨t8, (show (2 : Int) ≤ x1 ∧ x1 ≤ -1 by constructor <;> omega), (show (0 : Int) ≤ x4 ∧ x4 ≤ 5 by constructor <;> omega), (show (1 : Int) ≤ 1 ∧ 1 ≤ 64 by constructor <;> omega), rfl, rfl, rfl, rfl, hJ12⟩
          · refine gT_map ?_
            exact gT_ret ⟨rfl, trivial, hJ12⟩
        · have := J_m (k := 5) hJ12 hJ12 t8 rfl
          refine gT_map ?_
          exact gT_ret ⟨rfl, trivial, hJ12⟩
      · exact ⟨t0, (show (-1 : Int) ≤ v2 ∧ v2 ≤ -1 by constructor <;> omega), (show (0 : Int) ≤ 0 ∧ 0 ≤ 6 by constructor <;> omega), rfl, hJ5⟩
  · unfold fb_240_16
    extract_lets -merge s3
    have hJ40 : J (p.1, p.2.1, 0, p.2.2.2.1, p.2.2.2.2) s3 := (J_wf hJ2 t0 rfl (by decide) (by decide) (fun q hq => by cases hq))
    refine gT_ite (fun h41 => ?_) (fun h42 => ?_)
    · have := rd_same (show s3 = (gw s1 a0 0 0) from rfl)
      exact gT_ret ⟨rfl, trivial, hJ40⟩
    · have := rd_same (show s3 = (gw s1 a0 0 0) from rfl)
      refine gT_loop (fun y => T 12 y.1 ∧ (0 ≤ y.2.2.2.2.1 ∧ y.2.2.2.2.1 ≤ 6) ∧ y.2.1 = v2 ∧ J (p.1, p.2.1, 0, p.2.2.2.1, p.2.2.2.2) y.2.2.2.2.2) (fun y => (6 - y.2.2.2.2.1).toNat) (fun y hy => ?_) ?_
      · obtain ⟨x0, x1, x2, x3, x4, s⟩ := y
        obtain ⟨t43, r44, e45, hJ46⟩ := hy
        dsimp only at t43 r44 e45 hJ46
        show gT (sb_240_37 x0 x1 x2 x3 x4 s) _
        unfold sb_240_37
        refine gT_ite (fun h47 => ?_) (fun h48 => ?_)
        · have := J_m (k := 5) hJ46 hJ46 t43 rfl
          refine gT_ite (fun h49 => ?_) (fun h50 => ?_)
          · refine gT_loop (fun y => T 12 y.1 ∧ (0 ≤ y.2.2.2.2.1 ∧ y.2.2.2.2.1 ≤ 5) ∧ (1 ≤ y.2.2.2.2.2.2.1 ∧ y.2.2.2.2.2.2.1 ≤ 64) ∧ y.2.1 = x1 ∧ y.2.2.1 = x2 ∧ y.2.2.2.1 = x3 ∧ y.2.2.2.2.1 = x4 ∧ J (p.1, p.2.1, 0, p.2.2.2.1, p.2.2.2.2) y.2.2.2.2.2.2.2) (fun y => (64 - y.2.2.2.2.2.2.1).toNat) (fun y hy => ?_) ?_
            · obtain ⟨x0, x1, x2, x3, x4, x5, x6, s⟩ := y
              obtain ⟨t51, r52, r53, e54, e55, e56, e57, hJ58⟩ := hy
              dsimp only at t51 r52 r53 e54 e55 e56 e57 hJ58
              show gT (sb_240_59 x0 x1 x2 x3 x4 x5 x6 s) _
              unfold sb_240_59
              refine gT_ite (fun h59 => ?_) (fun h60 => ?_)
              · refine gT_chk (by omega) (by omega) ?_
                refine gT_ite (fun h61 => ?_) (fun h62 => ?_)
                · unfold fb_240_93
                  exact gT_ret ⟨⟨t51, (show (0 : Int) ≤ x4 ∧ x4 ≤ 5 by constructor <;> omega), (show (1 : Int) ≤ (g32 (x6 + 1)) ∧ (g32 (x6 + 1)) ≤ 64 by have := g32_eq (v := (x6 + 1)) (by omega) (by omega); constructor <;> omega), (by first | assumption | omega | (dsimp only; omega)), (by first | assumption | omega | (dsimp only; omega)), (by first | assumption | omega | (dsimp only; omega)), (by first | assumption | omega | (dsimp only; omega)), hJ58⟩, by dsimp only; have := g32_eq (v := (x6 + 1)) (by omega) (by omega); omega⟩
                · refine gT_v1 (A := fun w9 u9 => (0 ≤ w9 ∧ w9 ≤ 1) ∧ J (p.1, p.2.1, 0, p.2.2.2.1, p.2.2.2.2) u9) (d_212 hp hJ58 t51 (show (0 : Int) ≤ x4 ∧ x4 ≤ 255 by constructor <;> omega)) (fun v5 s4 h63 => ?_)
                  obtain ⟨h63r, hJ64⟩ := h63
                  refine gT_ite (fun h65 => ?_) (fun h66 => ?_)
                  · unfold fb_240_93
                    exact gT_ret ⟨⟨t51, (show (0 : Int) ≤ x4 ∧ x4 ≤ 5 by constructor <;> omega), (show (1 : Int) ≤ (g32 (x6 + 1)) ∧ (g32 (x6 + 1)) ≤ 64 by have := g32_eq (v := (x6 + 1)) (by omega) (by omega); constructor <;> omega), (by first | assumption | omega | (dsimp only; omega)), (by first | assumption | omega | (dsimp only; omega)), (by first | assumption | omega | (dsimp only; omega)), (by first | assumption | omega | (dsimp only; omega)), hJ64⟩, by dsimp only; have := g32_eq (v := (x6 + 1)) (by omega) (by omega); omega⟩
                  · exact gT_ret ⟨⟨t51, (show (0 : Int) ≤ x4 ∧ x4 ≤ 5 by constructor <;> omega), (show (1 : Int) ≤ (g32 (x6 + 1)) ∧ (g32 (x6 + 1)) ≤ 64 by have := g32_eq (v := (x6 + 1)) (by omega) (by omega); constructor <;> omega), (by first | assumption | omega | (dsimp only; omega)), (by first | assumption | omega | (dsimp only; omega)), (by first | assumption | omega | (dsimp only; omega)), (by first | assumption | omega | (dsimp only; omega)), hJ64⟩, by dsimp only; have := g32_eq (v := (x6 + 1)) (by omega) (by omega); omega⟩
              · refine gT_map ?_
                refine gT_v1 (A := fun w9 u9 => (x5 ≤ w9 ∧ (g32 (x1 - x5)) ≤ w9 ∧ (w9 = x5 ∨ w9 = (g32 (x1 - x5)))) ∧ True ∧ J (p.1, p.2.1, 0, p.2.2.2.1, p.2.2.2.2) u9) (d_152 hp hJ58) (fun v8 s7 h67 => ?_)
                obtain ⟨h67e, h67r, hJ68⟩ := h67
                refine gT_ite (fun h69 => ?_) (fun h70 => ?_)
                · refine gT_v1 (A := fun w9 u9 => (x5 ≤ w9 ∧ (g32 (x1 - x5)) ≤ w9 ∧ (w9 = x5 ∨ w9 = (g32 (x1 - x5)))) ∧ True ∧ J (p.1, p.2.1, 0, p.2.2.2.1, p.2.2.2.2) u9) (d_152 hp hJ68) (fun v10 s9 h71 => ?_)
                  obtain ⟨h71e, h71r, hJ72⟩ := h71
                  exact gT_ret ⟨⟨t51, (show (0 : Int) ≤ (g32 (x4 + 1)) ∧ (g32 (x4 + 1)) ≤ 6 by have := g32_eq (v := (x4 + 1)) (by omega) (by omega); constructor <;> omega), (by first | assumption | omega | (dsimp only; omega)), hJ72⟩, by dsimp only; have := g32_eq (v := (x4 + 1)) (by omega) (by omega); omega⟩
                · exact gT_ret ⟨⟨t51, (show (0 : Int) ≤ (g32 (x4 + 1)) ∧ (g32 (x4 + 1)) ≤ 6 by have := g32_eq (v := (x4 + 1)) (by omega) (by omega); constructor <;> omega), (by first | assumption | omega | (dsimp only; omega)), hJ68⟩, by dsimp only; have := g32_eq (v := (x4 + 1)) (by omega) (by omega); omega⟩
            · exact ⟨t43, (show (0 : Int) ≤ x4 ∧ x4 ≤ 5 by constructor <;> omega), (show (1 : Int) ≤ 1 ∧ 1 ≤ 64 by constructor <;> omega), rfl, rfl, rfl, rfl, hJ46⟩
          · refine gT_map ?_
            exact gT_ret ⟨rfl, trivial, hJ46⟩
        · have := J_m (k := 5) hJ46 hJ46 t43 rfl
          refine gT_map ?_
          exact gT_ret ⟨rfl, trivial, hJ46⟩
      · exact ⟨t0, (show (0 : Int) ≤ 0 ∧ 0 ≤ 6 by constructor <;> omega), rfl, hJ40⟩
-- X12_princePays
theorem d_241 {p : gP} {a0 : Nat} {a1 : Int} {a2 : Int} {a3 : Int} {a4 : Int} {s : gS} (hp : -1 ≤ p.1 ∧ p.1 ≤ 0) (h : J p s) (t0 : T 12 a0) (r1 : 0 ≤ a1 ∧ a1 ≤ 5) (r2 : 0 ≤ a2 ∧ a2 ≤ 5) : gT (f_241 a0 a1 a2 a3 a4 s) (fun r => r.1 = 1 ∧ True ∧ J p r.2.2.2) := by
  unfold f_241
  refine gT_ite (fun h1 => ?_) (fun h2 => ?_)
  · refine gT_v1 (A := fun w9 u9 => True ∧ J p u9) (d_158 hp h t0 (show (0 : Int) ≤ a2 ∧ a2 ≤ 255 by constructor <;> omega)) (fun v2 s1 h3 => ?_)
    obtain ⟨h3r, hJ4⟩ := h3
    unfold fb_241_13
    refine gT_ite (fun h5 => ?_) (fun h6 => ?_)
    · refine gT_ite (fun h7 => ?_) (fun h8 => ?_)
      · unfold fb_241_44
        refine gT_ite (fun h9 => ?_) (fun h10 => ?_)
        · exact gT_ret ⟨rfl, trivial, hJ4⟩
        · exact gT_ret ⟨rfl, trivial, hJ4⟩
      · refine gT_v1 (A := fun w9 u9 => True ∧ J p u9) (d_156 hp hJ4 t0 (show (0 : Int) ≤ a1 ∧ a1 ≤ 5 by constructor <;> omega) (show (0 : Int) ≤ 2 ∧ 2 ≤ 5 by constructor <;> omega)) (fun v4 s3 h11 => ?_)
        obtain ⟨h11r, hJ12⟩ := h11
        refine gT_v1 (A := fun w9 u9 => (0 ≤ w9 ∧ w9 ≤ 1) ∧ J p u9) (d_212 hp hJ12 t0 (show (0 : Int) ≤ a2 ∧ a2 ≤ 255 by constructor <;> omega)) (fun v6 s5 h13 => ?_)
        obtain ⟨h13r, hJ14⟩ := h13
        refine gT_ite (fun h15 => ?_) (fun h16 => ?_)
        · unfold fb_241_44
          refine gT_ite (fun h17 => ?_) (fun h18 => ?_)
          · exact gT_ret ⟨rfl, trivial, hJ14⟩
          · exact gT_ret ⟨rfl, trivial, hJ14⟩
        · unfold fb_241_43
          unfold fb_241_44
          refine gT_ite (fun h19 => ?_) (fun h20 => ?_)
          · exact gT_ret ⟨rfl, trivial, hJ14⟩
          · exact gT_ret ⟨rfl, trivial, hJ14⟩
    · unfold fb_241_43
      unfold fb_241_44
      refine gT_ite (fun h21 => ?_) (fun h22 => ?_)
      · exact gT_ret ⟨rfl, trivial, hJ4⟩
      · exact gT_ret ⟨rfl, trivial, hJ4⟩
  · unfold fb_241_13
    refine gT_ite (fun h23 => ?_) (fun h24 => ?_)
    · refine gT_ite (fun h25 => ?_) (fun h26 => ?_)
      · unfold fb_241_44
        refine gT_ite (fun h27 => ?_) (fun h28 => ?_)
        · exact gT_ret ⟨rfl, trivial, h⟩
        · exact gT_ret ⟨rfl, trivial, h⟩
      · refine gT_v1 (A := fun w9 u9 => True ∧ J p u9) (d_156 hp h t0 (show (0 : Int) ≤ a1 ∧ a1 ≤ 5 by constructor <;> omega) (show (0 : Int) ≤ 2 ∧ 2 ≤ 5 by constructor <;> omega)) (fun v4 s3 h29 => ?_)
        obtain ⟨h29r, hJ30⟩ := h29
        refine gT_v1 (A := fun w9 u9 => (0 ≤ w9 ∧ w9 ≤ 1) ∧ J p u9) (d_212 hp hJ30 t0 (show (0 : Int) ≤ a2 ∧ a2 ≤ 255 by constructor <;> omega)) (fun v6 s5 h31 => ?_)
        obtain ⟨h31r, hJ32⟩ := h31
        refine gT_ite (fun h33 => ?_) (fun h34 => ?_)
        · unfold fb_241_44
          refine gT_ite (fun h35 => ?_) (fun h36 => ?_)
          · exact gT_ret ⟨rfl, trivial, hJ32⟩
          · exact gT_ret ⟨rfl, trivial, hJ32⟩
        · unfold fb_241_43
          unfold fb_241_44
          refine gT_ite (fun h37 => ?_) (fun h38 => ?_)
          · exact gT_ret ⟨rfl, trivial, hJ32⟩
          · exact gT_ret ⟨rfl, trivial, hJ32⟩
    · unfold fb_241_43
      unfold fb_241_44
      refine gT_ite (fun h39 => ?_) (fun h40 => ?_)
      · exact gT_ret ⟨rfl, trivial, h⟩
      · exact gT_ret ⟨rfl, trivial, h⟩
-- X12_manHas
theorem d_242 {p : gP} {a0 : Nat} {a1 : Int} {a2 : Int} {a3 : Int} {a4 : Int} {s : gS} (hp : -1 ≤ p.1 ∧ p.1 ≤ 0) (h : J p s) (t0 : T 12 a0) (r1 : 0 ≤ a1 ∧ a1 ≤ 5) (r2 : 0 ≤ a2 ∧ a2 ≤ 5) : gT (f_242 a0 a1 a2 a3 a4 s) (fun r => r.1 = 1 ∧ True ∧ J p r.2.2.2) := by
  unfold f_242
  refine gT_ite (fun h1 => ?_) (fun h2 => ?_)
  · exact gT_ret ⟨rfl, trivial, h⟩
  · refine gT_ite (fun h3 => ?_) (fun h4 => ?_)
    · refine gT_v1 (A := fun w9 u9 => True ∧ J p u9) (d_156 hp h t0 (show (0 : Int) ≤ a1 ∧ a1 ≤ 5 by constructor <;> omega) (show (0 : Int) ≤ 2 ∧ 2 ≤ 5 by constructor <;> omega)) (fun v2 s1 h5 => ?_)
      obtain ⟨h5r, hJ6⟩ := h5
      refine gT_v1 (A := fun w9 u9 => (0 ≤ w9 ∧ w9 ≤ 1) ∧ J p u9) (d_212 hp hJ6 t0 (show (0 : Int) ≤ a2 ∧ a2 ≤ 255 by constructor <;> omega)) (fun v4 s3 h7 => ?_)
      obtain ⟨h7r, hJ8⟩ := h7
      refine gT_ite (fun h9 => ?_) (fun h10 => ?_)
      · unfold fb_242_37
        exact gT_ret ⟨rfl, trivial, hJ8⟩
      · refine gT_v1 (A := fun w9 u9 => True ∧ J p u9) (d_156 hp hJ8 t0 (show (0 : Int) ≤ a1 ∧ a1 ≤ 5 by constructor <;> omega) (show (0 : Int) ≤ 0 ∧ 0 ≤ 5 by constructor <;> omega)) (fun v7 s6 h11 => ?_)
        obtain ⟨h11r, hJ12⟩ := h11
        exact gT_ret ⟨rfl, trivial, hJ12⟩
    · unfold fb_242_37
      exact gT_ret ⟨rfl, trivial, h⟩
-- X12_bids
theorem d_245 {p : gP} {a0 : Nat} {a1 : Int} {s : gS} (hp : -1 ≤ p.1 ∧ p.1 ≤ 0) (h : J p s) (t0 : T 12 a0) (r1 : 0 ≤ a1 ∧ a1 ≤ 1) : gT (f_245 a0 a1 s) (fun r => r.1 = 1 ∧ True ∧ J p r.2.2.2) := by
  unfold f_245
  extract_lets -merge s1
  have hJ1 : J p s1 := (J_wf h t0 rfl (by decide) (by decide) (fun q hq => by cases hq))
  refine gT_loop (fun y => T 12 y.1 ∧ (0 ≤ y.2.1 ∧ y.2.1 ≤ 1) ∧ (-1 ≤ y.2.2.1 ∧ y.2.2.1 ≤ 5) ∧ (0 ≤ y.2.2.2.1 ∧ y.2.2.2.1 ≤ 6) ∧ y.2.1 = a1 ∧ J p y.2.2.2.2) (fun y => (6 - y.2.2.2.1).toNat) (fun y hy => ?_) ?_
  · obtain ⟨x0, x1, x2, x3, s⟩ := y
    obtain ⟨t2, r3, r4, r5, e6, hJ7⟩ := hy
    dsimp only at t2 r3 r4 r5 e6 hJ7
    show gT (sb_245_9 x0 x1 x2 x3 s) _
    unfold sb_245_9
    refine gT_ite (fun h8 => ?_) (fun h9 => ?_)
    · have := J_m (k := 6) hJ7 hJ7 t2 rfl
      refine gT_ite (fun h10 => ?_) (fun h11 => ?_)
      · unfold fb_245_40
        exact gT_ret ⟨⟨t2, (show (0 : Int) ≤ x1 ∧ x1 ≤ 1 by constructor <;> omega), (show (-1 : Int) ≤ x3 ∧ x3 ≤ 5 by constructor <;> omega), (show (0 : Int) ≤ (g32 (x3 + 1)) ∧ (g32 (x3 + 1)) ≤ 6 by have := g32_eq (v := (x3 + 1)) (by omega) (by omega); constructor <;> omega), (by first | assumption | omega | (dsimp only; omega)), hJ7⟩, by dsimp only; have := g32_eq (v := (x3 + 1)) (by omega) (by omega); omega⟩
      · refine gT_v1 (A := fun w9 u9 => True ∧ J p u9) (d_160 hp hJ7 t2 (show (0 : Int) ≤ x3 ∧ x3 ≤ 5 by constructor <;> omega) (show (0 : Int) ≤ 0 ∧ 0 ≤ 1 by constructor <;> omega)) (fun v3 s2 h12 => ?_)
        obtain ⟨h12r, hJ13⟩ := h12
        refine gT_v1 (A := fun w9 u9 => True ∧ J p u9) (d_160 hp hJ13 t2 (show (0 : Int) ≤ x2 ∧ x2 ≤ 5 by constructor <;> omega) (show (0 : Int) ≤ 0 ∧ 0 ≤ 1 by constructor <;> omega)) (fun v5 s4 h14 => ?_)
        obtain ⟨h14r, hJ15⟩ := h14
        refine gT_ite (fun h16 => ?_) (fun h17 => ?_)
        · unfold fb_245_40
          exact gT_ret ⟨⟨t2, (show (0 : Int) ≤ x1 ∧ x1 ≤ 1 by constructor <;> omega), (show (-1 : Int) ≤ x3 ∧ x3 ≤ 5 by constructor <;> omega), (show (0 : Int) ≤ (g32 (x3 + 1)) ∧ (g32 (x3 + 1)) ≤ 6 by have := g32_eq (v := (x3 + 1)) (by omega) (by omega); constructor <;> omega), (by first | assumption | omega | (dsimp only; omega)), hJ15⟩, by dsimp only; have := g32_eq (v := (x3 + 1)) (by omega) (by omega); omega⟩
        · exact gT_ret ⟨⟨t2, (show (0 : Int) ≤ x1 ∧ x1 ≤ 1 by constructor <;> omega), (show (-1 : Int) ≤ x2 ∧ x2 ≤ 5 by constructor <;> omega), (show (0 : Int) ≤ (g32 (x3 + 1)) ∧ (g32 (x3 + 1)) ≤ 6 by have := g32_eq (v := (x3 + 1)) (by omega) (by omega); constructor <;> omega), (by first | assumption | omega | (dsimp only; omega)), hJ15⟩, by dsimp only; have := g32_eq (v := (x3 + 1)) (by omega) (by omega); omega⟩
    · have := J_m (k := 6) hJ7 hJ7 t2 rfl
      refine gT_map ?_
      refine gT_ite (fun h18 => ?_) (fun h19 => ?_)
      · exact gT_ret ⟨rfl, trivial, hJ7⟩
      · refine gT_loop (fun y => T 12 y.1 ∧ (-1 ≤ y.2.1 ∧ y.2.1 ≤ 5) ∧ (0 ≤ y.2.2.2.1 ∧ y.2.2.2.1 ≤ 6) ∧ y.2.1 = x2 ∧ J p y.2.2.2.2) (fun y => (6 - y.2.2.2.1).toNat) (fun y hy => ?_) ?_
        · obtain ⟨x0, x2, x3, x4, s⟩ := y
          obtain ⟨t20, r21, r22, e23, hJ24⟩ := hy
          dsimp only at t20 r21 r22 e23 hJ24
          show gT (sb_245_59 x0 x2 x3 x4 s) _
          unfold sb_245_59
          refine gT_ite (fun h25 => ?_) (fun h26 => ?_)
          · have := J_m (k := 6) hJ24 hJ24 t20 rfl
            refine gT_ite (fun h27 => ?_) (fun h28 => ?_)
            · exact gT_ret ⟨⟨t20, (show (-1 : Int) ≤ x2 ∧ x2 ≤ 5 by constructor <;> omega), (show (0 : Int) ≤ (g32 (x4 + 1)) ∧ (g32 (x4 + 1)) ≤ 6 by have := g32_eq (v := (x4 + 1)) (by omega) (by omega); constructor <;> omega), (by first | assumption | omega | (dsimp only; omega)), hJ24⟩, by dsimp only; have := g32_eq (v := (x4 + 1)) (by omega) (by omega); omega⟩
            · refine gT_v1 (A := fun w9 u9 => True ∧ J p u9) (d_160 hp hJ24 t20 (show (0 : Int) ≤ x4 ∧ x4 ≤ 5 by constructor <;> omega) (show (0 : Int) ≤ 0 ∧ 0 ≤ 1 by constructor <;> omega)) (fun v7 s6 h29 => ?_)
              obtain ⟨h29r, hJ30⟩ := h29
              refine gT_v1 (A := fun w9 u9 => (x3 ≤ w9 ∧ v7 ≤ w9 ∧ (w9 = x3 ∨ w9 = v7)) ∧ True ∧ J p u9) (d_152 hp hJ30) (fun v9 s8 h31 => ?_)
              obtain ⟨h31e, h31r, hJ32⟩ := h31
              exact gT_ret ⟨⟨t20, (show (-1 : Int) ≤ x2 ∧ x2 ≤ 5 by constructor <;> omega), (show (0 : Int) ≤ (g32 (x4 + 1)) ∧ (g32 (x4 + 1)) ≤ 6 by have := g32_eq (v := (x4 + 1)) (by omega) (by omega); constructor <;> omega), (by first | assumption | omega | (dsimp only; omega)), hJ32⟩, by dsimp only; have := g32_eq (v := (x4 + 1)) (by omega) (by omega); omega⟩
          · have := J_m (k := 6) hJ24 hJ24 t20 rfl
            refine gT_map ?_
            exact gT_ret ⟨rfl, trivial, hJ24⟩
        · exact ⟨t2, (show (-1 : Int) ≤ x2 ∧ x2 ≤ 5 by constructor <;> omega), (show (0 : Int) ≤ 0 ∧ 0 ≤ 6 by constructor <;> omega), rfl, hJ7⟩
  · exact ⟨t0, (show (0 : Int) ≤ a1 ∧ a1 ≤ 1 by constructor <;> omega), (show (-1 : Int) ≤ (-1) ∧ (-1) ≤ 5 by constructor <;> omega), (show (0 : Int) ≤ 0 ∧ 0 ≤ 6 by constructor <;> omega), rfl, hJ1⟩
-- X12_gives
-- X12_keptOnes
theorem d_252 {p : gP} {a0 : Nat} {a1 : Int} {s : gS} (hp : -1 ≤ p.1 ∧ p.1 ≤ 0) (h : J p s) (t0 : T 12 a0) : gT (f_252 a0 a1 s) (fun r => r.1 = 1 ∧ True ∧ J p r.2.2.2) := by
  unfold f_252
  refine gT_loop (fun y => T 12 y.1 ∧ (0 ≤ y.2.2.2.1 ∧ y.2.2.2.1 ≤ 6) ∧ y.2.1 = a1 ∧ J p y.2.2.2.2) (fun y => (6 - y.2.2.2.1).toNat) (fun y hy => ?_) ?_
  · obtain ⟨x0, x1, x2, x3, s⟩ := y
    obtain ⟨t1, r2, e3, hJ4⟩ := hy
    dsimp only at t1 r2 e3 hJ4
    show gT (sb_252_4 x0 x1 x2 x3 s) _
    unfold sb_252_4
    refine gT_ite (fun h5 => ?_) (fun h6 => ?_)
    · have := J_m (k := 4) hJ4 hJ4 t1 rfl
      refine gT_v1 (A := fun w9 u9 => True ∧ J p u9) (d_156 hp hJ4 t1 (show (0 : Int) ≤ x3 ∧ x3 ≤ 5 by constructor <;> omega) (show (0 : Int) ≤ 5 ∧ 5 ≤ 5 by constructor <;> omega)) (fun v2 s1 h7 => ?_)
      obtain ⟨h7r, hJ8⟩ := h7
      extract_lets -merge v3
      refine gT_ite (fun h9 => ?_) (fun h10 => ?_)
      · have := gshl_5 (x := x3) (by constructor <;> omega)
        have hv11 : v3 = (gor x2 (gshl 1 x3)) := rfl
        exact gT_ret ⟨⟨t1, (show (0 : Int) ≤ (g32 (x3 + 1)) ∧ (g32 (x3 + 1)) ≤ 6 by have := g32_eq (v := (x3 + 1)) (by omega) (by omega); constructor <;> omega), (by first | assumption | omega | (dsimp only; omega)), hJ8⟩, by dsimp only; have := g32_eq (v := (x3 + 1)) (by omega) (by omega); omega⟩
      · exact gT_ret ⟨⟨t1, (show (0 : Int) ≤ (g32 (x3 + 1)) ∧ (g32 (x3 + 1)) ≤ 6 by have := g32_eq (v := (x3 + 1)) (by omega) (by omega); constructor <;> omega), (by first | assumption | omega | (dsimp only; omega)), hJ8⟩, by dsimp only; have := g32_eq (v := (x3 + 1)) (by omega) (by omega); omega⟩
    · have := J_m (k := 4) hJ4 hJ4 t1 rfl
      refine gT_map ?_
      exact gT_ret ⟨rfl, trivial, hJ4⟩
  · exact ⟨t0, (show (0 : Int) ≤ 0 ∧ 0 ≤ 6 by constructor <;> omega), rfl, h⟩
-- X12_secret
theorem d_248 {p : gP} {a0 : Nat} {s : gS} (hp : -1 ≤ p.1 ∧ p.1 ≤ 0) (h : J p s) (t0 : T 12 a0) : gT (f_248 a0 s) (fun r => r.1 = 1 ∧ True ∧ J p r.2.2.2) := by
  unfold f_248
  extract_lets -merge s1 v2
  have hJ1 : J p s1 := (J_wf h t0 rfl (by decide) (by decide) (fun q hq => by cases hq))
  have := rd_k (a := (gR s1 a0 1)) (k := 3) (show s1 = (gw s a0 0 0) from rfl) (by decide)
  have := J_m (k := 3) h hJ1 t0 rfl
  have := gshl_1 (x := (gI s1 (gR s1 a0 1) 3)) (by constructor <;> omega)
  have := g32_eq (v := ((gshl 1 (gI s1 (gR s1 a0 1) 3)) - 1)) (by omega) (by omega)
  have hv2 : v2 = (g32 ((gshl 1 (gI s1 (gR s1 a0 1) 3)) - 1)) := rfl
  refine gT_loop (fun y => T 12 y.1 ∧ (0 ≤ y.2.1 ∧ y.2.1 ≤ 255) ∧ (0 ≤ y.2.2.2.1 ∧ y.2.2.2.1 ≤ 64) ∧ y.2.1 = v2 ∧ J p y.2.2.2.2) (fun y => (64 - y.2.2.2.1).toNat) (fun y hy => ?_) ?_
  · obtain ⟨x0, x1, x2, x3, s⟩ := y
    obtain ⟨t3, r4, r5, e6, hJ7⟩ := hy
    dsimp only at t3 r4 r5 e6 hJ7
    show gT (sb_248_20 x0 x1 x2 x3 s) _
    unfold sb_248_20
    refine gT_ite (fun h8 => ?_) (fun h9 => ?_)
    · have := J_m (k := 6) hJ7 hJ7 t3 rfl
      have := gshl_6 (x := (gI s (gR s x0 1) 6)) (by constructor <;> omega)
      refine gT_loop (fun y => T 12 y.1 ∧ (0 ≤ y.2.1 ∧ y.2.1 ≤ 255) ∧ (0 ≤ y.2.2.2.1 ∧ y.2.2.2.1 ≤ 63) ∧ (0 ≤ y.2.2.2.2.2.1 ∧ y.2.2.2.2.2.1 ≤ 6) ∧ y.2.1 = x1 ∧ y.2.2.1 = x2 ∧ y.2.2.2.1 = x3 ∧ J p y.2.2.2.2.2.2) (fun y => (6 - y.2.2.2.2.2.1).toNat) (fun y hy => ?_) ?_
      · obtain ⟨x0, x1, x2, x3, x4, x5, s⟩ := y
        obtain ⟨t10, r11, r12, r13, e14, e15, e16, hJ17⟩ := hy
        dsimp only at t10 r11 r12 r13 e14 e15 e16 hJ17
        show gT (sb_248_39 x0 x1 x2 x3 x4 x5 s) _
        unfold sb_248_39
        refine gT_ite (fun h18 => ?_) (fun h19 => ?_)
        · have := J_m (k := 6) hJ17 hJ17 t10 rfl
          refine gT_v1 (A := fun w9 u9 => (0 ≤ w9 ∧ w9 ≤ 1) ∧ J p u9) (d_153 hp hJ17) (fun v4 s3 h20 => ?_)
          obtain ⟨h20r, hJ21⟩ := h20
          refine gT_ite (fun h22 => ?_) (fun h23 => ?_)
          · exact gT_ret ⟨⟨t10, (show (0 : Int) ≤ x1 ∧ x1 ≤ 255 by constructor <;> omega), (show (0 : Int) ≤ x3 ∧ x3 ≤ 63 by constructor <;> omega), (show (0 : Int) ≤ (g32 (x5 + 1)) ∧ (g32 (x5 + 1)) ≤ 6 by have := g32_eq (v := (x5 + 1)) (by omega) (by omega); constructor <;> omega), (by first | assumption | omega | (dsimp only; omega)), (by first | assumption | omega | (dsimp only; omega)), (by first | assumption | omega | (dsimp only; omega)), hJ21⟩, by dsimp only; have := g32_eq (v := (x5 + 1)) (by omega) (by omega); omega⟩
          · refine gT_v1 (A := fun w9 u9 => True ∧ J p u9) (d_160 hp hJ21 t10 (show (0 : Int) ≤ x5 ∧ x5 ≤ 5 by constructor <;> omega) (show (0 : Int) ≤ 1 ∧ 1 ≤ 1 by constructor <;> omega)) (fun v7 s6 h24 => ?_)
            obtain ⟨h24r, hJ25⟩ := h24
            exact gT_ret ⟨⟨t10, (show (0 : Int) ≤ x1 ∧ x1 ≤ 255 by constructor <;> omega), (show (0 : Int) ≤ x3 ∧ x3 ≤ 63 by constructor <;> omega), (show (0 : Int) ≤ (g32 (x5 + 1)) ∧ (g32 (x5 + 1)) ≤ 6 by have := g32_eq (v := (x5 + 1)) (by omega) (by omega); constructor <;> omega), (by first | assumption | omega | (dsimp only; omega)), (by first | assumption | omega | (dsimp only; omega)), (by first | assumption | omega | (dsimp only; omega)), hJ25⟩, by dsimp only; have := g32_eq (v := (x5 + 1)) (by omega) (by omega); omega⟩
        · have := J_m (k := 6) hJ17 hJ17 t10 rfl
          refine gT_map ?_
          refine gT_ite (fun h26 => ?_) (fun h27 => ?_)
          · have := gand_le_l (x := x1) (m := (gxor x4 (-1))) (by omega) (by omega)
            refine gT_ite (fun h28 => ?_) (fun h29 => ?_)
            · unfold fb_248_107
              exact gT_ret ⟨⟨t10, (show (0 : Int) ≤ x1 ∧ x1 ≤ 255 by constructor <;> omega), (show (0 : Int) ≤ (g32 (x3 + 1)) ∧ (g32 (x3 + 1)) ≤ 64 by have := g32_eq (v := (x3 + 1)) (by omega) (by omega); constructor <;> omega), (by first | assumption | omega | (dsimp only; omega)), hJ17⟩, by dsimp only; have := g32_eq (v := (x3 + 1)) (by omega) (by omega); omega⟩
            · refine gT_v1 (A := fun w9 u9 => True ∧ J p u9) (d_154 hp hJ17) (fun v9 s8 h30 => ?_)
              obtain ⟨h30r, hJ31⟩ := h30
              refine gT_v1 (A := fun w9 u9 => True ∧ J p u9) (d_154 hp hJ31) (fun v11 s10 h32 => ?_)
              obtain ⟨h32r, hJ33⟩ := h32
              refine gT_ite (fun h34 => ?_) (fun h35 => ?_)
              · unfold fb_248_107
                exact gT_ret ⟨⟨t10, (show (0 : Int) ≤ x1 ∧ x1 ≤ 255 by constructor <;> omega), (show (0 : Int) ≤ (g32 (x3 + 1)) ∧ (g32 (x3 + 1)) ≤ 64 by have := g32_eq (v := (x3 + 1)) (by omega) (by omega); constructor <;> omega), (by first | assumption | omega | (dsimp only; omega)), hJ33⟩, by dsimp only; have := g32_eq (v := (x3 + 1)) (by omega) (by omega); omega⟩
              · exact gT_ret ⟨⟨t10, (show (0 : Int) ≤ x1 ∧ x1 ≤ 255 by constructor <;> omega), (show (0 : Int) ≤ (g32 (x3 + 1)) ∧ (g32 (x3 + 1)) ≤ 64 by have := g32_eq (v := (x3 + 1)) (by omega) (by omega); constructor <;> omega), (by first | assumption | omega | (dsimp only; omega)), hJ33⟩, by dsimp only; have := g32_eq (v := (x3 + 1)) (by omega) (by omega); omega⟩
          · have := gand_le_l (x := x1) (m := (gxor x4 (-1))) (by omega) (by omega)
            exact gT_ret ⟨⟨t10, (show (0 : Int) ≤ x1 ∧ x1 ≤ 255 by constructor <;> omega), (show (0 : Int) ≤ (g32 (x3 + 1)) ∧ (g32 (x3 + 1)) ≤ 64 by have := g32_eq (v := (x3 + 1)) (by omega) (by omega); constructor <;> omega), (by first | assumption | omega | (dsimp only; omega)), hJ17⟩, by dsimp only; have := g32_eq (v := (x3 + 1)) (by omega) (by omega); omega⟩
      · exact ⟨t3, (show (0 : Int) ≤ x1 ∧ x1 ≤ 255 by constructor <;> omega), (show (0 : Int) ≤ x3 ∧ x3 ≤ 63 by constructor <;> omega), (show (0 : Int) ≤ 0 ∧ 0 ≤ 6 by constructor <;> omega), rfl, rfl, rfl, hJ7⟩
    · have := J_m (k := 6) hJ7 hJ7 t3 rfl
      have := gshl_6 (x := (gI s (gR s x0 1) 6)) (by constructor <;> omega)
      refine gT_map ?_
      exact gT_ret ⟨rfl, trivial, hJ7⟩
  · exact ⟨t0, (show (0 : Int) ≤ v2 ∧ v2 ≤ 255 by constructor <;> omega), (show (0 : Int) ≤ 0 ∧ 0 ≤ 64 by constructor <;> omega), rfl, hJ1⟩
-- X12_mates
theorem d_249 {p : gP} {a0 : Nat} {s : gS} (hp : -1 ≤ p.1 ∧ p.1 ≤ 0) (h : J p s) (t0 : T 12 a0) : gT (f_249 a0 s) (fun r => r.1 = 1 ∧ True ∧ J p r.2.2.2) := by
  unfold f_249
  extract_lets -merge s1
  have hJ1 : J p s1 := (J_wf h t0 rfl (by decide) (by decide) (fun q hq => by cases hq))
  refine gT_loop (fun y => T 12 y.1 ∧ (0 ≤ y.2.2.1 ∧ y.2.2.1 ≤ 6) ∧ J p y.2.2.2) (fun y => (6 - y.2.2.1).toNat) (fun y hy => ?_) ?_
  · obtain ⟨x0, x1, x2, s⟩ := y
    obtain ⟨t2, r3, hJ4⟩ := hy
    dsimp only at t2 r3 hJ4
    show gT (sb_249_9 x0 x1 x2 s) _
    unfold sb_249_9
    refine gT_ite (fun h5 => ?_) (fun h6 => ?_)
    · have := J_m (k := 4) hJ4 hJ4 t2 rfl
      refine gT_loop (fun y => T 12 y.1 ∧ (0 ≤ y.2.2.1 ∧ y.2.2.1 ≤ 5) ∧ (1 ≤ y.2.2.2.1 ∧ y.2.2.2.1 ≤ 6) ∧ y.2.2.1 = x2 ∧ J p y.2.2.2.2) (fun y => (6 - y.2.2.2.1).toNat) (fun y hy => ?_) ?_
      · obtain ⟨x0, x1, x2, x3, s⟩ := y
        obtain ⟨t7, r8, r9, e10, hJ11⟩ := hy
        dsimp only at t7 r8 r9 e10 hJ11
        show gT (sb_249_23 x0 x1 x2 x3 s) _
        unfold sb_249_23
        refine gT_ite (fun h12 => ?_) (fun h13 => ?_)
        · have := J_m (k := 4) hJ11 hJ11 t7 rfl
          refine gT_v1 (A := fun w9 u9 => True ∧ J p u9) (d_156 hp hJ11 t7 (show (0 : Int) ≤ x2 ∧ x2 ≤ 5 by constructor <;> omega) (show (0 : Int) ≤ 2 ∧ 2 ≤ 5 by constructor <;> omega)) (fun v3 s2 h14 => ?_)
          obtain ⟨h14r, hJ15⟩ := h14
          refine gT_v1 (A := fun w9 u9 => True ∧ J p u9) (d_156 hp hJ15 t7 (show (0 : Int) ≤ x3 ∧ x3 ≤ 5 by constructor <;> omega) (show (0 : Int) ≤ 2 ∧ 2 ≤ 5 by constructor <;> omega)) (fun v5 s4 h16 => ?_)
          obtain ⟨h16r, hJ17⟩ := h16
          refine gT_ite (fun h18 => ?_) (fun h19 => ?_)
          · exact gT_ret ⟨⟨t7, (show (0 : Int) ≤ x2 ∧ x2 ≤ 5 by constructor <;> omega), (show (1 : Int) ≤ (g32 (x3 + 1)) ∧ (g32 (x3 + 1)) ≤ 6 by have := g32_eq (v := (x3 + 1)) (by omega) (by omega); constructor <;> omega), (by first | assumption | omega | (dsimp only; omega)), hJ17⟩, by dsimp only; have := g32_eq (v := (x3 + 1)) (by omega) (by omega); omega⟩
          · exact gT_ret ⟨⟨t7, (show (0 : Int) ≤ x2 ∧ x2 ≤ 5 by constructor <;> omega), (show (1 : Int) ≤ (g32 (x3 + 1)) ∧ (g32 (x3 + 1)) ≤ 6 by have := g32_eq (v := (x3 + 1)) (by omega) (by omega); constructor <;> omega), (by first | assumption | omega | (dsimp only; omega)), hJ17⟩, by dsimp only; have := g32_eq (v := (x3 + 1)) (by omega) (by omega); omega⟩
        · have := J_m (k := 4) hJ11 hJ11 t7 rfl
          refine gT_map ?_
          exact gT_ret ⟨⟨t7, (show (0 : Int) ≤ (g32 (x2 + 1)) ∧ (g32 (x2 + 1)) ≤ 6 by have := g32_eq (v := (x2 + 1)) (by omega) (by omega); constructor <;> omega), hJ11⟩, by dsimp only; have := g32_eq (v := (x2 + 1)) (by omega) (by omega); omega⟩
      · exact ⟨t2, (show (0 : Int) ≤ x2 ∧ x2 ≤ 5 by constructor <;> omega), (show (1 : Int) ≤ (g32 (x2 + 1)) ∧ (g32 (x2 + 1)) ≤ 6 by have := g32_eq (v := (x2 + 1)) (by omega) (by omega); constructor <;> omega), rfl, hJ4⟩
    · have := J_m (k := 4) hJ4 hJ4 t2 rfl
      refine gT_map ?_
      exact gT_ret ⟨rfl, trivial, hJ4⟩
  · exact ⟨t0, (show (0 : Int) ≤ 0 ∧ 0 ≤ 6 by constructor <;> omega), hJ1⟩
-- X12_knows
theorem d_250 {p : gP} {a0 : Nat} {a1 : Int} {s : gS} (hp : -1 ≤ p.1 ∧ p.1 ≤ 0) (h : J p s) (t0 : T 12 a0) : gT (f_250 a0 a1 s) (fun r => r.1 = 1 ∧ True ∧ J p r.2.2.2) := by
  unfold f_250
  refine gT_v1 (A := fun w9 u9 => ((w9 = 1 → 0 ≤ a1 ∧ a1 ≤ 5) ∧ (w9 = 0 → a1 < 0 ∨ 5 < a1)) ∧ (0 ≤ w9 ∧ w9 ≤ 1) ∧ J p u9) (d_150 hp h) (fun v2 s1 h1 => ?_)
  obtain ⟨h1e, h1r, hJ2⟩ := h1
  refine gT_ite (fun h3 => ?_) (fun h4 => ?_)
  · unfold fb_250_15
    extract_lets -merge s4
    have hJ5 : J p s4 := (J_wf hJ2 t0 rfl (by decide) (by decide) (fun q hq => by cases hq))
    refine gT_loop (fun y => T 12 y.1 ∧ (0 ≤ y.2.2.2.1 ∧ y.2.2.2.1 ≤ 6) ∧ y.2.1 = a1 ∧ J p y.2.2.2.2) (fun y => (6 - y.2.2.2.1).toNat) (fun y hy => ?_) ?_
    · obtain ⟨x0, x1, x2, x3, s⟩ := y
      obtain ⟨t6, r7, e8, hJ9⟩ := hy
      dsimp only at t6 r7 e8 hJ9
      show gT (sb_250_22 x0 x1 x2 x3 s) _
      unfold sb_250_22
      refine gT_ite (fun h10 => ?_) (fun h11 => ?_)
      · have := J_m (k := 4) hJ9 hJ9 t6 rfl
        refine gT_ite (fun h12 => ?_) (fun h13 => ?_)
        · refine gT_v1 (A := fun w9 u9 => True ∧ J p u9) (d_156 hp hJ9 t6 (show (0 : Int) ≤ x3 ∧ x3 ≤ 5 by constructor <;> omega) (show (0 : Int) ≤ 2 ∧ 2 ≤ 5 by constructor <;> omega)) (fun v6 s5 h14 => ?_)
          obtain ⟨h14r, hJ15⟩ := h14
          refine gT_v1 (A := fun w9 u9 => (0 ≤ w9 ∧ w9 ≤ 1) ∧ J p u9) (d_153 hp hJ15) (fun v8 s7 h16 => ?_)
          obtain ⟨h16r, hJ17⟩ := h16
          extract_lets -merge v10
          refine gT_ite (fun h18 => ?_) (fun h19 => ?_)
          · exact gT_ret ⟨⟨t6, (show (0 : Int) ≤ (g32 (x3 + 1)) ∧ (g32 (x3 + 1)) ≤ 6 by have := g32_eq (v := (x3 + 1)) (by omega) (by omega); constructor <;> omega), (by first | assumption | omega | (dsimp only; omega)), hJ17⟩, by dsimp only; have := g32_eq (v := (x3 + 1)) (by omega) (by omega); omega⟩
          · have := gshl_5 (x := x3) (by constructor <;> omega)
            have hv20 : v10 = (gor x2 (gshl 1 x3)) := rfl
            exact gT_ret ⟨⟨t6, (show (0 : Int) ≤ (g32 (x3 + 1)) ∧ (g32 (x3 + 1)) ≤ 6 by have := g32_eq (v := (x3 + 1)) (by omega) (by omega); constructor <;> omega), (by first | assumption | omega | (dsimp only; omega)), hJ17⟩, by dsimp only; have := g32_eq (v := (x3 + 1)) (by omega) (by omega); omega⟩
        · refine gT_map ?_
          exact gT_ret ⟨rfl, trivial, hJ9⟩
      · have := J_m (k := 4) hJ9 hJ9 t6 rfl
        refine gT_map ?_
        exact gT_ret ⟨rfl, trivial, hJ9⟩
    · exact ⟨t0, (show (0 : Int) ≤ 0 ∧ 0 ≤ 6 by constructor <;> omega), rfl, hJ5⟩
  · unfold fb_250_15
    extract_lets -merge s4
    have hJ21 : J p s4 := (J_wf hJ2 t0 rfl (by decide) (by decide) (fun q hq => by cases hq))
    refine gT_loop (fun y => T 12 y.1 ∧ (0 ≤ y.2.1 ∧ y.2.1 ≤ 5) ∧ (0 ≤ y.2.2.2.1 ∧ y.2.2.2.1 ≤ 6) ∧ y.2.1 = a1 ∧ J p y.2.2.2.2) (fun y => (6 - y.2.2.2.1).toNat) (fun y hy => ?_) ?_
    · obtain ⟨x0, x1, x2, x3, s⟩ := y
      obtain ⟨t22, r23, r24, e25, hJ26⟩ := hy
      dsimp only at t22 r23 r24 e25 hJ26
      show gT (sb_250_22 x0 x1 x2 x3 s) _
      unfold sb_250_22
      refine gT_ite (fun h27 => ?_) (fun h28 => ?_)
      · have := J_m (k := 4) hJ26 hJ26 t22 rfl
        refine gT_ite (fun h29 => ?_) (fun h30 => ?_)
        · refine gT_v1 (A := fun w9 u9 => True ∧ J p u9) (d_156 hp hJ26 t22 (show (0 : Int) ≤ x3 ∧ x3 ≤ 5 by constructor <;> omega) (show (0 : Int) ≤ 2 ∧ 2 ≤ 5 by constructor <;> omega)) (fun v6 s5 h31 => ?_)
          obtain ⟨h31r, hJ32⟩ := h31
          refine gT_v1 (A := fun w9 u9 => (0 ≤ w9 ∧ w9 ≤ 1) ∧ J p u9) (d_153 hp hJ32) (fun v8 s7 h33 => ?_)
          obtain ⟨h33r, hJ34⟩ := h33
          extract_lets -merge v10
          refine gT_ite (fun h35 => ?_) (fun h36 => ?_)
          · exact gT_ret ⟨⟨t22, (show (0 : Int) ≤ x1 ∧ x1 ≤ 5 by constructor <;> omega), (show (0 : Int) ≤ (g32 (x3 + 1)) ∧ (g32 (x3 + 1)) ≤ 6 by have := g32_eq (v := (x3 + 1)) (by omega) (by omega); constructor <;> omega), (by first | assumption | omega | (dsimp only; omega)), hJ34⟩, by dsimp only; have := g32_eq (v := (x3 + 1)) (by omega) (by omega); omega⟩
          · have := gshl_5 (x := x3) (by constructor <;> omega)
            have hv37 : v10 = (gor x2 (gshl 1 x3)) := rfl
            exact gT_ret ⟨⟨t22, (show (0 : Int) ≤ x1 ∧ x1 ≤ 5 by constructor <;> omega), (show (0 : Int) ≤ (g32 (x3 + 1)) ∧ (g32 (x3 + 1)) ≤ 6 by have := g32_eq (v := (x3 + 1)) (by omega) (by omega); constructor <;> omega), (by first | assumption | omega | (dsimp only; omega)), hJ34⟩, by dsimp only; have := g32_eq (v := (x3 + 1)) (by omega) (by omega); omega⟩
        · refine gT_map ?_
          exact gT_ret ⟨rfl, trivial, hJ26⟩
      · have := J_m (k := 4) hJ26 hJ26 t22 rfl
        refine gT_map ?_
        exact gT_ret ⟨rfl, trivial, hJ26⟩
    · exact ⟨t0, (show (0 : Int) ≤ a1 ∧ a1 ≤ 5 by constructor <;> omega), (show (0 : Int) ≤ 0 ∧ 0 ≤ 6 by constructor <;> omega), rfl, hJ21⟩
-- X12_dearest
theorem d_251 {p : gP} {a0 : Nat} {s : gS} (hp : -1 ≤ p.1 ∧ p.1 ≤ 0) (h : J p s) (t0 : T 12 a0) : gT (f_251 a0 s) (fun r => r.1 = 1 ∧ True ∧ J p r.2.2.2) := by
  unfold f_251
  extract_lets -merge s1
  have hJ1 : J p s1 := (J_wf h t0 rfl (by decide) (by decide) (fun q hq => by cases hq))
  refine gT_loop (fun y => T 12 y.1 ∧ (-1 ≤ y.2.1 ∧ y.2.1 ≤ 7) ∧ (0 ≤ y.2.2.1 ∧ y.2.2.1 ≤ 8) ∧ J p y.2.2.2) (fun y => (8 - y.2.2.1).toNat) (fun y hy => ?_) ?_
  · obtain ⟨x0, x1, x2, s⟩ := y
    obtain ⟨t2, r3, r4, hJ5⟩ := hy
    dsimp only at t2 r3 r4 hJ5
    show gT (sb_251_9 x0 x1 x2 s) _
    unfold sb_251_9
    refine gT_ite (fun h6 => ?_) (fun h7 => ?_)
    · have := J_m (k := 3) hJ5 hJ5 t2 rfl
      refine gT_ite (fun h8 => ?_) (fun h9 => ?_)
      · unfold fb_251_39
        exact gT_ret ⟨⟨t2, (show (-1 : Int) ≤ x2 ∧ x2 ≤ 7 by constructor <;> omega), (show (0 : Int) ≤ (g32 (x2 + 1)) ∧ (g32 (x2 + 1)) ≤ 8 by have := g32_eq (v := (x2 + 1)) (by omega) (by omega); constructor <;> omega), hJ5⟩, by dsimp only; have := g32_eq (v := (x2 + 1)) (by omega) (by omega); omega⟩
      · refine gT_v1 (A := fun w9 u9 => True ∧ J p u9) (d_155 hp hJ5 t2 (show (0 : Int) ≤ x2 ∧ x2 ≤ 8 by constructor <;> omega) (show (0 : Int) ≤ 1 ∧ 1 ≤ 2 by constructor <;> omega)) (fun v3 s2 h10 => ?_)
        obtain ⟨h10r, hJ11⟩ := h10
        refine gT_v1 (A := fun w9 u9 => True ∧ J p u9) (d_155 hp hJ11 t2 (show (0 : Int) ≤ x1 ∧ x1 ≤ 8 by constructor <;> omega) (show (0 : Int) ≤ 1 ∧ 1 ≤ 2 by constructor <;> omega)) (fun v5 s4 h12 => ?_)
        obtain ⟨h12r, hJ13⟩ := h12
        refine gT_ite (fun h14 => ?_) (fun h15 => ?_)
        · unfold fb_251_39
          exact gT_ret ⟨⟨t2, (show (-1 : Int) ≤ x2 ∧ x2 ≤ 7 by constructor <;> omega), (show (0 : Int) ≤ (g32 (x2 + 1)) ∧ (g32 (x2 + 1)) ≤ 8 by have := g32_eq (v := (x2 + 1)) (by omega) (by omega); constructor <;> omega), hJ13⟩, by dsimp only; have := g32_eq (v := (x2 + 1)) (by omega) (by omega); omega⟩
        · exact gT_ret ⟨⟨t2, (show (-1 : Int) ≤ x1 ∧ x1 ≤ 7 by constructor <;> omega), (show (0 : Int) ≤ (g32 (x2 + 1)) ∧ (g32 (x2 + 1)) ≤ 8 by have := g32_eq (v := (x2 + 1)) (by omega) (by omega); constructor <;> omega), hJ13⟩, by dsimp only; have := g32_eq (v := (x2 + 1)) (by omega) (by omega); omega⟩
    · have := J_m (k := 3) hJ5 hJ5 t2 rfl
      refine gT_map ?_
      exact gT_ret ⟨rfl, trivial, hJ5⟩
  · exact ⟨t0, (show (-1 : Int) ≤ (-1) ∧ (-1) ≤ 7 by constructor <;> omega), (show (0 : Int) ≤ 0 ∧ 0 ≤ 8 by constructor <;> omega), hJ1⟩
-- X12_kept
theorem d_253 {p : gP} {a0 : Nat} {a1 : Int} {s : gS} (hp : -1 ≤ p.1 ∧ p.1 ≤ 0) (h : J p s) (t0 : T 12 a0) (r1 : 0 ≤ a1 ∧ a1 ≤ 1) : gT (f_253 a0 a1 s) (fun r => r.1 = 1 ∧ True ∧ J p r.2.2.2) := by
  unfold f_253
  extract_lets -merge s1
  have hJ1 : J p s1 := (J_wf h t0 rfl (by decide) (by decide) (fun q hq => by cases hq))
  refine gT_ite (fun h2 => ?_) (fun h3 => ?_)
  · unfold fb_253_15
    refine gT_v1 (A := fun w9 u9 => True ∧ J p u9) (d_252 hp hJ1 t0) (fun v3 s2 h4 => ?_)
    obtain ⟨h4r, hJ5⟩ := h4
    exact gT_ret ⟨rfl, trivial, hJ5⟩
  · unfold fb_253_15
    refine gT_v1 (A := fun w9 u9 => True ∧ J p u9) (d_252 hp hJ1 t0) (fun v3 s2 h6 => ?_)
    obtain ⟨h6r, hJ7⟩ := h6
    exact gT_ret ⟨rfl, trivial, hJ7⟩
-- X12_logged
theorem d_256 {p : gP} {a0 : Nat} {a1 : Int} {a2 : Int} {s : gS} (hp : -1 ≤ p.1 ∧ p.1 ≤ 0) (h : J p s) (t0 : T 12 a0) (r1 : 0 ≤ a1 ∧ a1 ≤ 59) (r2 : 0 ≤ a2 ∧ a2 ≤ 3) : gT (f_256 a0 a1 a2 s) (fun r => r.1 = 1 ∧ True ∧ J p r.2.2.2) := by
  unfold f_256
  refine gT_chk (by have := g32_eq (v := (4 * a1)) (by omega) (by omega); have := g32_eq (v := (100 + (g32 (4 * a1)))) (by omega) (by omega); have := g32_eq (v := ((g32 (100 + (g32 (4 * a1)))) + a2)) (by omega) (by omega); omega) (by have := g32_eq (v := (4 * a1)) (by omega) (by omega); have := g32_eq (v := (100 + (g32 (4 * a1)))) (by omega) (by omega); have := g32_eq (v := ((g32 (100 + (g32 (4 * a1)))) + a2)) (by omega) (by omega); omega) ?_
  exact gT_ret ⟨rfl, trivial, h⟩
-- X12_led
theorem d_257 {p : gP} {a0 : Nat} {a1 : Int} {a2 : Int} {s : gS} (hp : -1 ≤ p.1 ∧ p.1 ≤ 0) (h : J p s) (t0 : T 12 a0) (r2 : 0 ≤ a2 ∧ a2 ≤ 1) : gT (f_257 a0 a1 a2 s) (fun r => r.1 = 1 ∧ True ∧ J p r.2.2.2) := by
  unfold f_257
  refine gT_v1 (A := fun w9 u9 => (w9 = 1 → 0 ≤ a1 ∧ a1 ≤ 5) ∧ (0 ≤ w9 ∧ w9 ≤ 1) ∧ J p u9) (d_162 hp h t0) (fun v2 s1 h1 => ?_)
  obtain ⟨h1e, h1r, hJ2⟩ := h1
  refine gT_ite (fun h3 => ?_) (fun h4 => ?_)
  · unfold fb_257_14
    extract_lets -merge s4
    have hJ5 : J p s4 := (J_wf hJ2 t0 rfl (by decide) (by decide) (fun q hq => by cases hq))
    refine gT_loop (fun y => T 12 y.1 ∧ (0 ≤ y.2.2.1 ∧ y.2.2.1 ≤ 1) ∧ (0 ≤ y.2.2.2.2.1 ∧ y.2.2.2.2.1 ≤ 60) ∧ y.2.1 = a1 ∧ y.2.2.1 = a2 ∧ J p y.2.2.2.2.2) (fun y => (60 - y.2.2.2.2.1).toNat) (fun y hy => ?_) ?_
    · obtain ⟨x0, x1, x2, x3, x4, s⟩ := y
      obtain ⟨t6, r7, r8, e9, e10, hJ11⟩ := hy
      dsimp only at t6 r7 r8 e9 e10 hJ11
      show gT (sb_257_22 x0 x1 x2 x3 x4 s) _
      unfold sb_257_22
      refine gT_ite (fun h12 => ?_) (fun h13 => ?_)
      · have := J_m (k := 13) hJ11 hJ11 t6 rfl
        refine gT_ite (fun h14 => ?_) (fun h15 => ?_)
        · refine gT_v1 (A := fun w9 u9 => True ∧ J p u9) (d_256 hp hJ11 t6 (show (0 : Int) ≤ x4 ∧ x4 ≤ 59 by constructor <;> omega) (show (0 : Int) ≤ 1 ∧ 1 ≤ 3 by constructor <;> omega)) (fun v6 s5 h16 => ?_)
          obtain ⟨h16r, hJ17⟩ := h16
          refine gT_ite (fun h18 => ?_) (fun h19 => ?_)
          · refine gT_ite (fun h20 => ?_) (fun h21 => ?_)
            · exact gT_ret ⟨⟨t6, (show (0 : Int) ≤ x2 ∧ x2 ≤ 1 by constructor <;> omega), (show (0 : Int) ≤ (g32 (x4 + 1)) ∧ (g32 (x4 + 1)) ≤ 60 by have := g32_eq (v := (x4 + 1)) (by omega) (by omega); constructor <;> omega), (by first | assumption | omega | (dsimp only; omega)), (by first | assumption | omega | (dsimp only; omega)), hJ17⟩, by dsimp only; have := g32_eq (v := (x4 + 1)) (by omega) (by omega); omega⟩
            · refine gT_v1 (A := fun w9 u9 => True ∧ J p u9) (d_256 hp hJ17 t6 (show (0 : Int) ≤ x4 ∧ x4 ≤ 59 by constructor <;> omega) (show (0 : Int) ≤ 2 ∧ 2 ≤ 3 by constructor <;> omega)) (fun v8 s7 h22 => ?_)
              obtain ⟨h22r, hJ23⟩ := h22
              refine gT_ite (fun h24 => ?_) (fun h25 => ?_)
              · exact gT_ret ⟨⟨t6, (show (0 : Int) ≤ x2 ∧ x2 ≤ 1 by constructor <;> omega), (show (0 : Int) ≤ (g32 (x4 + 1)) ∧ (g32 (x4 + 1)) ≤ 60 by have := g32_eq (v := (x4 + 1)) (by omega) (by omega); constructor <;> omega), (by first | assumption | omega | (dsimp only; omega)), (by first | assumption | omega | (dsimp only; omega)), hJ23⟩, by dsimp only; have := g32_eq (v := (x4 + 1)) (by omega) (by omega); omega⟩
              · unfold fb_257_72
                exact gT_ret ⟨⟨t6, (show (0 : Int) ≤ x2 ∧ x2 ≤ 1 by constructor <;> omega), (show (0 : Int) ≤ (g32 (x4 + 1)) ∧ (g32 (x4 + 1)) ≤ 60 by have := g32_eq (v := (x4 + 1)) (by omega) (by omega); constructor <;> omega), (by first | assumption | omega | (dsimp only; omega)), (by first | assumption | omega | (dsimp only; omega)), hJ23⟩, by dsimp only; have := g32_eq (v := (x4 + 1)) (by omega) (by omega); omega⟩
          · unfold fb_257_72
            exact gT_ret ⟨⟨t6, (show (0 : Int) ≤ x2 ∧ x2 ≤ 1 by constructor <;> omega), (show (0 : Int) ≤ (g32 (x4 + 1)) ∧ (g32 (x4 + 1)) ≤ 60 by have := g32_eq (v := (x4 + 1)) (by omega) (by omega); constructor <;> omega), (by first | assumption | omega | (dsimp only; omega)), (by first | assumption | omega | (dsimp only; omega)), hJ17⟩, by dsimp only; have := g32_eq (v := (x4 + 1)) (by omega) (by omega); omega⟩
        · refine gT_map ?_
          exact gT_ret ⟨rfl, trivial, hJ11⟩
      · have := J_m (k := 13) hJ11 hJ11 t6 rfl
        refine gT_map ?_
        exact gT_ret ⟨rfl, trivial, hJ11⟩
    · exact ⟨t0, (show (0 : Int) ≤ a2 ∧ a2 ≤ 1 by constructor <;> omega), (show (0 : Int) ≤ 0 ∧ 0 ≤ 60 by constructor <;> omega), rfl, rfl, hJ5⟩
  · unfold fb_257_14
    extract_lets -merge s4
    have hJ26 : J p s4 := (J_wf hJ2 t0 rfl (by decide) (by decide) (fun q hq => by cases hq))
    refine gT_loop (fun y => T 12 y.1 ∧ (0 ≤ y.2.1 ∧ y.2.1 ≤ 5) ∧ (0 ≤ y.2.2.1 ∧ y.2.2.1 ≤ 1) ∧ (0 ≤ y.2.2.2.2.1 ∧ y.2.2.2.2.1 ≤ 60) ∧ y.2.1 = a1 ∧ y.2.2.1 = a2 ∧ J p y.2.2.2.2.2) (fun y => (60 - y.2.2.2.2.1).toNat) (fun y hy => ?_) ?_
    · obtain ⟨x0, x1, x2, x3, x4, s⟩ := y
      obtain ⟨t27, r28, r29, r30, e31, e32, hJ33⟩ := hy
      dsimp only at t27 r28 r29 r30 e31 e32 hJ33
      show gT (sb_257_22 x0 x1 x2 x3 x4 s) _
      unfold sb_257_22
      refine gT_ite (fun h34 => ?_) (fun h35 => ?_)
      · have := J_m (k := 13) hJ33 hJ33 t27 rfl
        refine gT_ite (fun h36 => ?_) (fun h37 => ?_)
        · refine gT_v1 (A := fun w9 u9 => True ∧ J p u9) (d_256 hp hJ33 t27 (show (0 : Int) ≤ x4 ∧ x4 ≤ 59 by constructor <;> omega) (show (0 : Int) ≤ 1 ∧ 1 ≤ 3 by constructor <;> omega)) (fun v6 s5 h38 => ?_)
          obtain ⟨h38r, hJ39⟩ := h38
          refine gT_ite (fun h40 => ?_) (fun h41 => ?_)
          · refine gT_ite (fun h42 => ?_) (fun h43 => ?_)
            · exact gT_ret ⟨⟨t27, (show (0 : Int) ≤ x1 ∧ x1 ≤ 5 by constructor <;> omega), (show (0 : Int) ≤ x2 ∧ x2 ≤ 1 by constructor <;> omega), (show (0 : Int) ≤ (g32 (x4 + 1)) ∧ (g32 (x4 + 1)) ≤ 60 by have := g32_eq (v := (x4 + 1)) (by omega) (by omega); constructor <;> omega), (by first | assumption | omega | (dsimp only; omega)), (by first | assumption | omega | (dsimp only; omega)), hJ39⟩, by dsimp only; have := g32_eq (v := (x4 + 1)) (by omega) (by omega); omega⟩
            · refine gT_v1 (A := fun w9 u9 => True ∧ J p u9) (d_256 hp hJ39 t27 (show (0 : Int) ≤ x4 ∧ x4 ≤ 59 by constructor <;> omega) (show (0 : Int) ≤ 2 ∧ 2 ≤ 3 by constructor <;> omega)) (fun v8 s7 h44 => ?_)
              obtain ⟨h44r, hJ45⟩ := h44
              refine gT_ite (fun h46 => ?_) (fun h47 => ?_)
              · exact gT_ret ⟨⟨t27, (show (0 : Int) ≤ x1 ∧ x1 ≤ 5 by constructor <;> omega), (show (0 : Int) ≤ x2 ∧ x2 ≤ 1 by constructor <;> omega), (show (0 : Int) ≤ (g32 (x4 + 1)) ∧ (g32 (x4 + 1)) ≤ 60 by have := g32_eq (v := (x4 + 1)) (by omega) (by omega); constructor <;> omega), (by first | assumption | omega | (dsimp only; omega)), (by first | assumption | omega | (dsimp only; omega)), hJ45⟩, by dsimp only; have := g32_eq (v := (x4 + 1)) (by omega) (by omega); omega⟩
              · unfold fb_257_72
                exact gT_ret ⟨⟨t27, (show (0 : Int) ≤ x1 ∧ x1 ≤ 5 by constructor <;> omega), (show (0 : Int) ≤ x2 ∧ x2 ≤ 1 by constructor <;> omega), (show (0 : Int) ≤ (g32 (x4 + 1)) ∧ (g32 (x4 + 1)) ≤ 60 by have := g32_eq (v := (x4 + 1)) (by omega) (by omega); constructor <;> omega), (by first | assumption | omega | (dsimp only; omega)), (by first | assumption | omega | (dsimp only; omega)), hJ45⟩, by dsimp only; have := g32_eq (v := (x4 + 1)) (by omega) (by omega); omega⟩
          · unfold fb_257_72
            exact gT_ret ⟨⟨t27, (show (0 : Int) ≤ x1 ∧ x1 ≤ 5 by constructor <;> omega), (show (0 : Int) ≤ x2 ∧ x2 ≤ 1 by constructor <;> omega), (show (0 : Int) ≤ (g32 (x4 + 1)) ∧ (g32 (x4 + 1)) ≤ 60 by have := g32_eq (v := (x4 + 1)) (by omega) (by omega); constructor <;> omega), (by first | assumption | omega | (dsimp only; omega)), (by first | assumption | omega | (dsimp only; omega)), hJ39⟩, by dsimp only; have := g32_eq (v := (x4 + 1)) (by omega) (by omega); omega⟩
        · refine gT_map ?_
          exact gT_ret ⟨rfl, trivial, hJ33⟩
      · have := J_m (k := 13) hJ33 hJ33 t27 rfl
        refine gT_map ?_
        exact gT_ret ⟨rfl, trivial, hJ33⟩
    · exact ⟨t0, (show (0 : Int) ≤ a1 ∧ a1 ≤ 5 by constructor <;> omega), (show (0 : Int) ≤ a2 ∧ a2 ≤ 1 by constructor <;> omega), (show (0 : Int) ≤ 0 ∧ 0 ≤ 60 by constructor <;> omega), rfl, rfl, hJ26⟩
-- X12_log
theorem d_258 {p : gP} {a0 : Nat} {a1 : Int} {a2 : Int} {s : gS} (hp : -1 ≤ p.1 ∧ p.1 ≤ 0) (h : J p s) (t0 : T 12 a0) : gT (f_258 a0 a1 a2 s) (fun r => r.1 = 1 ∧ True ∧ J p r.2.2.2) := by
  unfold f_258
  refine gT_v1 (A := fun w9 u9 => ((w9 = 1 → 0 ≤ a2 ∧ a2 ≤ 3) ∧ (w9 = 0 → a2 < 0 ∨ 3 < a2)) ∧ (0 ≤ w9 ∧ w9 ≤ 1) ∧ J p u9) (d_150 hp h) (fun v2 s1 h1 => ?_)
  obtain ⟨h1e, h1r, hJ2⟩ := h1
  refine gT_ite (fun h3 => ?_) (fun h4 => ?_)
  · unfold fb_258_15
    extract_lets -merge s4
    have hJ5 : J p s4 := (J_wf hJ2 t0 rfl (by decide) (by decide) (fun q hq => by cases hq))
    refine gT_ite (fun h6 => ?_) (fun h7 => ?_)
    · have := rd_same (show s4 = (gw s1 a0 0 1) from rfl)
      exact gT_ret ⟨rfl, trivial, hJ5⟩
    · have := rd_same (show s4 = (gw s1 a0 0 1) from rfl)
      refine gT_v1 (A := fun w9 u9 => ((w9 = 1 → 0 ≤ a1 ∧ a1 ≤ (g32 ((gI s4 (gR s4 a0 1) 13) - 1))) ∧ (w9 = 0 → a1 < 0 ∨ (g32 ((gI s4 (gR s4 a0 1) 13) - 1)) < a1)) ∧ (0 ≤ w9 ∧ w9 ≤ 1) ∧ J p u9) (d_150 hp hJ5) (fun v6 s5 h8 => ?_)
      obtain ⟨h8e, h8r, hJ9⟩ := h8
      have := rd_k (a := (gR s4 a0 1)) (k := 13) (show s4 = (gw s1 a0 0 1) from rfl) (by decide)
      have := J_m (k := 13) hJ2 hJ5 t0 rfl
      have := g32_eq (v := ((gI s4 (gR s4 a0 1) 13) - 1)) (by omega) (by omega)
      refine gT_ite (fun h10 => ?_) (fun h11 => ?_)
      · exact gT_ret ⟨rfl, trivial, hJ9⟩
      · refine gT_v1 (A := fun w9 u9 => True ∧ J p u9) (d_256 hp hJ9 t0 (show (0 : Int) ≤ a1 ∧ a1 ≤ 59 by constructor <;> omega) (show (0 : Int) ≤ a2 ∧ a2 ≤ 3 by constructor <;> omega)) (fun v9 s8 h12 => ?_)
        obtain ⟨h12r, hJ13⟩ := h12
        exact gT_ret ⟨rfl, trivial, hJ13⟩
  · unfold fb_258_15
    extract_lets -merge s4
    have hJ14 : J p s4 := (J_wf hJ2 t0 rfl (by decide) (by decide) (fun q hq => by cases hq))
    refine gT_ite (fun h15 => ?_) (fun h16 => ?_)
    · have := rd_same (show s4 = (gw s1 a0 0 0) from rfl)
      exact gT_ret ⟨rfl, trivial, hJ14⟩
    · have := rd_same (show s4 = (gw s1 a0 0 0) from rfl)
      refine gT_v1 (A := fun w9 u9 => ((w9 = 1 → 0 ≤ a1 ∧ a1 ≤ (g32 ((gI s4 (gR s4 a0 1) 13) - 1))) ∧ (w9 = 0 → a1 < 0 ∨ (g32 ((gI s4 (gR s4 a0 1) 13) - 1)) < a1)) ∧ (0 ≤ w9 ∧ w9 ≤ 1) ∧ J p u9) (d_150 hp hJ14) (fun v6 s5 h17 => ?_)
      obtain ⟨h17e, h17r, hJ18⟩ := h17
      have := rd_k (a := (gR s4 a0 1)) (k := 13) (show s4 = (gw s1 a0 0 0) from rfl) (by decide)
      have := J_m (k := 13) hJ2 hJ14 t0 rfl
      have := g32_eq (v := ((gI s4 (gR s4 a0 1) 13) - 1)) (by omega) (by omega)
      refine gT_ite (fun h19 => ?_) (fun h20 => ?_)
      · exact gT_ret ⟨rfl, trivial, hJ18⟩
      · refine gT_v1 (A := fun w9 u9 => True ∧ J p u9) (d_256 hp hJ18 t0 (show (0 : Int) ≤ a1 ∧ a1 ≤ 59 by constructor <;> omega) (show (0 : Int) ≤ a2 ∧ a2 ≤ 3 by constructor <;> omega)) (fun v9 s8 h21 => ?_)
        obtain ⟨h21r, hJ22⟩ := h21
        exact gT_ret ⟨rfl, trivial, hJ22⟩
-- X12_seed
theorem d_259 {p : gP} {a0 : Nat} {a1 : Int} {s : gS} (hp : -1 ≤ p.1 ∧ p.1 ≤ 0) (h : J p s) (t0 : T 12 a0) : gT (f_259 a0 a1 s) (fun r => r.1 = 1 ∧ True ∧ J p r.2.2.2) := by
  unfold f_259
  extract_lets -merge s1 v2 s3
  have hJ1 : J p s1 := (J_wf h t0 rfl (by decide) (by decide) (fun q hq => by cases hq))
  have := rd_k (a := (gR s1 a0 1)) (k := 14) (show s1 = (gw s a0 0 0) from rfl) (by decide)
  have hv2 : v2 = (gI s1 (gR s1 a0 1) 14) := rfl
  have hJ3 : J p s3 := (J_wm hJ1 hJ1 t0 (fun q hq => by cases hq))
  exact gT_ret ⟨rfl, trivial, hJ3⟩
-- X12_count
theorem d_263 {p : gP} {a0 : Nat} {a1 : Int} {s : gS} (hp : -1 ≤ p.1 ∧ p.1 ≤ 0) (h : J p s) (t0 : T 12 a0) : gT (f_263 a0 a1 s) (fun r => r.1 = 1 ∧ True ∧ J p r.2.2.2) := by
  unfold f_263
  extract_lets -merge s1
  have hJ1 : J p s1 := (J_wf h t0 rfl (by decide) (by decide) (fun q hq => by cases hq))
  refine gT_v1 (A := fun w9 u9 => ((w9 = 1 → 0 ≤ a1 ∧ a1 ≤ 3) ∧ (w9 = 0 → a1 < 0 ∨ 3 < a1)) ∧ (0 ≤ w9 ∧ w9 ≤ 1) ∧ J p u9) (d_150 hp hJ1) (fun v3 s2 h2 => ?_)
  obtain ⟨h2e, h2r, hJ3⟩ := h2
  refine gT_ite (fun h4 => ?_) (fun h5 => ?_)
  · refine gT_ite (fun h6 => ?_) (fun h7 => ?_)
    · exact gT_ret ⟨rfl, trivial, hJ3⟩
    · refine gT_ite (fun h8 => ?_) (fun h9 => ?_)
      · exact gT_ret ⟨rfl, trivial, hJ3⟩
      · refine gT_ite (fun h10 => ?_) (fun h11 => ?_)
        · exact gT_ret ⟨rfl, trivial, hJ3⟩
        · refine gT_v1 (A := fun w9 u9 => ((w9 = 1 → 7 ≤ a1 ∧ a1 ≤ 11) ∧ (w9 = 0 → a1 < 7 ∨ 11 < a1)) ∧ (0 ≤ w9 ∧ w9 ≤ 1) ∧ J p u9) (d_150 hp hJ3) (fun v6 s5 h12 => ?_)
          obtain ⟨h12e, h12r, hJ13⟩ := h12
          refine gT_ite (fun h14 => ?_) (fun h15 => ?_)
          · refine gT_ite (fun h16 => ?_) (fun h17 => ?_)
            · refine gT_loop (fun y => T 12 y.1 ∧ (0 ≤ y.2.2.1 ∧ y.2.2.1 ≤ 6) ∧ J p y.2.2.2) (fun y => (6 - y.2.2.1).toNat) (fun y hy => ?_) ?_
              · obtain ⟨x0, x2, x3, s⟩ := y
                obtain ⟨t18, r19, hJ20⟩ := hy
                dsimp only at t18 r19 hJ20
                show gT (sb_263_95 x0 x2 x3 s) _
                unfold sb_263_95
                refine gT_ite (fun h21 => ?_) (fun h22 => ?_)
                · have := J_m (k := 4) hJ20 hJ20 t18 rfl
                  refine gT_v1 (A := fun w9 u9 => (0 ≤ w9 ∧ w9 ≤ 1) ∧ J p u9) (d_165 hp hJ20 t18 (show (0 : Int) ≤ x3 ∧ x3 ≤ 5 by constructor <;> omega)) (fun v9 s8 h23 => ?_)
                  obtain ⟨h23r, hJ24⟩ := h23
                  refine gT_ite (fun h25 => ?_) (fun h26 => ?_)
                  · exact gT_ret ⟨⟨t18, (show (0 : Int) ≤ (g32 (x3 + 1)) ∧ (g32 (x3 + 1)) ≤ 6 by have := g32_eq (v := (x3 + 1)) (by omega) (by omega); constructor <;> omega), hJ24⟩, by dsimp only; have := g32_eq (v := (x3 + 1)) (by omega) (by omega); omega⟩
                  · refine gT_v1 (A := fun w9 u9 => True ∧ J p u9) (d_156 hp hJ24 t18 (show (0 : Int) ≤ x3 ∧ x3 ≤ 5 by constructor <;> omega) (show (0 : Int) ≤ 0 ∧ 0 ≤ 5 by constructor <;> omega)) (fun v12 s11 h27 => ?_)
                    obtain ⟨h27r, hJ28⟩ := h27
                    exact gT_ret ⟨⟨t18, (show (0 : Int) ≤ (g32 (x3 + 1)) ∧ (g32 (x3 + 1)) ≤ 6 by have := g32_eq (v := (x3 + 1)) (by omega) (by omega); constructor <;> omega), hJ28⟩, by dsimp only; have := g32_eq (v := (x3 + 1)) (by omega) (by omega); omega⟩
                · have := J_m (k := 4) hJ20 hJ20 t18 rfl
                  refine gT_map ?_
                  exact gT_ret ⟨rfl, trivial, hJ20⟩
              · exact ⟨t0, (show (0 : Int) ≤ 0 ∧ 0 ≤ 6 by constructor <;> omega), hJ13⟩
            · refine gT_ite (fun h29 => ?_) (fun h30 => ?_)
              · exact gT_ret ⟨rfl, trivial, hJ13⟩
              · refine gT_ite (fun h31 => ?_) (fun h32 => ?_)
                · exact gT_ret ⟨rfl, trivial, hJ13⟩
                · exact gT_ret ⟨rfl, trivial, hJ13⟩
          · refine gT_chk (by have := g32_eq (v := (8 + a1)) (by omega) (by omega); have := g32_eq (v := ((g32 (8 + a1)) - 7)) (by omega) (by omega); omega) (by have := g32_eq (v := (8 + a1)) (by omega) (by omega); have := g32_eq (v := ((g32 (8 + a1)) - 7)) (by omega) (by omega); omega) ?_
            exact gT_ret ⟨rfl, trivial, hJ13⟩
  · refine gT_chk (by have := g32_eq (v := (3 + a1)) (by omega) (by omega); omega) (by have := g32_eq (v := (3 + a1)) (by omega) (by omega); omega) ?_
    exact gT_ret ⟨rfl, trivial, hJ3⟩
-- L_step
theorem d_278 {p : gP} {a0 : Nat} {a1 : Int} {a2 : Int} {a3 : Nat} {s : gS} (hp : -1 ≤ p.1 ∧ p.1 ≤ 0) (h : J p s) (t0 : T 11 a0) (t3 : T 109 a3) : gT (f_278 a0 a1 a2 a3 s) (fun r => r.1 = 1 ∧ True ∧ J p r.2.2.2) := by
  unfold f_278
  refine gT_c1 (A := fun w9 u9 => True ∧ J p u9) (B := fun t9 u9 => (t9 = 4 ∨ t9 = 5) ∧ J p u9) (d_92 hp h t0) (fun v2 s1 h1 => ?_) (fun k s1 hk hB => ?_)
  · obtain ⟨h1r, hJ2⟩ := h1
    extract_lets -merge s3
    refine gT_chk (by omega) (by omega) ?_
    have hJ3 : J p s3 := (J_wa hJ2 t3 rfl)
    exact gT_ret ⟨rfl, trivial, hJ3⟩
  · obtain ⟨ht, hJt⟩ := hB
    refine gT_ite (fun h4 => ?_) (fun h5 => ?_)
    · exact gT_ret ⟨rfl, trivial, hJt⟩
    · refine gT_ite (fun h6 => ?_) (fun h7 => ?_)
      · exact gT_ret ⟨rfl, trivial, hJt⟩
      · exfalso; omega
-- L_test
theorem d_280 {p : gP} {a0 : Nat} {a1 : Int} {a2 : Int} {a3 : Nat} {s : gS} (hp : -1 ≤ p.1 ∧ p.1 ≤ 0) (h : J p s) (t0 : T 11 a0) (t3 : T 109 a3) (r2 : 0 ≤ a2 ∧ a2 ≤ 1) : gT (f_280 a0 a1 a2 a3 s) (fun r => r.1 = 1 ∧ True ∧ J p r.2.2.2) := by
  unfold f_280
  refine gT_c1 (A := fun w9 u9 => True ∧ J p u9) (B := fun t9 u9 => (t9 = 5) ∧ J p u9) (d_94 hp h t0 (show (0 : Int) ≤ a2 ∧ a2 ≤ 1 by constructor <;> omega)) (fun v2 s1 h1 => ?_) (fun k s1 hk hB => ?_)
  · obtain ⟨h1r, hJ2⟩ := h1
    extract_lets -merge s3
    refine gT_chk (by omega) (by omega) ?_
    have hJ3 : J p s3 := (J_wa hJ2 t3 rfl)
    exact gT_ret ⟨rfl, trivial, hJ3⟩
  · obtain ⟨ht, hJt⟩ := hB
    refine gT_ite (fun h4 => ?_) (fun h5 => ?_)
    · exact gT_ret ⟨rfl, trivial, hJt⟩
    · exfalso; omega
-- L_rival
theorem d_281 {p : gP} {a0 : Nat} {a1 : Int} {a2 : Int} {a3 : Nat} {s : gS} (hp : -1 ≤ p.1 ∧ p.1 ≤ 0) (h : J p s) (t0 : T 11 a0) (t3 : T 109 a3) (r2 : 0 ≤ a2 ∧ a2 ≤ 1) : gT (f_281 a0 a1 a2 a3 s) (fun r => r.1 = 1 ∧ True ∧ J p r.2.2.2) := by
  unfold f_281
  refine gT_c1 (A := fun w9 u9 => True ∧ J p u9) (B := fun t9 u9 => (t9 = 5) ∧ J p u9) (d_95 hp h t0 (show (0 : Int) ≤ a2 ∧ a2 ≤ 1 by constructor <;> omega)) (fun v2 s1 h1 => ?_) (fun k s1 hk hB => ?_)
  · obtain ⟨h1r, hJ2⟩ := h1
    extract_lets -merge s3
    refine gT_chk (by omega) (by omega) ?_
    have hJ3 : J p s3 := (J_wa hJ2 t3 rfl)
    exact gT_ret ⟨rfl, trivial, hJ3⟩
  · obtain ⟨ht, hJt⟩ := hB
    refine gT_ite (fun h4 => ?_) (fun h5 => ?_)
    · exact gT_ret ⟨rfl, trivial, hJt⟩
    · exfalso; omega
-- L_tried
theorem d_283 {p : gP} {a0 : Nat} {a1 : Int} {a2 : Int} {a3 : Nat} {s : gS} (hp : -1 ≤ p.1 ∧ p.1 ≤ 0) (h : J p s) (t0 : T 11 a0) (t3 : T 109 a3) : gT (f_283 a0 a1 a2 a3 s) (fun r => r.1 = 1 ∧ True ∧ J p r.2.2.2) := by
  unfold f_283
  refine gT_c1 (A := fun w9 u9 => (0 ≤ w9 ∧ w9 ≤ 1) ∧ J p u9) (B := fun t9 u9 => (t9 = 5 ∨ t9 = 6) ∧ J p u9) (d_97 hp h t0) (fun v2 s1 h1 => ?_) (fun k s1 hk hB => ?_)
  · obtain ⟨h1r, hJ2⟩ := h1
    extract_lets -merge s3 s4
    refine gT_ite (fun h3 => ?_) (fun h4 => ?_)
    · refine gT_chk (by omega) (by omega) ?_
      have hJ5 : J p s3 := (J_wa hJ2 t3 rfl)
      exact gT_ret ⟨rfl, trivial, hJ5⟩
    · refine gT_chk (by omega) (by omega) ?_
      have hJ6 : J p s4 := (J_wa hJ2 t3 rfl)
      exact gT_ret ⟨rfl, trivial, hJ6⟩
  · obtain ⟨ht, hJt⟩ := hB
    refine gT_ite (fun h7 => ?_) (fun h8 => ?_)
    · exact gT_ret ⟨rfl, trivial, hJt⟩
    · refine gT_ite (fun h9 => ?_) (fun h10 => ?_)
      · exact gT_ret ⟨rfl, trivial, hJt⟩
      · exfalso; omega
-- L_flee
theorem d_284 {p : gP} {a0 : Nat} {a1 : Int} {a2 : Nat} {s : gS} (hp : -1 ≤ p.1 ∧ p.1 ≤ 0) (h : J p s) (t0 : T 11 a0) (t2 : T 109 a2) : gT (f_284 a0 a1 a2 s) (fun r => r.1 = 1 ∧ True ∧ J p r.2.2.2) := by
  unfold f_284
  refine gT_c1 (A := fun w9 u9 => True ∧ J p u9) (B := fun t9 u9 => (t9 = 5 ∨ t9 = 6) ∧ J p u9) (d_98 hp h t0) (fun v2 s1 h1 => ?_) (fun k s1 hk hB => ?_)
  · obtain ⟨h1r, hJ2⟩ := h1
    extract_lets -merge s3
    refine gT_chk (by omega) (by omega) ?_
    have hJ3 : J p s3 := (J_wa hJ2 t2 rfl)
    exact gT_ret ⟨rfl, trivial, hJ3⟩
  · obtain ⟨ht, hJt⟩ := hB
    refine gT_ite (fun h4 => ?_) (fun h5 => ?_)
    · exact gT_ret ⟨rfl, trivial, hJt⟩
    · refine gT_ite (fun h6 => ?_) (fun h7 => ?_)
      · exact gT_ret ⟨rfl, trivial, hJt⟩
      · exfalso; omega
-- L_sell
theorem d_285 {p : gP} {a0 : Nat} {a1 : Int} {a2 : Int} {a3 : Int} {a4 : Nat} {s : gS} (hp : -1 ≤ p.1 ∧ p.1 ≤ 0) (h : J p s) (t0 : T 11 a0) (t4 : T 109 a4) : gT (f_285 a0 a1 a2 a3 a4 s) (fun r => r.1 = 1 ∧ True ∧ J p r.2.2.2) := by
  unfold f_285
  refine gT_c1 (A := fun w9 u9 => True ∧ J p u9) (B := fun t9 u9 => (t9 = 2 ∨ t9 = 5 ∨ t9 = 6) ∧ J p u9) (d_99 hp h t0) (fun v2 s1 h1 => ?_) (fun k s1 hk hB => ?_)
  · obtain ⟨h1r, hJ2⟩ := h1
    extract_lets -merge s3
    refine gT_chk (by omega) (by omega) ?_
    have hJ3 : J p s3 := (J_wa hJ2 t4 rfl)
    exact gT_ret ⟨rfl, trivial, hJ3⟩
  · obtain ⟨ht, hJt⟩ := hB
    refine gT_ite (fun h4 => ?_) (fun h5 => ?_)
    · exact gT_ret ⟨rfl, trivial, hJt⟩
    · refine gT_ite (fun h6 => ?_) (fun h7 => ?_)
      · exact gT_ret ⟨rfl, trivial, hJt⟩
      · refine gT_ite (fun h8 => ?_) (fun h9 => ?_)
        · exact gT_ret ⟨rfl, trivial, hJt⟩
        · exfalso; omega
-- L_part
theorem d_286 {p : gP} {a0 : Nat} {a1 : Int} {a2 : Int} {a3 : Nat} {s : gS} (hp : -1 ≤ p.1 ∧ p.1 ≤ 0) (h : J p s) (t0 : T 11 a0) (t3 : T 109 a3) : gT (f_286 a0 a1 a2 a3 s) (fun r => r.1 = 1 ∧ True ∧ J p r.2.2.2) := by
  unfold f_286
  refine gT_c1 (A := fun w9 u9 => True ∧ J p u9) (B := fun t9 u9 => (t9 = 5 ∨ t9 = 6) ∧ J p u9) (d_100 hp h t0) (fun v2 s1 h1 => ?_) (fun k s1 hk hB => ?_)
  · obtain ⟨h1r, hJ2⟩ := h1
    extract_lets -merge s3
    refine gT_chk (by omega) (by omega) ?_
    have hJ3 : J p s3 := (J_wa hJ2 t3 rfl)
    exact gT_ret ⟨rfl, trivial, hJ3⟩
  · obtain ⟨ht, hJt⟩ := hB
    refine gT_ite (fun h4 => ?_) (fun h5 => ?_)
    · exact gT_ret ⟨rfl, trivial, hJt⟩
    · refine gT_ite (fun h6 => ?_) (fun h7 => ?_)
      · exact gT_ret ⟨rfl, trivial, hJt⟩
      · exfalso; omega
-- L_pay
theorem d_287 {p : gP} {a0 : Nat} {a1 : Int} {a2 : Nat} {s : gS} (hp : -1 ≤ p.1 ∧ p.1 ≤ 0) (h : J p s) (t0 : T 11 a0) (t2 : T 109 a2) : gT (f_287 a0 a1 a2 s) (fun r => r.1 = 1 ∧ True ∧ J p r.2.2.2) := by
  unfold f_287
  refine gT_c1 (A := fun w9 u9 => True ∧ J p u9) (B := fun t9 u9 => (t9 = 2) ∧ J p u9) (d_101 hp h t0) (fun v2 s1 h1 => ?_) (fun k s1 hk hB => ?_)
  · obtain ⟨h1r, hJ2⟩ := h1
    extract_lets -merge s3
    refine gT_chk (by omega) (by omega) ?_
    have hJ3 : J p s3 := (J_wa hJ2 t2 rfl)
    exact gT_ret ⟨rfl, trivial, hJ3⟩
  · obtain ⟨ht, hJt⟩ := hB
    refine gT_ite (fun h4 => ?_) (fun h5 => ?_)
    · exact gT_ret ⟨rfl, trivial, hJt⟩
    · exfalso; omega
-- L_stopped
theorem d_296 {p : gP} {a0 : Nat} {a1 : Int} {a2 : Int} {a3 : Nat} {s : gS} (hp : -1 ≤ p.1 ∧ p.1 ≤ 0) (h : J p s) (t0 : T 11 a0) (t3 : T 109 a3) : gT (f_296 a0 a1 a2 a3 s) (fun r => r.1 = 1 ∧ True ∧ J p r.2.2.2) := by
  unfold f_296
  refine gT_c1 (A := fun w9 u9 => (0 ≤ w9 ∧ w9 ≤ 1) ∧ J p u9) (B := fun t9 u9 => (t9 = 5) ∧ J p u9) (d_110 hp h t0) (fun v2 s1 h1 => ?_) (fun k s1 hk hB => ?_)
  · obtain ⟨h1r, hJ2⟩ := h1
    extract_lets -merge s3 s4
    refine gT_ite (fun h3 => ?_) (fun h4 => ?_)
    · refine gT_chk (by omega) (by omega) ?_
      have hJ5 : J p s3 := (J_wa hJ2 t3 rfl)
      exact gT_ret ⟨rfl, trivial, hJ5⟩
    · refine gT_chk (by omega) (by omega) ?_
      have hJ6 : J p s4 := (J_wa hJ2 t3 rfl)
      exact gT_ret ⟨rfl, trivial, hJ6⟩
  · obtain ⟨ht, hJt⟩ := hB
    refine gT_ite (fun h7 => ?_) (fun h8 => ?_)
    · exact gT_ret ⟨rfl, trivial, hJt⟩
    · exfalso; omega
-- L_fewest
theorem d_297 {p : gP} {a0 : Nat} {a1 : Int} {a2 : Nat} {s : gS} (hp : -1 ≤ p.1 ∧ p.1 ≤ 0) (h : J p s) (t0 : T 11 a0) (t2 : T 109 a2) : gT (f_297 a0 a1 a2 s) (fun r => r.1 = 1 ∧ True ∧ J p r.2.2.2) := by
  unfold f_297
  refine gT_c1 (A := fun w9 u9 => True ∧ J p u9) (B := fun t9 u9 => (t9 = 5) ∧ J p u9) (d_111 hp h t0) (fun v2 s1 h1 => ?_) (fun k s1 hk hB => ?_)
  · obtain ⟨h1r, hJ2⟩ := h1
    extract_lets -merge s3
    refine gT_chk (by omega) (by omega) ?_
    have hJ3 : J p s3 := (J_wa hJ2 t2 rfl)
    exact gT_ret ⟨rfl, trivial, hJ3⟩
  · obtain ⟨ht, hJt⟩ := hB
    refine gT_ite (fun h4 => ?_) (fun h5 => ?_)
    · exact gT_ret ⟨rfl, trivial, hJt⟩
    · exfalso; omega
-- L_cheapest
theorem d_298 {p : gP} {a0 : Nat} {a1 : Int} {a2 : Int} {a3 : Nat} {s : gS} (hp : -1 ≤ p.1 ∧ p.1 ≤ 0) (h : J p s) (t0 : T 11 a0) (t3 : T 109 a3) (r2 : 0 ≤ a2 ∧ a2 ≤ 1) : gT (f_298 a0 a1 a2 a3 s) (fun r => r.1 = 1 ∧ True ∧ J p r.2.2.2) := by
  unfold f_298
  refine gT_c1 (A := fun w9 u9 => True ∧ J p u9) (B := fun t9 u9 => (t9 = 5) ∧ J p u9) (d_112 hp h t0 (show (0 : Int) ≤ a2 ∧ a2 ≤ 1 by constructor <;> omega)) (fun v2 s1 h1 => ?_) (fun k s1 hk hB => ?_)
  · obtain ⟨h1r, hJ2⟩ := h1
    extract_lets -merge s3
    refine gT_chk (by omega) (by omega) ?_
    have hJ3 : J p s3 := (J_wa hJ2 t3 rfl)
    exact gT_ret ⟨rfl, trivial, hJ3⟩
  · obtain ⟨ht, hJt⟩ := hB
    refine gT_ite (fun h4 => ?_) (fun h5 => ?_)
    · exact gT_ret ⟨rfl, trivial, hJt⟩
    · exfalso; omega
-- L_slips
theorem d_299 {p : gP} {a0 : Nat} {a1 : Int} {a2 : Nat} {s : gS} (hp : -1 ≤ p.1 ∧ p.1 ≤ 0) (h : J p s) (t0 : T 11 a0) (t2 : T 109 a2) : gT (f_299 a0 a1 a2 s) (fun r => r.1 = 1 ∧ True ∧ J p r.2.2.2) := by
  unfold f_299
  refine gT_c1 (A := fun w9 u9 => True ∧ J p u9) (B := fun t9 u9 => (t9 = 5) ∧ J p u9) (d_113 hp h t0) (fun v2 s1 h1 => ?_) (fun k s1 hk hB => ?_)
  · obtain ⟨h1r, hJ2⟩ := h1
    extract_lets -merge s3
    refine gT_chk (by omega) (by omega) ?_
    have hJ3 : J p s3 := (J_wa hJ2 t2 rfl)
    exact gT_ret ⟨rfl, trivial, hJ3⟩
  · obtain ⟨ht, hJt⟩ := hB
    refine gT_ite (fun h4 => ?_) (fun h5 => ?_)
    · exact gT_ret ⟨rfl, trivial, hJt⟩
    · exfalso; omega
-- L_rests
theorem d_302 {p : gP} {a0 : Nat} {a1 : Int} {a2 : Int} {a3 : Nat} {s : gS} (hp : -1 ≤ p.1 ∧ p.1 ≤ 0) (h : J p s) (t0 : T 11 a0) (t3 : T 109 a3) : gT (f_302 a0 a1 a2 a3 s) (fun r => r.1 = 1 ∧ True ∧ J p r.2.2.2) := by
  unfold f_302
  refine gT_c1 (A := fun w9 u9 => True ∧ J p u9) (B := fun t9 u9 => (t9 = 5) ∧ J p u9) (d_116 hp h t0) (fun v2 s1 h1 => ?_) (fun k s1 hk hB => ?_)
  · obtain ⟨h1r, hJ2⟩ := h1
    extract_lets -merge s3
    refine gT_chk (by omega) (by omega) ?_
    have hJ3 : J p s3 := (J_wa hJ2 t3 rfl)
    exact gT_ret ⟨rfl, trivial, hJ3⟩
  · obtain ⟨ht, hJt⟩ := hB
    refine gT_ite (fun h4 => ?_) (fun h5 => ?_)
    · exact gT_ret ⟨rfl, trivial, hJt⟩
    · exfalso; omega
-- L_sold
theorem d_304 {p : gP} {a0 : Nat} {a1 : Int} {a2 : Nat} {s : gS} (hp : -1 ≤ p.1 ∧ p.1 ≤ 0) (h : J p s) (t0 : T 11 a0) (t2 : T 109 a2) : gT (f_304 a0 a1 a2 s) (fun r => r.1 = 1 ∧ True ∧ J p r.2.2.2) := by
  unfold f_304
  refine gT_c1 (A := fun w9 u9 => True ∧ J p u9) (B := fun t9 u9 => (t9 = 5) ∧ J p u9) (d_119 hp h t0) (fun v2 s1 h1 => ?_) (fun k s1 hk hB => ?_)
  · obtain ⟨h1r, hJ2⟩ := h1
    extract_lets -merge s3
    refine gT_chk (by omega) (by omega) ?_
    have hJ3 : J p s3 := (J_wa hJ2 t2 rfl)
    exact gT_ret ⟨rfl, trivial, hJ3⟩
  · obtain ⟨ht, hJt⟩ := hB
    refine gT_ite (fun h4 => ?_) (fun h5 => ?_)
    · exact gT_ret ⟨rfl, trivial, hJt⟩
    · exfalso; omega
-- L_knows
theorem d_305 {p : gP} {a0 : Nat} {a1 : Int} {a2 : Nat} {s : gS} (hp : -1 ≤ p.1 ∧ p.1 ≤ 0) (h : J p s) (t0 : T 11 a0) (t2 : T 109 a2) : gT (f_305 a0 a1 a2 s) (fun r => r.1 = 1 ∧ True ∧ J p r.2.2.2) := by
  unfold f_305
  refine gT_c1 (A := fun w9 u9 => True ∧ J p u9) (B := fun t9 u9 => (t9 = 2) ∧ J p u9) (d_122 hp h t0) (fun v2 s1 h1 => ?_) (fun k s1 hk hB => ?_)
  · obtain ⟨h1r, hJ2⟩ := h1
    extract_lets -merge s3
    refine gT_chk (by omega) (by omega) ?_
    have hJ3 : J p s3 := (J_wa hJ2 t2 rfl)
    exact gT_ret ⟨rfl, trivial, hJ3⟩
  · obtain ⟨ht, hJt⟩ := hB
    refine gT_ite (fun h4 => ?_) (fun h5 => ?_)
    · exact gT_ret ⟨rfl, trivial, hJt⟩
    · exfalso; omega
-- L_led
theorem d_308 {p : gP} {a0 : Nat} {a1 : Int} {a2 : Int} {a3 : Nat} {s : gS} (hp : -1 ≤ p.1 ∧ p.1 ≤ 0) (h : J p s) (t0 : T 11 a0) (t3 : T 109 a3) (r2 : 0 ≤ a2 ∧ a2 ≤ 1) : gT (f_308 a0 a1 a2 a3 s) (fun r => r.1 = 1 ∧ True ∧ J p r.2.2.2) := by
  unfold f_308
  refine gT_c1 (A := fun w9 u9 => True ∧ J p u9) (B := fun t9 u9 => (t9 = 5) ∧ J p u9) (d_127 hp h t0 (show (0 : Int) ≤ a2 ∧ a2 ≤ 1 by constructor <;> omega)) (fun v2 s1 h1 => ?_) (fun k s1 hk hB => ?_)
  · obtain ⟨h1r, hJ2⟩ := h1
    extract_lets -merge s3
    refine gT_chk (by omega) (by omega) ?_
    have hJ3 : J p s3 := (J_wa hJ2 t3 rfl)
    exact gT_ret ⟨rfl, trivial, hJ3⟩
  · obtain ⟨ht, hJt⟩ := hB
    refine gT_ite (fun h4 => ?_) (fun h5 => ?_)
    · exact gT_ret ⟨rfl, trivial, hJt⟩
    · exfalso; omega
-- L_log
theorem d_309 {p : gP} {a0 : Nat} {a1 : Int} {a2 : Int} {a3 : Nat} {s : gS} (hp : -1 ≤ p.1 ∧ p.1 ≤ 0) (h : J p s) (t0 : T 11 a0) (t3 : T 109 a3) : gT (f_309 a0 a1 a2 a3 s) (fun r => r.1 = 1 ∧ True ∧ J p r.2.2.2) := by
  unfold f_309
  refine gT_c1 (A := fun w9 u9 => True ∧ J p u9) (B := fun t9 u9 => (t9 = 4) ∧ J p u9) (d_128 hp h t0) (fun v2 s1 h1 => ?_) (fun k s1 hk hB => ?_)
  · obtain ⟨h1r, hJ2⟩ := h1
    extract_lets -merge s3
    refine gT_chk (by omega) (by omega) ?_
    have hJ3 : J p s3 := (J_wa hJ2 t3 rfl)
    exact gT_ret ⟨rfl, trivial, hJ3⟩
  · obtain ⟨ht, hJt⟩ := hB
    refine gT_ite (fun h4 => ?_) (fun h5 => ?_)
    · exact gT_ret ⟨rfl, trivial, hJt⟩
    · exfalso; omega
