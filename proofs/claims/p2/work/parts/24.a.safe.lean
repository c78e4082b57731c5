theorem d_4 {p : Int} {a0 : Nat} {a1 : Int} {a2 : Int} {s : gS} (hp : -1 ≤ p ∧ p ≤ 0) (h : J p s) (t0 : T 0 a0) (r1 : 0 ≤ a1 ∧ a1 ≤ 5) : gT (f_4 a0 a1 a2 s) (fun r => r.1 = 1 ∧ (0 ≤ r.2.1 ∧ r.2.1 ≤ 1) ∧ J p r.2.2.2) := by
  unfold f_4
  refine gT_chk (by omega) (by omega) ?_
  refine gT_ite (fun h1 => ?_) (fun h2 => ?_)
  · exact gT_ret ⟨rfl, ⟨by dsimp only; constructor <;> omega, h⟩⟩
  · exact gT_ret ⟨rfl, ⟨by dsimp only; constructor <;> omega, h⟩⟩
theorem d_5 {p : Int} {a0 : Nat} {a1 : Int} {a2 : Int} {s : gS} (hp : -1 ≤ p ∧ p ≤ 0) (h : J p s) (t0 : T 0 a0) : gT (f_5 a0 a1 a2 s) (fun r => r.1 = 1 ∧ (0 ≤ r.2.1 ∧ r.2.1 ≤ 1) ∧ J p r.2.2.2) := by
  unfold f_5
  refine gT_loop (fun y => T 0 y.1 ∧ (0 ≤ y.2.2.2.1 ∧ y.2.2.2.1 ≤ 6) ∧ J p y.2.2.2.2) (fun y => (6 - y.2.2.2.1).toNat) (fun y hy => ?_) ?_
  · obtain ⟨x0, x1, x3, x4, s⟩ := y
    obtain ⟨t1, r2, hJ3⟩ := hy
    dsimp only at t1 r2 hJ3
    show gT (sb_5_5 x0 x1 x3 x4 s) _
    unfold sb_5_5
    extract_lets -merge v1
    refine gT_ite (fun h4 => ?_) (fun h5 => ?_)
    · have := J_f (i := 6) hJ3 t1 rfl (by decide) rfl
      refine gT_ite (fun h6 => ?_) (fun h7 => ?_)
      · exact gT_ret ⟨⟨t1, (show (0 : Int) ≤ (g32 (x4 + 1)) ∧ (g32 (x4 + 1)) ≤ 6 by have := g32_eq (v := (x4 + 1)) (by omega) (by omega); constructor <;> omega), hJ3⟩, by dsimp only; have := g32_eq (v := (x4 + 1)) (by omega) (by omega); omega⟩
      · refine gT_chk (by omega) (by omega) ?_
        have hv8 : v1 = (gand x3 (gxor (gI s (gR s x0 4) (x4 : Int).toNat) (-1))) := rfl
        exact gT_ret ⟨⟨t1, (show (0 : Int) ≤ (g32 (x4 + 1)) ∧ (g32 (x4 + 1)) ≤ 6 by have := g32_eq (v := (x4 + 1)) (by omega) (by omega); constructor <;> omega), hJ3⟩, by dsimp only; have := g32_eq (v := (x4 + 1)) (by omega) (by omega); omega⟩
    · have := J_f (i := 6) hJ3 t1 rfl (by decide) rfl
      refine gT_map ?_
      refine gT_ite (fun h9 => ?_) (fun h10 => ?_)
      · exact gT_ret ⟨rfl, ⟨by dsimp only; constructor <;> omega, hJ3⟩⟩
      · exact gT_ret ⟨rfl, ⟨by dsimp only; constructor <;> omega, hJ3⟩⟩
  · exact ⟨t0, (show (0 : Int) ≤ 0 ∧ 0 ≤ 6 by constructor <;> omega), h⟩
theorem d_6 {p : Int} {a0 : Nat} {a1 : Int} {s : gS} (hp : -1 ≤ p ∧ p ≤ 0) (h : J p s) (t0 : T 0 a0) : gT (f_6 a0 a1 s) (fun r => r.1 = 1 ∧ True ∧ J p r.2.2.2) := by
  unfold f_6
  refine gT_loop (fun y => T 0 y.1 ∧ (0 ≤ y.2.2.2.1 ∧ y.2.2.2.1 ≤ 6) ∧ J p y.2.2.2.2) (fun y => (6 - y.2.2.2.1).toNat) (fun y hy => ?_) ?_
  · obtain ⟨x0, x1, x2, x3, s⟩ := y
    obtain ⟨t1, r2, hJ3⟩ := hy
    dsimp only at t1 r2 hJ3
    show gT (sb_6_4 x0 x1 x2 x3 s) _
    unfold sb_6_4
    extract_lets -merge v1
    refine gT_ite (fun h4 => ?_) (fun h5 => ?_)
    · have := J_f (i := 6) hJ3 t1 rfl (by decide) rfl
      refine gT_ite (fun h6 => ?_) (fun h7 => ?_)
      · exact gT_ret ⟨⟨t1, (show (0 : Int) ≤ (g32 (x3 + 1)) ∧ (g32 (x3 + 1)) ≤ 6 by have := g32_eq (v := (x3 + 1)) (by omega) (by omega); constructor <;> omega), hJ3⟩, by dsimp only; have := g32_eq (v := (x3 + 1)) (by omega) (by omega); omega⟩
      · refine gT_chk (by omega) (by omega) ?_
        have hv8 : v1 = (g32 (x2 + (gI s (gR s x0 3) (x3 : Int).toNat))) := rfl
        exact gT_ret ⟨⟨t1, (show (0 : Int) ≤ (g32 (x3 + 1)) ∧ (g32 (x3 + 1)) ≤ 6 by have := g32_eq (v := (x3 + 1)) (by omega) (by omega); constructor <;> omega), hJ3⟩, by dsimp only; have := g32_eq (v := (x3 + 1)) (by omega) (by omega); omega⟩
    · have := J_f (i := 6) hJ3 t1 rfl (by decide) rfl
      refine gT_map ?_
      exact gT_ret ⟨rfl, trivial, hJ3⟩
  · exact ⟨t0, (show (0 : Int) ≤ 0 ∧ 0 ≤ 6 by constructor <;> omega), h⟩
theorem d_26 {p : Int} {a0 : Nat} {a1 : Int} {s : gS} (hp : -1 ≤ p ∧ p ≤ 0) (h : J p s) (t0 : T 2 a0) : gT (f_26 a0 a1 s) (fun r => r.1 = 0 ∧ J p r.2.2.2) := by
  unfold f_26
  extract_lets -merge v1 s2 s3
  have hv1 : v1 = (min (gI s a0 6) a1) := rfl
  have hJ2 : J p s2 := (J_wf h t0 rfl (by decide) (fun q hq => by cases hq))
  have hJ3 : J p s3 := (J_wf hJ2 t0 rfl (by decide) (fun q hq => by cases hq))
  exact gT_ret ⟨rfl, hJ3⟩
theorem d_29 {p : Int} {a0 : Nat} {a1 : Int} {s : gS} (hp : -1 ≤ p ∧ p ≤ 0) (h : J p s) (t0 : T 2 a0) : gT (f_29 a0 a1 s) (fun r => r.1 = 1 ∧ True ∧ J p r.2.2.2) := by
  unfold f_29
  refine gT_loop (fun y => T 2 y.1 ∧ (0 ≤ y.2.2.2.1 ∧ y.2.2.2.1 ≤ 6) ∧ J p y.2.2.2.2) (fun y => (6 - y.2.2.2.1).toNat) (fun y hy => ?_) ?_
  · obtain ⟨x0, x1, x2, x3, s⟩ := y
    obtain ⟨t1, r2, hJ3⟩ := hy
    dsimp only at t1 r2 hJ3
    show gT (sb_29_4 x0 x1 x2 x3 s) _
    unfold sb_29_4
    extract_lets -merge v1
    refine gT_ite (fun h4 => ?_) (fun h5 => ?_)
    · have := J_f (i := 4) hJ3 t1 rfl (by decide) rfl
      refine gT_chk (by omega) (by omega) ?_
      refine gT_ite (fun h6 => ?_) (fun h7 => ?_)
      · have hv8 : v1 = (gor x2 (gshl 1 x3)) := rfl
        exact gT_ret ⟨⟨t1, (show (0 : Int) ≤ (g32 (x3 + 1)) ∧ (g32 (x3 + 1)) ≤ 6 by have := g32_eq (v := (x3 + 1)) (by omega) (by omega); constructor <;> omega), hJ3⟩, by dsimp only; have := g32_eq (v := (x3 + 1)) (by omega) (by omega); omega⟩
      · exact gT_ret ⟨⟨t1, (show (0 : Int) ≤ (g32 (x3 + 1)) ∧ (g32 (x3 + 1)) ≤ 6 by have := g32_eq (v := (x3 + 1)) (by omega) (by omega); constructor <;> omega), hJ3⟩, by dsimp only; have := g32_eq (v := (x3 + 1)) (by omega) (by omega); omega⟩
    · have := J_f (i := 4) hJ3 t1 rfl (by decide) rfl
      refine gT_map ?_
      exact gT_ret ⟨rfl, trivial, hJ3⟩
  · exact ⟨t0, (show (0 : Int) ≤ 0 ∧ 0 ≤ 6 by constructor <;> omega), h⟩
theorem d_30 {p : Int} {a0 : Nat} {s : gS} (hp : -1 ≤ p ∧ p ≤ 0) (h : J p s) (t0 : T 2 a0) : gT (f_30 a0 s) (fun r => r.1 = 1 ∧ True ∧ J p r.2.2.2) := by
  unfold f_30
  refine gT_loop (fun y => T 2 y.1 ∧ (0 ≤ y.2.2.1 ∧ y.2.2.1 ≤ 6) ∧ J p y.2.2.2) (fun y => (6 - y.2.2.1).toNat) (fun y hy => ?_) ?_
  · obtain ⟨x0, x1, x2, s⟩ := y
    obtain ⟨t1, r2, hJ3⟩ := hy
    dsimp only at t1 r2 hJ3
    show gT (sb_30_4 x0 x1 x2 s) _
    unfold sb_30_4
    extract_lets -merge v1
    refine gT_ite (fun h4 => ?_) (fun h5 => ?_)
    · have := J_f (i := 4) hJ3 t1 rfl (by decide) rfl
      refine gT_chk (by omega) (by omega) ?_
      refine gT_ite (fun h6 => ?_) (fun h7 => ?_)
      · refine gT_chk (by omega) (by omega) ?_
        have := J_f (i := 0) hJ3 (T_man hJ3 (T_f hJ3 t1 (by decide) rfl rfl) (by omega)) rfl (by decide) rfl
        have hv8 : v1 = (g32 (x1 + (gI s (gR s (gR s x0 0) (x2 : Int).toNat) 0))) := rfl
        exact gT_ret ⟨⟨t1, (show (0 : Int) ≤ (g32 (x2 + 1)) ∧ (g32 (x2 + 1)) ≤ 6 by have := g32_eq (v := (x2 + 1)) (by omega) (by omega); constructor <;> omega), hJ3⟩, by dsimp only; have := g32_eq (v := (x2 + 1)) (by omega) (by omega); omega⟩
      · exact gT_ret ⟨⟨t1, (show (0 : Int) ≤ (g32 (x2 + 1)) ∧ (g32 (x2 + 1)) ≤ 6 by have := g32_eq (v := (x2 + 1)) (by omega) (by omega); constructor <;> omega), hJ3⟩, by dsimp only; have := g32_eq (v := (x2 + 1)) (by omega) (by omega); omega⟩
    · have := J_f (i := 4) hJ3 t1 rfl (by decide) rfl
      refine gT_map ?_
      exact gT_ret ⟨rfl, trivial, hJ3⟩
  · exact ⟨t0, (show (0 : Int) ≤ 0 ∧ 0 ≤ 6 by constructor <;> omega), h⟩
theorem d_31 {p : Int} {a0 : Nat} {a1 : Int} {s : gS} (hp : -1 ≤ p ∧ p ≤ 0) (h : J p s) (t0 : T 2 a0) : gT (f_31 a0 a1 s) (fun r => r.1 = 1 ∧ True ∧ J p r.2.2.2) := by
  unfold f_31
  refine gT_loop (fun y => T 2 y.1 ∧ (0 ≤ y.2.2.2.1 ∧ y.2.2.2.1 ≤ 6) ∧ J p y.2.2.2.2) (fun y => (6 - y.2.2.2.1).toNat) (fun y hy => ?_) ?_
  · obtain ⟨x0, x1, x2, x3, s⟩ := y
    obtain ⟨t1, r2, hJ3⟩ := hy
    dsimp only at t1 r2 hJ3
    show gT (sb_31_4 x0 x1 x2 x3 s) _
    unfold sb_31_4
    extract_lets -merge v1
    refine gT_ite (fun h4 => ?_) (fun h5 => ?_)
    · have := J_f (i := 5) hJ3 t1 rfl (by decide) rfl
      refine gT_chk (by omega) (by omega) ?_
      have hv6 : v1 = (gor x2 (gshl (gand (gshr (gI s (gR s x0 2) (x3 : Int).toNat) x1) 1) x3)) := rfl
      exact gT_ret ⟨⟨t1, (show (0 : Int) ≤ (g32 (x3 + 1)) ∧ (g32 (x3 + 1)) ≤ 6 by have := g32_eq (v := (x3 + 1)) (by omega) (by omega); constructor <;> omega), hJ3⟩, by dsimp only; have := g32_eq (v := (x3 + 1)) (by omega) (by omega); omega⟩
    · have := J_f (i := 5) hJ3 t1 rfl (by decide) rfl
      refine gT_map ?_
      exact gT_ret ⟨rfl, trivial, hJ3⟩
  · exact ⟨t0, (show (0 : Int) ≤ 0 ∧ 0 ≤ 6 by constructor <;> omega), h⟩
theorem d_32 {p : Int} {a0 : Nat} {a1 : Int} {s : gS} (hp : -1 ≤ p ∧ p ≤ 0) (h : J p s) (t0 : T 2 a0) : gT (f_32 a0 a1 s) (fun r => r.1 = 1 ∧ True ∧ J p r.2.2.2) := by
  unfold f_32
  refine gT_loop (fun y => T 2 y.1 ∧ (0 ≤ y.2.2.2.1 ∧ y.2.2.2.1 ≤ 6) ∧ J p y.2.2.2.2) (fun y => (6 - y.2.2.2.1).toNat) (fun y hy => ?_) ?_
  · obtain ⟨x0, x1, x2, x3, s⟩ := y
    obtain ⟨t1, r2, hJ3⟩ := hy
    dsimp only at t1 r2 hJ3
    show gT (sb_32_4 x0 x1 x2 x3 s) _
    unfold sb_32_4
    extract_lets -merge v1
    refine gT_ite (fun h4 => ?_) (fun h5 => ?_)
    · have := J_f (i := 5) hJ3 t1 rfl (by decide) rfl
      refine gT_ite (fun h6 => ?_) (fun h7 => ?_)
      · exact gT_ret ⟨⟨t1, (show (0 : Int) ≤ (g32 (x3 + 1)) ∧ (g32 (x3 + 1)) ≤ 6 by have := g32_eq (v := (x3 + 1)) (by omega) (by omega); constructor <;> omega), hJ3⟩, by dsimp only; have := g32_eq (v := (x3 + 1)) (by omega) (by omega); omega⟩
      · refine gT_chk (by omega) (by omega) ?_
        have hv8 : v1 = (gor x2 (gI s (gR s x0 2) (x3 : Int).toNat)) := rfl
        exact gT_ret ⟨⟨t1, (show (0 : Int) ≤ (g32 (x3 + 1)) ∧ (g32 (x3 + 1)) ≤ 6 by have := g32_eq (v := (x3 + 1)) (by omega) (by omega); constructor <;> omega), hJ3⟩, by dsimp only; have := g32_eq (v := (x3 + 1)) (by omega) (by omega); omega⟩
    · have := J_f (i := 5) hJ3 t1 rfl (by decide) rfl
      refine gT_map ?_
      exact gT_ret ⟨rfl, trivial, hJ3⟩
  · exact ⟨t0, (show (0 : Int) ≤ 0 ∧ 0 ≤ 6 by constructor <;> omega), h⟩
theorem d_59 {p : Int} {a0 : Nat} {a1 : Nat} {s : gS} (hp : -1 ≤ p ∧ p ≤ 0) (h : J p s) (t0 : T 7 a0) (t1 : T 7 a1) : gT (f_59 a0 a1 s) (fun r => r.1 = 0 ∧ J p r.2.2.2) := by
  unfold f_59
  extract_lets -merge s1 s2 s3 s4 s5 s6
  have hJ1 : J p s1 := (J_wf h t0 rfl (by decide) (fun q hq => by cases hq; dsimp only; have := J_f (i := 0) h t1 rfl (by decide) rfl; constructor <;> omega))
  have hJ2 : J p s2 := (J_wf hJ1 t0 rfl (by decide) (fun q hq => by cases hq; dsimp only; have := J_f (i := 1) hJ1 t1 rfl (by decide) rfl; constructor <;> omega))
  have hJ3 : J p s3 := (J_wf hJ2 t0 rfl (by decide) (fun q hq => by cases hq))
  have hJ4 : J p s4 := (J_wf hJ3 t0 rfl (by decide) (fun q hq => by cases hq; dsimp only; have := J_f (i := 3) hJ3 t1 rfl (by decide) rfl; constructor <;> omega))
  have hJ5 : J p s5 := (J_wf hJ4 t0 rfl (by decide) (fun q hq => by cases hq))
  have hJ6 : J p s6 := (J_wf hJ5 t0 rfl (by decide) (fun q hq => by cases hq))
  exact gT_ret ⟨rfl, hJ6⟩
theorem d_60 {p : Int} {a0 : Nat} {a1 : Int} {s : gS} (hp : -1 ≤ p ∧ p ≤ 0) (h : J p s) (t0 : T 7 a0) : gT (f_60 a0 a1 s) (fun r => r.1 = 0 ∧ J p r.2.2.2) := by
  unfold f_60
  extract_lets -merge s1
  have hJ1 : J p s1 := (J_wf h t0 rfl (by decide) (fun q hq => by cases hq; dsimp only; have := J_f (i := 0) h t0 rfl (by decide) rfl; constructor <;> omega))
  exact gT_ret ⟨rfl, hJ1⟩
theorem d_23 {p : Int} {a0 : Nat} {a1 : Nat} {s : gS} (hp : -1 ≤ p ∧ p ≤ 0) (h : J p s) (t0 : T 2 a0) (t1 : T 2 a1) : gT (f_23 a0 a1 s) (fun r => r.1 = 0 ∧ J p r.2.2.2) := by
  unfold f_23
  refine gT_loop (fun y => T 2 y.1 ∧ T 2 y.2.1 ∧ (0 ≤ y.2.2.1 ∧ y.2.2.1 ≤ 6) ∧ J p y.2.2.2) (fun y => (6 - y.2.2.1).toNat) (fun y hy => ?_) ?_
  · obtain ⟨x0, x1, x2, s⟩ := y
    obtain ⟨t1, t2, r3, hJ4⟩ := hy
    dsimp only at t1 t2 r3 hJ4
    show gT (sb_23_2 x0 x1 x2 s) _
    unfold sb_23_2
    extract_lets -merge s3 s4 s5 s6 s7 s8 s9 s10
    refine gT_ite (fun h5 => ?_) (fun h6 => ?_)
    · refine gT_chk (by omega) (by omega) ?_
      refine gT_chk (by omega) (by omega) ?_
      refine gT_v0 (d_59 hp hJ4 (T_man hJ4 (T_f hJ4 t1 (by decide) rfl rfl) (by omega)) (T_man hJ4 (T_f hJ4 t2 (by decide) rfl rfl) (by omega))) (fun s1 hJ7 => ?_)
      exact gT_ret ⟨⟨t1, t2, (show (0 : Int) ≤ (g32 (x2 + 1)) ∧ (g32 (x2 + 1)) ≤ 6 by have := g32_eq (v := (x2 + 1)) (by omega) (by omega); constructor <;> omega), hJ7⟩, by dsimp only; have := g32_eq (v := (x2 + 1)) (by omega) (by omega); omega⟩
    · refine gT_map ?_
      have hJ8 : J p s3 := (J_ca hJ4 (T_f hJ4 t1 (by decide) rfl rfl) rfl)
      have hJ9 : J p s4 := (J_ca hJ8 (T_f hJ8 t1 (by decide) rfl rfl) rfl)
      have hJ10 : J p s5 := (J_wf hJ9 t1 rfl (by decide) (fun q hq => by cases hq; dsimp only; have := J_f (i := 4) hJ9 t2 rfl (by decide) rfl; constructor <;> omega))
      have hJ11 : J p s6 := (J_wf hJ10 t1 rfl (by decide) (fun q hq => by cases hq; dsimp only; have := J_f (i := 5) hJ10 t2 rfl (by decide) rfl; constructor <;> omega))
      have hJ12 : J p s7 := (J_wf hJ11 t1 rfl (by decide) (fun q hq => by cases hq))
      have hJ13 : J p s8 := (J_wf hJ12 t1 rfl (by decide) (fun q hq => by cases hq))
      have hJ14 : J p s9 := (J_wf hJ13 t1 rfl (by decide) (fun q hq => by cases hq))
      have hJ15 : J p s10 := (J_wf hJ14 t1 rfl (by decide) (fun q hq => by cases hq))
      exact gT_ret ⟨rfl, hJ15⟩
  · exact ⟨t0, t1, (show (0 : Int) ≤ 0 ∧ 0 ≤ 6 by constructor <;> omega), h⟩
theorem d_54 {p : Int} {a0 : Nat} {a1 : Nat} {s : gS} (hp : -1 ≤ p ∧ p ≤ 0) (h : J p s) (t0 : T 6 a0) (t1 : T 6 a1) : gT (f_54 a0 a1 s) (fun r => r.1 = 0 ∧ J p r.2.2.2) := by
  unfold f_54
  extract_lets -merge s1 s2
  have hJ1 : J p s1 := (J_ca h (T_f h t0 (by decide) rfl rfl) rfl)
  have hJ2 : J p s2 := (J_wf hJ1 t0 rfl (by decide) (fun q hq => by cases hq; dsimp only; have := J_f (i := 1) hJ1 t1 rfl (by decide) rfl; constructor <;> omega))
  exact gT_ret ⟨rfl, hJ2⟩
theorem d_22 {p : Int} {a0 : Nat} {a1 : Nat} {s : gS} (hp : -1 ≤ p ∧ p ≤ 0) (h : J p s) (t0 : T 2 a0) (t1 : T 2 a1) : gT (f_22 a0 a1 s) (fun r => r.1 = 0 ∧ J p r.2.2.2) := by
  unfold f_22
  refine gT_v0 (d_23 hp h t0 t1) (fun s1 hJ1 => ?_)
  refine gT_v0 (d_54 hp hJ1 (T_f hJ1 t0 (by decide) rfl rfl) (T_f hJ1 t1 (by decide) rfl rfl)) (fun s3 hJ2 => ?_)
  exact gT_ret ⟨rfl, hJ2⟩
theorem d_55 {p : Int} {a0 : Nat} {a1 : Int} {a2 : Int} {a3 : Int} {a4 : Int} {s : gS} (hp : -1 ≤ p ∧ p ≤ 0) (h : J p s) (t0 : T 6 a0) : gT (f_55 a0 a1 a2 a3 a4 s) (fun r => r.1 = 0 ∧ J p r.2.2.2) := by
  unfold f_55
  extract_lets -merge s7 s8
  refine gT_ite (fun h1 => ?_) (fun h2 => ?_)
  · have := J_f (i := 1) h t0 rfl (by decide) rfl
    unfold fb_55_31
    extract_lets -merge v1 s2 s3 s4 s5 s6
    have := J_f (i := 1) h t0 rfl (by decide) rfl
    have := g32_eq (v := ((gI s a0 1) * 4)) (by omega) (by omega)
    have hv3 : v1 = (g32 ((gI s a0 1) * 4)) := rfl
    refine gT_chk (by omega) (by omega) ?_
    have hJ4 : J p s2 := (J_wa h (T_f h t0 (by decide) rfl rfl) rfl)
    refine gT_chk (by have := g32_eq (v := (v1 + 1)) (by omega) (by omega); omega) (by have := g32_eq (v := (v1 + 1)) (by omega) (by omega); omega) ?_
    have hJ5 : J p s3 := (J_wa hJ4 (T_f hJ4 t0 (by decide) rfl rfl) rfl)
    refine gT_chk (by have := g32_eq (v := (v1 + 2)) (by omega) (by omega); omega) (by have := g32_eq (v := (v1 + 2)) (by omega) (by omega); omega) ?_
    have hJ6 : J p s4 := (J_wa hJ5 (T_f hJ5 t0 (by decide) rfl rfl) rfl)
    refine gT_chk (by have := g32_eq (v := (v1 + 3)) (by omega) (by omega); omega) (by have := g32_eq (v := (v1 + 3)) (by omega) (by omega); omega) ?_
    have hJ7 : J p s5 := (J_wa hJ6 (T_f hJ6 t0 (by decide) rfl rfl) rfl)
    have hJ8 : J p s6 := (J_wf hJ7 t0 rfl (by decide) (fun q hq => by cases hq; dsimp only; have := J_f (i := 1) hJ7 t0 rfl (by decide) rfl; have := g32_eq (v := ((gI s5 a0 1) + 1)) (by omega) (by omega); constructor <;> omega))
    exact gT_ret ⟨rfl, hJ8⟩
  · have := J_f (i := 1) h t0 rfl (by decide) rfl
    have hJ9 : J p s7 := (J_ca h (T_f h t0 (by decide) rfl rfl) rfl)
    have hJ10 : J p s8 := (J_wf hJ9 t0 rfl (by decide) (fun q hq => by cases hq; dsimp only; constructor <;> omega))
    unfold fb_55_31
    extract_lets -merge v1 s2 s3 s4 s5 s6
    have := J_f (i := 1) hJ10 t0 rfl (by decide) rfl
    have := g32_eq (v := ((gI s8 a0 1) * 4)) (by omega) (by omega)
    have hv11 : v1 = (g32 ((gI s8 a0 1) * 4)) := rfl
    refine gT_chk (by omega) (by omega) ?_
    have hJ12 : J p s2 := (J_wa hJ10 (T_f hJ10 t0 (by decide) rfl rfl) rfl)
    refine gT_chk (by have := g32_eq (v := (v1 + 1)) (by omega) (by omega); omega) (by have := g32_eq (v := (v1 + 1)) (by omega) (by omega); omega) ?_
    have hJ13 : J p s3 := (J_wa hJ12 (T_f hJ12 t0 (by decide) rfl rfl) rfl)
    refine gT_chk (by have := g32_eq (v := (v1 + 2)) (by omega) (by omega); omega) (by have := g32_eq (v := (v1 + 2)) (by omega) (by omega); omega) ?_
    have hJ14 : J p s4 := (J_wa hJ13 (T_f hJ13 t0 (by decide) rfl rfl) rfl)
    refine gT_chk (by have := g32_eq (v := (v1 + 3)) (by omega) (by omega); omega) (by have := g32_eq (v := (v1 + 3)) (by omega) (by omega); omega) ?_
    have hJ15 : J p s5 := (J_wa hJ14 (T_f hJ14 t0 (by decide) rfl rfl) rfl)
    have hJ16 : J p s6 := (J_wf hJ15 t0 rfl (by decide) (fun q hq => by cases hq; dsimp only; have := J_f (i := 1) hJ15 t0 rfl (by decide) rfl; have := g32_eq (v := ((gI s5 a0 1) + 1)) (by omega) (by omega); constructor <;> omega))
    exact gT_ret ⟨rfl, hJ16⟩
theorem d_56 {p : Int} {a0 : Nat} {a1 : Int} {a2 : Int} {s : gS} (hp : -1 ≤ p ∧ p ≤ 0) (h : J p s) (t0 : T 6 a0) : gT (f_56 a0 a1 a2 s) (fun r => r.1 = 1 ∧ True ∧ J p r.2.2.2) := by
  unfold f_56
  refine gT_ite (fun h1 => ?_) (fun h2 => ?_)
  · exact gT_ret ⟨rfl, trivial, h⟩
  · refine gT_ite (fun h3 => ?_) (fun h4 => ?_)
    · have := J_f (i := 1) h t0 rfl (by decide) rfl
      refine gT_ite (fun h5 => ?_) (fun h6 => ?_)
      · exact gT_ret ⟨rfl, trivial, h⟩
      · refine gT_ite (fun h7 => ?_) (fun h8 => ?_)
        · refine gT_chk (by have := J_f (i := 1) h t0 rfl (by decide) rfl; have := g32_eq (v := ((gI s a0 1) - 1)) (by omega) (by omega); omega) (by have := J_f (i := 1) h t0 rfl (by decide) rfl; have := g32_eq (v := ((gI s a0 1) - 1)) (by omega) (by omega); omega) ?_
          exact gT_ret ⟨rfl, trivial, h⟩
        · exact gT_ret ⟨rfl, trivial, h⟩
    · have := J_f (i := 1) h t0 rfl (by decide) rfl
      exact gT_ret ⟨rfl, trivial, h⟩
theorem d_61 {p : Int} {a0 : Nat} {a1 : Nat} {s : gS} (hp : -1 ≤ p ∧ p ≤ 0) (h : J p s) (t0 : T 7 a0) (t1 : T 0 a1) : gT (f_61 a0 a1 s) (fun r => r.1 = 1 ∧ True ∧ J p r.2.2.2) := by
  unfold f_61
  extract_lets -merge s1 s2 s3
  refine gT_ite (fun h1 => ?_) (fun h2 => ?_)
  · have := J_f (i := 3) h t0 rfl (by decide) rfl
    have := J_f (i := 5) h t1 rfl (by decide) rfl
    have hJ3 : J p s1 := (J_wf h t0 rfl (by decide) (fun q hq => by cases hq))
    refine gT_chk (by have := J_f (i := 3) hJ3 t0 rfl (by decide) rfl; omega) (by have := J_f (i := 3) hJ3 t0 rfl (by decide) rfl; omega) ?_
    refine gT_ite (fun h4 => ?_) (fun h5 => ?_)
    · exact gT_ret ⟨rfl, trivial, hJ3⟩
    · have hJ6 : J p s2 := (J_wf hJ3 t0 rfl (by decide) (fun q hq => by cases hq))
      have hJ7 : J p s3 := (J_wf hJ6 t0 rfl (by decide) (fun q hq => by cases hq; dsimp only; have := J_f (i := 3) hJ6 t0 rfl (by decide) rfl; have := g32_eq (v := ((gI s2 a0 3) + 1)) (by omega) (by omega); constructor <;> omega))
      refine gT_chk (by have := J_f (i := 3) hJ7 t0 rfl (by decide) rfl; have := g32_eq (v := ((gI s3 a0 3) - 1)) (by omega) (by omega); omega) (by have := J_f (i := 3) hJ7 t0 rfl (by decide) rfl; have := g32_eq (v := ((gI s3 a0 3) - 1)) (by omega) (by omega); omega) ?_
      exact gT_ret ⟨rfl, trivial, hJ7⟩
  · have := J_f (i := 3) h t0 rfl (by decide) rfl
    have := J_f (i := 5) h t1 rfl (by decide) rfl
    exact gT_ret ⟨rfl, trivial, h⟩
