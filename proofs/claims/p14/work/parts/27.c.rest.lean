section Rs
variable {p : gP} {s : gS} {a0 : Nat}
theorem r_02 {u : gS} (h : J p u) : gR u 1 0 = 2 := r_by h t10_1
theorem r_04 {u : gS} (h : J p u) : gR u 0 4 = 9 := J_r h rfl (by decide +kernel) (by decide +kernel)
/-- a tale's tests -/
def Tl (n : Int) (s : gS) : Prop := n ≤ 40 ∧ ∀ i : Int, 0 ≤ i → i + 1 < n → i % 2 = 0 → gI s 2 i.toNat < gI s 9 6
theorem t0_9 : T 0 9 := ⟨by decide, by decide +kernel⟩
theorem c_143 {n : Int} (h : J p s) (hn : 0 ≤ n ∧ n ≤ 400) : gT (f_143 0 n s) (fun r => r.1 = 1 ∧ (r.2.1 ≠ 0 → Tl n s) ∧ r.2.2.2 = s) := by
  unfold f_143
  refine gT_ite (fun _ => gT_ret ⟨rfl, fun e => absurd rfl e, rfl⟩) (fun h40 => ?_)
  refine gT_ite (fun _ => ?_) (fun _ => gT_ret ⟨rfl, fun e => absurd rfl e, rfl⟩)
  refine gT_loop (fun y => y.1 = 0 ∧ y.2.1 = n ∧ (0 ≤ y.2.2.1 ∧ y.2.2.1 ≤ 41) ∧ y.2.2.1 % 2 = 0 ∧ (∀ i : Int, 0 ≤ i → i < y.2.2.1 → i % 2 = 0 → gI s 2 i.toNat < gI s 9 6) ∧ y.2.2.2 = s) (fun y => (41 - y.2.2.1).toNat) (fun y hy => ?_) ⟨rfl, rfl, by dsimp only; omega, rfl, fun i h1 h2 => by dsimp only at h2; omega, rfl⟩
  obtain ⟨x0, x1, x2, z⟩ := y
  obtain ⟨q0, q1, r2, e2, hi, q3⟩ := hy
  dsimp only at q0 q1 r2 e2 hi q3
  subst q0 q1 q3
  have g1 := g32_eq (v := x2 + 1) (by omega) (by omega)
  have g2 := g32_eq (v := x2 + 2) (by omega) (by omega)
  show gT (sb_143_16 0 x1 x2 z) _
  unfold sb_143_16
  rw [g1, g2, r_00 h, r_02 h, r_04 h]
  refine gT_ite (fun hx => ?_) (fun hx => gT_map (gT_ret ⟨rfl, fun _ => ⟨by omega, fun i h1 h2 h3 => hi i h1 (by omega) h3⟩, rfl⟩))
  refine gT_chk (by omega) (by omega) ?_
  refine gT_ite (fun hb => ?_) (fun _ => gT_map (gT_ret ⟨rfl, fun e => absurd rfl e, rfl⟩))
  refine gT_chk (by omega) (by omega) ?_
  refine gT_ite (fun _ => gT_map (gT_ret ⟨rfl, fun e => absurd rfl e, rfl⟩)) (fun _ => ?_)
  refine gT_ret ⟨⟨rfl, rfl, by dsimp only; omega, by dsimp only; omega, fun i h1 h2 h3 => ?_, rfl⟩, by dsimp only; omega⟩
  dsimp only at h2
  by_cases hc : i < x2
  · exact hi i h1 hc h3
  · have e : i = x2 := by omega
    rw [e]
    exact hb
theorem c_144 {w n : Int} (h : J p s) (hn : 0 ≤ n) (ht : Tl n s) : gT (f_144 0 w n s) (fun r => r.1 = 1 ∧ r.2.2.2 = s) := by
  obtain ⟨h40, ht⟩ := ht
  unfold f_144
  refine gT_loop (fun y => y.1 = 0 ∧ y.2.1 = w ∧ y.2.2.1 = n ∧ (0 ≤ y.2.2.2.1 ∧ y.2.2.2.1 ≤ 41) ∧ y.2.2.2.1 % 2 = 0 ∧ y.2.2.2.2 = s) (fun y => (41 - y.2.2.2.1).toNat) (fun y hy => ?_) ⟨rfl, rfl, rfl, by dsimp only; omega, rfl, rfl⟩
  obtain ⟨x0, x1, x2, x3, z⟩ := y
  obtain ⟨q0, q1, q2, r3, e3, q3⟩ := hy
  dsimp only at q0 q1 q2 r3 e3 q3
  subst q0 q1 q2 q3
  have g1 := g32_eq (v := x3 + 1) (by omega) (by omega)
  have g2 := g32_eq (v := x3 + 2) (by omega) (by omega)
  show gT (sb_144_2 0 x1 x2 x3 z) _
  unfold sb_144_2
  rw [g1, r_00 h, r_02 h, r_04 h]
  refine gT_ite (fun hx => ?_) (fun hx => gT_map (gT_ret ⟨rfl, rfl⟩))
  refine gT_chk (by omega) (by omega) ?_
  have b1 := ht x3 (by omega) hx e3
  have b2 := J_f (i := 6) h t0_9 rfl (by decide) rfl
  have b3 := J_by (k := x3.toNat) h h t10_1
  rw [r_02 h] at b3
  refine gT_v1 (A := fun _ u => u = z) ?_ (fun v2 s1 e1 => ?_)
  · unfold f_4
    exact gT_chk (by omega) (by omega) (gT_ite (fun _ => gT_ret ⟨rfl, rfl⟩) (fun _ => gT_ret ⟨rfl, rfl⟩))
  subst e1
  refine gT_chk (by omega) (by omega) ?_
  have hf : ∀ a b : Int, gT (fb_144_46 0 x1 x2 x3 a b s1) (Sum.elim (fun y => (y.1 = 0 ∧ y.2.1 = x1 ∧ y.2.2.1 = x2 ∧ (0 ≤ y.2.2.2.1 ∧ y.2.2.2.1 ≤ 41) ∧ y.2.2.2.1 % 2 = 0 ∧ y.2.2.2.2 = s1) ∧ (41 - y.2.2.2.1).toNat < (41 - x3).toNat) (fun r => r.1 = 1 ∧ r.2.2.2 = s1)) := by
    intro a b
    unfold fb_144_46
    rw [g2]
    exact gT_ite (fun _ => gT_ret ⟨⟨rfl, rfl, rfl, by dsimp only; omega, by dsimp only; omega, rfl⟩, by dsimp only; omega⟩) (fun _ => gT_map (gT_ret ⟨rfl, rfl⟩))
  exact gT_ite (fun _ => hf _ _) (fun _ => hf _ _)
theorem d_142 (hp : -1 ≤ p.1 ∧ p.1 ≤ 0) (h : J p s) (t0 : T 11 a0) : gT (f_142 a0 s) (fun r => (r.1 = 1 ∧ True ∧ J (p.1, 0, p.2.2.1, p.2.2.2.1, p.2.2.2.2) r.2.2.2) ∨ (2 ≤ r.1 ∧ r.1 ≤ 6 ∧ (r.1 = 2) ∧ J (p.1, 0, p.2.2.1, p.2.2.2.1, p.2.2.2.2) r.2.2.2)) := by
  rw [T_11 t0]
  have r1 := J_f (i := 1) h t10_1 rfl (by decide) rfl
  unfold f_142
  rw [r_00 h]
  extract_lets v1 s2
  have hv1 : v1 = gI s 1 1 := rfl
  have j2 : J (p.1, 0, p.2.2) s2 := J_l h t10_1 (by decide)
  clear_value v1 s2
  refine gT_v1 (A := fun v u => (v ≠ 0 → Tl v1 s2) ∧ u = s2) (c_143 j2 (by omega)) (fun v4 s3 h3 => ?_)
  obtain ⟨ht, rfl⟩ := h3
  refine gT_ite (fun _ => gT_ret (Or.inr ⟨by dsimp only; omega, by dsimp only; omega, rfl, J_nw j2⟩)) (fun hn => ?_)
  have ht := ht hn
  refine gT_loop (fun y => y.1 = 0 ∧ y.2.1 = v1 ∧ (0 ≤ y.2.2.2.1 ∧ y.2.2.2.1 ≤ 64) ∧ y.2.2.2.2 = s3) (fun y => (64 - y.2.2.2.1).toNat) (fun y hy => ?_) ⟨rfl, rfl, by dsimp only; omega, rfl⟩
  obtain ⟨x0, x1, x2, x4, z⟩ := y
  obtain ⟨q0, q1, r4, q3⟩ := hy
  dsimp only at q0 q1 r4 q3
  subst q0 q1 q3
  have g1 := g32_eq (v := x4 + 1) (by omega) (by omega)
  show gT (sb_142_40 0 x1 x2 x4 z) _
  unfold sb_142_40
  rw [g1]
  refine gT_ite (fun hx => ?_) (fun hx => gT_map (gT_ret (Or.inl ⟨rfl, trivial, j2⟩)))
  refine gT_v1 (A := fun _ u => u = z) (c_144 j2 (by omega) ht) (fun v7 s6 e6 => ?_)
  subst e6
  exact gT_ite (fun _ => gT_ret ⟨⟨rfl, rfl, by dsimp only; omega, rfl⟩, by dsimp only; omega⟩) (fun _ => gT_ret ⟨⟨rfl, rfl, by dsimp only; omega, rfl⟩, by dsimp only; omega⟩)
/-- 100 to the k -/
def Hd (k x : Int) : Prop := (k = 0 ∧ x = 1) ∨ (k = 1 ∧ x = 100) ∨ (k = 2 ∧ x = 10000) ∨ (k = 3 ∧ x = 1000000) ∨ (k = 4 ∧ x = 100000000) ∨ (k = 5 ∧ x = 10000000000)
theorem Hd_s {k x : Int} (h : Hd k x) (hk : k < 5) : Hd (k + 1) (g64 (x * 100)) := by
  unfold Hd at h
  rcases h with ⟨rfl, rfl⟩ | ⟨rfl, rfl⟩ | ⟨rfl, rfl⟩ | ⟨rfl, rfl⟩ | ⟨rfl, rfl⟩ | ⟨rfl, rfl⟩
  · right; left; decide
  · right; right; left; decide
  · right; right; right; left; decide
  · right; right; right; right; left; decide
  · right; right; right; right; right; decide
  · exact absurd hk (by decide)
theorem Hd_n {k x : Int} (h : Hd k x) : ¬ x = 0 := by
  unfold Hd at h
  omega
theorem d_117 {a1 a2 : Int} (hp : -1 ≤ p.1 ∧ p.1 ≤ 0) (h : J p s) (t0 : T 11 a0) : gT (f_117 a0 a1 a2 s) (fun r => (r.1 = 1 ∧ True ∧ J p r.2.2.2) ∨ (2 ≤ r.1 ∧ r.1 ≤ 6 ∧ (r.1 = 2) ∧ J p r.2.2.2)) := by
  unfold f_117
  refine gT_t0 (A := fun u => (0 ≤ a1 ∧ a1 ≤ 5) ∧ J p u) (B := fun t u => t = 2 ∧ J p u) (d_138 hp h t0) (fun s1 h1 => ?_) (fun t s h1 h2 h3 => Or.inr ⟨h1, h2, by have := h3.1; dsimp only; omega, h3.2⟩)
  obtain ⟨r1, j1⟩ := h1
  refine gT_t0 (A := fun u => (0 ≤ a2 ∧ a2 ≤ 5) ∧ J p u) (B := fun t u => t = 2 ∧ J p u) (d_138 hp j1 t0) (fun s3 h3 => ?_) (fun t s h1 h2 h3 => Or.inr ⟨h1, h2, by have := h3.1; dsimp only; omega, h3.2⟩)
  obtain ⟨r2, j3⟩ := h3
  have hend : ∀ (x3 x5 : Int) (z : gS), ¬ x5 = 0 → J p z → gT (gloop st_117_45 (a0, a1, x3, x5, a2, z)) (fun r => (r.1 = 1 ∧ True ∧ J p r.2.2.2) ∨ (2 ≤ r.1 ∧ r.1 ≤ 6 ∧ (r.1 = 2) ∧ J p r.2.2.2)) := by
    intro x3 x5 z h5 jz
    refine gT_loop (fun y => y.1 = a0 ∧ y.2.1 = a1 ∧ ¬ y.2.2.2.1 = 0 ∧ (0 ≤ y.2.2.2.2.1 ∧ y.2.2.2.2.1 ≤ 6) ∧ J p y.2.2.2.2.2) (fun y => (6 - y.2.2.2.2.1).toNat) (fun y hy => ?_) ⟨rfl, rfl, h5, by dsimp only; omega, jz⟩
    obtain ⟨x0, x1, x3, x5, x7, z⟩ := y
    obtain ⟨q0, q1, h5, r7, jz⟩ := hy
    dsimp only at q0 q1 h5 r7 jz
    subst q0 q1
    have g1 := g32_eq (v := x7 + 1) (by omega) (by omega)
    show gT (sb_117_45 x0 x1 x3 x5 x7 z) _
    unfold sb_117_45
    refine gT_ite (fun _ => gT_map ?_) (fun _ => ?_)
    · rw [if_neg h5]
      exact gT_ret (Or.inl ⟨rfl, trivial, jz⟩)
    · refine gT_v1 (A := fun _ u => True ∧ J p u) (d_148 hp jz t0 r1 (by omega)) (fun v6 s5 h5' => ?_)
      exact gT_ret ⟨⟨rfl, rfl, h5, by dsimp only; omega, h5'.2⟩, by dsimp only; omega⟩
  refine gT_loop (fun y => y.1 = a0 ∧ y.2.1 = a1 ∧ y.2.2.1 = a2 ∧ Hd y.2.2.2.2.2.1 y.2.2.2.2.1 ∧ (0 ≤ y.2.2.2.2.2.1 ∧ y.2.2.2.2.2.1 ≤ 5) ∧ J p y.2.2.2.2.2.2) (fun y => (5 - y.2.2.2.2.2.1).toNat) (fun y hy => ?_) ⟨rfl, rfl, rfl, Or.inl ⟨rfl, rfl⟩, by dsimp only; omega, j3⟩
  obtain ⟨x0, x1, x2, x3, x5, x7, z⟩ := y
  obtain ⟨q0, q1, q2, hd, r7, jz⟩ := hy
  dsimp only at q0 q1 q2 hd r7 jz
  subst q0 q1 q2
  have g1 := g32_eq (v := x7 + 1) (by omega) (by omega)
  show gT (sb_117_22 x0 x1 x2 x3 x5 x7 z) _
  unfold sb_117_22
  rw [g1]
  refine gT_ite (fun hx => ?_) (fun _ => gT_map (hend _ _ _ (Hd_n hd) jz))
  exact gT_ret ⟨⟨rfl, rfl, rfl, Hd_s hd (by omega), by dsimp only; omega, jz⟩, by dsimp only; omega⟩
theorem d_244 {a1 a2 : Int} (hp : -1 ≤ p.1 ∧ p.1 ≤ 0) (h : J p s) (t0 : T 12 a0) : gT (f_244 a0 a1 a2 s) (fun r => r.1 = 1 ∧ True ∧ J p r.2.2.2) := by
  rw [T_12 t0]
  have hth : ∀ (w : Int) (z : gS), (w = 1 ∨ (w = 0 ∧ 0 ≤ a1 ∧ a1 ≤ 5)) → J p z → gT (fb_244_24 217 a1 a2 w 217 z) (fun r => r.1 = 1 ∧ True ∧ J p r.2.2.2) := by
    intro w z hw jz
    unfold fb_244_24
    extract_lets s4
    have j4 : J p s4 := J_wf jz t12 rfl (by decide) (by decide) (fun q hq => by cases hq)
    have e4 : gI s4 217 0 = w := rd_same (show s4 = gw z 217 0 w from rfl)
    refine gT_ite (fun _ => gT_ret ⟨rfl, trivial, j4⟩) (fun hn => ?_)
    have r1 : 0 ≤ a1 ∧ a1 ≤ 5 := by omega
    clear_value s4
    have hin : ∀ (x3 : Int) (u : gS), ¬ x3 = 0 → J p u → gT (gloop st_244_65 (217, a1, a2, x3, 0, 0, u)) (fun r => r.1 = 1 ∧ True ∧ J p r.2.2.2) := by
      intro x3 u h3 ju
      have gs := gshl_5 r1
      refine gT_loop (fun y => y.1 = 217 ∧ y.2.1 = a1 ∧ y.2.2.1 = a2 ∧ ¬ y.2.2.2.1 = 0 ∧ (0 ≤ y.2.2.2.2.2.1 ∧ y.2.2.2.2.2.1 ≤ 32) ∧ J p y.2.2.2.2.2.2) (fun y => (32 - y.2.2.2.2.2.1).toNat) (fun y hy => ?_) ⟨rfl, rfl, rfl, h3, by dsimp only; omega, ju⟩
      obtain ⟨x0, x1, x2, x3, x5, x7, u⟩ := y
      obtain ⟨q0, q1, q2, h3, r7, ju⟩ := hy
      dsimp only at q0 q1 q2 h3 r7 ju
      subst q0 q1 q2
      have g1 := g32_eq (v := x7 + 1) (by omega) (by omega)
      show gT (sb_244_65 217 x1 x2 x3 x5 x7 u) _
      unfold sb_244_65
      refine gT_ite (fun hx => ?_) (fun _ => gT_map ?_)
      rotate_left
      · rw [if_neg h3]
        exact gT_ret ⟨rfl, trivial, ju⟩
      refine gT_v1 (A := fun _ u => True ∧ J p u) (d_154 hp ju) (fun v6 s5 h5 => ?_)
      have hi : ∀ w0 : Int, gT (fb_244_87 217 x1 x2 x3 x5 x7 w0 s5) (Sum.elim (fun y => (y.1 = 217 ∧ y.2.1 = x1 ∧ y.2.2.1 = x2 ∧ ¬ y.2.2.2.1 = 0 ∧ (0 ≤ y.2.2.2.2.2.1 ∧ y.2.2.2.2.2.1 ≤ 32) ∧ J p y.2.2.2.2.2.2) ∧ (32 - y.2.2.2.2.2.1).toNat < (32 - x7).toNat) (fun r => r.1 = 1 ∧ True ∧ J p r.2.2.2)) := by
        intro w0
        unfold fb_244_87
        refine gT_loop (fun y => y.1 = 217 ∧ y.2.1 = x1 ∧ y.2.2.1 = x2 ∧ y.2.2.2.1 = x3 ∧ y.2.2.2.2.2.1 = x7 ∧ (0 ≤ y.2.2.2.2.2.2.2.1 ∧ y.2.2.2.2.2.2.2.1 ≤ 5) ∧ J p y.2.2.2.2.2.2.2.2) (fun y => (5 - y.2.2.2.2.2.2.2.1).toNat) (fun y hy => ?_) ⟨rfl, rfl, rfl, rfl, rfl, by dsimp only; omega, h5.2⟩
        obtain ⟨y0, y1, y2, y3, y5, y7, y8, y10, u⟩ := y
        obtain ⟨q0, q1, q2, q3, q4, r10, ju⟩ := hy
        dsimp only at q0 q1 q2 q3 q4 r10 ju
        subst q0 q1 q2 q3 q4
        have g2 := g32_eq (v := y10 + 1) (by omega) (by omega)
        show gT (sb_244_92 217 y1 y2 y3 y5 y7 y8 y10 u) _
        unfold sb_244_92
        refine gT_ite (fun hx => ?_) (fun _ => gT_map (gT_ret ⟨⟨rfl, rfl, rfl, h3, by dsimp only; omega, ju⟩, by dsimp only; omega⟩))
        refine gT_v1 (A := fun _ z => z = u) d153_pure (fun v8 s7 e => ?_)
        subst e
        exact gT_ite (fun _ => gT_ret ⟨⟨rfl, rfl, rfl, rfl, rfl, by dsimp only; omega, ju⟩, by dsimp only; omega⟩) (fun _ => gT_ret ⟨⟨rfl, rfl, rfl, rfl, rfl, by dsimp only; omega, ju⟩, by dsimp only; omega⟩)
      exact gT_ite (fun _ => hi _) (fun _ => hi _)
    refine gT_loop (fun y => y.1 = 217 ∧ y.2.1 = a1 ∧ y.2.2.1 = a2 ∧ Hd y.2.2.2.2.1 y.2.2.2.1 ∧ (0 ≤ y.2.2.2.2.1 ∧ y.2.2.2.2.1 ≤ 5) ∧ J p y.2.2.2.2.2) (fun y => (5 - y.2.2.2.2.1).toNat) (fun y hy => ?_) ⟨rfl, rfl, rfl, Or.inl ⟨rfl, rfl⟩, by dsimp only; omega, j4⟩
    obtain ⟨x0, x1, x2, x3, x5, u⟩ := y
    obtain ⟨q0, q1, q2, hd, r5, ju⟩ := hy
    dsimp only at q0 q1 q2 hd r5 ju
    subst q0 q1 q2
    have g1 := g32_eq (v := x5 + 1) (by omega) (by omega)
    show gT (sb_244_41 217 x1 x2 x3 x5 u) _
    unfold sb_244_41
    rw [g1]
    refine gT_ite (fun hx => ?_) (fun _ => gT_map (hin _ _ (Hd_n hd) ju))
    exact gT_ret ⟨⟨rfl, rfl, rfl, Hd_s hd (by omega), by dsimp only; omega, ju⟩, by dsimp only; omega⟩
  unfold f_244
  refine gT_v1 (A := fun v u => ((v = 1 ∧ 0 ≤ a1 ∧ a1 ≤ 5) ∨ (v = 0 ∧ (a1 < 0 ∨ 5 < a1))) ∧ u = s) e_150 (fun v2 s1 h1 => ?_)
  obtain ⟨r1, rfl⟩ := h1
  refine gT_ite (fun _ => hth _ _ (Or.inl rfl) h) (fun hn => ?_)
  refine gT_v1 (A := fun v u => ((v = 1 ∧ 0 ≤ a2 ∧ a2 ≤ 5) ∨ (v = 0 ∧ (a2 < 0 ∨ 5 < a2))) ∧ u = s1) e_150 (fun v13 s12 h12 => ?_)
  obtain ⟨r13, rfl⟩ := h12
  exact gT_ite (fun _ => hth _ _ (Or.inl rfl) h) (fun hn => hth _ _ (Or.inr ⟨rfl, by omega⟩) h)
theorem d_237 {a1 : Int} (hp : -1 ≤ p.1 ∧ p.1 ≤ 0) (h : J p s) (t0 : T 12 a0) : gT (f_237 a0 a1 s) (fun r => r.1 = 1 ∧ True ∧ J p r.2.2.2) := by
  rw [T_12 t0]
  unfold f_237
  refine gT_v1 (A := fun v u => (v = 1 → 0 ≤ a1 ∧ a1 ≤ 5) ∧ (0 ≤ v ∧ v ≤ 1) ∧ J p u) (d_162 hp h t12) (fun v2 s1 h1 => ?_)
  refine gT_ite (fun _ => ?_) (fun hn => ?_)
  · unfold fb_237_14
    extract_lets s4
    have j4 : J p s4 := J_wf h1.2.2 t12 rfl (by decide) (by decide) (fun q hq => by cases hq)
    have e4 : gI s4 217 0 = 1 := rd_same (show s4 = gw s1 217 0 1 from rfl)
    clear_value s4
    refine gT_loop (fun y => y.1 = 217 ∧ y.2.2.2.2 = s4) (fun _ => 0) (fun y hy => ?_) ⟨rfl, rfl⟩
    obtain ⟨x0, x1, x2, x3, u⟩ := y
    obtain ⟨q0, q1⟩ := hy
    dsimp only at q0 q1
    subst q0 q1
    show gT (sb_237_21 217 x1 x2 x3 u) _
    unfold sb_237_21
    refine gT_ite (fun _ => ?_) (fun _ => gT_map (gT_ret ⟨rfl, trivial, j4⟩))
    exact gT_ite (fun hz => by omega) (fun _ => gT_map (gT_ret ⟨rfl, trivial, j4⟩))
  · have r1 := h1.1 (by omega)
    unfold fb_237_14
    extract_lets s4
    have j4 : J p s4 := J_wf h1.2.2 t12 rfl (by decide) (by decide) (fun q hq => by cases hq)
    clear_value s4
    refine gT_loop (fun y => y.1 = 217 ∧ y.2.1 = a1 ∧ (0 ≤ y.2.2.2.1 ∧ y.2.2.2.1 ≤ 6) ∧ J p y.2.2.2.2) (fun y => (6 - y.2.2.2.1).toNat) (fun y hy => ?_) ⟨rfl, rfl, by dsimp only; omega, j4⟩
    obtain ⟨x0, x1, x2, x3, u⟩ := y
    obtain ⟨q0, q1, r3, ju⟩ := hy
    dsimp only at q0 q1 r3 ju
    subst q0 q1
    have bm := J_m (k := 5) ju ju t12 rfl
    have g1 := g32_eq (v := x3 + 1) (by omega) (by omega)
    show gT (sb_237_21 217 x1 x2 x3 u) _
    unfold sb_237_21
    refine gT_ite (fun hx => ?_) (fun _ => gT_map (gT_ret ⟨rfl, trivial, ju⟩))
    refine gT_ite (fun _ => ?_) (fun _ => gT_map (gT_ret ⟨rfl, trivial, ju⟩))
    refine gT_v1 (A := fun v u => True ∧ J p u) (d_156_2 hp ju t12 r1) (fun v6 s5 h5 => ?_)
    refine gT_v1 (A := fun v u => (0 ≤ v ∧ v ≤ 1) ∧ J p u) (d_212 hp h5.2 t12 (by omega)) (fun v8 s7 h7 => ?_)
    exact gT_ite (fun _ => gT_ret ⟨⟨rfl, rfl, by dsimp only; omega, h7.2⟩, by dsimp only; omega⟩) (fun _ => gT_ret ⟨⟨rfl, rfl, by dsimp only; omega, h7.2⟩, by dsimp only; omega⟩)
theorem d_243 {a1 a2 : Int} (hp : -1 ≤ p.1 ∧ p.1 ≤ 0) (h : J p s) (t0 : T 12 a0) : gT (f_243 a0 a1 a2 s) (fun r => r.1 = 1 ∧ True ∧ J p r.2.2.2) := by
  rw [T_12 t0]
  have hbad : ∀ z : gS, J p z → gT (fb_243_22 217 a1 a2 1 217 z) (fun r => r.1 = 1 ∧ True ∧ J p r.2.2.2) := by
    intro z jz
    unfold fb_243_22
    extract_lets s4
    have j4 : J p s4 := J_wf jz t12 rfl (by decide) (by decide) (fun q hq => by cases hq)
    have e4 : gI s4 217 0 = 1 := rd_same (show s4 = gw z 217 0 1 from rfl)
    clear_value s4
    refine gT_loop (fun y => y.1 = 217 ∧ y.2.2.2.2.2 = s4) (fun _ => 0) (fun y hy => ?_) ⟨rfl, rfl⟩
    obtain ⟨x0, x1, x2, x3, x4, u⟩ := y
    obtain ⟨q0, q1⟩ := hy
    dsimp only at q0 q1
    subst q0 q1
    show gT (sb_243_30 217 x1 x2 x3 x4 u) _
    unfold sb_243_30
    refine gT_ite (fun _ => ?_) (fun _ => gT_map (gT_ret ⟨rfl, trivial, j4⟩))
    exact gT_ite (fun hz => by omega) (fun _ => gT_map (gT_ret ⟨rfl, trivial, j4⟩))
  unfold f_243
  refine gT_v1 (A := fun v u => (v = 1 → 0 ≤ a1 ∧ a1 ≤ 5) ∧ (0 ≤ v ∧ v ≤ 1) ∧ J p u) (d_162 hp h t12) (fun v2 s1 h1 => ?_)
  refine gT_ite (fun _ => hbad _ h1.2.2) (fun hn => ?_)
  have r1 := h1.1 (by omega)
  refine gT_v1 (A := fun v u => (v = 1 → 0 ≤ a2 ∧ a2 ≤ 5) ∧ (0 ≤ v ∧ v ≤ 1) ∧ J p u) (d_163 hp h1.2.2 t12) (fun v15 s14 h14 => ?_)
  refine gT_ite (fun _ => hbad _ h14.2.2) (fun hn2 => ?_)
  have r2 := h14.1 (by omega)
  unfold fb_243_22
  extract_lets s4
  have j4 : J p s4 := J_wf h14.2.2 t12 rfl (by decide) (by decide) (fun q hq => by cases hq)
  clear_value s4
  refine gT_loop (fun y => y.1 = 217 ∧ y.2.1 = a1 ∧ y.2.2.1 = a2 ∧ (0 ≤ y.2.2.2.2.1 ∧ y.2.2.2.2.1 ≤ 4) ∧ J p y.2.2.2.2.2) (fun y => (4 - y.2.2.2.2.1).toNat) (fun y hy => ?_) ⟨rfl, rfl, rfl, by dsimp only; omega, j4⟩
  obtain ⟨x0, x1, x2, x3, x4, u⟩ := y
  obtain ⟨q0, q1, q2, r4, ju⟩ := hy
  dsimp only at q0 q1 q2 r4 ju
  subst q0 q1 q2
  have g1 := g32_eq (v := x4 + 1) (by omega) (by omega)
  show gT (sb_243_30 217 x1 x2 x3 x4 u) _
  unfold sb_243_30
  refine gT_ite (fun hx => ?_) (fun _ => gT_map (gT_ret ⟨rfl, trivial, ju⟩))
  refine gT_ite (fun _ => ?_) (fun _ => gT_map (gT_ret ⟨rfl, trivial, ju⟩))
  refine gT_v1 (A := fun _ u => True ∧ J p u) (d_241 hp ju t12 r1 r2) (fun v6 s5 h5 => ?_)
  refine gT_v1 (A := fun _ u => True ∧ J p u) (d_241 hp h5.2 t12 r1 r2) (fun v8 s7 h7 => ?_)
  refine gT_ite (fun _ => gT_ret ⟨⟨rfl, rfl, rfl, by dsimp only; omega, h7.2⟩, by dsimp only; omega⟩) (fun _ => ?_)
  refine gT_v1 (A := fun _ u => True ∧ J p u) (d_242 hp h7.2 t12 r1 r2) (fun v10 s9 h9 => ?_)
  refine gT_v1 (A := fun _ u => True ∧ J p u) (d_242 hp h9.2 t12 r1 r2) (fun v12 s11 h11 => ?_)
  exact gT_ite (fun _ => gT_ret ⟨⟨rfl, rfl, rfl, by dsimp only; omega, h11.2⟩, by dsimp only; omega⟩) (fun _ => gT_ret ⟨⟨rfl, rfl, rfl, by dsimp only; omega, h11.2⟩, by dsimp only; omega⟩)
end Rs
