theorem t11 : T 11 0 := ⟨by decide, k0_0⟩
section Mh
variable {p : gP} {s s0 s' : gS} {a0 a1 v : Nat} {x : Int}
/-- the ghost of the tape's length -/
theorem g_l (h : J p s) : gI s 1 1 = p.2.1 := h.2.2.1
theorem g_t (h : J p s) : gI s 217 8 = p.2.2.1 := h.2.2.2.1
theorem r_00 (h : J p s) : gR s 0 0 = 1 := J_r h rfl (by decide +kernel) (by decide +kernel)
theorem c_88 {n : Int} (h : J p s) : gT (f_88 0 n s) (fun r => r.1 = 1 ∧ (((n < 0 ∨ p.2.1 < n) ∧ r.2.1 = 0 ∧ J p r.2.2.2) ∨ ((0 ≤ n ∧ n ≤ p.2.1) ∧ r.2.1 = 1 ∧ J (p.1, n, p.2.2) r.2.2.2))) := by
  have r1 := J_f (i := 1) h t10_1 rfl (by decide) rfl
  have g := g_l h
  unfold f_88
  rw [r_00 h]
  refine gT_ite (fun _ => gT_ret ⟨rfl, Or.inl ⟨by omega, rfl, h⟩⟩) (fun _ => ?_)
  refine gT_ite (fun _ => gT_ret ⟨rfl, Or.inl ⟨by omega, rfl, h⟩⟩) (fun _ => ?_)
  exact gT_ret ⟨rfl, Or.inr ⟨by omega, rfl, J_l h t10_1 (by omega)⟩⟩
theorem e_150 {x y z : Int} : gT (f_150 x y z s) (fun r => r.1 = 1 ∧ ((r.2.1 = 1 ∧ y ≤ x ∧ x ≤ z) ∨ (r.2.1 = 0 ∧ (x < y ∨ z < x))) ∧ r.2.2.2 = s) := by
  unfold f_150
  refine gT_ite (fun _ => gT_ret ⟨rfl, Or.inr ⟨rfl, by omega⟩, rfl⟩) (fun _ => ?_)
  exact gT_ite (fun _ => gT_ret ⟨rfl, Or.inr ⟨rfl, by omega⟩, rfl⟩) (fun _ => gT_ret ⟨rfl, Or.inl ⟨rfl, by omega⟩, rfl⟩)
theorem c_167 {n : Int} (h : J p s) : gT (f_167 217 n s) (fun r => r.1 = 1 ∧ (((n < 0 ∨ p.2.2.1 < n) ∧ r.2.1 = 0 ∧ J p r.2.2.2) ∨ ((0 ≤ n ∧ n ≤ p.2.2.1) ∧ r.2.1 = 1 ∧ J (p.1, p.2.1, n, p.2.2.2) r.2.2.2))) := by
  unfold f_167
  extract_lets s1
  have j1 : J p s1 := J_wf h t12 rfl (by decide) (by decide) (fun q hq => by cases hq)
  have r1 := J_f (i := 8) j1 t12 rfl (by decide) rfl
  have g := g_t j1
  refine gT_v1 (A := fun v u => ((v = 1 ∧ 0 ≤ n ∧ n ≤ gI s1 217 8) ∨ (v = 0 ∧ (n < 0 ∨ gI s1 217 8 < n))) ∧ u = s1) e_150 (fun v3 s2 h2 => ?_)
  obtain ⟨h2, rfl⟩ := h2
  refine gT_ite (fun _ => gT_ret ⟨rfl, Or.inl ⟨by omega, rfl, j1⟩⟩) (fun _ => ?_)
  exact gT_ret ⟨rfl, Or.inr ⟨by omega, rfl, J_t j1 t12 (by omega)⟩⟩
theorem c_76 (h : J p s) (hl : p.2.1 + 4 ≤ 400) : gT (f_76 1 x s) (fun r => r.1 = 0 ∧ J (p.1, p.2.1 + 4, p.2.2) r.2.2.2) := by
  unfold f_76
  refine gT_loop (fun y => y.1 = 1 ∧ ∃ k : Int, (0 ≤ k ∧ k ≤ 4) ∧ y.2.2.1 = 24 - 8 * k ∧ J (p.1, p.2.1 + k, p.2.2) y.2.2.2) (fun y => (y.2.2.1 + 8).toNat) (fun y hy => ?_) ⟨rfl, 0, by decide, rfl, by rw [show p.2.1 + 0 = p.2.1 by omega]; exact h⟩
  obtain ⟨x0, x1, x2, z⟩ := y
  obtain ⟨q0, k, hk, q2, j⟩ := hy
  dsimp only at q0 q2 j
  subst q0
  have g := g_l j
  dsimp only at g
  have r1 := J_f (i := 1) j t10_1 rfl (by decide) rfl
  show gT (sb_76_3 1 x1 x2 z) _
  unfold sb_76_3
  refine gT_ite (fun _ => gT_map (gT_ret ⟨rfl, ?_⟩)) (fun _ => ?_)
  · have e : k = 4 := by omega
    subst e
    exact j
  refine gT_ite (fun _ => ?_) (fun _ => by omega)
  refine gT_chk (by omega) (by omega) ?_
  extract_lets s1 s2
  have j1 : J (p.1, p.2.1 + k, p.2.2) s1 := J_wby j j t10_1 (gand_le (by omega) (by omega))
  have g1 := g_l j1
  dsimp only at g1
  have e1 := g32_eq (v := gI s1 1 1 + 1) (by omega) (by omega)
  have j2 : J (p.1, p.2.1 + (k + 1), p.2.2) s2 := by
    have := J_l (v := g32 (gI s1 1 1 + 1)) j1 t10_1 (by omega)
    rw [show p.2.1 + (k + 1) = g32 (gI s1 1 1 + 1) by omega]
    exact this
  have e2 := g32_eq (v := x2 + -8) (by omega) (by omega)
  exact gT_ret ⟨⟨rfl, k + 1, by omega, by dsimp only; omega, j2⟩, by dsimp only; omega⟩
theorem c_87 {b c d e : Int} (h : J p s) : gT (f_87 0 x b c d e s) (fun r => r.1 = 1 ∧ ((380 < p.2.1 ∧ r.2.1 = -1 ∧ J p r.2.2.2) ∨ (p.2.1 ≤ 380 ∧ r.2.1 = p.2.1 + 20 ∧ J (p.1, p.2.1 + 20, p.2.2) r.2.2.2))) := by
  have r1 := J_f (i := 1) h t10_1 rfl (by decide) rfl
  have g := g_l h
  have g1 := g32_eq (v := gI s 1 1 + 20) (by omega) (by omega)
  unfold f_87
  rw [r_00 h]
  refine gT_ite (fun _ => gT_ret ⟨rfl, Or.inl ⟨by omega, rfl, h⟩⟩) (fun _ => ?_)
  refine gT_v0 (A := fun u => J (p.1, p.2.1 + 4, p.2.2) u) (c_76 h (by omega)) (fun s1 j1 => ?_)
  rw [r_00 j1]
  refine gT_v0 (A := fun u => J (p.1, p.2.1 + 4 + 4, p.2.2) u) (c_76 j1 (by dsimp only; omega)) (fun s3 j3 => ?_)
  rw [r_00 j3]
  refine gT_v0 (A := fun u => J (p.1, p.2.1 + 4 + 4 + 4, p.2.2) u) (c_76 j3 (by dsimp only; omega)) (fun s5 j5 => ?_)
  rw [r_00 j5]
  refine gT_v0 (A := fun u => J (p.1, p.2.1 + 4 + 4 + 4 + 4, p.2.2) u) (c_76 j5 (by dsimp only; omega)) (fun s7 j7 => ?_)
  rw [r_00 j7]
  refine gT_v0 (A := fun u => J (p.1, p.2.1 + 4 + 4 + 4 + 4 + 4, p.2.2) u) (c_76 j7 (by dsimp only; omega)) (fun s9 j9 => ?_)
  rw [r_00 j9]
  have g9 := g_l j9
  dsimp only at g9
  refine gT_ret ⟨rfl, Or.inr ⟨by omega, by dsimp only; omega, ?_⟩⟩
  rw [show p.2.1 + 20 = p.2.1 + 4 + 4 + 4 + 4 + 4 by omega]
  exact j9
theorem c_166 {b c d e : Int} (h : J p s) : gT (f_166 217 x b c d e s) (fun r => r.1 = 1 ∧ ((380 < p.2.2.1 ∧ r.2.1 = -1 ∧ J p r.2.2.2) ∨ (p.2.2.1 ≤ 380 ∧ r.2.1 = p.2.2.1 + 20 ∧ J (p.1, p.2.1, p.2.2.1 + 20, p.2.2.2) r.2.2.2))) := by
  unfold f_166
  extract_lets s1
  have j1 : J p s1 := J_wf h t12 rfl (by decide) (by decide) (fun q hq => by cases hq)
  have r1 := J_f (i := 8) j1 t12 rfl (by decide) rfl
  have g := g_t j1
  have g1 := g32_eq (v := gI s1 217 8 + 20) (by omega) (by omega)
  refine gT_ite (fun _ => gT_ret ⟨rfl, Or.inl ⟨by omega, rfl, j1⟩⟩) (fun _ => ?_)
  have hl : p.2.2.1 ≤ 380 := by omega
  refine gT_loop (fun y => y.1 = 217 ∧ (0 ≤ y.2.2.2.2.2.2.1 ∧ y.2.2.2.2.2.2.1 ≤ 20) ∧ J (p.1, p.2.1, p.2.2.1 + y.2.2.2.2.2.2.1, p.2.2.2) y.2.2.2.2.2.2.2) (fun y => (20 - y.2.2.2.2.2.2.1).toNat) (fun y hy => ?_) ⟨rfl, by dsimp only; omega, by dsimp only; rw [show p.2.2.1 + 0 = p.2.2.1 by omega]; exact j1⟩
  obtain ⟨x0, x1, x2, x3, x4, x5, x6, z⟩ := y
  obtain ⟨q0, r6, j⟩ := hy
  dsimp only at q0 r6 j
  subst q0
  have gz := g_t j
  dsimp only at gz
  have e6 := g32_eq (v := x6 + 1) (by omega) (by omega)
  have hw : x6 < 20 → ∀ w : Int, gT (fb_166_76 217 x1 x2 x3 x4 x5 x6 w z) (Sum.elim (fun y => (y.1 = 217 ∧ (0 ≤ y.2.2.2.2.2.2.1 ∧ y.2.2.2.2.2.2.1 ≤ 20) ∧ J (p.1, p.2.1, p.2.2.1 + y.2.2.2.2.2.2.1, p.2.2.2) y.2.2.2.2.2.2.2) ∧ (20 - y.2.2.2.2.2.2.1).toNat < (20 - x6).toNat) (fun r => r.1 = 1 ∧ ((380 < p.2.2.1 ∧ r.2.1 = -1 ∧ J p r.2.2.2) ∨ (p.2.2.1 ≤ 380 ∧ r.2.1 = p.2.2.1 + 20 ∧ J (p.1, p.2.1, p.2.2.1 + 20, p.2.2.2) r.2.2.2)))) := by
    intro hx w
    have r8 := J_f (i := 8) j t12 rfl (by decide) rfl
    unfold fb_166_76
    refine gT_chk (by omega) (by omega) ?_
    extract_lets s2 s3
    have j2 : J (p.1, p.2.1, p.2.2.1 + x6, p.2.2.2) s2 := J_wmt j j t12 (gand_le (by omega) (by omega))
    have g2 := g_t j2
    dsimp only at g2
    have e1 := g32_eq (v := gI s2 217 8 + 1) (by omega) (by omega)
    have j3 : J (p.1, p.2.1, p.2.2.1 + g32 (x6 + 1), p.2.2.2) s3 := by
      have := J_t (v := g32 (gI s2 217 8 + 1)) j2 t12 (by omega)
      rw [show p.2.2.1 + g32 (x6 + 1) = g32 (gI s2 217 8 + 1) by omega]
      exact this
    exact gT_ret ⟨⟨rfl, by dsimp only; omega, j3⟩, by dsimp only; omega⟩
  show gT (sb_166_23 217 x1 x2 x3 x4 x5 x6 z) _
  unfold sb_166_23
  refine gT_ite (fun hx => ?_) (fun _ => gT_map ?_)
  · exact gT_ite (fun _ => hw hx _) (fun _ => gT_ite (fun _ => hw hx _) (fun _ => gT_ite (fun _ => hw hx _) (fun _ => gT_ite (fun _ => hw hx _) (fun _ => hw hx _))))
  · have e : x6 = 20 := by omega
    subst e
    exact gT_ret ⟨rfl, Or.inr ⟨hl, gz, j⟩⟩
/-- a thing's cells are kept -/
def Kp (v : Nat) (s s' : gS) : Prop := Sm s s' ∧ ∀ k, gI s' v k = gI s v k
theorem Kp_r : Kp v s s := ⟨Sm_r, fun _ => rfl⟩
theorem Kp_w {a k : Nat} (h : Kp v s s') (ha : a ≠ v) : Kp v s (gw s' a k x) := ⟨h.1, fun j => (rd_a rfl (Ne.symm ha)).trans (h.2 j)⟩
theorem Kp_c {a sp b dp n : Nat} (h : Kp v s s') (hb : b ≠ v) : Kp v s (gcpy s' a sp b dp n) := by
  refine ⟨h.1, fun j => ?_⟩
  show (if v = b ∧ dp ≤ j ∧ j < dp + n then gI s' a (sp + (j - dp)) else gI s' v j) = _
  rw [if_neg (fun z => hb z.1.symm)]
  exact h.2 j
theorem q_59 (h : Kp v s0 s) (ha : a0 ≠ v) : gQ (f_59 a0 a1 s) (fun r => Kp v s0 r.2.2.2) := by
  unfold f_59
  exact gQ_ret (Kp_w (Kp_w (Kp_w (Kp_w (Kp_w (Kp_w h ha) ha) ha) ha) ha) ha)
/-- a court that doesn't hold the thing -/
def Cf (v a : Nat) : Prop := (∀ i, i < 6 → r0 (r0 a 0) i ≠ v) ∧ r0 a 1 ≠ v ∧ r0 a 2 ≠ v ∧ a ≠ v ∧ r0 a 3 ≠ v ∧ r0 (r0 a 3) 0 ≠ v
theorem past_g1 : ∀ j, j < 12 → ∀ i, i < 6 → 60 ≤ r0 (r0 (r0 72 j) 0) i := by decide +kernel
theorem past_g2 : ∀ j, j < 12 → 60 ≤ r0 (r0 72 j) 1 ∧ 60 ≤ r0 (r0 72 j) 2 ∧ 60 ≤ r0 72 j := by decide +kernel
theorem past_g3 : ∀ j, j < 12 → 60 ≤ r0 (r0 72 j) 3 ∧ 60 ≤ r0 (r0 (r0 72 j) 3) 0 := by decide +kernel
theorem past_cf (j : Nat) (hj : j < 12) (v : Nat) (hv : v < 27) : Cf v (r0 72 j) := by
  have h1 := past_g1 j hj
  have h2 := past_g2 j hj
  have h3 := past_g3 j hj
  exact ⟨fun i hi => by have := h1 i hi; omega, by omega, by omega, by omega, by omega, by omega⟩
theorem r0_J (h : J p s) {a i kd : Nat} (t : T kd a) (hk : kd ≠ 0) : gR s a i = r0 a i := h.1.2.1 a i t.1 (fun e => hk (by rw [← t.2]; exact e.1))
theorem c_23 (hp : -1 ≤ p.1 ∧ p.1 ≤ 0) (h : J p s) (t0 : T 2 a0) (t1 : T 2 a1) (hk : Kp v s0 s) (hc : Cf v a0) : gT (f_23 a0 a1 s) (fun r => r.1 = 0 ∧ J p r.2.2.2 ∧ Kp v s0 r.2.2.2) := by
  unfold f_23
  refine gT_loop (fun y => y.1 = a0 ∧ y.2.1 = a1 ∧ (0 ≤ y.2.2.1 ∧ y.2.2.1 ≤ 6) ∧ J p y.2.2.2 ∧ Kp v s0 y.2.2.2) (fun y => (6 - y.2.2.1).toNat) (fun y hy => ?_) ⟨rfl, rfl, by dsimp only; omega, h, hk⟩
  obtain ⟨x0, x1, x2, z⟩ := y
  obtain ⟨q0, q1, r2, h, hk⟩ := hy
  dsimp only at q0 q1 r2 h hk
  subst q0 q1
  have e1 := g32_eq (v := x2 + 1) (by omega) (by omega)
  have u0 : T 152 (gR z x0 0) := T_f (i := 0) h t0 (by decide) rfl rfl
  have u1 : T 152 (gR z x1 0) := T_f (i := 0) h t1 (by decide) rfl rfl
  show gT (sb_23_2 x0 x1 x2 z) _
  unfold sb_23_2
  refine gT_ite (fun hx => ?_) (fun _ => gT_map ?_)
  · refine gT_chk (by omega) (by omega) (gT_chk (by omega) (by omega) ?_)
    have m0 := T_man (i := x2.toNat) h u0 (by omega)
    have m1 := T_man (i := x2.toNat) h u1 (by omega)
    have n0 : gR z (gR z x0 0) x2.toNat ≠ v := by
      rw [r0_J h u0 (by decide), r0_J h t0 (by decide)]
      exact hc.1 _ (by omega)
    refine gT_v0 (A := fun u => J p u ∧ Kp v s0 u) (gT_mono (gT_and (d_59 hp h m0 m1) (q_59 hk n0)) (fun r hr => ⟨hr.1.1, hr.1.2, hr.2⟩)) (fun s1 h1 => ?_)
    exact gT_ret ⟨⟨rfl, rfl, by dsimp only; omega, h1⟩, by dsimp only; omega⟩
  · extract_lets s3 s4 s5 s6 s7 s8 s9 s10
    have j3 : J p s3 := J_ca h (T_f (i := 1) h t0 (by decide) rfl rfl) rfl
    have j4 : J p s4 := J_ca j3 (T_f (i := 2) j3 t0 (by decide) rfl rfl) rfl
    have b4 := J_f (i := 4) j4 t1 rfl (by decide) rfl
    have j5 : J p s5 := J_wf j4 t0 rfl (by decide) (by decide) (fun q hq => by cases hq; exact b4)
    have b5 := J_f (i := 5) j5 t1 rfl (by decide) rfl
    have j6 : J p s6 := J_wf j5 t0 rfl (by decide) (by decide) (fun q hq => by cases hq; exact b5)
    have j7 : J p s7 := J_wf j6 t0 rfl (by decide) (by decide) (fun q hq => by cases hq)
    have j8 : J p s8 := J_wf j7 t0 rfl (by decide) (by decide) (fun q hq => by cases hq)
    have j9 : J p s9 := J_wf j8 t0 rfl (by decide) (by decide) (fun q hq => by cases hq)
    have j10 : J p s10 := J_wf j9 t0 rfl (by decide) (by decide) (fun q hq => by cases hq)
    have n1 : gR z x0 1 ≠ v := by rw [r0_J h t0 (by decide)]; exact hc.2.1
    have n2 : gR s3 x0 2 ≠ v := by rw [r0_J j3 t0 (by decide)]; exact hc.2.2.1
    have n3 := hc.2.2.2.1
    exact gT_ret ⟨rfl, j10, Kp_w (Kp_w (Kp_w (Kp_w (Kp_w (Kp_w (Kp_c (Kp_c hk n1) n2) n3) n3) n3) n3) n3) n3⟩
theorem c_22 (hp : -1 ≤ p.1 ∧ p.1 ≤ 0) (h : J p s) (t0 : T 2 a0) (t1 : T 2 a1) (hk : Kp v s0 s) (hc : Cf v a0) : gT (f_22 a0 a1 s) (fun r => r.1 = 0 ∧ J p r.2.2.2 ∧ Kp v s0 r.2.2.2) := by
  unfold f_22
  refine gT_v0 (A := fun u => J p u ∧ Kp v s0 u) (c_23 hp h t0 t1 hk hc) (fun s1 h1 => ?_)
  obtain ⟨j1, k1⟩ := h1
  have u0 : T 6 (gR s1 a0 3) := T_f (i := 3) j1 t0 (by decide) rfl rfl
  have u1 : T 6 (gR s1 a1 3) := T_f (i := 3) j1 t1 (by decide) rfl rfl
  have n0 : gR s1 a0 3 ≠ v := by rw [r0_J j1 t0 (by decide)]; exact hc.2.2.2.2.1
  have n1 : gR s1 (gR s1 a0 3) 0 ≠ v := by rw [r0_J j1 u0 (by decide), r0_J j1 t0 (by decide)]; exact hc.2.2.2.2.2
  have q : gQ (f_54 (gR s1 a0 3) (gR s1 a1 3) s1) (fun r => Kp v s0 r.2.2.2) := by
    unfold f_54
    exact gQ_ret (Kp_w (Kp_c k1 n1) n0)
  refine gT_v0 (A := fun u => J p u ∧ Kp v s0 u) (gT_mono (gT_and (d_54 hp j1 u0 u1) q) (fun r hr => ⟨hr.1.1, hr.1.2, hr.2⟩)) (fun s3 h3 => ?_)
  exact gT_ret ⟨rfl, h3⟩
theorem c_140 (hp : -1 ≤ p.1 ∧ p.1 ≤ 0) (h : J p s) (hv : 21 ≤ v ∧ v ≤ 26) : gT (f_140 0 s) (fun r => r.1 = 0 ∧ J p r.2.2.2 ∧ Kp v s r.2.2.2) := by
  unfold f_140
  extract_lets s1
  have b13 := J_f (i := 13) h t11 rfl (by decide) rfl
  have e1 := g32_eq (v := gI s 0 13 + 1) (by omega) (by omega)
  have e2 := grem_eq (x := g32 (gI s 0 13 + 1)) (c := 12) (by omega) (by decide)
  have j1 : J p s1 := J_wf h t11 rfl (by decide) (by decide) (fun q hq => by cases hq; dsimp only; omega)
  have c13 := J_f (i := 13) j1 t11 rfl (by decide) rfl
  refine gT_chk (by omega) (by omega) ?_
  have n0 : (0 : Nat) ≠ v := by omega
  have tp : T 2 (gR s1 (gR s1 0 12) (gI s1 0 13).toNat) := T_pastc j1 j1 t11 (by omega)
  have ep : gR s1 (gR s1 0 12) (gI s1 0 13).toNat = r0 72 (gI s1 0 13).toNat := by
    rw [r_past j1 t11]
    exact j1.1.2.1 72 _ (by decide) (fun e => by
      have h9 : k0 72 = 199 := by decide +kernel
      rw [h9] at e; exact absurd e.1 (by decide))
  have hc : Cf v (gR s1 (gR s1 0 12) (gI s1 0 13).toNat) := by
    rw [ep]
    exact past_cf _ (by omega) v (by omega)
  refine gT_v0 (A := fun u => J p u ∧ Kp v s u) (c_22 hp j1 tp (T_f (i := 5) j1 t11 (by decide) rfl rfl) (Kp_w Kp_r n0) hc) (fun s2 h2 => ?_)
  exact gT_ret ⟨rfl, J_wf h2.1 t11 rfl (by decide) (by decide) (fun q hq => by cases hq), Kp_w h2.2 n0⟩
theorem men_v : ∀ i, i < 6 → 21 ≤ r0 16 i ∧ r0 16 i ≤ 26 := by decide +kernel
theorem d_96 {a1 : Int} (hp : -1 ≤ p.1 ∧ p.1 ≤ 0) (h : J p s) (t0 : T 11 a0) : gT (f_96 a0 a1 s) (fun r => (r.1 = 1 ∧ True ∧ J p r.2.2.2) ∨ (2 ≤ r.1 ∧ r.1 ≤ 6 ∧ (r.1 = 5 ∨ r.1 = 6) ∧ J p r.2.2.2)) := by
  rw [T_11 t0]
  unfold f_96
  refine gT_t0 (A := fun u => (0 ≤ a1 ∧ a1 ≤ 5) ∧ J p u) (B := fun t u => t = 5 ∧ J p u) (d_135 hp h t11) (fun s1 h1 => ?_) (fun t s h1 h2 h3 => Or.inr ⟨h1, h2, by have := h3.1; dsimp only; omega, h3.2⟩)
  obtain ⟨r1, j1⟩ := h1
  refine gT_t0 (A := fun u => J p u) (B := fun t u => t = 6 ∧ J p u) (d_139 hp j1 t11 r1) (fun s3 j3 => ?_) (fun t s h1 h2 h3 => Or.inr ⟨h1, h2, by have := h3.1; dsimp only; omega, h3.2⟩)
  refine gT_chk (by omega) (by omega) ?_
  extract_lets v5
  have u5 := T_f (i := 5) j3 t11 (by decide) rfl rfl
  have u0 : T 152 (gR s3 (gR s3 0 5) 0) := T_f (i := 0) j3 u5 (by decide) rfl rfl
  have t5 : T 7 v5 := T_man (i := a1.toNat) j3 u0 (by omega)
  have e5 : gR s3 0 5 = 15 := J_r j3 rfl (by decide +kernel) (by decide +kernel)
  have e0 : gR s3 15 0 = 16 := J_r j3 rfl (by decide +kernel) (by decide +kernel)
  have hv : 21 ≤ v5 ∧ v5 ≤ 26 := by
    have e : v5 = r0 16 a1.toNat := by
      show gR s3 (gR s3 (gR s3 0 5) 0) a1.toNat = _
      rw [r0_J j3 u0 (by decide), e5, e0]
    rw [e]
    exact men_v _ (by omega)
  clear_value v5
  refine gT_ite (fun _ => gT_ret (Or.inr ⟨by dsimp only; omega, by dsimp only; omega, Or.inr rfl, J_nw j3⟩)) (fun hn => ?_)
  refine gT_v0 (A := fun u => J p u ∧ Kp v5 s3 u) (c_140 hp j3 hv) (fun s6 h6 => ?_)
  obtain ⟨j6, k6⟩ := h6
  have q1 := k6.2 1
  have b1 := J_f (i := 1) j6 t5 rfl (by decide) rfl
  have g1 := g32_eq (v := gI s6 v5 1 - 1) (by omega) (by omega)
  extract_lets s8
  have j8 : J p s8 := J_wf j6 t5 rfl (by decide) (by decide) (fun q hq => by cases hq; dsimp only; omega)
  refine gT_v0 (A := fun u => J p u) (d_60 hp j8 t5) (fun s9 j9 => ?_)
  have w5 := T_f (i := 5) j9 t11 (by decide) rfl rfl
  refine gT_v0 (A := fun u => J p u) (d_55 hp j9 (T_f (i := 3) j9 w5 (by decide) rfl rfl)) (fun s11 j11 => ?_)
  exact gT_ret (Or.inl ⟨rfl, trivial, j11⟩)
theorem d_211 {a1 : Int} (hp : -1 ≤ p.1 ∧ p.1 ≤ 0) (h : J p s) (t0 : T 12 a0) : gT (f_211 a0 a1 s) (fun r => r.1 = 1 ∧ True ∧ J p r.2.2.2) := by
  rw [T_12 t0]
  have hth : ∀ (w : Int) (z : gS), 0 < w → J p z → gT (fb_211_35 217 a1 w 217 z) (fun r => r.1 = 1 ∧ True ∧ J p r.2.2.2) := by
    intro w z hw jz
    unfold fb_211_35
    extract_lets s4
    have j4 : J p s4 := J_wf jz t12 rfl (by decide) (by decide) (fun q hq => by cases hq)
    have e4 : gI s4 217 0 = w := rd_same (show s4 = gw z 217 0 w from rfl)
    exact gT_ite (fun _ => gT_ret ⟨rfl, trivial, j4⟩) (fun hn => by omega)
  unfold f_211
  refine gT_v1 (A := fun v u => (v = 1 → 0 ≤ a1 ∧ a1 ≤ 5) ∧ (0 ≤ v ∧ v ≤ 1) ∧ J p u) (d_162 hp h t12) (fun v2 s1 h1 => ?_)
  refine gT_ite (fun _ => hth _ _ (by decide) h1.2.2) (fun hn => ?_)
  have r1 := h1.1 (by omega)
  refine gT_v1 (A := fun v u => (0 ≤ v ∧ v ≤ 1) ∧ J p u) (d_165 hp h1.2.2 t12 r1) (fun v22 s21 h21 => ?_)
  refine gT_ite (fun _ => hth _ _ (by decide) h21.2) (fun _ => ?_)
  refine gT_v1 (A := fun v u => ((1 : Int) = 1 → 0 ≤ v ∧ v ≤ 9) ∧ v = gI s21 218 (40 + 6 * a1.toNat + (1 : Int).toNat) ∧ u = s21) (gT_mono (c_156 h21.2 t12 r1 (by decide)) (fun r hr => ⟨hr.1, hr.2.1.2.1, hr.2.2⟩)) (fun v25 s24 h24 => ?_)
  obtain ⟨r25, e25, e24⟩ := h24
  subst e24
  refine gT_ite (fun _ => hth _ _ (by decide) h21.2) (fun hn5 => ?_)
  have r25 := r25 rfl
  unfold fb_211_35
  extract_lets s4
  have j4 : J p s4 := J_wf h21.2 t12 rfl (by decide) (by decide) (fun q hq => by cases hq)
  have e4 : ∀ k, gI s4 218 k = gI s24 218 k := fun k => rd_a (show s4 = gw s24 217 0 0 from rfl) (by decide)
  have e0 : gI s4 217 0 = 0 := rd_same (show s4 = gw s24 217 0 0 from rfl)
  refine gT_ite (fun hx => by omega) (fun _ => ?_)
  refine gT_v0 (A := fun u => J p u ∧ ∀ k, gI u 218 k = gI s4 218 k) (c_209 j4) (fun s5 h5 => ?_)
  refine gT_v1 (A := fun v u => ((1 : Int) = 1 → 0 ≤ v ∧ v ≤ 9) ∧ v = gI s5 218 (40 + 6 * a1.toNat + (1 : Int).toNat) ∧ u = s5) (gT_mono (c_156 h5.1 t12 r1 (by decide)) (fun r hr => ⟨hr.1, hr.2.1.2.1, hr.2.2⟩)) (fun v8 s7 h7 => ?_)
  obtain ⟨r8, e8, e7⟩ := h7
  subst e7
  have r8 := r8 rfl
  have q8 : v8 = v25 := by rw [e8, h5.2, e4, e25]
  have g8 := g32_eq (v := v8 - 1) (by omega) (by omega)
  refine gT_v0 (A := fun u => J p u) (d_157_1 hp h5.1 t12 r1 (by omega)) (fun s9 j9 => ?_)
  refine gT_v1 (A := fun v u => (0 ≤ v ∧ v ≤ 99) ∧ J p u) (d_156_0 hp j9 t12 r1) (fun v12 s11 h11 => ?_)
  have bm := J_m (k := 12) h11.2 h11.2 t12 rfl
  have g9 := g32_eq (v := v12 + gI s11 (gR s11 217 1) 12) (by omega) (by omega)
  refine gT_v1 (A := fun v u => (v ≤ 99 ∧ v ≤ g32 (v12 + gI s11 (gR s11 217 1) 12) ∧ (v = 99 ∨ v = g32 (v12 + gI s11 (gR s11 217 1) 12))) ∧ True ∧ J p u) (d_151 hp h11.2) (fun v14 s13 h13 => ?_)
  refine gT_v0 (A := fun u => J p u) (d_157_0 hp h13.2.2 t12 r1 (by have := h13.1; omega)) (fun s15 j15 => ?_)
  refine gT_v0 (A := fun u => J p u) (d_210 hp j15 t12 r1) (fun s17 j17 => ?_)
  refine gT_v1 (A := fun v u => (0 ≤ v ∧ v ≤ 99) ∧ J p u) (d_156_0 hp j17 t12 r1) (fun v20 s19 h19 => ?_)
  exact gT_ret ⟨rfl, trivial, h19.2⟩
end Mh
