section
theorem t9 : T 9 27 := ⟨by decide, by decide +kernel⟩
section Pl
variable {p : gP} {s : gS} {a0 : Nat} {d n t : Int}
theorem c_72 (h : J p s) (ht : 0 ≤ t ∧ t ≤ 99) : gT (f_72 27 t s) (fun r => r.1 = 1 ∧ (0 ≤ r.2.1 ∧ r.2.1 ≤ 99) ∧ J p r.2.2.2) := by
  have e1 : gR s 27 1 = 9 := J_r h rfl (by decide +kernel) (by decide +kernel)
  have b9 := J_9i h (T_f (i := 1) h t9 (by decide) rfl rfl)
  rw [e1, if_neg (by decide)] at b9
  unfold f_72
  rw [e1]
  have g := g32_eq (v := t + gI s 9 9) (by omega) (by omega)
  exact gT_ret ⟨rfl, by dsimp only; omega, h⟩
theorem d_72r (_hp : -1 ≤ p.1 ∧ p.1 ≤ 0) (h : J p s) (t0 : T 9 a0) (ht : 0 ≤ t ∧ t ≤ 99) : gT (f_72 a0 t s) (fun r => r.1 = 1 ∧ (0 ≤ r.2.1 ∧ r.2.1 ≤ 99) ∧ J p r.2.2.2) := by
  rw [T_9 t0]
  exact c_72 h ht
theorem n_70 {R S : Nat → Int → Int → Int → gS → Option gO} (hd : 0 ≤ d ∧ d ≤ 30) (hn : 0 ≤ n ∧ n ≤ 9) (ht : 0 ≤ t ∧ t ≤ 99) (hS : d ≤ 29 → ∀ {s : gS}, J p s → gT (S 27 d n t s) (fun r => r.1 = 1 ∧ True ∧ J p r.2.2.2)) (hR : d ≤ 29 → 1 ≤ n → ∀ {t : Int} {s : gS}, 0 ≤ t ∧ t ≤ 99 → J p s → gT (R 27 d (n - 1) t s) (fun r => r.1 = 1 ∧ True ∧ J p r.2.2.2)) (h : J p s) : gT (fo_70 R S 27 d n t s) (fun r => r.1 = 1 ∧ True ∧ J p r.2.2.2) := by
  have r8 := J_f (i := 8) h t9 rfl (by decide) rfl
  unfold fo_70
  refine gT_ite (fun hx => ?_) (fun _ => gT_ret ⟨rfl, trivial, h⟩)
  refine gT_ite (fun _ => ?_) (fun _ => gT_ret ⟨rfl, trivial, h⟩)
  refine gT_ite (fun _ => ?_) (fun _ => gT_ret ⟨rfl, trivial, h⟩)
  have q0 := gdiv_eq (x := d) (c := 12) (by omega) (by decide)
  have g1 := g32_eq (v := d / 12 * 10) (by omega) (by omega)
  have g2 := g32_eq (v := d / 12 * 10 + n) (by omega) (by omega)
  have g3 := g32_eq (v := (d / 12 * 10 + n) * 100) (by omega) (by omega)
  have g4 := g32_eq (v := (d / 12 * 10 + n) * 100 + t) (by omega) (by omega)
  rw [q0, g1, g2, g3, g4]
  extract_lets v1 v2 v3
  have hv1 : v1 = (d / 12 * 10 + n) * 100 + t := rfl
  have r1 : 0 ≤ v1 ∧ v1 < 3000 := by omega
  clear_value v1 v2
  refine gT_chk r1.1 r1.2 ?_
  have hend : ∀ (x : Int) (z : gS), J p z → gT (fb_70_117 R S 27 v1 v2 x z) (fun r => r.1 = 1 ∧ True ∧ J p r.2.2.2) := by
    intro x z jz
    unfold fb_70_117
    exact gT_chk r1.1 r1.2 (gT_chk r1.1 r1.2 (gT_ret ⟨rfl, trivial, J_wa jz (T_f (i := 7) jz t9 (by decide) rfl rfl) rfl⟩))
  refine gT_ite (fun _ => gT_ret ⟨rfl, trivial, h⟩) (fun _ => ?_)
  refine gT_v1 (A := fun _ z => True ∧ J p z) (hS (by omega) h) (fun v5 s4 h4 => ?_)
  refine gT_ite (fun h1 => ?_) (fun _ => hend _ _ h4.2)
  refine gT_ite (fun _ => ?_) (fun _ => hend _ _ h4.2)
  refine gT_v1 (A := fun v z => (0 ≤ v ∧ v ≤ 99) ∧ J p z) (c_72 h4.2 ht) (fun v7 s6 h6 => ?_)
  have g5 := g32_eq (v := n - 1) (by omega) (by omega)
  rw [g5]
  refine gT_v1 (A := fun _ z => True ∧ J p z) (hR (by omega) (by omega) h6.1 h6.2) (fun v9 s8 h8 => ?_)
  exact hend _ _ h8.2
theorem n_71 {R : Nat → Int → Int → Int → gS → Option gO} (hp : -1 ≤ p.1 ∧ p.1 ≤ 0) (hd : 0 ≤ d ∧ d ≤ 29) (hn : 0 ≤ n ∧ n ≤ 9) (ht : 0 ≤ t ∧ t ≤ 99) (hR : ∀ {t : Int} {s : gS}, 0 ≤ t ∧ t ≤ 99 → J p s → gT (R 27 (d + 1) n t s) (fun r => r.1 = 1 ∧ True ∧ J p r.2.2.2)) (h : J p s) : gT (fo_71 R 27 d n t s) (fun r => r.1 = 1 ∧ True ∧ J p r.2.2.2) := by
  unfold fo_71
  refine gT_v1 (A := fun v z => (0 ≤ v ∧ v ≤ 99) ∧ J p z) (d_73 hp h t9 hd hn ht) (fun v2 s1 h1 => ?_)
  refine gT_ite (fun _ => gT_ret ⟨rfl, trivial, h1.2⟩) (fun _ => ?_)
  have g5 := g32_eq (v := d + 1) (by omega) (by omega)
  rw [g5]
  refine gT_v1 (A := fun _ z => True ∧ J p z) (hR h1.1 h1.2) (fun v4 s3 h3 => ?_)
  exact gT_ret ⟨rfl, trivial, h3.2⟩
theorem n_rg (hp : -1 ≤ p.1 ∧ p.1 ≤ 0) (m : Nat) : ∀ {d n t : Int} {s : gS}, 0 ≤ d ∧ d ≤ 30 → 0 ≤ n ∧ n ≤ 9 → 0 ≤ t ∧ t ≤ 99 → J p s → (2 * (30 - d) + n + 1 ≤ m → gT (fn_70 m 27 d n t s) (fun r => r.1 = 1 ∧ True ∧ J p r.2.2.2)) ∧ (d ≤ 29 → 2 * (30 - d) + n ≤ m → gT (fn_71 m 27 d n t s) (fun r => r.1 = 1 ∧ True ∧ J p r.2.2.2)) := by
  induction m with
  | zero => intro d n t s hd hn ht h; exact ⟨fun e => by omega, fun e1 e => by omega⟩
  | succ m ih =>
    intro d n t s hd hn ht h
    refine ⟨fun e => ?_, fun e1 e => ?_⟩
    · exact n_70 (R := fn_70 m) (S := fn_71 m) hd hn ht (fun q _ h => (ih hd hn ht h).2 q (by omega)) (fun q q1 _ _ ht h => (ih hd (by omega) ht h).1 (by omega)) h
    · exact n_71 (R := fn_70 m) hp (by omega) hn ht (fun ht h => (ih (by omega) hn ht h).1 (by omega)) h
theorem d_70 {a1 a2 a3 : Int} (hp : -1 ≤ p.1 ∧ p.1 ≤ 0) (h : J p s) (t0 : T 9 a0) (r1 : 0 ≤ a1 ∧ a1 ≤ 30) (r2 : 0 ≤ a2 ∧ a2 ≤ 9) (r3 : 0 ≤ a3 ∧ a3 ≤ 99) : gT (f_70 a0 a1 a2 a3 s) (fun r => r.1 = 1 ∧ True ∧ J p r.2.2.2) := by
  rw [T_9 t0]
  exact (n_rg hp 80 r1 r2 r3 h).1 (by omega)
theorem d_71 {a1 a2 a3 : Int} (hp : -1 ≤ p.1 ∧ p.1 ≤ 0) (h : J p s) (t0 : T 9 a0) (r1 : 0 ≤ a1 ∧ a1 ≤ 29) (r2 : 0 ≤ a2 ∧ a2 ≤ 9) (r3 : 0 ≤ a3 ∧ a3 ≤ 99) : gT (f_71 a0 a1 a2 a3 s) (fun r => r.1 = 1 ∧ True ∧ J p r.2.2.2) := by
  rw [T_9 t0]
  exact (n_rg hp 80 (by omega) r2 r3 h).2 r1.2 (by omega)
end Pl

end
section
theorem t11 : T 11 0 := ⟨by decide, k0_0⟩
section Mh
variable {p : gP} {s s0 s' : gS} {a0 a1 v : Nat} {x : Int}
/-- the ghost of the tape's length -/
theorem g_l (h : J p s) : gI s 1 1 = p.2.1 := h.2.2.1
theorem g_t (h : J p s) : gI s 217 8 = p.2.2.1 := h.2.2.2.1
theorem r_00 (h : J p s) : gR s 0 0 = 1 := J_r h rfl (by decide +kernel) (by decide +kernel)
theorem c_88 {n : Int} (h : J p s) : gT (f_88 0 n s) (fun r => r.1 = 1 ∧ (((n < 0 ∨ p.2.1 < n) ∧ r.2.1 = 0 ∧ J p r.2.2.2) ∨ ((0 ≤ n ∧ n ≤ p.2.1) ∧ r.2.1 = 1 ∧ J (p.1, n, p.2.2) r.2.2.2))) := by
  have r1 := J_f (i := 1) h t10_1 rfl (by decide) rfl
  have g := g_l h
  unfold f_88
  rw [r_00 h]
  refine gT_ite (fun _ => gT_ret ⟨rfl, Or.inl ⟨by omega, rfl, h⟩⟩) (fun _ => ?_)
  refine gT_ite (fun _ => gT_ret ⟨rfl, Or.inl ⟨by omega, rfl, h⟩⟩) (fun _ => ?_)
  exact gT_ret ⟨rfl, Or.inr ⟨by omega, rfl, J_l h t10_1 (by omega)⟩⟩
theorem e_150 {x y z : Int} : gT (f_150 x y z s) (fun r => r.1 = 1 ∧ ((r.2.1 = 1 ∧ y ≤ x ∧ x ≤ z) ∨ (r.2.1 = 0 ∧ (x < y ∨ z < x))) ∧ r.2.2.2 = s) := by
  unfold f_150
  refine gT_ite (fun _ => gT_ret ⟨rfl, Or.inr ⟨rfl, by omega⟩, rfl⟩) (fun _ => ?_)
  exact gT_ite (fun _ => gT_ret ⟨rfl, Or.inr ⟨rfl, by omega⟩, rfl⟩) (fun _ => gT_ret ⟨rfl, Or.inl ⟨rfl, by omega⟩, rfl⟩)
theorem c_167 {n : Int} (h : J p s) : gT (f_167 217 n s) (fun r => r.1 = 1 ∧ (((n < 0 ∨ p.2.2.1 < n) ∧ r.2.1 = 0 ∧ J p r.2.2.2) ∨ ((0 ≤ n ∧ n ≤ p.2.2.1) ∧ r.2.1 = 1 ∧ J (p.1, p.2.1, n, p.2.2.2) r.2.2.2))) := by
  unfold f_167
  extract_lets s1
  have j1 : J p s1 := J_wf h t12 rfl (by decide) (by decide) (fun q hq => by cases hq)
  have r1 := J_f (i := 8) j1 t12 rfl (by decide) rfl
  have g := g_t j1
  refine gT_v1 (A := fun v u => ((v = 1 ∧ 0 ≤ n ∧ n ≤ gI s1 217 8) ∨ (v = 0 ∧ (n < 0 ∨ gI s1 217 8 < n))) ∧ u = s1) e_150 (fun v3 s2 h2 => ?_)
  obtain ⟨h2, rfl⟩ := h2
  refine gT_ite (fun _ => gT_ret ⟨rfl, Or.inl ⟨by omega, rfl, j1⟩⟩) (fun _ => ?_)
  exact gT_ret ⟨rfl, Or.inr ⟨by omega, rfl, J_t j1 t12 (by omega)⟩⟩
theorem c_76 (h : J p s) (hl : p.2.1 + 4 ≤ 400) : gT (f_76 1 x s) (fun r => r.1 = 0 ∧ J (p.1, p.2.1 + 4, p.2.2) r.2.2.2) := by
  unfold f_76
  refine gT_loop (fun y => y.1 = 1 ∧ ∃ k : Int, (0 ≤ k ∧ k ≤ 4) ∧ y.2.2.1 = 24 - 8 * k ∧ J (p.1, p.2.1 + k, p.2.2) y.2.2.2) (fun y => (y.2.2.1 + 8).toNat) (fun y hy => ?_) ⟨rfl, 0, by decide, rfl, by rw [show p.2.1 + 0 = p.2.1 by omega]; exact h⟩
  obtain ⟨x0, x1, x2, z⟩ := y
  obtain ⟨q0, k, hk, q2, j⟩ := hy
  dsimp only at q0 q2 j
  subst q0
  have g := g_l j
  dsimp only at g
  have r1 := J_f (i := 1) j t10_1 rfl (by decide) rfl
  show gT (sb_76_3 1 x1 x2 z) _
  unfold sb_76_3
  refine gT_ite (fun _ => gT_map (gT_ret ⟨rfl, ?_⟩)) (fun _ => ?_)
  · have e : k = 4 := by omega
    subst e
    exact j
  refine gT_ite (fun _ => ?_) (fun _ => by omega)
  refine gT_chk (by omega) (by omega) ?_
  extract_lets s1 s2
  have j1 : J (p.1, p.2.1 + k, p.2.2) s1 := J_wby j j t10_1 (gand_le (by omega) (by omega))
  have g1 := g_l j1
  dsimp only at g1
  have e1 := g32_eq (v := gI s1 1 1 + 1) (by omega) (by omega)
  have j2 : J (p.1, p.2.1 + (k + 1), p.2.2) s2 := by
    have := J_l (v := g32 (gI s1 1 1 + 1)) j1 t10_1 (by omega)
    rw [show p.2.1 + (k + 1) = g32 (gI s1 1 1 + 1) by omega]
    exact this
  have e2 := g32_eq (v := x2 + -8) (by omega) (by omega)
  exact gT_ret ⟨⟨rfl, k + 1, by omega, by dsimp only; omega, j2⟩, by dsimp only; omega⟩
theorem c_87 {b c d e : Int} (h : J p s) : gT (f_87 0 x b c d e s) (fun r => r.1 = 1 ∧ ((380 < p.2.1 ∧ r.2.1 = -1 ∧ J p r.2.2.2) ∨ (p.2.1 ≤ 380 ∧ r.2.1 = p.2.1 + 20 ∧ J (p.1, p.2.1 + 20, p.2.2) r.2.2.2))) := by
  have r1 := J_f (i := 1) h t10_1 rfl (by decide) rfl
  have g := g_l h
  have g1 := g32_eq (v := gI s 1 1 + 20) (by omega) (by omega)
  unfold f_87
  rw [r_00 h]
  refine gT_ite (fun _ => gT_ret ⟨rfl, Or.inl ⟨by omega, rfl, h⟩⟩) (fun _ => ?_)
  refine gT_v0 (A := fun u => J (p.1, p.2.1 + 4, p.2.2) u) (c_76 h (by omega)) (fun s1 j1 => ?_)
  rw [r_00 j1]
  refine gT_v0 (A := fun u => J (p.1, p.2.1 + 4 + 4, p.2.2) u) (c_76 j1 (by dsimp only; omega)) (fun s3 j3 => ?_)
  rw [r_00 j3]
  refine gT_v0 (A := fun u => J (p.1, p.2.1 + 4 + 4 + 4, p.2.2) u) (c_76 j3 (by dsimp only; omega)) (fun s5 j5 => ?_)
  rw [r_00 j5]
  refine gT_v0 (A := fun u => J (p.1, p.2.1 + 4 + 4 + 4 + 4, p.2.2) u) (c_76 j5 (by dsimp only; omega)) (fun s7 j7 => ?_)
  rw [r_00 j7]
  refine gT_v0 (A := fun u => J (p.1, p.2.1 + 4 + 4 + 4 + 4 + 4, p.2.2) u) (c_76 j7 (by dsimp only; omega)) (fun s9 j9 => ?_)
  rw [r_00 j9]
  have g9 := g_l j9
  dsimp only at g9
  refine gT_ret ⟨rfl, Or.inr ⟨by omega, by dsimp only; omega, ?_⟩⟩
  rw [show p.2.1 + 20 = p.2.1 + 4 + 4 + 4 + 4 + 4 by omega]
  exact j9
theorem c_166 {b c d e : Int} (h : J p s) : gT (f_166 217 x b c d e s) (fun r => r.1 = 1 ∧ ((380 < p.2.2.1 ∧ r.2.1 = -1 ∧ J p r.2.2.2) ∨ (p.2.2.1 ≤ 380 ∧ r.2.1 = p.2.2.1 + 20 ∧ J (p.1, p.2.1, p.2.2.1 + 20, p.2.2.2) r.2.2.2))) := by
  unfold f_166
  extract_lets s1
  have j1 : J p s1 := J_wf h t12 rfl (by decide) (by decide) (fun q hq => by cases hq)
  have r1 := J_f (i := 8) j1 t12 rfl (by decide) rfl
  have g := g_t j1
  have g1 := g32_eq (v := gI s1 217 8 + 20) (by omega) (by omega)
  refine gT_ite (fun _ => gT_ret ⟨rfl, Or.inl ⟨by omega, rfl, j1⟩⟩) (fun _ => ?_)
  have hl : p.2.2.1 ≤ 380 := by omega
  refine gT_loop (fun y => y.1 = 217 ∧ (0 ≤ y.2.2.2.2.2.2.1 ∧ y.2.2.2.2.2.2.1 ≤ 20) ∧ J (p.1, p.2.1, p.2.2.1 + y.2.2.2.2.2.2.1, p.2.2.2) y.2.2.2.2.2.2.2) (fun y => (20 - y.2.2.2.2.2.2.1).toNat) (fun y hy => ?_) ⟨rfl, by dsimp only; omega, by dsimp only; rw [show p.2.2.1 + 0 = p.2.2.1 by omega]; exact j1⟩
  obtain ⟨x0, x1, x2, x3, x4, x5, x6, z⟩ := y
  obtain ⟨q0, r6, j⟩ := hy
  dsimp only at q0 r6 j
  subst q0
  have gz := g_t j
  dsimp only at gz
  have e6 := g32_eq (v := x6 + 1) (by omega) (by omega)
  have hw : x6 < 20 → ∀ w : Int, gT (fb_166_76 217 x1 x2 x3 x4 x5 x6 w z) (Sum.elim (fun y => (y.1 = 217 ∧ (0 ≤ y.2.2.2.2.2.2.1 ∧ y.2.2.2.2.2.2.1 ≤ 20) ∧ J (p.1, p.2.1, p.2.2.1 + y.2.2.2.2.2.2.1, p.2.2.2) y.2.2.2.2.2.2.2) ∧ (20 - y.2.2.2.2.2.2.1).toNat < (20 - x6).toNat) (fun r => r.1 = 1 ∧ ((380 < p.2.2.1 ∧ r.2.1 = -1 ∧ J p r.2.2.2) ∨ (p.2.2.1 ≤ 380 ∧ r.2.1 = p.2.2.1 + 20 ∧ J (p.1, p.2.1, p.2.2.1 + 20, p.2.2.2) r.2.2.2)))) := by
    intro hx w
    have r8 := J_f (i := 8) j t12 rfl (by decide) rfl
    unfold fb_166_76
    refine gT_chk (by omega) (by omega) ?_
    extract_lets s2 s3
    have j2 : J (p.1, p.2.1, p.2.2.1 + x6, p.2.2.2) s2 := J_wmt j j t12 (gand_le (by omega) (by omega))
    have g2 := g_t j2
    dsimp only at g2
    have e1 := g32_eq (v := gI s2 217 8 + 1) (by omega) (by omega)
    have j3 : J (p.1, p.2.1, p.2.2.1 + g32 (x6 + 1), p.2.2.2) s3 := by
      have := J_t (v := g32 (gI s2 217 8 + 1)) j2 t12 (by omega)
      rw [show p.2.2.1 + g32 (x6 + 1) = g32 (gI s2 217 8 + 1) by omega]
      exact this
    exact gT_ret ⟨⟨rfl, by dsimp only; omega, j3⟩, by dsimp only; omega⟩
  show gT (sb_166_23 217 x1 x2 x3 x4 x5 x6 z) _
  unfold sb_166_23
  refine gT_ite (fun hx => ?_) (fun _ => gT_map ?_)
  · exact gT_ite (fun _ => hw hx _) (fun _ => gT_ite (fun _ => hw hx _) (fun _ => gT_ite (fun _ => hw hx _) (fun _ => gT_ite (fun _ => hw hx _) (fun _ => hw hx _))))
  · have e : x6 = 20 := by omega
    subst e
    exact gT_ret ⟨rfl, Or.inr ⟨hl, gz, j⟩⟩
/-- a thing's cells are kept -/
noncomputable def Kp (v : Nat) (s s' : gS) : Prop := Sm s s' ∧ ∀ k, gI s' v k = gI s v k
theorem Kp_r : Kp v s s := ⟨Sm_r, fun _ => rfl⟩
theorem Kp_w {a k : Nat} (h : Kp v s s') (ha : a ≠ v) : Kp v s (gw s' a k x) := ⟨h.1, fun j => (rd_a rfl (Ne.symm ha)).trans (h.2 j)⟩
theorem Kp_c {a sp b dp n : Nat} (h : Kp v s s') (hb : b ≠ v) : Kp v s (gcpy s' a sp b dp n) := by
  refine ⟨h.1, fun j => ?_⟩
  show (if v = b ∧ dp ≤ j ∧ j < dp + n then gI s' a (sp + (j - dp)) else gI s' v j) = _
  rw [if_neg (fun z => hb z.1.symm)]
  exact h.2 j
theorem q_59 (h : Kp v s0 s) (ha : a0 ≠ v) : gQ (f_59 a0 a1 s) (fun r => Kp v s0 r.2.2.2) := by
  unfold f_59
  exact gQ_ret (Kp_w (Kp_w (Kp_w (Kp_w (Kp_w (Kp_w h ha) ha) ha) ha) ha) ha)
/-- a court that doesn't hold the thing -/
noncomputable def Cf (v a : Nat) : Prop := (∀ i, i < 6 → r0 (r0 a 0) i ≠ v) ∧ r0 a 1 ≠ v ∧ r0 a 2 ≠ v ∧ a ≠ v ∧ r0 a 3 ≠ v ∧ r0 (r0 a 3) 0 ≠ v
theorem past_g1 : ∀ j, j < 12 → ∀ i, i < 6 → 60 ≤ r0 (r0 (r0 72 j) 0) i := by decide +kernel
theorem past_g2 : ∀ j, j < 12 → 60 ≤ r0 (r0 72 j) 1 ∧ 60 ≤ r0 (r0 72 j) 2 ∧ 60 ≤ r0 72 j := by decide +kernel
theorem past_g3 : ∀ j, j < 12 → 60 ≤ r0 (r0 72 j) 3 ∧ 60 ≤ r0 (r0 (r0 72 j) 3) 0 := by decide +kernel
theorem past_cf (j : Nat) (hj : j < 12) (v : Nat) (hv : v < 27) : Cf v (r0 72 j) := by
  have h1 := past_g1 j hj
  have h2 := past_g2 j hj
  have h3 := past_g3 j hj
  exact ⟨fun i hi => by have := h1 i hi; omega, by omega, by omega, by omega, by omega, by omega⟩
theorem r0_J (h : J p s) {a i kd : Nat} (t : T kd a) (hk : kd ≠ 0) : gR s a i = r0 a i := h.1.2.1 a i t.1 (fun e => hk (by rw [← t.2]; exact e.1))
theorem c_23 (hp : -1 ≤ p.1 ∧ p.1 ≤ 0) (h : J p s) (t0 : T 2 a0) (t1 : T 2 a1) (hk : Kp v s0 s) (hc : Cf v a0) : gT (f_23 a0 a1 s) (fun r => r.1 = 0 ∧ J p r.2.2.2 ∧ Kp v s0 r.2.2.2) := by
  unfold f_23
  refine gT_loop (fun y => y.1 = a0 ∧ y.2.1 = a1 ∧ (0 ≤ y.2.2.1 ∧ y.2.2.1 ≤ 6) ∧ J p y.2.2.2 ∧ Kp v s0 y.2.2.2) (fun y => (6 - y.2.2.1).toNat) (fun y hy => ?_) ⟨rfl, rfl, by dsimp only; omega, h, hk⟩
  obtain ⟨x0, x1, x2, z⟩ := y
  obtain ⟨q0, q1, r2, h, hk⟩ := hy
  dsimp only at q0 q1 r2 h hk
  subst q0 q1
  have e1 := g32_eq (v := x2 + 1) (by omega) (by omega)
  have u0 : T 152 (gR z x0 0) := T_f (i := 0) h t0 (by decide) rfl rfl
  have u1 : T 152 (gR z x1 0) := T_f (i := 0) h t1 (by decide) rfl rfl
  show gT (sb_23_2 x0 x1 x2 z) _
  unfold sb_23_2
  refine gT_ite (fun hx => ?_) (fun _ => gT_map ?_)
  · refine gT_chk (by omega) (by omega) (gT_chk (by omega) (by omega) ?_)
    have m0 := T_man (i := x2.toNat) h u0 (by omega)
    have m1 := T_man (i := x2.toNat) h u1 (by omega)
    have n0 : gR z (gR z x0 0) x2.toNat ≠ v := by
      rw [r0_J h u0 (by decide), r0_J h t0 (by decide)]
      exact hc.1 _ (by omega)
    refine gT_v0 (A := fun u => J p u ∧ Kp v s0 u) (gT_mono (gT_and (d_59 hp h m0 m1) (q_59 hk n0)) (fun r hr => ⟨hr.1.1, hr.1.2, hr.2⟩)) (fun s1 h1 => ?_)
    exact gT_ret ⟨⟨rfl, rfl, by dsimp only; omega, h1⟩, by dsimp only; omega⟩
  · extract_lets s3 s4 s5 s6 s7 s8 s9 s10
    have j3 : J p s3 := J_ca h (T_f (i := 1) h t0 (by decide) rfl rfl) rfl
    have j4 : J p s4 := J_ca j3 (T_f (i := 2) j3 t0 (by decide) rfl rfl) rfl
    have b4 := J_f (i := 4) j4 t1 rfl (by decide) rfl
    have j5 : J p s5 := J_wf j4 t0 rfl (by decide) (by decide) (fun q hq => by cases hq; exact b4)
    have b5 := J_f (i := 5) j5 t1 rfl (by decide) rfl
    have j6 : J p s6 := J_wf j5 t0 rfl (by decide) (by decide) (fun q hq => by cases hq; exact b5)
    have j7 : J p s7 := J_wf j6 t0 rfl (by decide) (by decide) (fun q hq => by cases hq)
    have j8 : J p s8 := J_wf j7 t0 rfl (by decide) (by decide) (fun q hq => by cases hq)
    have j9 : J p s9 := J_wf j8 t0 rfl (by decide) (by decide) (fun q hq => by cases hq)
    have j10 : J p s10 := J_wf j9 t0 rfl (by decide) (by decide) (fun q hq => by cases hq)
    have n1 : gR z x0 1 ≠ v := by rw [r0_J h t0 (by decide)]; exact hc.2.1
    have n2 : gR s3 x0 2 ≠ v := by rw [r0_J j3 t0 (by decide)]; exact hc.2.2.1
    have n3 := hc.2.2.2.1
    exact gT_ret ⟨rfl, j10, Kp_w (Kp_w (Kp_w (Kp_w (Kp_w (Kp_w (Kp_c (Kp_c hk n1) n2) n3) n3) n3) n3) n3) n3⟩
theorem c_22 (hp : -1 ≤ p.1 ∧ p.1 ≤ 0) (h : J p s) (t0 : T 2 a0) (t1 : T 2 a1) (hk : Kp v s0 s) (hc : Cf v a0) : gT (f_22 a0 a1 s) (fun r => r.1 = 0 ∧ J p r.2.2.2 ∧ Kp v s0 r.2.2.2) := by
  unfold f_22
  refine gT_v0 (A := fun u => J p u ∧ Kp v s0 u) (c_23 hp h t0 t1 hk hc) (fun s1 h1 => ?_)
  obtain ⟨j1, k1⟩ := h1
  have u0 : T 6 (gR s1 a0 3) := T_f (i := 3) j1 t0 (by decide) rfl rfl
  have u1 : T 6 (gR s1 a1 3) := T_f (i := 3) j1 t1 (by decide) rfl rfl
  have n0 : gR s1 a0 3 ≠ v := by rw [r0_J j1 t0 (by decide)]; exact hc.2.2.2.2.1
  have n1 : gR s1 (gR s1 a0 3) 0 ≠ v := by rw [r0_J j1 u0 (by decide), r0_J j1 t0 (by decide)]; exact hc.2.2.2.2.2
  have q : gQ (f_54 (gR s1 a0 3) (gR s1 a1 3) s1) (fun r => Kp v s0 r.2.2.2) := by
    unfold f_54
    exact gQ_ret (Kp_w (Kp_c k1 n1) n0)
  refine gT_v0 (A := fun u => J p u ∧ Kp v s0 u) (gT_mono (gT_and (d_54 hp j1 u0 u1) q) (fun r hr => ⟨hr.1.1, hr.1.2, hr.2⟩)) (fun s3 h3 => ?_)
  exact gT_ret ⟨rfl, h3⟩
theorem c_140 (hp : -1 ≤ p.1 ∧ p.1 ≤ 0) (h : J p s) (hv : 21 ≤ v ∧ v ≤ 26) : gT (f_140 0 s) (fun r => r.1 = 0 ∧ J p r.2.2.2 ∧ Kp v s r.2.2.2) := by
  unfold f_140
  extract_lets s1
  have b13 := J_f (i := 13) h t11 rfl (by decide) rfl
  have e1 := g32_eq (v := gI s 0 13 + 1) (by omega) (by omega)
  have e2 := grem_eq (x := g32 (gI s 0 13 + 1)) (c := 12) (by omega) (by decide)
  have j1 : J p s1 := J_wf h t11 rfl (by decide) (by decide) (fun q hq => by cases hq; dsimp only; omega)
  have c13 := J_f (i := 13) j1 t11 rfl (by decide) rfl
  refine gT_chk (by omega) (by omega) ?_
  have n0 : (0 : Nat) ≠ v := by omega
  have tp : T 2 (gR s1 (gR s1 0 12) (gI s1 0 13).toNat) := T_pastc j1 j1 t11 (by omega)
  have ep : gR s1 (gR s1 0 12) (gI s1 0 13).toNat = r0 72 (gI s1 0 13).toNat := by
    rw [r_past j1 t11]
    exact j1.1.2.1 72 _ (by decide) (fun e => by
      have h9 : k0 72 = 199 := by decide +kernel
      rw [h9] at e; exact absurd e.1 (by decide))
  have hc : Cf v (gR s1 (gR s1 0 12) (gI s1 0 13).toNat) := by
    rw [ep]
    exact past_cf _ (by omega) v (by omega)
  refine gT_v0 (A := fun u => J p u ∧ Kp v s u) (c_22 hp j1 tp (T_f (i := 5) j1 t11 (by decide) rfl rfl) (Kp_w Kp_r n0) hc) (fun s2 h2 => ?_)
  exact gT_ret ⟨rfl, J_wf h2.1 t11 rfl (by decide) (by decide) (fun q hq => by cases hq), Kp_w h2.2 n0⟩
theorem men_v : ∀ i, i < 6 → 21 ≤ r0 16 i ∧ r0 16 i ≤ 26 := by decide +kernel
theorem d_96 {a1 : Int} (hp : -1 ≤ p.1 ∧ p.1 ≤ 0) (h : J p s) (t0 : T 11 a0) : gT (f_96 a0 a1 s) (fun r => (r.1 = 1 ∧ True ∧ J p r.2.2.2) ∨ (2 ≤ r.1 ∧ r.1 ≤ 6 ∧ (r.1 = 5 ∨ r.1 = 6) ∧ J p r.2.2.2)) := by
  rw [T_11 t0]
  unfold f_96
  refine gT_t0 (A := fun u => (0 ≤ a1 ∧ a1 ≤ 5) ∧ J p u) (B := fun t u => t = 5 ∧ J p u) (d_135 hp h t11) (fun s1 h1 => ?_) (fun t s h1 h2 h3 => Or.inr ⟨h1, h2, by have := h3.1; dsimp only; omega, h3.2⟩)
  obtain ⟨r1, j1⟩ := h1
  refine gT_t0 (A := fun u => J p u) (B := fun t u => t = 6 ∧ J p u) (d_139 hp j1 t11 r1) (fun s3 j3 => ?_) (fun t s h1 h2 h3 => Or.inr ⟨h1, h2, by have := h3.1; dsimp only; omega, h3.2⟩)
  refine gT_chk (by omega) (by omega) ?_
  extract_lets v5
  have u5 := T_f (i := 5) j3 t11 (by decide) rfl rfl
  have u0 : T 152 (gR s3 (gR s3 0 5) 0) := T_f (i := 0) j3 u5 (by decide) rfl rfl
  have t5 : T 7 v5 := T_man (i := a1.toNat) j3 u0 (by omega)
  have e5 : gR s3 0 5 = 15 := J_r j3 rfl (by decide +kernel) (by decide +kernel)
  have e0 : gR s3 15 0 = 16 := J_r j3 rfl (by decide +kernel) (by decide +kernel)
  have hv : 21 ≤ v5 ∧ v5 ≤ 26 := by
    have e : v5 = r0 16 a1.toNat := by
      show gR s3 (gR s3 (gR s3 0 5) 0) a1.toNat = _
      rw [r0_J j3 u0 (by decide), e5, e0]
    rw [e]
    exact men_v _ (by omega)
  clear_value v5
  refine gT_ite (fun _ => gT_ret (Or.inr ⟨by dsimp only; omega, by dsimp only; omega, Or.inr rfl, J_nw j3⟩)) (fun hn => ?_)
  refine gT_v0 (A := fun u => J p u ∧ Kp v5 s3 u) (c_140 hp j3 hv) (fun s6 h6 => ?_)
  obtain ⟨j6, k6⟩ := h6
  have q1 := k6.2 1
  have b1 := J_f (i := 1) j6 t5 rfl (by decide) rfl
  have g1 := g32_eq (v := gI s6 v5 1 - 1) (by omega) (by omega)
  extract_lets s8
  have j8 : J p s8 := J_wf j6 t5 rfl (by decide) (by decide) (fun q hq => by cases hq; dsimp only; omega)
  refine gT_v0 (A := fun u => J p u) (d_60 hp j8 t5) (fun s9 j9 => ?_)
  have w5 := T_f (i := 5) j9 t11 (by decide) rfl rfl
  refine gT_v0 (A := fun u => J p u) (d_55 hp j9 (T_f (i := 3) j9 w5 (by decide) rfl rfl)) (fun s11 j11 => ?_)
  exact gT_ret (Or.inl ⟨rfl, trivial, j11⟩)
theorem d_211 {a1 : Int} (hp : -1 ≤ p.1 ∧ p.1 ≤ 0) (h : J p s) (t0 : T 12 a0) : gT (f_211 a0 a1 s) (fun r => r.1 = 1 ∧ True ∧ J p r.2.2.2) := by
  rw [T_12 t0]
  have hth : ∀ (w : Int) (z : gS), 0 < w → J p z → gT (fb_211_35 217 a1 w 217 z) (fun r => r.1 = 1 ∧ True ∧ J p r.2.2.2) := by
    intro w z hw jz
    unfold fb_211_35
    extract_lets s4
    have j4 : J p s4 := J_wf jz t12 rfl (by decide) (by decide) (fun q hq => by cases hq)
    have e4 : gI s4 217 0 = w := rd_same (show s4 = gw z 217 0 w from rfl)
    exact gT_ite (fun _ => gT_ret ⟨rfl, trivial, j4⟩) (fun hn => by omega)
  unfold f_211
  refine gT_v1 (A := fun v u => (v = 1 → 0 ≤ a1 ∧ a1 ≤ 5) ∧ (0 ≤ v ∧ v ≤ 1) ∧ J p u) (d_162 hp h t12) (fun v2 s1 h1 => ?_)
  refine gT_ite (fun _ => hth _ _ (by decide) h1.2.2) (fun hn => ?_)
  have r1 := h1.1 (by omega)
  refine gT_v1 (A := fun v u => (0 ≤ v ∧ v ≤ 1) ∧ J p u) (d_165 hp h1.2.2 t12 r1) (fun v22 s21 h21 => ?_)
  refine gT_ite (fun _ => hth _ _ (by decide) h21.2) (fun _ => ?_)
  refine gT_v1 (A := fun v u => ((1 : Int) = 1 → 0 ≤ v ∧ v ≤ 9) ∧ v = gI s21 218 (40 + 6 * a1.toNat + (1 : Int).toNat) ∧ u = s21) (gT_mono (c_156 h21.2 t12 r1 (by decide)) (fun r hr => ⟨hr.1, hr.2.1.2.1, hr.2.2⟩)) (fun v25 s24 h24 => ?_)
  obtain ⟨r25, e25, e24⟩ := h24
  subst e24
  refine gT_ite (fun _ => hth _ _ (by decide) h21.2) (fun hn5 => ?_)
  have r25 := r25 rfl
  unfold fb_211_35
  extract_lets s4
  have j4 : J p s4 := J_wf h21.2 t12 rfl (by decide) (by decide) (fun q hq => by cases hq)
  have e4 : ∀ k, gI s4 218 k = gI s24 218 k := fun k => rd_a (show s4 = gw s24 217 0 0 from rfl) (by decide)
  have e0 : gI s4 217 0 = 0 := rd_same (show s4 = gw s24 217 0 0 from rfl)
  refine gT_ite (fun hx => by omega) (fun _ => ?_)
  refine gT_v0 (A := fun u => J p u ∧ ∀ k, gI u 218 k = gI s4 218 k) (c_209 j4) (fun s5 h5 => ?_)
  refine gT_v1 (A := fun v u => ((1 : Int) = 1 → 0 ≤ v ∧ v ≤ 9) ∧ v = gI s5 218 (40 + 6 * a1.toNat + (1 : Int).toNat) ∧ u = s5) (gT_mono (c_156 h5.1 t12 r1 (by decide)) (fun r hr => ⟨hr.1, hr.2.1.2.1, hr.2.2⟩)) (fun v8 s7 h7 => ?_)
  obtain ⟨r8, e8, e7⟩ := h7
  subst e7
  have r8 := r8 rfl
  have q8 : v8 = v25 := by rw [e8, h5.2, e4, e25]
  have g8 := g32_eq (v := v8 - 1) (by omega) (by omega)
  refine gT_v0 (A := fun u => J p u) (d_157_1 hp h5.1 t12 r1 (by omega)) (fun s9 j9 => ?_)
  refine gT_v1 (A := fun v u => (0 ≤ v ∧ v ≤ 99) ∧ J p u) (d_156_0 hp j9 t12 r1) (fun v12 s11 h11 => ?_)
  have bm := J_m (k := 12) h11.2 h11.2 t12 rfl
  have g9 := g32_eq (v := v12 + gI s11 (gR s11 217 1) 12) (by omega) (by omega)
  refine gT_v1 (A := fun v u => (v ≤ 99 ∧ v ≤ g32 (v12 + gI s11 (gR s11 217 1) 12) ∧ (v = 99 ∨ v = g32 (v12 + gI s11 (gR s11 217 1) 12))) ∧ True ∧ J p u) (d_151 hp h11.2) (fun v14 s13 h13 => ?_)
  refine gT_v0 (A := fun u => J p u) (d_157_0 hp h13.2.2 t12 r1 (by have := h13.1; omega)) (fun s15 j15 => ?_)
  refine gT_v0 (A := fun u => J p u) (d_210 hp j15 t12 r1) (fun s17 j17 => ?_)
  refine gT_v1 (A := fun v u => (0 ≤ v ∧ v ≤ 99) ∧ J p u) (d_156_0 hp j17 t12 r1) (fun v20 s19 h19 => ?_)
  exact gT_ret ⟨rfl, trivial, h19.2⟩
end Mh

end
section
section Rs
variable {p : gP} {s : gS} {a0 : Nat}
theorem r_02 {u : gS} (h : J p u) : gR u 1 0 = 2 := r_by h t10_1
theorem r_04 {u : gS} (h : J p u) : gR u 0 4 = 9 := J_r h rfl (by decide +kernel) (by decide +kernel)
/-- a tale's tests -/
noncomputable def Tl (n : Int) (s : gS) : Prop := n ≤ 40 ∧ ∀ i : Int, 0 ≤ i → i + 1 < n → i % 2 = 0 → gI s 2 i.toNat < gI s 9 6
theorem t0_9 : T 0 9 := ⟨by decide, by decide +kernel⟩
theorem c_143 {n : Int} (h : J p s) (hn : 0 ≤ n ∧ n ≤ 400) : gT (f_143 0 n s) (fun r => r.1 = 1 ∧ (r.2.1 ≠ 0 → Tl n s) ∧ r.2.2.2 = s) := by
  unfold f_143
  refine gT_ite (fun _ => gT_ret ⟨rfl, fun e => absurd rfl e, rfl⟩) (fun h40 => ?_)
  refine gT_ite (fun _ => ?_) (fun _ => gT_ret ⟨rfl, fun e => absurd rfl e, rfl⟩)
  refine gT_loop (fun y => y.1 = 0 ∧ y.2.1 = n ∧ (0 ≤ y.2.2.1 ∧ y.2.2.1 ≤ 41) ∧ y.2.2.1 % 2 = 0 ∧ (∀ i : Int, 0 ≤ i → i < y.2.2.1 → i % 2 = 0 → gI s 2 i.toNat < gI s 9 6) ∧ y.2.2.2 = s) (fun y => (41 - y.2.2.1).toNat) (fun y hy => ?_) ⟨rfl, rfl, by dsimp only; omega, rfl, fun i h1 h2 => by dsimp only at h2; omega, rfl⟩
  obtain ⟨x0, x1, x2, z⟩ := y
  obtain ⟨q0, q1, r2, e2, hi, q3⟩ := hy
  dsimp only at q0 q1 r2 e2 hi q3
  subst q0 q1 q3
  have g1 := g32_eq (v := x2 + 1) (by omega) (by omega)
  have g2 := g32_eq (v := x2 + 2) (by omega) (by omega)
  show gT (sb_143_16 0 x1 x2 z) _
  unfold sb_143_16
  rw [g1, g2, r_00 h, r_02 h, r_04 h]
  refine gT_ite (fun hx => ?_) (fun hx => gT_map (gT_ret ⟨rfl, fun _ => ⟨by omega, fun i h1 h2 h3 => hi i h1 (by omega) h3⟩, rfl⟩))
  refine gT_chk (by omega) (by omega) ?_
  refine gT_ite (fun hb => ?_) (fun _ => gT_map (gT_ret ⟨rfl, fun e => absurd rfl e, rfl⟩))
  refine gT_chk (by omega) (by omega) ?_
  refine gT_ite (fun _ => gT_map (gT_ret ⟨rfl, fun e => absurd rfl e, rfl⟩)) (fun _ => ?_)
  refine gT_ret ⟨⟨rfl, rfl, by dsimp only; omega, by dsimp only; omega, fun i h1 h2 h3 => ?_, rfl⟩, by dsimp only; omega⟩
  dsimp only at h2
  by_cases hc : i < x2
  · exact hi i h1 hc h3
  · have e : i = x2 := by omega
    rw [e]
    exact hb
theorem c_144 {w n : Int} (h : J p s) (hn : 0 ≤ n) (ht : Tl n s) : gT (f_144 0 w n s) (fun r => r.1 = 1 ∧ r.2.2.2 = s) := by
  obtain ⟨h40, ht⟩ := ht
  unfold f_144
  refine gT_loop (fun y => y.1 = 0 ∧ y.2.1 = w ∧ y.2.2.1 = n ∧ (0 ≤ y.2.2.2.1 ∧ y.2.2.2.1 ≤ 41) ∧ y.2.2.2.1 % 2 = 0 ∧ y.2.2.2.2 = s) (fun y => (41 - y.2.2.2.1).toNat) (fun y hy => ?_) ⟨rfl, rfl, rfl, by dsimp only; omega, rfl, rfl⟩
  obtain ⟨x0, x1, x2, x3, z⟩ := y
  obtain ⟨q0, q1, q2, r3, e3, q3⟩ := hy
  dsimp only at q0 q1 q2 r3 e3 q3
  subst q0 q1 q2 q3
  have g1 := g32_eq (v := x3 + 1) (by omega) (by omega)
  have g2 := g32_eq (v := x3 + 2) (by omega) (by omega)
  show gT (sb_144_2 0 x1 x2 x3 z) _
  unfold sb_144_2
  rw [g1, r_00 h, r_02 h, r_04 h]
  refine gT_ite (fun hx => ?_) (fun hx => gT_map (gT_ret ⟨rfl, rfl⟩))
  refine gT_chk (by omega) (by omega) ?_
  have b1 := ht x3 (by omega) hx e3
  have b2 := J_f (i := 6) h t0_9 rfl (by decide) rfl
  have b3 := J_by (k := x3.toNat) h h t10_1
  rw [r_02 h] at b3
  refine gT_v1 (A := fun _ u => u = z) ?_ (fun v2 s1 e1 => ?_)
  · unfold f_4
    exact gT_chk (by omega) (by omega) (gT_ite (fun _ => gT_ret ⟨rfl, rfl⟩) (fun _ => gT_ret ⟨rfl, rfl⟩))
  subst e1
  refine gT_chk (by omega) (by omega) ?_
  have hf : ∀ a b : Int, gT (fb_144_46 0 x1 x2 x3 a b s1) (Sum.elim (fun y => (y.1 = 0 ∧ y.2.1 = x1 ∧ y.2.2.1 = x2 ∧ (0 ≤ y.2.2.2.1 ∧ y.2.2.2.1 ≤ 41) ∧ y.2.2.2.1 % 2 = 0 ∧ y.2.2.2.2 = s1) ∧ (41 - y.2.2.2.1).toNat < (41 - x3).toNat) (fun r => r.1 = 1 ∧ r.2.2.2 = s1)) := by
    intro a b
    unfold fb_144_46
    rw [g2]
    exact gT_ite (fun _ => gT_ret ⟨⟨rfl, rfl, rfl, by dsimp only; omega, by dsimp only; omega, rfl⟩, by dsimp only; omega⟩) (fun _ => gT_map (gT_ret ⟨rfl, rfl⟩))
  exact gT_ite (fun _ => hf _ _) (fun _ => hf _ _)
theorem d_142 (hp : -1 ≤ p.1 ∧ p.1 ≤ 0) (h : J p s) (t0 : T 11 a0) : gT (f_142 a0 s) (fun r => (r.1 = 1 ∧ True ∧ J (p.1, 0, p.2.2.1, p.2.2.2.1, p.2.2.2.2) r.2.2.2) ∨ (2 ≤ r.1 ∧ r.1 ≤ 6 ∧ (r.1 = 2) ∧ J (p.1, 0, p.2.2.1, p.2.2.2.1, p.2.2.2.2) r.2.2.2)) := by
  rw [T_11 t0]
  have r1 := J_f (i := 1) h t10_1 rfl (by decide) rfl
  unfold f_142
  rw [r_00 h]
  extract_lets v1 s2
  have hv1 : v1 = gI s 1 1 := rfl
  have j2 : J (p.1, 0, p.2.2) s2 := J_l h t10_1 (by decide)
  clear_value v1 s2
  refine gT_v1 (A := fun v u => (v ≠ 0 → Tl v1 s2) ∧ u = s2) (c_143 j2 (by omega)) (fun v4 s3 h3 => ?_)
  obtain ⟨ht, rfl⟩ := h3
  refine gT_ite (fun _ => gT_ret (Or.inr ⟨by dsimp only; omega, by dsimp only; omega, rfl, J_nw j2⟩)) (fun hn => ?_)
  have ht := ht hn
  refine gT_loop (fun y => y.1 = 0 ∧ y.2.1 = v1 ∧ (0 ≤ y.2.2.2.1 ∧ y.2.2.2.1 ≤ 64) ∧ y.2.2.2.2 = s3) (fun y => (64 - y.2.2.2.1).toNat) (fun y hy => ?_) ⟨rfl, rfl, by dsimp only; omega, rfl⟩
  obtain ⟨x0, x1, x2, x4, z⟩ := y
  obtain ⟨q0, q1, r4, q3⟩ := hy
  dsimp only at q0 q1 r4 q3
  subst q0 q1 q3
  have g1 := g32_eq (v := x4 + 1) (by omega) (by omega)
  show gT (sb_142_40 0 x1 x2 x4 z) _
  unfold sb_142_40
  rw [g1]
  refine gT_ite (fun hx => ?_) (fun hx => gT_map (gT_ret (Or.inl ⟨rfl, trivial, j2⟩)))
  refine gT_v1 (A := fun _ u => u = z) (c_144 j2 (by omega) ht) (fun v7 s6 e6 => ?_)
  subst e6
  exact gT_ite (fun _ => gT_ret ⟨⟨rfl, rfl, by dsimp only; omega, rfl⟩, by dsimp only; omega⟩) (fun _ => gT_ret ⟨⟨rfl, rfl, by dsimp only; omega, rfl⟩, by dsimp only; omega⟩)
/-- 100 to the k -/
noncomputable def Hd (k x : Int) : Prop := (k = 0 ∧ x = 1) ∨ (k = 1 ∧ x = 100) ∨ (k = 2 ∧ x = 10000) ∨ (k = 3 ∧ x = 1000000) ∨ (k = 4 ∧ x = 100000000) ∨ (k = 5 ∧ x = 10000000000)
theorem Hd_s {k x : Int} (h : Hd k x) (hk : k < 5) : Hd (k + 1) (g64 (x * 100)) := by
  unfold Hd at h
  rcases h with ⟨rfl, rfl⟩ | ⟨rfl, rfl⟩ | ⟨rfl, rfl⟩ | ⟨rfl, rfl⟩ | ⟨rfl, rfl⟩ | ⟨rfl, rfl⟩
  · right; left; decide
  · right; right; left; decide
  · right; right; right; left; decide
  · right; right; right; right; left; decide
  · right; right; right; right; right; decide
  · exact absurd hk (by decide)
theorem Hd_n {k x : Int} (h : Hd k x) : ¬ x = 0 := by
  unfold Hd at h
  omega
theorem d_117 {a1 a2 : Int} (hp : -1 ≤ p.1 ∧ p.1 ≤ 0) (h : J p s) (t0 : T 11 a0) : gT (f_117 a0 a1 a2 s) (fun r => (r.1 = 1 ∧ True ∧ J p r.2.2.2) ∨ (2 ≤ r.1 ∧ r.1 ≤ 6 ∧ (r.1 = 2) ∧ J p r.2.2.2)) := by
  unfold f_117
  refine gT_t0 (A := fun u => (0 ≤ a1 ∧ a1 ≤ 5) ∧ J p u) (B := fun t u => t = 2 ∧ J p u) (d_138 hp h t0) (fun s1 h1 => ?_) (fun t s h1 h2 h3 => Or.inr ⟨h1, h2, by have := h3.1; dsimp only; omega, h3.2⟩)
  obtain ⟨r1, j1⟩ := h1
  refine gT_t0 (A := fun u => (0 ≤ a2 ∧ a2 ≤ 5) ∧ J p u) (B := fun t u => t = 2 ∧ J p u) (d_138 hp j1 t0) (fun s3 h3 => ?_) (fun t s h1 h2 h3 => Or.inr ⟨h1, h2, by have := h3.1; dsimp only; omega, h3.2⟩)
  obtain ⟨r2, j3⟩ := h3
  have hend : ∀ (x3 x5 : Int) (z : gS), ¬ x5 = 0 → J p z → gT (gloop st_117_45 (a0, a1, x3, x5, a2, z)) (fun r => (r.1 = 1 ∧ True ∧ J p r.2.2.2) ∨ (2 ≤ r.1 ∧ r.1 ≤ 6 ∧ (r.1 = 2) ∧ J p r.2.2.2)) := by
    intro x3 x5 z h5 jz
    refine gT_loop (fun y => y.1 = a0 ∧ y.2.1 = a1 ∧ ¬ y.2.2.2.1 = 0 ∧ (0 ≤ y.2.2.2.2.1 ∧ y.2.2.2.2.1 ≤ 6) ∧ J p y.2.2.2.2.2) (fun y => (6 - y.2.2.2.2.1).toNat) (fun y hy => ?_) ⟨rfl, rfl, h5, by dsimp only; omega, jz⟩
    obtain ⟨x0, x1, x3, x5, x7, z⟩ := y
    obtain ⟨q0, q1, h5, r7, jz⟩ := hy
    dsimp only at q0 q1 h5 r7 jz
    subst q0 q1
    have g1 := g32_eq (v := x7 + 1) (by omega) (by omega)
    show gT (sb_117_45 x0 x1 x3 x5 x7 z) _
    unfold sb_117_45
    refine gT_ite (fun _ => gT_map ?_) (fun _ => ?_)
    · rw [if_neg h5]
      exact gT_ret (Or.inl ⟨rfl, trivial, jz⟩)
    · refine gT_v1 (A := fun _ u => True ∧ J p u) (d_148 hp jz t0 r1 (by omega)) (fun v6 s5 h5' => ?_)
      exact gT_ret ⟨⟨rfl, rfl, h5, by dsimp only; omega, h5'.2⟩, by dsimp only; omega⟩
  refine gT_loop (fun y => y.1 = a0 ∧ y.2.1 = a1 ∧ y.2.2.1 = a2 ∧ Hd y.2.2.2.2.2.1 y.2.2.2.2.1 ∧ (0 ≤ y.2.2.2.2.2.1 ∧ y.2.2.2.2.2.1 ≤ 5) ∧ J p y.2.2.2.2.2.2) (fun y => (5 - y.2.2.2.2.2.1).toNat) (fun y hy => ?_) ⟨rfl, rfl, rfl, Or.inl ⟨rfl, rfl⟩, by dsimp only; omega, j3⟩
  obtain ⟨x0, x1, x2, x3, x5, x7, z⟩ := y
  obtain ⟨q0, q1, q2, hd, r7, jz⟩ := hy
  dsimp only at q0 q1 q2 hd r7 jz
  subst q0 q1 q2
  have g1 := g32_eq (v := x7 + 1) (by omega) (by omega)
  show gT (sb_117_22 x0 x1 x2 x3 x5 x7 z) _
  unfold sb_117_22
  rw [g1]
  refine gT_ite (fun hx => ?_) (fun _ => gT_map (hend _ _ _ (Hd_n hd) jz))
  exact gT_ret ⟨⟨rfl, rfl, rfl, Hd_s hd (by omega), by dsimp only; omega, jz⟩, by dsimp only; omega⟩
theorem d_244 {a1 a2 : Int} (hp : -1 ≤ p.1 ∧ p.1 ≤ 0) (h : J p s) (t0 : T 12 a0) : gT (f_244 a0 a1 a2 s) (fun r => r.1 = 1 ∧ True ∧ J p r.2.2.2) := by
  rw [T_12 t0]
  have hth : ∀ (w : Int) (z : gS), (w = 1 ∨ (w = 0 ∧ 0 ≤ a1 ∧ a1 ≤ 5)) → J p z → gT (fb_244_24 217 a1 a2 w 217 z) (fun r => r.1 = 1 ∧ True ∧ J p r.2.2.2) := by
    intro w z hw jz
    unfold fb_244_24
    extract_lets s4
    have j4 : J p s4 := J_wf jz t12 rfl (by decide) (by decide) (fun q hq => by cases hq)
    have e4 : gI s4 217 0 = w := rd_same (show s4 = gw z 217 0 w from rfl)
    refine gT_ite (fun _ => gT_ret ⟨rfl, trivial, j4⟩) (fun hn => ?_)
    have r1 : 0 ≤ a1 ∧ a1 ≤ 5 := by omega
    clear_value s4
    have hin : ∀ (x3 : Int) (u : gS), ¬ x3 = 0 → J p u → gT (gloop st_244_65 (217, a1, a2, x3, 0, 0, u)) (fun r => r.1 = 1 ∧ True ∧ J p r.2.2.2) := by
      intro x3 u h3 ju
      have gs := gshl_5 r1
      refine gT_loop (fun y => y.1 = 217 ∧ y.2.1 = a1 ∧ y.2.2.1 = a2 ∧ ¬ y.2.2.2.1 = 0 ∧ (0 ≤ y.2.2.2.2.2.1 ∧ y.2.2.2.2.2.1 ≤ 32) ∧ J p y.2.2.2.2.2.2) (fun y => (32 - y.2.2.2.2.2.1).toNat) (fun y hy => ?_) ⟨rfl, rfl, rfl, h3, by dsimp only; omega, ju⟩
      obtain ⟨x0, x1, x2, x3, x5, x7, u⟩ := y
      obtain ⟨q0, q1, q2, h3, r7, ju⟩ := hy
      dsimp only at q0 q1 q2 h3 r7 ju
      subst q0 q1 q2
      have g1 := g32_eq (v := x7 + 1) (by omega) (by omega)
      show gT (sb_244_65 217 x1 x2 x3 x5 x7 u) _
      unfold sb_244_65
      refine gT_ite (fun hx => ?_) (fun _ => gT_map ?_)
      rotate_left
      · rw [if_neg h3]
        exact gT_ret ⟨rfl, trivial, ju⟩
      refine gT_v1 (A := fun _ u => True ∧ J p u) (d_154 hp ju) (fun v6 s5 h5 => ?_)
      have hi : ∀ w0 : Int, gT (fb_244_87 217 x1 x2 x3 x5 x7 w0 s5) (Sum.elim (fun y => (y.1 = 217 ∧ y.2.1 = x1 ∧ y.2.2.1 = x2 ∧ ¬ y.2.2.2.1 = 0 ∧ (0 ≤ y.2.2.2.2.2.1 ∧ y.2.2.2.2.2.1 ≤ 32) ∧ J p y.2.2.2.2.2.2) ∧ (32 - y.2.2.2.2.2.1).toNat < (32 - x7).toNat) (fun r => r.1 = 1 ∧ True ∧ J p r.2.2.2)) := by
        intro w0
        unfold fb_244_87
        refine gT_loop (fun y => y.1 = 217 ∧ y.2.1 = x1 ∧ y.2.2.1 = x2 ∧ y.2.2.2.1 = x3 ∧ y.2.2.2.2.2.1 = x7 ∧ (0 ≤ y.2.2.2.2.2.2.2.1 ∧ y.2.2.2.2.2.2.2.1 ≤ 5) ∧ J p y.2.2.2.2.2.2.2.2) (fun y => (5 - y.2.2.2.2.2.2.2.1).toNat) (fun y hy => ?_) ⟨rfl, rfl, rfl, rfl, rfl, by dsimp only; omega, h5.2⟩
        obtain ⟨y0, y1, y2, y3, y5, y7, y8, y10, u⟩ := y
        obtain ⟨q0, q1, q2, q3, q4, r10, ju⟩ := hy
        dsimp only at q0 q1 q2 q3 q4 r10 ju
        subst q0 q1 q2 q3 q4
        have g2 := g32_eq (v := y10 + 1) (by omega) (by omega)
        show gT (sb_244_92 217 y1 y2 y3 y5 y7 y8 y10 u) _
        unfold sb_244_92
        refine gT_ite (fun hx => ?_) (fun _ => gT_map (gT_ret ⟨⟨rfl, rfl, rfl, h3, by dsimp only; omega, ju⟩, by dsimp only; omega⟩))
        refine gT_v1 (A := fun _ z => z = u) d153_pure (fun v8 s7 e => ?_)
        subst e
        exact gT_ite (fun _ => gT_ret ⟨⟨rfl, rfl, rfl, rfl, rfl, by dsimp only; omega, ju⟩, by dsimp only; omega⟩) (fun _ => gT_ret ⟨⟨rfl, rfl, rfl, rfl, rfl, by dsimp only; omega, ju⟩, by dsimp only; omega⟩)
      exact gT_ite (fun _ => hi _) (fun _ => hi _)
    refine gT_loop (fun y => y.1 = 217 ∧ y.2.1 = a1 ∧ y.2.2.1 = a2 ∧ Hd y.2.2.2.2.1 y.2.2.2.1 ∧ (0 ≤ y.2.2.2.2.1 ∧ y.2.2.2.2.1 ≤ 5) ∧ J p y.2.2.2.2.2) (fun y => (5 - y.2.2.2.2.1).toNat) (fun y hy => ?_) ⟨rfl, rfl, rfl, Or.inl ⟨rfl, rfl⟩, by dsimp only; omega, j4⟩
    obtain ⟨x0, x1, x2, x3, x5, u⟩ := y
    obtain ⟨q0, q1, q2, hd, r5, ju⟩ := hy
    dsimp only at q0 q1 q2 hd r5 ju
    subst q0 q1 q2
    have g1 := g32_eq (v := x5 + 1) (by omega) (by omega)
    show gT (sb_244_41 217 x1 x2 x3 x5 u) _
    unfold sb_244_41
    rw [g1]
    refine gT_ite (fun hx => ?_) (fun _ => gT_map (hin _ _ (Hd_n hd) ju))
    exact gT_ret ⟨⟨rfl, rfl, rfl, Hd_s hd (by omega), by dsimp only; omega, ju⟩, by dsimp only; omega⟩
  unfold f_244
  refine gT_v1 (A := fun v u => ((v = 1 ∧ 0 ≤ a1 ∧ a1 ≤ 5) ∨ (v = 0 ∧ (a1 < 0 ∨ 5 < a1))) ∧ u = s) e_150 (fun v2 s1 h1 => ?_)
  obtain ⟨r1, rfl⟩ := h1
  refine gT_ite (fun _ => hth _ _ (Or.inl rfl) h) (fun hn => ?_)
  refine gT_v1 (A := fun v u => ((v = 1 ∧ 0 ≤ a2 ∧ a2 ≤ 5) ∨ (v = 0 ∧ (a2 < 0 ∨ 5 < a2))) ∧ u = s1) e_150 (fun v13 s12 h12 => ?_)
  obtain ⟨r13, rfl⟩ := h12
  exact gT_ite (fun _ => hth _ _ (Or.inl rfl) h) (fun hn => hth _ _ (Or.inr ⟨rfl, by omega⟩) h)
theorem d_237 {a1 : Int} (hp : -1 ≤ p.1 ∧ p.1 ≤ 0) (h : J p s) (t0 : T 12 a0) : gT (f_237 a0 a1 s) (fun r => r.1 = 1 ∧ True ∧ J p r.2.2.2) := by
  rw [T_12 t0]
  unfold f_237
  refine gT_v1 (A := fun v u => (v = 1 → 0 ≤ a1 ∧ a1 ≤ 5) ∧ (0 ≤ v ∧ v ≤ 1) ∧ J p u) (d_162 hp h t12) (fun v2 s1 h1 => ?_)
  refine gT_ite (fun _ => ?_) (fun hn => ?_)
  · unfold fb_237_14
    extract_lets s4
    have j4 : J p s4 := J_wf h1.2.2 t12 rfl (by decide) (by decide) (fun q hq => by cases hq)
    have e4 : gI s4 217 0 = 1 := rd_same (show s4 = gw s1 217 0 1 from rfl)
    clear_value s4
    refine gT_loop (fun y => y.1 = 217 ∧ y.2.2.2.2 = s4) (fun _ => 0) (fun y hy => ?_) ⟨rfl, rfl⟩
    obtain ⟨x0, x1, x2, x3, u⟩ := y
    obtain ⟨q0, q1⟩ := hy
    dsimp only at q0 q1
    subst q0 q1
    show gT (sb_237_21 217 x1 x2 x3 u) _
    unfold sb_237_21
    refine gT_ite (fun _ => ?_) (fun _ => gT_map (gT_ret ⟨rfl, trivial, j4⟩))
    exact gT_ite (fun hz => by omega) (fun _ => gT_map (gT_ret ⟨rfl, trivial, j4⟩))
  · have r1 := h1.1 (by omega)
    unfold fb_237_14
    extract_lets s4
    have j4 : J p s4 := J_wf h1.2.2 t12 rfl (by decide) (by decide) (fun q hq => by cases hq)
    clear_value s4
    refine gT_loop (fun y => y.1 = 217 ∧ y.2.1 = a1 ∧ (0 ≤ y.2.2.2.1 ∧ y.2.2.2.1 ≤ 6) ∧ J p y.2.2.2.2) (fun y => (6 - y.2.2.2.1).toNat) (fun y hy => ?_) ⟨rfl, rfl, by dsimp only; omega, j4⟩
    obtain ⟨x0, x1, x2, x3, u⟩ := y
    obtain ⟨q0, q1, r3, ju⟩ := hy
    dsimp only at q0 q1 r3 ju
    subst q0 q1
    have bm := J_m (k := 5) ju ju t12 rfl
    have g1 := g32_eq (v := x3 + 1) (by omega) (by omega)
    show gT (sb_237_21 217 x1 x2 x3 u) _
    unfold sb_237_21
    refine gT_ite (fun hx => ?_) (fun _ => gT_map (gT_ret ⟨rfl, trivial, ju⟩))
    refine gT_ite (fun _ => ?_) (fun _ => gT_map (gT_ret ⟨rfl, trivial, ju⟩))
    refine gT_v1 (A := fun v u => True ∧ J p u) (d_156_2 hp ju t12 r1) (fun v6 s5 h5 => ?_)
    refine gT_v1 (A := fun v u => (0 ≤ v ∧ v ≤ 1) ∧ J p u) (d_212 hp h5.2 t12 (by omega)) (fun v8 s7 h7 => ?_)
    exact gT_ite (fun _ => gT_ret ⟨⟨rfl, rfl, by dsimp only; omega, h7.2⟩, by dsimp only; omega⟩) (fun _ => gT_ret ⟨⟨rfl, rfl, by dsimp only; omega, h7.2⟩, by dsimp only; omega⟩)
theorem d_243 {a1 a2 : Int} (hp : -1 ≤ p.1 ∧ p.1 ≤ 0) (h : J p s) (t0 : T 12 a0) : gT (f_243 a0 a1 a2 s) (fun r => r.1 = 1 ∧ True ∧ J p r.2.2.2) := by
  rw [T_12 t0]
  have hbad : ∀ z : gS, J p z → gT (fb_243_22 217 a1 a2 1 217 z) (fun r => r.1 = 1 ∧ True ∧ J p r.2.2.2) := by
    intro z jz
    unfold fb_243_22
    extract_lets s4
    have j4 : J p s4 := J_wf jz t12 rfl (by decide) (by decide) (fun q hq => by cases hq)
    have e4 : gI s4 217 0 = 1 := rd_same (show s4 = gw z 217 0 1 from rfl)
    clear_value s4
    refine gT_loop (fun y => y.1 = 217 ∧ y.2.2.2.2.2 = s4) (fun _ => 0) (fun y hy => ?_) ⟨rfl, rfl⟩
    obtain ⟨x0, x1, x2, x3, x4, u⟩ := y
    obtain ⟨q0, q1⟩ := hy
    dsimp only at q0 q1
    subst q0 q1
    show gT (sb_243_30 217 x1 x2 x3 x4 u) _
    unfold sb_243_30
    refine gT_ite (fun _ => ?_) (fun _ => gT_map (gT_ret ⟨rfl, trivial, j4⟩))
    exact gT_ite (fun hz => by omega) (fun _ => gT_map (gT_ret ⟨rfl, trivial, j4⟩))
  unfold f_243
  refine gT_v1 (A := fun v u => (v = 1 → 0 ≤ a1 ∧ a1 ≤ 5) ∧ (0 ≤ v ∧ v ≤ 1) ∧ J p u) (d_162 hp h t12) (fun v2 s1 h1 => ?_)
  refine gT_ite (fun _ => hbad _ h1.2.2) (fun hn => ?_)
  have r1 := h1.1 (by omega)
  refine gT_v1 (A := fun v u => (v = 1 → 0 ≤ a2 ∧ a2 ≤ 5) ∧ (0 ≤ v ∧ v ≤ 1) ∧ J p u) (d_163 hp h1.2.2 t12) (fun v15 s14 h14 => ?_)
  refine gT_ite (fun _ => hbad _ h14.2.2) (fun hn2 => ?_)
  have r2 := h14.1 (by omega)
  unfold fb_243_22
  extract_lets s4
  have j4 : J p s4 := J_wf h14.2.2 t12 rfl (by decide) (by decide) (fun q hq => by cases hq)
  clear_value s4
  refine gT_loop (fun y => y.1 = 217 ∧ y.2.1 = a1 ∧ y.2.2.1 = a2 ∧ (0 ≤ y.2.2.2.2.1 ∧ y.2.2.2.2.1 ≤ 4) ∧ J p y.2.2.2.2.2) (fun y => (4 - y.2.2.2.2.1).toNat) (fun y hy => ?_) ⟨rfl, rfl, rfl, by dsimp only; omega, j4⟩
  obtain ⟨x0, x1, x2, x3, x4, u⟩ := y
  obtain ⟨q0, q1, q2, r4, ju⟩ := hy
  dsimp only at q0 q1 q2 r4 ju
  subst q0 q1 q2
  have g1 := g32_eq (v := x4 + 1) (by omega) (by omega)
  show gT (sb_243_30 217 x1 x2 x3 x4 u) _
  unfold sb_243_30
  refine gT_ite (fun hx => ?_) (fun _ => gT_map (gT_ret ⟨rfl, trivial, ju⟩))
  refine gT_ite (fun _ => ?_) (fun _ => gT_map (gT_ret ⟨rfl, trivial, ju⟩))
  refine gT_v1 (A := fun _ u => True ∧ J p u) (d_241 hp ju t12 r1 r2) (fun v6 s5 h5 => ?_)
  refine gT_v1 (A := fun _ u => True ∧ J p u) (d_241 hp h5.2 t12 r1 r2) (fun v8 s7 h7 => ?_)
  refine gT_ite (fun _ => gT_ret ⟨⟨rfl, rfl, rfl, by dsimp only; omega, h7.2⟩, by dsimp only; omega⟩) (fun _ => ?_)
  refine gT_v1 (A := fun _ u => True ∧ J p u) (d_242 hp h7.2 t12 r1 r2) (fun v10 s9 h9 => ?_)
  refine gT_v1 (A := fun _ u => True ∧ J p u) (d_242 hp h9.2 t12 r1 r2) (fun v12 s11 h11 => ?_)
  exact gT_ite (fun _ => gT_ret ⟨⟨rfl, rfl, rfl, by dsimp only; omega, h11.2⟩, by dsimp only; omega⟩) (fun _ => gT_ret ⟨⟨rfl, rfl, rfl, by dsimp only; omega, h11.2⟩, by dsimp only; omega⟩)
end Rs

end
section
-- X9_mostKept
theorem d_69 {p : gP} {a0 : Nat} {a1 : Int} {a2 : Int} {s : gS} (hp : -1 ≤ p.1 ∧ p.1 ≤ 0) (h : J p s) (t0 : T 9 a0) (r1 : 0 ≤ a1 ∧ a1 ≤ 9) (r2 : 0 ≤ a2 ∧ a2 ≤ 99) : gT (f_69 a0 a1 a2 s) (fun r => r.1 = 1 ∧ True ∧ J p r.2.2.2) := by
  unfold f_69
  refine gT_v1 (A := fun w9 u9 => True ∧ J p u9) (d_70 hp h t0 (show (0 : Int) ≤ 0 ∧ 0 ≤ 30 by constructor <;> omega) (show (0 : Int) ≤ a1 ∧ a1 ≤ 9 by constructor <;> omega) (show (0 : Int) ≤ a2 ∧ a2 ≤ 99 by constructor <;> omega)) (fun v2 s1 h1 => ?_)
  obtain ⟨h1r, hJ2⟩ := h1
  exact gT_ret ⟨rfl, trivial, hJ2⟩
-- X9_usedAheadOf
theorem d_74 {p : gP} {a0 : Nat} {a1 : Int} {a2 : Int} {a3 : Int} {s : gS} (hp : -1 ≤ p.1 ∧ p.1 ≤ 0) (h : J p s) (t0 : T 9 a0) (r1 : 0 ≤ a1 ∧ a1 ≤ 29) (r2 : 0 ≤ a2 ∧ a2 ≤ 9) (r3 : 0 ≤ a3 ∧ a3 ≤ 99) : gT (f_74 a0 a1 a2 a3 s) (fun r => r.1 = 1 ∧ True ∧ J p r.2.2.2) := by
  unfold f_74
  refine gT_loop (fun y => T 9 y.1 ∧ (0 ≤ y.2.1 ∧ y.2.1 ≤ 29) ∧ (0 ≤ y.2.2.1 ∧ y.2.2.1 ≤ 9) ∧ (0 ≤ y.2.2.2.1 ∧ y.2.2.2.1 ≤ 99) ∧ (0 ≤ y.2.2.2.2.1 ∧ y.2.2.2.2.1 ≤ 30) ∧ y.2.1 = a1 ∧ J p y.2.2.2.2.2) (fun y => (30 - y.2.2.2.2.1).toNat) (fun y hy => ?_) ?_
  · obtain ⟨x0, x1, x4, x5, x6, s⟩ := y
    obtain ⟨t1, r2, r3, r4, r5, e6, hJ7⟩ := hy
    dsimp only at t1 r2 r3 r4 r5 e6 hJ7
    show gT (sb_74_9 x0 x1 x4 x5 x6 s) _
    unfold sb_74_9
    refine gT_ite (fun h8 => ?_) (fun h9 => ?_)
    · refine gT_map ?_
      exact gT_ret ⟨rfl, trivial, hJ7⟩
    · refine gT_loop (fun y => T 9 y.1 ∧ (0 ≤ y.2.1 ∧ y.2.1 ≤ 29) ∧ (0 ≤ y.2.2.1 ∧ y.2.2.1 ≤ 9) ∧ (0 ≤ y.2.2.2.1 ∧ y.2.2.2.1 ≤ 99) ∧ (0 ≤ y.2.2.2.2.1 ∧ y.2.2.2.2.1 ≤ 29) ∧ y.2.1 = x1 ∧ y.2.2.2.2.1 = x6 ∧ J p y.2.2.2.2.2.2) (fun y => (y.2.2.1 - (0)).toNat) (fun y hy => ?_) ?_
      · obtain ⟨x0, x1, x4, x5, x6, x7, s⟩ := y
        obtain ⟨t10, r11, r12, r13, r14, e15, e16, hJ17⟩ := hy
        dsimp only at t10 r11 r12 r13 r14 e15 e16 hJ17
        show gT (sb_74_18 x0 x1 x4 x5 x6 x7 s) _
        unfold sb_74_18
        refine gT_ite (fun h18 => ?_) (fun h19 => ?_)
        · refine gT_v1 (A := fun w9 u9 => True ∧ J p u9) (d_71 hp hJ17 t10 (show (0 : Int) ≤ x6 ∧ x6 ≤ 29 by constructor <;> omega) (show (0 : Int) ≤ x4 ∧ x4 ≤ 9 by constructor <;> omega) (show (0 : Int) ≤ x5 ∧ x5 ≤ 99 by constructor <;> omega)) (fun v2 s1 h20 => ?_)
          obtain ⟨h20r, hJ21⟩ := h20
          refine gT_v1 (A := fun w9 u9 => True ∧ J p u9) (d_70 hp hJ21 t10 (show (0 : Int) ≤ x6 ∧ x6 ≤ 30 by constructor <;> omega) (show (0 : Int) ≤ x4 ∧ x4 ≤ 9 by constructor <;> omega) (show (0 : Int) ≤ x5 ∧ x5 ≤ 99 by constructor <;> omega)) (fun v4 s3 h22 => ?_)
          obtain ⟨h22r, hJ23⟩ := h22
          refine gT_ite (fun h24 => ?_) (fun h25 => ?_)
          · refine gT_v1 (A := fun w9 u9 => (0 ≤ w9 ∧ w9 ≤ 99) ∧ J p u9) (d_72r hp hJ23 t10 (show (0 : Int) ≤ x5 ∧ x5 ≤ 99 by constructor <;> omega)) (fun v6 s5 h26 => ?_)
            obtain ⟨h26r, hJ27⟩ := h26
            exact gT_ret ⟨⟨t10, (show (0 : Int) ≤ x1 ∧ x1 ≤ 29 by constructor <;> omega), (show (0 : Int) ≤ (g32 (x4 + (-1))) ∧ (g32 (x4 + (-1))) ≤ 9 by have := g32_eq (v := (x4 + (-1))) (by omega) (by omega); constructor <;> omega), (show (0 : Int) ≤ v6 ∧ v6 ≤ 99 by constructor <;> omega), (show (0 : Int) ≤ x6 ∧ x6 ≤ 29 by constructor <;> omega), (by first | assumption | omega | (dsimp only; omega)), (by first | assumption | omega | (dsimp only; omega)), hJ27⟩, by dsimp only; have := g32_eq (v := (x4 + (-1))) (by omega) (by omega); omega⟩
          · refine gT_map ?_
            unfold fb_74_63
            refine gT_ite (fun h28 => ?_) (fun h29 => ?_)
            · refine gT_map ?_
              exact gT_ret ⟨rfl, trivial, hJ23⟩
            · refine gT_v1 (A := fun w9 u9 => (0 ≤ w9 ∧ w9 ≤ 99) ∧ J p u9) (d_73 hp hJ23 t10 (show (0 : Int) ≤ x6 ∧ x6 ≤ 29 by constructor <;> omega) (show (0 : Int) ≤ x4 ∧ x4 ≤ 9 by constructor <;> omega) (show (0 : Int) ≤ x5 ∧ x5 ≤ 99 by constructor <;> omega)) (fun v8 s7 h30 => ?_)
              obtain ⟨h30r, hJ31⟩ := h30
              refine gT_ite (fun h32 => ?_) (fun h33 => ?_)
              · refine gT_map ?_
                exact gT_ret ⟨rfl, trivial, hJ31⟩
              · exact gT_ret ⟨⟨t10, (show (0 : Int) ≤ x1 ∧ x1 ≤ 29 by constructor <;> omega), (show (0 : Int) ≤ x4 ∧ x4 ≤ 9 by constructor <;> omega), (show (0 : Int) ≤ v8 ∧ v8 ≤ 99 by constructor <;> omega), (show (0 : Int) ≤ (g32 (x6 + 1)) ∧ (g32 (x6 + 1)) ≤ 30 by have := g32_eq (v := (x6 + 1)) (by omega) (by omega); constructor <;> omega), (by first | assumption | omega | (dsimp only; omega)), hJ31⟩, by dsimp only; have := g32_eq (v := (x6 + 1)) (by omega) (by omega); omega⟩
        · refine gT_map ?_
          unfold fb_74_63
          refine gT_ite (fun h34 => ?_) (fun h35 => ?_)
          · refine gT_map ?_
            exact gT_ret ⟨rfl, trivial, hJ17⟩
          · refine gT_v1 (A := fun w9 u9 => (0 ≤ w9 ∧ w9 ≤ 99) ∧ J p u9) (d_73 hp hJ17 t10 (show (0 : Int) ≤ x6 ∧ x6 ≤ 29 by constructor <;> omega) (show (0 : Int) ≤ x4 ∧ x4 ≤ 9 by constructor <;> omega) (show (0 : Int) ≤ x5 ∧ x5 ≤ 99 by constructor <;> omega)) (fun v8 s7 h36 => ?_)
            obtain ⟨h36r, hJ37⟩ := h36
            refine gT_ite (fun h38 => ?_) (fun h39 => ?_)
            · refine gT_map ?_
              exact gT_ret ⟨rfl, trivial, hJ37⟩
            · exact gT_ret ⟨⟨t10, (show (0 : Int) ≤ x1 ∧ x1 ≤ 29 by constructor <;> omega), (show (0 : Int) ≤ x4 ∧ x4 ≤ 9 by constructor <;> omega), (show (0 : Int) ≤ v8 ∧ v8 ≤ 99 by constructor <;> omega), (show (0 : Int) ≤ (g32 (x6 + 1)) ∧ (g32 (x6 + 1)) ≤ 30 by have := g32_eq (v := (x6 + 1)) (by omega) (by omega); constructor <;> omega), (by first | assumption | omega | (dsimp only; omega)), hJ37⟩, by dsimp only; have := g32_eq (v := (x6 + 1)) (by omega) (by omega); omega⟩
      · exact ⟨t1, (show (0 : Int) ≤ x1 ∧ x1 ≤ 29 by constructor <;> omega), (show (0 : Int) ≤ x4 ∧ x4 ≤ 9 by constructor <;> omega), (show (0 : Int) ≤ x5 ∧ x5 ≤ 99 by constructor <;> omega), (show (0 : Int) ≤ x6 ∧ x6 ≤ 29 by constructor <;> omega), rfl, rfl, hJ7⟩
  · exact ⟨t0, (show (0 : Int) ≤ a1 ∧ a1 ≤ 29 by constructor <;> omega), (show (0 : Int) ≤ a2 ∧ a2 ≤ 9 by constructor <;> omega), (show (0 : Int) ≤ a3 ∧ a3 ≤ 99 by constructor <;> omega), (show (0 : Int) ≤ 0 ∧ 0 ≤ 30 by constructor <;> omega), rfl, h⟩
-- X11_longest
theorem d_108 {p : gP} {a0 : Nat} {a1 : Int} {a2 : Int} {s : gS} (hp : -1 ≤ p.1 ∧ p.1 ≤ 0) (h : J p s) (t0 : T 11 a0) : gT (f_108 a0 a1 a2 s) (fun r => (r.1 = 1 ∧ True ∧ J p r.2.2.2) ∨ (2 ≤ r.1 ∧ r.1 ≤ 6 ∧ (r.1 = 2 ∨ r.1 = 5) ∧ J p r.2.2.2)) := by
  unfold f_108
  refine gT_t0 (A := fun u9 => (0 ≤ a1 ∧ a1 ≤ 5) ∧ J p u9) (B := fun t9 u9 => (t9 = 5) ∧ J p u9) (d_135 hp h t0) (fun s1 h1 => ?_) (fun t s h1 h2 h3 => Or.inr ⟨h1, h2, by have := h3.1; dsimp only; omega, h3.2⟩)
  obtain ⟨h1e, hJ2⟩ := h1
  refine gT_t0 (A := fun u9 => ((-1) ≤ a2 ∧ a2 ≤ 29) ∧ J p u9) (B := fun t9 u9 => (t9 = 2) ∧ J p u9) (d_138 hp hJ2 t0) (fun s3 h3 => ?_) (fun t s h1 h2 h3 => Or.inr ⟨h1, h2, by have := h3.1; dsimp only; omega, h3.2⟩)
  obtain ⟨h3e, hJ4⟩ := h3
  extract_lets -merge v5
  refine gT_chk (by omega) (by omega) ?_
  have hT5 : T 7 v5 := (T_man (i := (a1 : Int).toNat) hJ4 (T_f (i := 0) hJ4 (T_f (i := 5) hJ4 t0 (by decide) rfl rfl) (by decide) rfl rfl) (by omega))
  refine gT_ite (fun h6 => ?_) (fun h7 => ?_)
  · refine gT_v0 (A := fun u9 => J p u9) (d_23 hp hJ4 (T_f (i := 9) hJ4 t0 (by decide) rfl rfl) (T_f (i := 5) hJ4 t0 (by decide) rfl rfl)) (fun s6 h8 => ?_)
    have hJ9 := h8
    refine gT_v0 (A := fun u9 => J p u9) (d_68 hp hJ9 (T_f (i := 6) hJ9 t0 (by decide) rfl rfl) (T_f (i := 9) hJ9 t0 (by decide) rfl rfl) (show (0 : Int) ≤ a1 ∧ a1 ≤ 5 by constructor <;> omega) (show (0 : Int) ≤ 30 ∧ 30 ≤ 30 by constructor <;> omega)) (fun s8 h10 => ?_)
    have hJ11 := h10
    refine gT_ite (fun h12 => ?_) (fun h13 => ?_)
    · refine gT_v1 (A := fun w9 u9 => True ∧ J p u9) (d_69 hp hJ11 (T_f (i := 6) hJ11 t0 (by decide) rfl rfl) (show (0 : Int) ≤ (gI s8 v5 1) ∧ (gI s8 v5 1) ≤ 9 by have := J_f (i := 1) hJ11 hT5 rfl (by decide) rfl; constructor <;> omega) (show (0 : Int) ≤ (gI s8 v5 0) ∧ (gI s8 v5 0) ≤ 99 by have := J_f (i := 0) hJ11 hT5 rfl (by decide) rfl; constructor <;> omega)) (fun v11 s10 h14 => ?_)
      obtain ⟨h14r, hJ15⟩ := h14
      exact gT_ret (Or.inl ⟨rfl, trivial, hJ15⟩)
    · refine gT_v1 (A := fun w9 u9 => True ∧ J p u9) (d_74 hp hJ11 (T_f (i := 6) hJ11 t0 (by decide) rfl rfl) (show (0 : Int) ≤ a2 ∧ a2 ≤ 29 by constructor <;> omega) (show (0 : Int) ≤ (gI s8 v5 1) ∧ (gI s8 v5 1) ≤ 9 by have := J_f (i := 1) hJ11 hT5 rfl (by decide) rfl; constructor <;> omega) (show (0 : Int) ≤ (gI s8 v5 0) ∧ (gI s8 v5 0) ≤ 99 by have := J_f (i := 0) hJ11 hT5 rfl (by decide) rfl; constructor <;> omega)) (fun v13 s12 h16 => ?_)
      obtain ⟨h16r, hJ17⟩ := h16
      exact gT_ret (Or.inl ⟨rfl, trivial, hJ17⟩)
  · exact gT_ret (Or.inl ⟨rfl, trivial, hJ4⟩)
-- X11_needs
theorem d_109 {p : gP} {a0 : Nat} {a1 : Int} {a2 : Int} {s : gS} (hp : -1 ≤ p.1 ∧ p.1 ≤ 0) (h : J p s) (t0 : T 11 a0) : gT (f_109 a0 a1 a2 s) (fun r => (r.1 = 1 ∧ True ∧ J p r.2.2.2) ∨ (2 ≤ r.1 ∧ r.1 ≤ 6 ∧ (r.1 = 2 ∨ r.1 = 5) ∧ J p r.2.2.2)) := by
  unfold f_109
  refine gT_t0 (A := fun u9 => (0 ≤ a1 ∧ a1 ≤ 5) ∧ J p u9) (B := fun t9 u9 => (t9 = 5) ∧ J p u9) (d_135 hp h t0) (fun s1 h1 => ?_) (fun t s h1 h2 h3 => Or.inr ⟨h1, h2, by have := h3.1; dsimp only; omega, h3.2⟩)
  obtain ⟨h1e, hJ2⟩ := h1
  refine gT_t0 (A := fun u9 => (1 ≤ a2 ∧ a2 ≤ 30) ∧ J p u9) (B := fun t9 u9 => (t9 = 2) ∧ J p u9) (d_138 hp hJ2 t0) (fun s3 h3 => ?_) (fun t s h1 h2 h3 => Or.inr ⟨h1, h2, by have := h3.1; dsimp only; omega, h3.2⟩)
  obtain ⟨h3e, hJ4⟩ := h3
  extract_lets -merge v5
  refine gT_chk (by omega) (by omega) ?_
  have hT5 : T 7 v5 := (T_man (i := (a1 : Int).toNat) hJ4 (T_f (i := 0) hJ4 (T_f (i := 5) hJ4 t0 (by decide) rfl rfl) (by decide) rfl rfl) (by omega))
  refine gT_ite (fun h6 => ?_) (fun h7 => ?_)
  · refine gT_loop (fun y => T 11 y.1 ∧ T 7 y.2.2.2.1 ∧ (0 ≤ y.2.1 ∧ y.2.1 ≤ 5) ∧ (1 ≤ y.2.2.1 ∧ y.2.2.1 ≤ 30) ∧ (0 ≤ y.2.2.2.2.1 ∧ y.2.2.2.2.1 ≤ 10) ∧ y.2.1 = a1 ∧ y.2.2.1 = a2 ∧ J p y.2.2.2.2.2) (fun y => (10 - y.2.2.2.2.1).toNat) (fun y hy => ?_) ?_
    · obtain ⟨x0, x1, x2, x3, x4, s⟩ := y
      obtain ⟨t8, t9, r10, r11, r12, e13, e14, hJ15⟩ := hy
      dsimp only at t8 t9 r10 r11 r12 e13 e14 hJ15
      show gT (sb_109_35 x0 x1 x2 x3 x4 s) _
      unfold sb_109_35
      refine gT_ite (fun h16 => ?_) (fun h17 => ?_)
      · refine gT_v0 (A := fun u9 => J p u9) (d_23 hp hJ15 (T_f (i := 9) hJ15 t8 (by decide) rfl rfl) (T_f (i := 5) hJ15 t8 (by decide) rfl rfl)) (fun s6 h18 => ?_)
        have hJ19 := h18
        extract_lets -merge s8
        refine gT_chk (by omega) (by omega) ?_
        have hJ20 : J p s8 := (J_wf hJ19 (T_man (i := (x1 : Int).toNat) hJ19 (T_f (i := 0) hJ19 (T_f (i := 9) hJ19 t8 (by decide) rfl rfl) (by decide) rfl rfl) (by omega)) rfl (by decide) (by decide) (fun q hq => by cases hq; dsimp only; constructor <;> omega))
        refine gT_v0 (A := fun u9 => J p u9) (d_68 hp hJ20 (T_f (i := 6) hJ20 t8 (by decide) rfl rfl) (T_f (i := 9) hJ20 t8 (by decide) rfl rfl) (show (0 : Int) ≤ x1 ∧ x1 ≤ 5 by constructor <;> omega) (show (0 : Int) ≤ x2 ∧ x2 ≤ 30 by constructor <;> omega)) (fun s9 h21 => ?_)
        have hJ22 := h21
        refine gT_v1 (A := fun w9 u9 => True ∧ J p u9) (d_69 hp hJ22 (T_f (i := 6) hJ22 t8 (by decide) rfl rfl) (show (0 : Int) ≤ x4 ∧ x4 ≤ 9 by constructor <;> omega) (show (0 : Int) ≤ (gI s9 x3 0) ∧ (gI s9 x3 0) ≤ 99 by have := J_f (i := 0) hJ22 t9 rfl (by decide) rfl; constructor <;> omega)) (fun v12 s11 h23 => ?_)
        obtain ⟨h23r, hJ24⟩ := h23
        refine gT_ite (fun h25 => ?_) (fun h26 => ?_)
        · exact gT_ret ⟨⟨t8, t9, (show (0 : Int) ≤ x1 ∧ x1 ≤ 5 by constructor <;> omega), (show (1 : Int) ≤ x2 ∧ x2 ≤ 30 by constructor <;> omega), (show (0 : Int) ≤ (g32 (x4 + 1)) ∧ (g32 (x4 + 1)) ≤ 10 by have := g32_eq (v := (x4 + 1)) (by omega) (by omega); constructor <;> omega), (by first | assumption | omega | (dsimp only; omega)), (by first | assumption | omega | (dsimp only; omega)), hJ24⟩, by dsimp only; have := g32_eq (v := (x4 + 1)) (by omega) (by omega); omega⟩
        · refine gT_map ?_
          exact gT_ret (Or.inl ⟨rfl, trivial, hJ24⟩)
      · refine gT_map ?_
        exact gT_ret (Or.inl ⟨rfl, trivial, hJ15⟩)
    · exact ⟨t0, hT5, (show (0 : Int) ≤ a1 ∧ a1 ≤ 5 by constructor <;> omega), (show (1 : Int) ≤ a2 ∧ a2 ≤ 30 by constructor <;> omega), (show (0 : Int) ≤ 0 ∧ 0 ≤ 10 by constructor <;> omega), rfl, rfl, hJ4⟩
  · exact gT_ret (Or.inl ⟨rfl, trivial, hJ4⟩)
-- X11_seen
theorem d_114 {p : gP} {a0 : Nat} {a1 : Int} {s : gS} (hp : -1 ≤ p.1 ∧ p.1 ≤ 0) (h : J p s) (t0 : T 11 a0) (r1 : 0 ≤ a1 ∧ a1 ≤ 1) : gT (f_114 a0 a1 s) (fun r => (r.1 = 1 ∧ True ∧ J (p.1, 0, p.2.2.1, p.2.2.2.1, p.2.2.2.2) r.2.2.2) ∨ (2 ≤ r.1 ∧ r.1 ≤ 6 ∧ (r.1 = 2) ∧ J (p.1, 0, p.2.2.1, p.2.2.2.1, p.2.2.2.2) r.2.2.2)) := by
  unfold f_114
  refine gT_t1 (A := fun w9 u9 => True ∧ J (p.1, 0, p.2.2.1, p.2.2.2.1, p.2.2.2.2) u9) (B := fun t9 u9 => (t9 = 2) ∧ J (p.1, 0, p.2.2.1, p.2.2.2.1, p.2.2.2.2) u9) (d_142 hp h t0) (fun v2 s1 h1 => ?_) (fun t s h1 h2 h3 => Or.inr ⟨h1, h2, by have := h3.1; dsimp only; omega, h3.2⟩)
  obtain ⟨h1r, hJ2⟩ := h1
  refine gT_ite (fun h3 => ?_) (fun h4 => ?_)
  · refine gT_v1 (A := fun w9 u9 => True ∧ J (p.1, 0, p.2.2.1, p.2.2.2.1, p.2.2.2.2) u9) (d_265 hp hJ2) (fun v4 s3 h5 => ?_)
    obtain ⟨h5r, hJ6⟩ := h5
    exact gT_ret (Or.inl ⟨rfl, trivial, hJ6⟩)
  · refine gT_ite (fun h7 => ?_) (fun h8 => ?_)
    · exact gT_ret (Or.inl ⟨rfl, trivial, hJ2⟩)
    · refine gT_loop (fun y => (1 ≤ y.2.2.1 ∧ y.2.2.1 ≤ 64) ∧ y.1 = v2 ∧ J (p.1, 0, p.2.2.1, p.2.2.2.1, p.2.2.2.2) y.2.2.2) (fun y => (64 - y.2.2.1).toNat) (fun y hy => ?_) ?_
      · obtain ⟨x2, x4, x5, s⟩ := y
        obtain ⟨r9, e10, hJ11⟩ := hy
        dsimp only at r9 e10 hJ11
        show gT (sb_114_29 x2 x4 x5 s) _
        unfold sb_114_29
        refine gT_ite (fun h12 => ?_) (fun h13 => ?_)
        · refine gT_ite (fun h14 => ?_) (fun h15 => ?_)
          · exact gT_ret ⟨⟨(show (1 : Int) ≤ (g32 (x5 + 1)) ∧ (g32 (x5 + 1)) ≤ 64 by have := g32_eq (v := (x5 + 1)) (by omega) (by omega); constructor <;> omega), (by first | assumption | omega | (dsimp only; omega)), hJ11⟩, by dsimp only; have := g32_eq (v := (x5 + 1)) (by omega) (by omega); omega⟩
          · exact gT_ret ⟨⟨(show (1 : Int) ≤ (g32 (x5 + 1)) ∧ (g32 (x5 + 1)) ≤ 64 by have := g32_eq (v := (x5 + 1)) (by omega) (by omega); constructor <;> omega), (by first | assumption | omega | (dsimp only; omega)), hJ11⟩, by dsimp only; have := g32_eq (v := (x5 + 1)) (by omega) (by omega); omega⟩
        · refine gT_map ?_
          exact gT_ret (Or.inl ⟨rfl, trivial, hJ11⟩)
      · exact ⟨(show (1 : Int) ≤ 1 ∧ 1 ≤ 64 by constructor <;> omega), rfl, hJ2⟩
-- X11_ask
theorem d_115 {p : gP} {a0 : Nat} {s : gS} (hp : -1 ≤ p.1 ∧ p.1 ≤ 0) (h : J p s) (t0 : T 11 a0) : gT (f_115 a0 s) (fun r => (r.1 = 1 ∧ True ∧ J (p.1, 0, p.2.2.1, p.2.2.2.1, p.2.2.2.2) r.2.2.2) ∨ (2 ≤ r.1 ∧ r.1 ≤ 6 ∧ (r.1 = 2) ∧ J (p.1, 0, p.2.2.1, p.2.2.2.1, p.2.2.2.2) r.2.2.2)) := by
  unfold f_115
  refine gT_t1 (A := fun w9 u9 => True ∧ J (p.1, 0, p.2.2.1, p.2.2.2.1, p.2.2.2.2) u9) (B := fun t9 u9 => (t9 = 2) ∧ J (p.1, 0, p.2.2.1, p.2.2.2.1, p.2.2.2.2) u9) (d_142 hp h t0) (fun v2 s1 h1 => ?_) (fun t s h1 h2 h3 => Or.inr ⟨h1, h2, by have := h3.1; dsimp only; omega, h3.2⟩)
  obtain ⟨h1r, hJ2⟩ := h1
  refine gT_v1 (A := fun w9 u9 => True ∧ J (p.1, 0, p.2.2.1, p.2.2.2.1, p.2.2.2.2) u9) (d_265 hp hJ2) (fun v4 s3 h3 => ?_)
  obtain ⟨h3r, hJ4⟩ := h3
  refine gT_loop (fun y => T 11 y.1 ∧ (0 ≤ y.2.2.2.2.2.1 ∧ y.2.2.2.2.2.1 ≤ 6) ∧ y.2.1 = v2 ∧ y.2.2.1 = v4 ∧ J (p.1, 0, p.2.2.1, p.2.2.2.1, p.2.2.2.2) y.2.2.2.2.2.2) (fun y => (6 - y.2.2.2.2.2.1).toNat) (fun y hy => ?_) ?_
  · obtain ⟨x0, x1, x3, x4, x5, x6, s⟩ := y
    obtain ⟨t5, r6, e7, e8, hJ9⟩ := hy
    dsimp only at t5 r6 e7 e8 hJ9
    show gT (sb_115_19 x0 x1 x3 x4 x5 x6 s) _
    unfold sb_115_19
    refine gT_ite (fun h10 => ?_) (fun h11 => ?_)
    · have := J_f (i := 6) hJ9 (T_f (i := 4) hJ9 t5 (by decide) rfl rfl) rfl (by decide) rfl
      refine gT_ite (fun h12 => ?_) (fun h13 => ?_)
      · refine gT_map ?_
        exact gT_ret (Or.inl ⟨rfl, trivial, hJ9⟩)
      · refine gT_v1 (A := fun w9 u9 => True ∧ J (p.1, 0, p.2.2.1, p.2.2.2.1, p.2.2.2.2) u9) (d_145 hp hJ9 t5 (show (0 : Int) ≤ x6 ∧ x6 ≤ 5 by constructor <;> omega)) (fun v6 s5 h14 => ?_)
        obtain ⟨h14r, hJ15⟩ := h14
        extract_lets -merge v7
        have hv16 : v7 = (max v6 (g32 (x3 - v6))) := rfl
        refine gT_ite (fun h17 => ?_) (fun h18 => ?_)
        · unfold fb_115_69
          exact gT_ret ⟨⟨t5, (show (0 : Int) ≤ (g32 (x6 + 1)) ∧ (g32 (x6 + 1)) ≤ 6 by have := g32_eq (v := (x6 + 1)) (by omega) (by omega); constructor <;> omega), (by first | assumption | omega | (dsimp only; omega)), (by first | assumption | omega | (dsimp only; omega)), hJ15⟩, by dsimp only; have := g32_eq (v := (x6 + 1)) (by omega) (by omega); omega⟩
        · refine gT_ite (fun h19 => ?_) (fun h20 => ?_)
          · unfold fb_115_69
            exact gT_ret ⟨⟨t5, (show (0 : Int) ≤ (g32 (x6 + 1)) ∧ (g32 (x6 + 1)) ≤ 6 by have := g32_eq (v := (x6 + 1)) (by omega) (by omega); constructor <;> omega), (by first | assumption | omega | (dsimp only; omega)), (by first | assumption | omega | (dsimp only; omega)), hJ15⟩, by dsimp only; have := g32_eq (v := (x6 + 1)) (by omega) (by omega); omega⟩
          · exact gT_ret ⟨⟨t5, (show (0 : Int) ≤ (g32 (x6 + 1)) ∧ (g32 (x6 + 1)) ≤ 6 by have := g32_eq (v := (x6 + 1)) (by omega) (by omega); constructor <;> omega), (by first | assumption | omega | (dsimp only; omega)), (by first | assumption | omega | (dsimp only; omega)), hJ15⟩, by dsimp only; have := g32_eq (v := (x6 + 1)) (by omega) (by omega); omega⟩
    · have := J_f (i := 6) hJ9 (T_f (i := 4) hJ9 t5 (by decide) rfl rfl) rfl (by decide) rfl
      refine gT_map ?_
      exact gT_ret (Or.inl ⟨rfl, trivial, hJ9⟩)
  · exact ⟨t0, (show (0 : Int) ≤ 0 ∧ 0 ≤ 6 by constructor <;> omega), rfl, rfl, hJ4⟩
-- L_proof
theorem d_282 {p : gP} {a0 : Nat} {a1 : Int} {a2 : Nat} {s : gS} (hp : -1 ≤ p.1 ∧ p.1 ≤ 0) (h : J p s) (t0 : T 11 a0) (t2 : T 109 a2) : gT (f_282 a0 a1 a2 s) (fun r => r.1 = 1 ∧ True ∧ J p r.2.2.2) := by
  unfold f_282
  refine gT_c1 (A := fun w9 u9 => True ∧ J p u9) (B := fun t9 u9 => (t9 = 5 ∨ t9 = 6) ∧ J p u9) (d_96 hp h t0) (fun v2 s1 h1 => ?_) (fun k s1 hk hB => ?_)
  · obtain ⟨h1r, hJ2⟩ := h1
    extract_lets -merge s3
    refine gT_chk (by omega) (by omega) ?_
    have hJ3 : J p s3 := (J_wa hJ2 t2 rfl)
    exact gT_ret ⟨rfl, trivial, hJ3⟩
  · obtain ⟨ht, hJt⟩ := hB
    refine gT_ite (fun h4 => ?_) (fun h5 => ?_)
    · exact gT_ret ⟨rfl, trivial, hJt⟩
    · refine gT_ite (fun h6 => ?_) (fun h7 => ?_)
      · exact gT_ret ⟨rfl, trivial, hJt⟩
      · exfalso; omega
-- L_longest
theorem d_294 {p : gP} {a0 : Nat} {a1 : Int} {a2 : Int} {a3 : Nat} {s : gS} (hp : -1 ≤ p.1 ∧ p.1 ≤ 0) (h : J p s) (t0 : T 11 a0) (t3 : T 109 a3) : gT (f_294 a0 a1 a2 a3 s) (fun r => r.1 = 1 ∧ True ∧ J p r.2.2.2) := by
  unfold f_294
  refine gT_c1 (A := fun w9 u9 => True ∧ J p u9) (B := fun t9 u9 => (t9 = 2 ∨ t9 = 5) ∧ J p u9) (d_108 hp h t0) (fun v2 s1 h1 => ?_) (fun k s1 hk hB => ?_)
  · obtain ⟨h1r, hJ2⟩ := h1
    extract_lets -merge s3
    refine gT_chk (by omega) (by omega) ?_
    have hJ3 : J p s3 := (J_wa hJ2 t3 rfl)
    exact gT_ret ⟨rfl, trivial, hJ3⟩
  · obtain ⟨ht, hJt⟩ := hB
    refine gT_ite (fun h4 => ?_) (fun h5 => ?_)
    · exact gT_ret ⟨rfl, trivial, hJt⟩
    · refine gT_ite (fun h6 => ?_) (fun h7 => ?_)
      · exact gT_ret ⟨rfl, trivial, hJt⟩
      · exfalso; omega
-- L_needs
theorem d_295 {p : gP} {a0 : Nat} {a1 : Int} {a2 : Int} {a3 : Nat} {s : gS} (hp : -1 ≤ p.1 ∧ p.1 ≤ 0) (h : J p s) (t0 : T 11 a0) (t3 : T 109 a3) : gT (f_295 a0 a1 a2 a3 s) (fun r => r.1 = 1 ∧ True ∧ J p r.2.2.2) := by
  unfold f_295
  refine gT_c1 (A := fun w9 u9 => True ∧ J p u9) (B := fun t9 u9 => (t9 = 2 ∨ t9 = 5) ∧ J p u9) (d_109 hp h t0) (fun v2 s1 h1 => ?_) (fun k s1 hk hB => ?_)
  · obtain ⟨h1r, hJ2⟩ := h1
    extract_lets -merge s3
    refine gT_chk (by omega) (by omega) ?_
    have hJ3 : J p s3 := (J_wa hJ2 t3 rfl)
    exact gT_ret ⟨rfl, trivial, hJ3⟩
  · obtain ⟨ht, hJt⟩ := hB
    refine gT_ite (fun h4 => ?_) (fun h5 => ?_)
    · exact gT_ret ⟨rfl, trivial, hJt⟩
    · refine gT_ite (fun h6 => ?_) (fun h7 => ?_)
      · exact gT_ret ⟨rfl, trivial, hJt⟩
      · exfalso; omega
-- L_seen
theorem d_300 {p : gP} {a0 : Nat} {a1 : Int} {a2 : Nat} {s : gS} (hp : -1 ≤ p.1 ∧ p.1 ≤ 0) (h : J p s) (t0 : T 11 a0) (t2 : T 109 a2) (r1 : 0 ≤ a1 ∧ a1 ≤ 1) : gT (f_300 a0 a1 a2 s) (fun r => r.1 = 1 ∧ True ∧ J (p.1, 0, p.2.2.1, p.2.2.2.1, p.2.2.2.2) r.2.2.2) := by
  unfold f_300
  refine gT_c1 (A := fun w9 u9 => True ∧ J (p.1, 0, p.2.2.1, p.2.2.2.1, p.2.2.2.2) u9) (B := fun t9 u9 => (t9 = 2) ∧ J (p.1, 0, p.2.2.1, p.2.2.2.1, p.2.2.2.2) u9) (d_114 hp h t0 (show (0 : Int) ≤ a1 ∧ a1 ≤ 1 by constructor <;> omega)) (fun v2 s1 h1 => ?_) (fun k s1 hk hB => ?_)
  · obtain ⟨h1r, hJ2⟩ := h1
    extract_lets -merge s3
    refine gT_chk (by omega) (by omega) ?_
    have hJ3 : J (p.1, 0, p.2.2.1, p.2.2.2.1, p.2.2.2.2) s3 := (J_wa hJ2 t2 rfl)
    exact gT_ret ⟨rfl, trivial, hJ3⟩
  · obtain ⟨ht, hJt⟩ := hB
    refine gT_ite (fun h4 => ?_) (fun h5 => ?_)
    · exact gT_ret ⟨rfl, trivial, hJt⟩
    · exfalso; omega
-- L_ask
theorem d_301 {p : gP} {a0 : Nat} {a1 : Nat} {s : gS} (hp : -1 ≤ p.1 ∧ p.1 ≤ 0) (h : J p s) (t0 : T 11 a0) (t1 : T 109 a1) : gT (f_301 a0 a1 s) (fun r => r.1 = 1 ∧ True ∧ J (p.1, 0, p.2.2.1, p.2.2.2.1, p.2.2.2.2) r.2.2.2) := by
  unfold f_301
  refine gT_c1 (A := fun w9 u9 => True ∧ J (p.1, 0, p.2.2.1, p.2.2.2.1, p.2.2.2.2) u9) (B := fun t9 u9 => (t9 = 2) ∧ J (p.1, 0, p.2.2.1, p.2.2.2.1, p.2.2.2.2) u9) (d_115 hp h t0) (fun v2 s1 h1 => ?_) (fun k s1 hk hB => ?_)
  · obtain ⟨h1r, hJ2⟩ := h1
    extract_lets -merge s3
    refine gT_chk (by omega) (by omega) ?_
    have hJ3 : J (p.1, 0, p.2.2.1, p.2.2.2.1, p.2.2.2.2) s3 := (J_wa hJ2 t1 rfl)
    exact gT_ret ⟨rfl, trivial, hJ3⟩
  · obtain ⟨ht, hJt⟩ := hB
    refine gT_ite (fun h4 => ?_) (fun h5 => ?_)
    · exact gT_ret ⟨rfl, trivial, hJt⟩
    · exfalso; omega
-- L_odds
theorem d_303 {p : gP} {a0 : Nat} {a1 : Int} {a2 : Int} {a3 : Nat} {s : gS} (hp : -1 ≤ p.1 ∧ p.1 ≤ 0) (h : J p s) (t0 : T 11 a0) (t3 : T 109 a3) : gT (f_303 a0 a1 a2 a3 s) (fun r => r.1 = 1 ∧ True ∧ J p r.2.2.2) := by
  unfold f_303
  refine gT_c1 (A := fun w9 u9 => True ∧ J p u9) (B := fun t9 u9 => (t9 = 2) ∧ J p u9) (d_117 hp h t0) (fun v2 s1 h1 => ?_) (fun k s1 hk hB => ?_)
  · obtain ⟨h1r, hJ2⟩ := h1
    extract_lets -merge s3
    refine gT_chk (by omega) (by omega) ?_
    have hJ3 : J p s3 := (J_wa hJ2 t3 rfl)
    exact gT_ret ⟨rfl, trivial, hJ3⟩
  · obtain ⟨ht, hJt⟩ := hB
    refine gT_ite (fun h4 => ?_) (fun h5 => ?_)
    · exact gT_ret ⟨rfl, trivial, hJt⟩
    · exfalso; omega

end
