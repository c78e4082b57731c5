def LJ (p : gP) (c : Int) (s : gS) : Prop := J p s ∧ Wt s ∧ gI s 7 2 + c ≤ gI s 1 3
theorem k0_7 : ∀ a, a < 232 → (k0 a = 5 → a = 7) := by decide +kernel
theorem T_5 {a : Nat} (t : T 5 a) : a = 7 := k0_7 a t.1 t.2
theorem t5_7 : T 5 7 := ⟨by first | decide | omega | (dsimp only; omega), by decide +kernel⟩
theorem t10_1 : T 10 1 := ⟨by first | decide | omega | (dsimp only; omega), by decide +kernel⟩
theorem k0_8 : k0 8 = 3300 := by decide +kernel
section Lr
variable {p : gP} {c c' : Int} {s s' : gS} {a k : Nat} {v : Int}
theorem r_70 (h : J p s) : gR s 7 0 = 1 := J_r h rfl (by decide +kernel) (by decide +kernel)
theorem r_71 (h : J p s) : gR s 7 1 = 8 := J_r h rfl (by decide +kernel) (by decide +kernel)
theorem LJ_dn (h : LJ p c s) (hc : c' ≤ c) : LJ p c' s := ⟨h.1, h.2.1, by have := h.2.2; omega⟩
theorem J_w8 (h : J p s) : J p (gw s 8 k v) := J_wb h (by rw [k0_8]; decide) (fun q hq => by cases hq)
theorem l_78n (n : Int) (h : LJ p c s) (hn : gI s 1 3 + n ≤ gI s 1 4) : gT (f_78 1 s) (fun r => r.1 = 0 ∧ LJ p (c + n) r.2.2.2) := by
  refine gT_mono (c_78 h.1 t10_1) (fun r hr => ⟨hr.1, hr.2.1, hr.2.2.2.1, ?_⟩)
  have e := hr.2.2.1.2 7 2 (by decide)
  have f := hr.2.2.2.2
  have g := h.2.2
  rw [e]
  omega
theorem l_78 (h : LJ p c s) (hk : gI s 1 2 ≠ 0) : gT (f_78 1 s) (fun r => r.1 = 0 ∧ LJ p (c + 1) r.2.2.2) :=
  l_78n 1 h (h.2.1.resolve_left hk)
theorem l_82 {w : Nat} (h : LJ p c s) : gT (f_82 (gR s 7 0) w s) (fun r => r.1 = 1 ∧ (0 ≤ r.2.1 ∧ r.2.1 ≤ 1) ∧ LJ p c r.2.2.2 ∧ (r.2.1 ≠ 0 → LJ p (c + 1) r.2.2.2)) := by
  rw [r_70 h.1]
  unfold f_82
  refine gT_v1 (A := fun v u => (0 ≤ v ∧ v ≤ 1 ∧ (v = 1 → gI s 1 2 = 1 ∧ gI s 1 4 = gI s 1 3 + gsl w)) ∧ u = s) (c_80 h.1 t10_1) (fun v2 s1 h1 => ?_)
  obtain ⟨r2, e⟩ := h1
  subst e
  refine gT_ite (fun h0 => gT_ret ⟨rfl, by dsimp only; omega, h, fun e => absurd h0 e⟩) (fun h0 => ?_)
  refine gT_v0 (A := fun u => LJ p (c + 1) u) (l_78 h (by have := r2.2.2 (by omega); omega)) (fun s4 h4 => ?_)
  exact gT_ret ⟨rfl, by dsimp only; omega, LJ_dn h4 (by omega), fun _ => h4⟩
theorem l_83 {w : Int} (h : LJ p c s) : gT (f_83 (gR s 7 0) w s) (fun r => r.1 = 1 ∧ (0 ≤ r.2.1 ∧ r.2.1 ≤ 1) ∧ LJ p c r.2.2.2 ∧ (r.2.1 ≠ 0 → LJ p (c + 1) r.2.2.2)) := by
  rw [r_70 h.1]
  unfold f_83
  refine gT_v1 (A := fun v u => (0 ≤ v ∧ v ≤ 1 ∧ (v = 1 → gI s 1 2 = 3)) ∧ u = s) (c_81 h.1 t10_1) (fun v2 s1 h1 => ?_)
  obtain ⟨r2, e⟩ := h1
  subst e
  refine gT_ite (fun h0 => gT_ret ⟨rfl, by dsimp only; omega, h, fun e => absurd h0 e⟩) (fun h0 => ?_)
  refine gT_v0 (A := fun u => LJ p (c + 1) u) (l_78 h (by have := r2.2.2 (by omega); omega)) (fun s4 h4 => ?_)
  exact gT_ret ⟨rfl, by dsimp only; omega, LJ_dn h4 (by omega), fun _ => h4⟩
theorem l_84 {lo hi : Int} (h : LJ p c s) : gT (f_84 (gR s 7 0) lo hi s) (fun r => r.1 = 1 ∧ LJ p c r.2.2.2 ∧ (r.2.1 ≠ -1 → LJ p (c + 1) r.2.2.2)) := by
  have r3 := J_f (i := 3) h.1 t10_1 rfl (by decide) rfl
  have r4 := J_f (i := 4) h.1 t10_1 rfl (by decide) rfl
  rw [r_70 h.1]
  unfold f_84
  refine gT_ite (fun hk => ?_) (fun _ => gT_ret ⟨rfl, h, fun e => absurd rfl e⟩)
  refine gT_ite (fun _ => gT_ret ⟨rfl, h, fun e => absurd rfl e⟩) (fun _ => ?_)
  refine gT_loop (fun y => y.1 = 1 ∧ (0 ≤ y.2.2.2.2.1 ∧ y.2.2.2.2.1 ≤ 400) ∧ y.2.2.2.2.2 = s) (fun y => (400 - y.2.2.2.2.1).toNat) (fun y hy => ?_) ⟨rfl, r3, rfl⟩
  obtain ⟨x0, x1, x2, x3, x4, u⟩ := y
  obtain ⟨e0, r4', eu⟩ := hy
  dsimp only at e0 r4' eu
  subst e0 eu
  show gT (sb_84_31 1 x1 x2 x3 x4 u) _
  unfold sb_84_31
  have e5 := g32_eq (v := x4 + 1) (by omega) (by omega)
  refine gT_ite (fun h5 => ?_) (fun _ => gT_map ?_)
  · refine gT_chk (by omega) (by omega) ?_
    extract_lets v1
    exact gT_ret ⟨⟨rfl, by dsimp only; omega, rfl⟩, by dsimp only; omega⟩
  · refine gT_ite (fun _ => gT_ret ⟨rfl, h, fun e => absurd rfl e⟩) (fun _ => ?_)
    refine gT_ite (fun _ => gT_ret ⟨rfl, h, fun e => absurd rfl e⟩) (fun _ => ?_)
    refine gT_v0 (A := fun u => LJ p (c + 1) u) (l_78 h (by omega)) (fun s4 h4 => ?_)
    exact gT_ret ⟨rfl, LJ_dn h4 (by omega), fun _ => h4⟩
theorem LJ_w {a k : Nat} (hJ : J p (gw s a k v)) (h : LJ p c s) (ha : a = 8 ∨ (a = 7 ∧ k ≠ 2)) : LJ p c (gw s a k v) := by
  have g : ∀ b j, (b = 1 ∨ (b = 7 ∧ j = 2)) → gI (gw s a k v) b j = gI s b j := fun b j hb => by
    show (if b = a ∧ j = k then v else gI s b j) = _
    rw [if_neg (fun e => by omega)]
  refine ⟨hJ, ?_, ?_⟩
  · unfold Wt
    rw [g 1 2 (Or.inl rfl), g 1 3 (Or.inl rfl), g 1 4 (Or.inl rfl)]
    exact h.2.1
  · rw [g 7 2 (Or.inr ⟨rfl, rfl⟩), g 1 3 (Or.inl rfl)]
    exact h.2.2
theorem l_45 {x : Int} (h : LJ p c s) : gT (f_45 7 x s) (fun r => r.1 = 1 ∧ (0 ≤ r.2.1 ∧ r.2.1 ≤ 1) ∧ LJ p (c - 1) r.2.2.2) := by
  have r2 := J_f (i := 2) h.1 t5_7 rfl (by decide) rfl
  unfold f_45
  refine gT_ite (fun h5 => ?_) (fun _ => gT_ret ⟨rfl, by first | decide | omega | (dsimp only; omega), LJ_dn h (by omega)⟩)
  refine gT_chk (by omega) h5 ?_
  rw [r_71 h.1]
  extract_lets s1 s2
  have j1 : J p s1 := J_w8 h.1
  have l1 : LJ p c s1 := LJ_w j1 h (Or.inl rfl)
  have e1 : gI s1 7 2 = gI s 7 2 := rd_a (show s1 = gw s 8 (gI s 7 2).toNat x from rfl) (by decide)
  have e2 := g32_eq (v := gI s1 7 2 + 1) (by omega) (by omega)
  have j2 : J p s2 := J_wf j1 t5_7 rfl (by decide) (by decide) (fun q hq => by cases hq; dsimp only; omega)
  have e3 : gI s2 7 2 = g32 (gI s1 7 2 + 1) := rd_same (show s2 = gw s1 7 2 (g32 (gI s1 7 2 + 1)) from rfl)
  have g : ∀ j, gI s2 1 j = gI s1 1 j := fun j => rd_a (show s2 = gw s1 7 2 (g32 (gI s1 7 2 + 1)) from rfl) (by decide)
  refine gT_ret ⟨rfl, by first | decide | omega | (dsimp only; omega), j2, ?_, ?_⟩
  · show Wt s2
    unfold Wt
    rw [g, g, g]
    exact l1.2.1
  · show gI s2 7 2 + (c - 1) ≤ gI s2 1 3
    have := l1.2.2
    rw [g]
    omega
theorem l_52 (h : J p s) : gT (f_52 7 s) (fun r => r.1 = 1 ∧ (r.2.1 ≠ -1 → gI s 1 2 = 1) ∧ r.2.2.2 = s) := by
  have e := r_70 h
  unfold f_52
  rw [e]
  refine gT_v1 (A := fun v u => (0 ≤ v ∧ v ≤ 1 ∧ (v = 1 → gI s 1 2 = 1 ∧ gI s 1 4 = gI s 1 3 + gsl 36)) ∧ u = s) (c_80 h t10_1) (fun v u0 h1 => ?_)
  obtain ⟨r2, e1⟩ := h1
  subst e1
  refine gT_ite (fun _ => ?_) (fun h0 => gT_ret ⟨rfl, fun _ => (r2.2.2 (by omega)).1, rfl⟩)
  rw [e]
  refine gT_v1 (A := fun v u => (0 ≤ v ∧ v ≤ 1 ∧ (v = 1 → gI u0 1 2 = 1 ∧ gI u0 1 4 = gI u0 1 3 + gsl 37)) ∧ u = u0) (c_80 h t10_1) (fun v u1 h1 => ?_)
  obtain ⟨r2, e1⟩ := h1
  subst e1
  refine gT_ite (fun _ => ?_) (fun h0 => gT_ret ⟨rfl, fun _ => (r2.2.2 (by omega)).1, rfl⟩)
  rw [e]
  refine gT_v1 (A := fun v u => (0 ≤ v ∧ v ≤ 1 ∧ (v = 1 → gI u1 1 2 = 1 ∧ gI u1 1 4 = gI u1 1 3 + gsl 38)) ∧ u = u1) (c_80 h t10_1) (fun v u2 h1 => ?_)
  obtain ⟨r2, e1⟩ := h1
  subst e1
  refine gT_ite (fun _ => ?_) (fun h0 => gT_ret ⟨rfl, fun _ => (r2.2.2 (by omega)).1, rfl⟩)
  rw [e]
  refine gT_v1 (A := fun v u => (0 ≤ v ∧ v ≤ 1 ∧ (v = 1 → gI u2 1 2 = 1 ∧ gI u2 1 4 = gI u2 1 3 + gsl 39)) ∧ u = u2) (c_80 h t10_1) (fun v u3 h1 => ?_)
  obtain ⟨r2, e1⟩ := h1
  subst e1
  refine gT_ite (fun _ => ?_) (fun h0 => gT_ret ⟨rfl, fun _ => (r2.2.2 (by omega)).1, rfl⟩)
  rw [e]
  refine gT_v1 (A := fun v u => (0 ≤ v ∧ v ≤ 1 ∧ (v = 1 → gI u3 1 2 = 1 ∧ gI u3 1 4 = gI u3 1 3 + gsl 40)) ∧ u = u3) (c_80 h t10_1) (fun v u4 h1 => ?_)
  obtain ⟨r2, e1⟩ := h1
  subst e1
  refine gT_ite (fun _ => ?_) (fun h0 => gT_ret ⟨rfl, fun _ => (r2.2.2 (by omega)).1, rfl⟩)
  rw [e]
  refine gT_v1 (A := fun v u => (0 ≤ v ∧ v ≤ 1 ∧ (v = 1 → gI u4 1 2 = 1 ∧ gI u4 1 4 = gI u4 1 3 + gsl 41)) ∧ u = u4) (c_80 h t10_1) (fun v u5 h1 => ?_)
  obtain ⟨r2, e1⟩ := h1
  subst e1
  refine gT_ite (fun _ => ?_) (fun h0 => gT_ret ⟨rfl, fun _ => (r2.2.2 (by omega)).1, rfl⟩)
  rw [e]
  refine gT_v1 (A := fun v u => (0 ≤ v ∧ v ≤ 1 ∧ (v = 1 → gI u5 1 2 = 1 ∧ gI u5 1 4 = gI u5 1 3 + gsl 42)) ∧ u = u5) (c_80 h t10_1) (fun v u6 h1 => ?_)
  obtain ⟨r2, e1⟩ := h1
  subst e1
  exact gT_ite (fun _ => gT_ret ⟨rfl, fun e => absurd rfl e, rfl⟩) (fun h0 => gT_ret ⟨rfl, fun _ => (r2.2.2 (by omega)).1, rfl⟩)
theorem l_51 (h : LJ p c s) : gT (f_51 7 s) (fun r => r.1 = 1 ∧ (0 ≤ r.2.1 ∧ r.2.1 ≤ 1) ∧ LJ p c r.2.2.2) := by
  unfold f_51
  refine gT_v1 (A := fun v u => LJ p c u ∧ (v ≠ -1 → LJ p (c + 1) u)) (l_84 h) (fun v2 s1 h1 => ?_)
  refine gT_ite (fun _ => ?_) (fun hn => ?_)
  · refine gT_v1 (A := fun v u => (v ≠ -1 → gI s1 1 2 = 1) ∧ u = s1) (l_52 h1.1.1) (fun v4 s3 h3 => ?_)
    obtain ⟨e3, e4⟩ := h3
    subst e4
    refine gT_ite (fun _ => gT_ret ⟨rfl, by first | decide | omega | (dsimp only; omega), h1.1⟩) (fun hn => ?_)
    rw [r_70 h1.1.1]
    refine gT_v0 (A := fun u => LJ p (c + 1) u) (l_78 h1.1 (by rw [e3 hn]; decide)) (fun s5 h5 => ?_)
    refine gT_v1 (A := fun v u => (0 ≤ v ∧ v ≤ 1) ∧ LJ p (c + 1 - 1) u) (l_45 h5) (fun v8 s7 h7 => ?_)
    exact gT_ret ⟨rfl, h7.1, LJ_dn h7.2 (by omega)⟩
  · refine gT_v1 (A := fun v u => (0 ≤ v ∧ v ≤ 1) ∧ LJ p (c + 1 - 1) u) (l_45 (h1.2 hn)) (fun v8 s7 h7 => ?_)
    exact gT_ret ⟨rfl, h7.1, LJ_dn h7.2 (by omega)⟩
theorem l_50 (h : LJ p c s) : gT (f_50 7 s) (fun r => r.1 = 1 ∧ (0 ≤ r.2.1 ∧ r.2.1 ≤ 1) ∧ LJ p c r.2.2.2) := by
  unfold f_50
  refine gT_v1 (A := fun v u => (0 ≤ v ∧ v ≤ 1) ∧ LJ p c u) (l_51 h) (fun v2 s1 h1 => ?_)
  refine gT_loop (fun y => y.1 = 7 ∧ (0 ≤ y.2.1 ∧ y.2.1 ≤ 1) ∧ (0 ≤ y.2.2.1 ∧ y.2.2.1 ≤ 400) ∧ LJ p c y.2.2.2) (fun y => (400 - y.2.2.1).toNat) (fun y hy => ?_) ⟨rfl, h1.1, by first | decide | omega | (dsimp only; omega), h1.2⟩
  obtain ⟨x0, x1, x2, s⟩ := y
  obtain ⟨e0, r1, r2, h⟩ := hy
  dsimp only at e0 r1 r2 h
  subst e0
  have e5 := g32_eq (v := x2 + 1) (by omega) (by omega)
  show gT (sb_50_7 7 x1 x2 s) _
  unfold sb_50_7
  refine gT_ite (fun h5 => ?_) (fun _ => gT_map (gT_bool (by omega) (gT_ret ⟨rfl, r1, h⟩)))
  refine gT_ite (fun _ => gT_map (gT_bool (by omega) (gT_ret ⟨rfl, r1, h⟩))) (fun _ => ?_)
  refine gT_v1 (A := fun v u => (0 ≤ v ∧ v ≤ 1) ∧ LJ p c u ∧ (v ≠ 0 → LJ p (c + 1) u)) (l_83 h) (fun v5 s4 h4 => ?_)
  refine gT_ite (fun _ => gT_map (gT_bool (by omega) (gT_ret ⟨rfl, r1, h4.2.1⟩))) (fun hn => ?_)
  refine gT_v1 (A := fun v u => (0 ≤ v ∧ v ≤ 1) ∧ LJ p (c + 1) u) (l_51 (h4.2.2 hn)) (fun v8 s7 h7 => ?_)
  refine gT_ite (fun _ => gT_ret ⟨⟨rfl, by first | decide | omega | (dsimp only; omega), by dsimp only; omega, LJ_dn h7.2 (by omega)⟩, by dsimp only; omega⟩) (fun _ => ?_)
  refine gT_v1 (A := fun v u => (0 ≤ v ∧ v ≤ 1) ∧ LJ p (c + 1 - 1) u) (l_45 h7.2) (fun v11 s10 h10 => ?_)
  exact gT_ite (fun _ => gT_ret ⟨⟨rfl, by first | decide | omega | (dsimp only; omega), by dsimp only; omega, LJ_dn h10.2 (by omega)⟩, by dsimp only; omega⟩) (fun _ => gT_ret ⟨⟨rfl, by first | decide | omega | (dsimp only; omega), by dsimp only; omega, LJ_dn h10.2 (by omega)⟩, by dsimp only; omega⟩)
theorem l_47 {R : Nat → Int → gS → Option gO} {d : Int} (hR : ∀ {c : Int} {s : gS}, LJ p c s → gT (R 7 d s) (fun r => r.1 = 1 ∧ (0 ≤ r.2.1 ∧ r.2.1 ≤ 1) ∧ LJ p c r.2.2.2)) (h : LJ p c s) : gT (fo_47 R 7 d s) (fun r => r.1 = 1 ∧ (0 ≤ r.2.1 ∧ r.2.1 ≤ 1) ∧ LJ p c r.2.2.2) := by
  unfold fo_47
  refine gT_v1 (A := fun v u => (0 ≤ v ∧ v ≤ 1) ∧ LJ p c u) (hR h) (fun v2 s1 h1 => ?_)
  refine gT_loop (fun y => y.1 = 7 ∧ y.2.1 = d ∧ (0 ≤ y.2.2.1 ∧ y.2.2.1 ≤ 1) ∧ (0 ≤ y.2.2.2.1 ∧ y.2.2.2.1 ≤ 400) ∧ LJ p c y.2.2.2.2) (fun y => (400 - y.2.2.2.1).toNat) (fun y hy => ?_) ⟨rfl, rfl, h1.1, by first | decide | omega | (dsimp only; omega), h1.2⟩
  obtain ⟨x0, x1, x2, x3, s⟩ := y
  obtain ⟨e0, e1, r1, r2, h⟩ := hy
  dsimp only at e0 e1 r1 r2 h
  subst e0 e1
  have e5 := g32_eq (v := x3 + 1) (by omega) (by omega)
  show gT (sb_47_8 R 7 x1 x2 x3 s) _
  unfold sb_47_8
  refine gT_ite (fun h5 => ?_) (fun _ => gT_map (gT_bool (by omega) (gT_ret ⟨rfl, r1, h⟩)))
  refine gT_ite (fun _ => gT_map (gT_bool (by omega) (gT_ret ⟨rfl, r1, h⟩))) (fun _ => ?_)
  refine gT_v1 (A := fun v u => (0 ≤ v ∧ v ≤ 1) ∧ LJ p c u ∧ (v ≠ 0 → LJ p (c + 1) u)) (l_82 h) (fun v5 s4 h4 => ?_)
  refine gT_ite (fun _ => gT_map (gT_bool (by omega) (gT_ret ⟨rfl, r1, h4.2.1⟩))) (fun hn => ?_)
  refine gT_v1 (A := fun v u => (0 ≤ v ∧ v ≤ 1) ∧ LJ p (c + 1) u) (hR (h4.2.2 hn)) (fun v8 s7 h7 => ?_)
  refine gT_ite (fun _ => gT_ret ⟨⟨rfl, rfl, by first | decide | omega | (dsimp only; omega), by dsimp only; omega, LJ_dn h7.2 (by omega)⟩, by dsimp only; omega⟩) (fun _ => ?_)
  refine gT_v1 (A := fun v u => (0 ≤ v ∧ v ≤ 1) ∧ LJ p (c + 1 - 1) u) (l_45 h7.2) (fun v11 s10 h10 => ?_)
  exact gT_ite (fun _ => gT_ret ⟨⟨rfl, rfl, by first | decide | omega | (dsimp only; omega), by dsimp only; omega, LJ_dn h10.2 (by omega)⟩, by dsimp only; omega⟩) (fun _ => gT_ret ⟨⟨rfl, rfl, by first | decide | omega | (dsimp only; omega), by dsimp only; omega, LJ_dn h10.2 (by omega)⟩, by dsimp only; omega⟩)
theorem l_48 {R : Nat → Int → gS → Option gO} {d : Int} (hR : ∀ {c : Int} {s : gS}, LJ p c s → gT (R 7 d s) (fun r => r.1 = 1 ∧ (0 ≤ r.2.1 ∧ r.2.1 ≤ 1) ∧ LJ p c r.2.2.2)) (h : LJ p c s) : gT (fo_48 R 7 d s) (fun r => r.1 = 1 ∧ (0 ≤ r.2.1 ∧ r.2.1 ≤ 1) ∧ LJ p c r.2.2.2) := by
  unfold fo_48
  refine gT_v1 (A := fun v u => (0 ≤ v ∧ v ≤ 1) ∧ LJ p c u) (hR h) (fun v2 s1 h1 => ?_)
  refine gT_loop (fun y => y.1 = 7 ∧ y.2.1 = d ∧ (0 ≤ y.2.2.1 ∧ y.2.2.1 ≤ 1) ∧ (0 ≤ y.2.2.2.1 ∧ y.2.2.2.1 ≤ 400) ∧ LJ p c y.2.2.2.2) (fun y => (400 - y.2.2.2.1).toNat) (fun y hy => ?_) ⟨rfl, rfl, h1.1, by first | decide | omega | (dsimp only; omega), h1.2⟩
  obtain ⟨x0, x1, x2, x3, s⟩ := y
  obtain ⟨e0, e1, r1, r2, h⟩ := hy
  dsimp only at e0 e1 r1 r2 h
  subst e0 e1
  have e5 := g32_eq (v := x3 + 1) (by omega) (by omega)
  show gT (sb_48_8 R 7 x1 x2 x3 s) _
  unfold sb_48_8
  refine gT_ite (fun h5 => ?_) (fun _ => gT_map (gT_bool (by omega) (gT_ret ⟨rfl, r1, h⟩)))
  refine gT_ite (fun _ => gT_map (gT_bool (by omega) (gT_ret ⟨rfl, r1, h⟩))) (fun _ => ?_)
  refine gT_v1 (A := fun v u => (0 ≤ v ∧ v ≤ 1) ∧ LJ p c u ∧ (v ≠ 0 → LJ p (c + 1) u)) (l_82 h) (fun v5 s4 h4 => ?_)
  refine gT_ite (fun _ => gT_map (gT_bool (by omega) (gT_ret ⟨rfl, r1, h4.2.1⟩))) (fun hn => ?_)
  refine gT_v1 (A := fun v u => (0 ≤ v ∧ v ≤ 1) ∧ LJ p (c + 1) u) (hR (h4.2.2 hn)) (fun v8 s7 h7 => ?_)
  refine gT_ite (fun _ => gT_ret ⟨⟨rfl, rfl, by first | decide | omega | (dsimp only; omega), by dsimp only; omega, LJ_dn h7.2 (by omega)⟩, by dsimp only; omega⟩) (fun _ => ?_)
  refine gT_v1 (A := fun v u => (0 ≤ v ∧ v ≤ 1) ∧ LJ p (c + 1 - 1) u) (l_45 h7.2) (fun v11 s10 h10 => ?_)
  exact gT_ite (fun _ => gT_ret ⟨⟨rfl, rfl, by first | decide | omega | (dsimp only; omega), by dsimp only; omega, LJ_dn h10.2 (by omega)⟩, by dsimp only; omega⟩) (fun _ => gT_ret ⟨⟨rfl, rfl, by first | decide | omega | (dsimp only; omega), by dsimp only; omega, LJ_dn h10.2 (by omega)⟩, by dsimp only; omega⟩)
theorem l_49 {R S : Nat → Int → gS → Option gO} {d : Int} (hd : 0 ≤ d ∧ d ≤ 6) (hR : d < 6 → ∀ {c : Int} {s : gS}, LJ p c s → gT (R 7 (d + 1) s) (fun r => r.1 = 1 ∧ (0 ≤ r.2.1 ∧ r.2.1 ≤ 1) ∧ LJ p c r.2.2.2)) (hS : d < 6 → ∀ {c : Int} {s : gS}, LJ p c s → gT (S 7 (d + 1) s) (fun r => r.1 = 1 ∧ (0 ≤ r.2.1 ∧ r.2.1 ≤ 1) ∧ LJ p c r.2.2.2)) (h : LJ p c s) : gT (fo_49 R S 7 d s) (fun r => r.1 = 1 ∧ (0 ≤ r.2.1 ∧ r.2.1 ≤ 1) ∧ LJ p c r.2.2.2) := by
  have ed := g32_eq (v := d + 1) (by omega) (by omega)
  have hdeep : ∀ x : Int, gI s 1 2 ≠ 0 → gT (fb_49_26 R S 7 d x s) (fun r => r.1 = 1 ∧ (0 ≤ r.2.1 ∧ r.2.1 ≤ 1) ∧ LJ p c r.2.2.2) := by
    intro x hk
    unfold fb_49_26
    refine gT_ite (fun h6 => ?_) (fun _ => gT_ret ⟨rfl, by first | decide | omega | (dsimp only; omega), h⟩)
    rw [r_70 h.1, ed]
    refine gT_v0 (A := fun u => LJ p (c + 1) u) (l_78 h hk) (fun s34 h34 => ?_)
    refine gT_ite (fun _ => ?_) (fun _ => ?_)
    · refine gT_v1 (A := fun v u => (0 ≤ v ∧ v ≤ 1) ∧ LJ p (c + 1) u) (hR h6 h34) (fun v37 s36 h36 => ?_)
      refine gT_ite (fun _ => gT_ret ⟨rfl, by first | decide | omega | (dsimp only; omega), LJ_dn h36.2 (by omega)⟩) (fun _ => ?_)
      refine gT_v1 (A := fun v u => (0 ≤ v ∧ v ≤ 1) ∧ LJ p (c + 1) u ∧ (v ≠ 0 → LJ p (c + 1 + 1) u)) (l_83 h36.2) (fun v40 s39 h39 => ?_)
      exact gT_ite (fun _ => gT_ret ⟨rfl, by first | decide | omega | (dsimp only; omega), LJ_dn h39.2.1 (by omega)⟩) (fun _ => gT_ret ⟨rfl, by first | decide | omega | (dsimp only; omega), LJ_dn h39.2.1 (by omega)⟩)
    · refine gT_v1 (A := fun v u => (0 ≤ v ∧ v ≤ 1) ∧ LJ p (c + 1) u) (hS h6 h34) (fun v43 s42 h42 => ?_)
      refine gT_ite (fun _ => gT_ret ⟨rfl, by first | decide | omega | (dsimp only; omega), LJ_dn h42.2 (by omega)⟩) (fun _ => ?_)
      refine gT_v1 (A := fun v u => (0 ≤ v ∧ v ≤ 1) ∧ LJ p (c + 1 - 1) u) (l_45 h42.2) (fun v46 s45 h45 => ?_)
      exact gT_ite (fun _ => gT_ret ⟨rfl, by first | decide | omega | (dsimp only; omega), LJ_dn h45.2 (by omega)⟩) (fun _ => gT_ret ⟨rfl, by first | decide | omega | (dsimp only; omega), LJ_dn h45.2 (by omega)⟩)
  unfold fo_49
  have e70 := r_70 h.1
  rw [e70]
  refine gT_v1 (A := fun v u => (0 ≤ v ∧ v ≤ 1 ∧ (v = 1 → gI s 1 2 = 1 ∧ gI s 1 4 = gI s 1 3 + gsl 33)) ∧ u = s) (c_80 h.1 t10_1) (fun v2 s1 h1 => ?_)
  obtain ⟨r2, e1⟩ := h1
  subst e1
  refine gT_ite (fun _ => ?_) (fun h0 => hdeep _ (by have := r2.2.2 (by omega); omega))
  rw [e70]
  refine gT_v1 (A := fun v u => (0 ≤ v ∧ v ≤ 1 ∧ (v = 1 → gI s1 1 2 = 3)) ∧ u = s1) (c_81 h.1 t10_1) (fun v5 s4 h4 => ?_)
  obtain ⟨r5, e1⟩ := h4
  subst e1
  refine gT_ite (fun _ => ?_) (fun h0 => hdeep _ (by have := r5.2.2 (by omega); omega))
  refine gT_v1 (A := fun v u => (0 ≤ v ∧ v ≤ 1) ∧ LJ p c u ∧ (v ≠ 0 → LJ p (c + 1) u)) (l_82 h) (fun v8 s7 h7 => ?_)
  refine gT_ite (fun _ => ?_) (fun hn => ?_)
  rotate_left
  · refine gT_v1 (A := fun v u => (0 ≤ v ∧ v ≤ 1) ∧ LJ p (c + 1 - 1) u) (l_45 (h7.2.2 hn)) (fun v32 s31 h31 => ?_)
    exact gT_ret ⟨rfl, h31.1, LJ_dn h31.2 (by omega)⟩
  refine gT_v1 (A := fun v u => (0 ≤ v ∧ v ≤ 1) ∧ LJ p c u ∧ (v ≠ 0 → LJ p (c + 1) u)) (l_82 h7.2.1) (fun v11 s10 h10 => ?_)
  refine gT_ite (fun _ => ?_) (fun hn => ?_)
  rotate_left
  · refine gT_v1 (A := fun v u => (0 ≤ v ∧ v ≤ 1) ∧ LJ p (c + 1 - 1) u) (l_45 (h10.2.2 hn)) (fun v32 s31 h31 => ?_)
    exact gT_ret ⟨rfl, h31.1, LJ_dn h31.2 (by omega)⟩
  have hrest : ∀ (x : Int) (u : gS), LJ p (c + 1) u → gT (fb_49_176 R S 7 x u) (fun r => r.1 = 1 ∧ (0 ≤ r.2.1 ∧ r.2.1 ≤ 1) ∧ LJ p c r.2.2.2) := by
    intro x u hu
    unfold fb_49_176
    refine gT_v1 (A := fun v u => (0 ≤ v ∧ v ≤ 1) ∧ LJ p (c + 1) u) (l_50 hu) (fun v23 s22 h22 => ?_)
    refine gT_ite (fun _ => gT_ret ⟨rfl, by first | decide | omega | (dsimp only; omega), LJ_dn h22.2 (by omega)⟩) (fun _ => ?_)
    have he : ∀ w : Int, gT (fb_49_197 R S w 7 s22) (fun r => r.1 = 1 ∧ (0 ≤ r.2.1 ∧ r.2.1 ≤ 1) ∧ LJ p c r.2.2.2) := by
      intro w
      unfold fb_49_197
      refine gT_v1 (A := fun v u => (0 ≤ v ∧ v ≤ 1) ∧ LJ p (c + 1 - 1) u) (l_45 h22.2) (fun v26 s25 h25 => ?_)
      exact gT_ite (fun _ => gT_ret ⟨rfl, by first | decide | omega | (dsimp only; omega), LJ_dn h25.2 (by omega)⟩) (fun _ => gT_ret ⟨rfl, by first | decide | omega | (dsimp only; omega), LJ_dn h25.2 (by omega)⟩)
    exact gT_ite (fun _ => he _) (fun _ => he _)
  refine gT_v1 (A := fun v u => (0 ≤ v ∧ v ≤ 1) ∧ LJ p c u) (l_50 h10.2.1) (fun v14 s13 h13 => ?_)
  refine gT_ite (fun _ => gT_ret ⟨rfl, by first | decide | omega | (dsimp only; omega), h13.2⟩) (fun _ => ?_)
  refine gT_v1 (A := fun v u => (0 ≤ v ∧ v ≤ 1) ∧ LJ p c u ∧ (v ≠ 0 → LJ p (c + 1) u)) (l_83 h13.2) (fun v17 s16 h16 => ?_)
  refine gT_ite (fun _ => ?_) (fun hn => hrest _ _ (h16.2.2 hn))
  refine gT_v1 (A := fun v u => (0 ≤ v ∧ v ≤ 1) ∧ LJ p c u ∧ (v ≠ 0 → LJ p (c + 1) u)) (l_83 h16.2.1) (fun v20 s19 h19 => ?_)
  exact gT_ite (fun _ => gT_ret ⟨rfl, by first | decide | omega | (dsimp only; omega), h19.2.1⟩) (fun hn => hrest _ _ (h19.2.2 hn))
theorem l_rg (n : Nat) : ∀ {d c : Int} {s : gS}, 0 ≤ d ∧ d ≤ 6 → LJ p c s → (3 * (6 - d) + 3 ≤ n → gT (fn_47 n 7 d s) (fun r => r.1 = 1 ∧ (0 ≤ r.2.1 ∧ r.2.1 ≤ 1) ∧ LJ p c r.2.2.2)) ∧ (3 * (6 - d) + 2 ≤ n → gT (fn_48 n 7 d s) (fun r => r.1 = 1 ∧ (0 ≤ r.2.1 ∧ r.2.1 ≤ 1) ∧ LJ p c r.2.2.2)) ∧ (3 * (6 - d) + 1 ≤ n → gT (fn_49 n 7 d s) (fun r => r.1 = 1 ∧ (0 ≤ r.2.1 ∧ r.2.1 ≤ 1) ∧ LJ p c r.2.2.2)) := by
  induction n with
  | zero => intro d c s hd h; exact ⟨fun e => by omega, fun e => by omega, fun e => by omega⟩
  | succ n ih =>
    intro d c s hd h
    refine ⟨fun e => ?_, fun e => ?_, fun e => ?_⟩
    · exact l_47 (R := fn_48 n) (fun h => (ih hd h).2.1 (by omega)) h
    · exact l_48 (R := fn_49 n) (fun h => (ih hd h).2.2 (by omega)) h
    · exact l_49 (R := fn_47 n) (S := fn_49 n) hd (fun h6 _ _ h => (ih (by omega) h).1 (by omega)) (fun h6 _ _ h => (ih (by omega) h).2.2 (by omega)) h
theorem l_f47 (h : LJ p c s) : gT (f_47 7 0 s) (fun r => r.1 = 1 ∧ (0 ≤ r.2.1 ∧ r.2.1 ≤ 1) ∧ LJ p c r.2.2.2) := (l_rg 24 (by decide) h).1 (by decide)
theorem gsl_28 : gsl 28 = 4 := by decide +kernel
theorem gsl_29 : gsl 29 = 5 := by decide +kernel
theorem l_46 (h : LJ p c s) : gT (f_46 7 s) (fun r => r.1 = 1 ∧ (0 ≤ r.2.1 ∧ r.2.1 ≤ 1) ∧ J p r.2.2.2 ∧ (r.2.1 ≠ 0 → LJ p (c + 3) r.2.2.2)) := by
  have e70 := r_70 h.1
  have hgo : ∀ x : Int, gI s 1 3 + 4 ≤ gI s 1 4 → gT (fb_46_28 7 x s) (fun r => r.1 = 1 ∧ (0 ≤ r.2.1 ∧ r.2.1 ≤ 1) ∧ J p r.2.2.2 ∧ (r.2.1 ≠ 0 → LJ p (c + 3) r.2.2.2)) := by
    intro x hx
    unfold fb_46_28
    rw [e70]
    refine gT_v0 (A := fun u => LJ p (c + 4) u) (l_78n 4 h hx) (fun s7 h7 => ?_)
    refine gT_v1 (A := fun v u => LJ p (c + 4) u ∧ (v ≠ -1 → LJ p (c + 4 + 1) u)) (l_84 h7) (fun v10 s9 h9 => ?_)
    refine gT_ite (fun _ => gT_ret ⟨rfl, by first | decide | omega | (dsimp only; omega), h9.1.1, fun e => absurd rfl e⟩) (fun hn => ?_)
    have h9 := h9.2 hn
    have hend : ∀ (w : Int) (u : gS), LJ p (c + 4) u → gT (fb_46_78 7 x v10 w u) (fun r => r.1 = 1 ∧ (0 ≤ r.2.1 ∧ r.2.1 ≤ 1) ∧ J p r.2.2.2 ∧ (r.2.1 ≠ 0 → LJ p (c + 3) r.2.2.2)) := by
      intro w u hu
      unfold fb_46_78
      have he : ∀ z : Int, gT (fb_46_97 v10 z 7 u) (fun r => r.1 = 1 ∧ (0 ≤ r.2.1 ∧ r.2.1 ≤ 1) ∧ J p r.2.2.2 ∧ (r.2.1 ≠ 0 → LJ p (c + 3) r.2.2.2)) := by
        intro z
        unfold fb_46_97
        refine gT_v1 (A := fun v u => (0 ≤ v ∧ v ≤ 1) ∧ LJ p (c + 4 - 1) u) (l_45 hu) (fun v18 s17 h17 => ?_)
        exact gT_ite (fun _ => gT_ret ⟨rfl, by first | decide | omega | (dsimp only; omega), h17.2.1, fun e => absurd rfl e⟩) (fun _ => gT_ret ⟨rfl, by first | decide | omega | (dsimp only; omega), h17.2.1, fun _ => LJ_dn h17.2 (by omega)⟩)
      exact gT_ite (fun _ => gT_ret ⟨rfl, by first | decide | omega | (dsimp only; omega), hu.1, fun e => absurd rfl e⟩) (fun _ => gT_ite (fun _ => he _) (fun _ => he _))
    refine gT_v1 (A := fun v u => (0 ≤ v ∧ v ≤ 1) ∧ LJ p (c + 4 + 1) u ∧ (v ≠ 0 → LJ p (c + 4 + 1 + 1) u)) (l_82 h9) (fun v12 s11 h11 => ?_)
    refine gT_ite (fun _ => ?_) (fun _ => ?_)
    · refine gT_v1 (A := fun v u => (0 ≤ v ∧ v ≤ 1) ∧ LJ p (c + 4 + 1 - 1) u) (l_45 h11.2.1) (fun v15 s14 h14 => ?_)
      exact hend _ _ (LJ_dn h14.2 (by omega))
    · refine gT_v1 (A := fun v u => (0 ≤ v ∧ v ≤ 1) ∧ LJ p (c + 4 + 1) u) (l_f47 h11.2.1) (fun v21 s20 h20 => ?_)
      exact hend _ _ (LJ_dn h20.2 (by omega))
  unfold f_46
  rw [e70]
  refine gT_v1 (A := fun v u => (0 ≤ v ∧ v ≤ 1 ∧ (v = 1 → gI s 1 2 = 1 ∧ gI s 1 4 = gI s 1 3 + gsl 28)) ∧ u = s) (c_80 h.1 t10_1) (fun v2 s1 h1 => ?_)
  obtain ⟨r2, e1⟩ := h1
  subst e1
  have g28 := gsl_28
  have g29 := gsl_29
  refine gT_ite (fun _ => ?_) (fun h0 => hgo _ (by have := r2.2.2 (by omega); omega))
  rw [e70]
  refine gT_v1 (A := fun v u => (0 ≤ v ∧ v ≤ 1 ∧ (v = 1 → gI s1 1 2 = 1 ∧ gI s1 1 4 = gI s1 1 3 + gsl 29)) ∧ u = s1) (c_80 h.1 t10_1) (fun v5 s4 h4 => ?_)
  obtain ⟨r5, e1⟩ := h4
  subst e1
  exact gT_ite (fun _ => gT_ret ⟨rfl, by first | decide | omega | (dsimp only; omega), h.1, fun e => absurd rfl e⟩) (fun h0 => hgo _ (by have := r5.2.2 (by omega); omega))
/-- what is old stays -/
theorem J_ext (h : J p s) (hn : gn s ≤ gn s') (ho : ∀ a, a < gn s → gK s' a = gK s a ∧ ∀ k, gI s' a k = gI s a k ∧ gR s' a k = gR s a k) : J p s' := by
  have h9 := h.1.1
  have hl : ∀ x, Jl s x → Jl s' x := fun x hx => by
    obtain ⟨h1, h2, h3⟩ := hx
    unfold Jl glen at *
    rw [((ho x h1.2).2 1).2, (ho _ h2.2).1]
    exact ⟨⟨h1.1, by omega⟩, ⟨h2.1, by omega⟩, h3⟩
  refine ⟨⟨by omega, fun a k ha hc => ?_, fun a k ha q hq => ?_, fun a ha h0 => ?_⟩, ?_⟩
  · rw [((ho a (by omega)).2 k).2]; exact h.1.2.1 a k ha hc
  · rw [((ho a (by omega)).2 k).1]; exact h.1.2.2.1 a k ha q hq
  · rw [((ho a (by omega)).2 11).2]; exact (h.1.2.2.2 a ha h0).imp id (hl _)
  · exact TKG h.2 (fun b j hb => ((ho b (by omega)).2 j).1)
/-- a law is made of the codes -/
theorem l_made {E : Nat → gS → Option gO} (hE : ∀ n u, E n u = if n = 0 then none else some (1, 0, n, u)) {x1 : Int} (h : J p s) (sz : Int) (hz : 0 ≤ sz ∧ sz < 400) (b : Nat) : gT ((f_274 b sz (gnw s 4)).bind (gvr (fun v18 s17 => (f_42 (gn s) x1 v18 s17).bind (gv0 (fun s19 => E (gn s) s19))))) (fun r => r.1 = 1 ∧ (r.2.2.1 = 0 ∨ Jl r.2.2.2 r.2.2.1) ∧ J p r.2.2.2) := by
  have h9 := h.1.1
  unfold f_274
  rw [if_neg (by omega)]
  refine gT_vr (A := fun v u => v = gn s + 1 ∧ u = gcpy (gnw (gnw s 4) (100 + 8 * sz.toNat)) b 0 (gn s + 1) 0 sz.toNat) (gT_chk hz.1 hz.2 ?_) (fun v18 s17 hA => ?_)
  · refine gT_ite (fun e => ?_) (fun _ => gT_ret ⟨rfl, rfl, rfl⟩)
    have : gn (gnw s 4) = gn s + 1 := rfl
    omega
  obtain ⟨rfl, e⟩ := hA
  unfold f_42
  refine gT_v0 (A := fun u => u = gwr (gw s17 (gn s) 0 x1) (gn s) 1 (gn s + 1)) (gT_ret ⟨rfl, rfl⟩) (fun s19 e19 => ?_)
  rw [hE, if_neg (by omega)]
  have q1 : gn s19 = gn s + 2 := by rw [e19, e]; rfl
  have q2 : gR s19 (gn s) 1 = gn s + 1 := by
    rw [e19]
    show (if gn s = gn s ∧ 1 = 1 then gn s + 1 else _) = _
    rw [if_pos ⟨rfl, rfl⟩]
  have q3 : gK s19 (gn s + 1) = 100 + 8 * sz.toNat := by
    rw [e19, e]
    show (if gn s + 1 = gn s + 1 then 100 + 8 * sz.toNat else _) = _
    rw [if_pos rfl]
  refine gT_ret ⟨rfl, Or.inr ⟨⟨h9, by show gn s < gn s19; omega⟩, ⟨?_, ?_⟩, ?_⟩, J_ext h (by show gn s ≤ gn s19; omega) (fun a ha => ?_)⟩
  · show 232 ≤ gR s19 (gn s) 1
    omega
  · show gR s19 (gn s) 1 < gn s19
    omega
  · show glen s19 (gR s19 (gn s) 1) ≤ 400
    unfold glen
    rw [q2, q3]
    unfold gL4
    omega
  · dsimp only
    rw [e19, e]
    have ha0 : a ≠ gn s := by omega
    have ha1 : a ≠ gn s + 1 := by omega
    have hb0 : a ≠ s.1 := ha0
    have hb1 : a ≠ s.1 + 1 := ha1
    refine ⟨?_, fun k => ⟨?_, ?_⟩⟩
    · show (if a = gn s + 1 then 100 + 8 * sz.toNat else if a = gn s then 4 else gK s a) = _
      rw [if_neg ha1, if_neg ha0]
    · show (if a = gn s ∧ k = 0 then x1 else if a = gn s + 1 ∧ 0 ≤ k ∧ k < 0 + sz.toNat then gI (gnw (gnw s 4) (100 + 8 * sz.toNat)) b (0 + (k - 0)) else if a = gn s + 1 then 0 else if a = gn s then 0 else gI s a k) = _
      rw [if_neg (fun z => ha0 z.1), if_neg (fun z => ha1 z.1), if_neg ha1, if_neg ha0]
    · show (if a = gn s ∧ k = 1 then gn s + 1 else if a = gn s + 1 then 0 else if a = gn s then 0 else gR s a k) = _
      rw [if_neg (fun z => ha0 z.1), if_neg ha1, if_neg ha0]
theorem l_44 (h : J p s) : gT (f_44 7 s) (fun r => r.1 = 1 ∧ (r.2.2.1 = 0 ∨ Jl r.2.2.2 r.2.2.1) ∧ J p r.2.2.2) := by
  unfold f_44
  extract_lets s1
  have j1 : J p s1 := J_wf h t5_7 rfl (by decide) (by decide) (fun q hq => by cases hq; decide)
  have e1 : gI s1 7 2 = 0 := rd_same (show s1 = gw s 7 2 0 from rfl)
  refine gT_v0 (A := fun u => LJ p 0 u) ?_ (fun s2 h2 => ?_)
  · rw [r_70 j1]
    unfold f_77
    extract_lets s2
    have j2 : J p s2 := J_wf j1 t10_1 rfl (by decide) (by decide) (fun q hq => by cases hq; decide)
    have e2 : gI s2 1 4 = 0 := rd_same (show s2 = gw s1 1 4 0 from rfl)
    have e3 : gI s2 7 2 = gI s1 7 2 := by
      show (if 7 = 1 ∧ 2 = 4 then (0 : Int) else gI s1 7 2) = _
      rw [if_neg (by decide)]
    refine gT_v0 (A := fun u => LJ p 0 u) (gT_mono (c_78 j2 t10_1) (fun r hr => ⟨hr.1, hr.2.1, hr.2.2.2.1, ?_⟩)) (fun s3 h3 => gT_ret ⟨rfl, h3⟩)
    have e := hr.2.2.1.2 7 2 (by decide)
    have f := hr.2.2.2.2
    rw [e]
    omega
  rw [r_70 h2.1]
  refine gT_v1 (A := fun v u => u = s2) ?_ (fun v5 s4 e4 => ?_)
  · unfold f_79
    exact gT_ite (fun _ => gT_ret ⟨rfl, rfl⟩) (fun _ => gT_ret ⟨rfl, rfl⟩)
  subst e4
  refine gT_ite (fun _ => ?_) (fun _ => ?_)
  rotate_left
  · exact l_made (E := fun n u => if n = 0 then none else some (1, 0, n, u)) (fun _ _ => rfl) h2.1 0 (by decide) _
  refine gT_loop (fun y => y.1 = 7 ∧ (1 ≤ y.2.1 ∧ y.2.1 ≤ 13) ∧ LJ p 0 y.2.2) (fun y => (13 - y.2.1).toNat) (fun y hy => ?_) ⟨rfl, by first | decide | omega | (dsimp only; omega), h2⟩
  obtain ⟨x0, x1, s⟩ := y
  obtain ⟨e0, r1, h⟩ := hy
  dsimp only at e0 r1 h
  subst e0
  have e5 := g32_eq (v := x1 + 1) (by omega) (by omega)
  show gT (sb_44_41 7 x1 s) _
  unfold sb_44_41
  refine gT_ite (fun _ => gT_map (gT_ret ⟨rfl, Or.inl rfl, h.1⟩)) (fun _ => ?_)
  refine gT_v1 (A := fun v u => (0 ≤ v ∧ v ≤ 1) ∧ J p u ∧ (v ≠ 0 → LJ p (0 + 3) u)) (l_46 h) (fun v8 s7 h7 => ?_)
  refine gT_ite (fun _ => gT_map (gT_ret ⟨rfl, Or.inl rfl, h7.2.1⟩)) (fun hn => ?_)
  have h7 := h7.2.2 hn
  rw [r_70 h7.1]
  refine gT_v1 (A := fun v u => u = s7) ?_ (fun v11 s10 e10 => ?_)
  · unfold f_79
    exact gT_ite (fun _ => gT_ret ⟨rfl, rfl⟩) (fun _ => gT_ret ⟨rfl, rfl⟩)
  subst e10
  refine gT_ite (fun _ => ?_) (fun _ => gT_map ?_)
  · refine gT_v1 (A := fun v u => (0 ≤ v ∧ v ≤ 1) ∧ LJ p (0 + 3) u ∧ (v ≠ 0 → LJ p (0 + 3 + 1) u)) ?_ (fun v14 s13 h13 => ?_)
    · exact l_83 h7
    exact gT_ite (fun _ => gT_map (gT_ret ⟨rfl, Or.inl rfl, h13.2.1.1⟩)) (fun _ => gT_ret ⟨⟨rfl, by dsimp only; omega, LJ_dn h13.2.1 (by omega)⟩, by dsimp only; omega⟩)
  · have h9 := h7.1.1.1
    have r2 := J_f (i := 2) h7.1 t5_7 rfl (by decide) rfl
    have r3 := J_f (i := 3) h7.1 t10_1 rfl (by decide) rfl
    have g := h7.2.2
    have eI : gI (gnw s10 4) 7 2 = gI s10 7 2 := by
      show (if 7 = s10.1 then 0 else s10.2.2.1 7 2) = s10.2.2.1 7 2
      rw [if_neg (fun e => by unfold gn at h9; omega)]
    extract_lets s16
    have eI : gI s16 7 2 = gI s10 7 2 := eI
    exact l_made (E := fun n u => if n = 0 then none else some (1, 0, n, u)) (fun _ _ => rfl) h7.1 _ (by rw [eI]; omega) _
theorem d_90 (hp : -1 ≤ p.1 ∧ p.1 ≤ 0) (h : J p s) {a0 : Nat} (t0 : T 11 a0) : gT (f_90 a0 s) (fun r => (r.1 = 1 ∧ True ∧ J (p.1, 0, p.2.2) r.2.2.2) ∨ (2 ≤ r.1 ∧ r.1 ≤ 6 ∧ (r.1 = 2) ∧ J (p.1, 0, p.2.2) r.2.2.2)) := by
  unfold f_90
  have e3 := T_5 (T_f (i := 3) h t0 (by decide) rfl rfl)
  rw [e3]
  refine gT_vr (A := fun v u => (v = 0 ∨ Jl u v) ∧ J p u) (l_44 h) (fun v2 s1 h1 => ?_)
  obtain ⟨l1, j1⟩ := h1
  have hend : ∀ w : Int, gT (fb_90_24 a0 v2 w a0 s1) (fun r => (r.1 = 1 ∧ True ∧ J (p.1, 0, p.2.2) r.2.2.2) ∨ (2 ≤ r.1 ∧ r.1 ≤ 6 ∧ (r.1 = 2) ∧ J (p.1, 0, p.2.2) r.2.2.2)) := by
    intro w
    unfold fb_90_24
    extract_lets s3 s4 s5 s6
    have j3 : J p s3 := J_wf j1 t0 rfl (by decide) (by decide) (fun q hq => by cases hq)
    have j4 : J (p.1, 0, p.2.2) s4 := J_l j3 (T_f (i := 0) j3 t0 (by decide) rfl rfl) (by decide)
    refine gT_ite (fun _ => gT_ret (Or.inr ⟨by first | decide | omega | (dsimp only; omega), by first | decide | omega | (dsimp only; omega), rfl, J_nw j4⟩)) (fun hn => ?_)
    have j5 : J (p.1, 0, p.2.2) s5 := J_gwr j4 (T_f (i := 4) j4 t0 (by decide) rfl rfl) (l1.imp id (fun z => z))
    have j6 : J (p.1, 0, p.2.2) s6 := J_wf j5 t0 rfl (by decide) (by decide) (fun q hq => by cases hq)
    rw [if_neg hn]
    exact gT_ret (Or.inl ⟨rfl, trivial, j6⟩)
  exact gT_ite (fun _ => hend _) (fun _ => hend _)
end Lr
