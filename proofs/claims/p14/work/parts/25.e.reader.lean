section Pu
variable {s : gS}
theorem d150_pure {x y z : Int} : gT (f_150 x y z s) (fun r => r.1 = 1 ∧ r.2.2.2 = s) := by
  unfold f_150
  repeat (first | exact gT_ret ⟨rfl, rfl⟩ | refine gT_ite (fun _ => ?_) (fun _ => ?_) | unfold fb_150_14)
theorem d153_pure {x y : Int} : gT (f_153 x y s) (fun r => r.1 = 1 ∧ r.2.2.2 = s) := by
  unfold f_153
  repeat (first | exact gT_ret ⟨rfl, rfl⟩ | refine gT_ite (fun _ => ?_) (fun _ => ?_))
end Pu
/-- all but the reader's place and fault is as it was -/
def Fm (s s' : gS) : Prop := (gn s' = gn s ∧ (∀ a, gK s' a = gK s a) ∧ ∀ a k, gR s' a k = gR s a k) ∧ ∀ a k, ¬ (a = 217 ∧ (k = 11 ∨ k = 12)) → gI s' a k = gI s a k
theorem Fm_r (s : gS) : Fm s s := ⟨⟨rfl, fun _ => rfl, fun _ _ => rfl⟩, fun _ _ _ => rfl⟩
theorem Fm_t {s s' s2 : gS} (h : Fm s s') (h2 : Fm s' s2) : Fm s s2 := ⟨⟨h2.1.1.trans h.1.1, fun a => (h2.1.2.1 a).trans (h.1.2.1 a), fun a k => (h2.1.2.2 a k).trans (h.1.2.2 a k)⟩, fun a k hc => (h2.2 a k hc).trans (h.2 a k hc)⟩
theorem Fm_w {s s' : gS} {k : Nat} {v : Int} (h : Fm s s') (hk : k = 11 ∨ k = 12) : Fm s (gw s' 217 k v) := by
  refine ⟨h.1, fun b j hc => ?_⟩
  show (if b = 217 ∧ j = k then v else gI s' b j) = _
  rw [if_neg (fun e => hc ⟨e.1, by rw [e.2]; exact hk⟩)]
  exact h.2 b j hc
def Bm (p : gP) (s s' : gS) : Prop := J p s' ∧ Fm s s' ∧ gI s 217 11 ≤ gI s' 217 11 ∧ (gI s' 217 11 ≤ gI s 217 11 ∨ gI s' 217 11 ≤ gI s 217 10) ∧ (gI s' 217 12 = -1 → gI s 217 12 = -1)
section Rm
variable {p : gP} {s s' s2 : gS} {v : Int} {w : Nat}
theorem Bm_r (h : J p s) : Bm p s s := ⟨h, Fm_r s, Int.le_refl _, Or.inl (Int.le_refl _), fun e => e⟩
theorem Bm_e (h : Fm s s') : gI s' 217 10 = gI s 217 10 := h.2 217 10 (by decide)
theorem Bm_t (h : Bm p s s') (h2 : Bm p s' s2) : Bm p s s2 := by
  have e := Bm_e h.2.1
  refine ⟨h2.1, Fm_t h.2.1 h2.2.1, Int.le_trans h.2.2.1 h2.2.2.1, ?_, fun z => h.2.2.2.2 (h2.2.2.2.2 z)⟩
  have a := h.2.2.2.1
  have b := h2.2.2.2.1
  have c := h.2.2.1
  omega
/-- the place goes on by one -/
theorem Bm_at (h : Bm p s s') (hx : gI s' 217 11 < gI s' 217 10) : Bm p s (gw s' 217 11 (g32 (gI s' 217 11 + 1))) ∧ gI (gw s' 217 11 (g32 (gI s' 217 11 + 1))) 217 11 = gI s' 217 11 + 1 := by
  have r1 := J_f (i := 11) h.1 t12 rfl (by decide) rfl
  have r2 := J_f (i := 10) h.1 t12 rfl (by decide) rfl
  have e := g32_eq (v := gI s' 217 11 + 1) (by omega) (by omega)
  rw [e]
  have e1 : gI (gw s' 217 11 (gI s' 217 11 + 1)) 217 11 = gI s' 217 11 + 1 := rd_same rfl
  have e2 : gI (gw s' 217 11 (gI s' 217 11 + 1)) 217 12 = gI s' 217 12 := rd_k (a := 217) (k := 12) rfl (by decide)
  have ee := Bm_e h.2.1
  refine ⟨⟨J_wf h.1 t12 rfl (by decide) (by decide) (fun q hq => by cases hq; dsimp only; omega), Fm_w h.2.1 (Or.inl rfl), ?_, ?_, ?_⟩, e1⟩
  · have := h.2.2.1; omega
  · right; omega
  · rw [e2]; exact h.2.2.2.2
theorem q_168 : gQ (f_168 217 v s) (fun r => r.2.2.2 = s) := by
  unfold f_168
  exact gQ_ite (gQ_chk (gQ_ret rfl)) (gQ_chk (gQ_ret rfl))
theorem k_168 (h : J p s) (hv : 0 ≤ v ∧ v ≤ 399) : gT (f_168 217 v s) (fun r => r.1 = 1 ∧ r.2.2.2 = s) := by
  have r9 := J_f (i := 9) h t12 rfl (by decide) rfl
  have e := g32_eq (v := gI s 217 9 + v) (by omega) (by omega)
  unfold f_168
  refine gT_ite (fun _ => gT_chk (by omega) (by omega) (gT_ret ⟨rfl, rfl⟩)) (fun _ => ?_)
  rw [e]
  exact gT_chk (by omega) (by omega) (gT_ret ⟨rfl, rfl⟩)
theorem q_150 {x y z : Int} : gT (f_150 x y z s) (fun r => r.1 = 1 ∧ r.2.2.2 = s) := by
  have := d150_pure (x := x) (y := y) (z := z) (s := s)
  exact this
theorem k_169 (h : J p s) : gT (f_169 217 s) (fun r => r.1 = 0 ∧ Bm p s r.2.2.2) := by
  unfold f_169
  refine gT_loop (fun y => y.1 = 217 ∧ Bm p s y.2) (fun y => (400 - gI y.2 217 11).toNat) (fun y hy => ?_) ⟨rfl, Bm_r h⟩
  obtain ⟨x0, u⟩ := y
  obtain ⟨e0, b⟩ := hy
  dsimp only at e0 b
  subst e0
  have r1 := J_f (i := 11) b.1 t12 rfl (by decide) rfl
  have r2 := J_f (i := 10) b.1 t12 rfl (by decide) rfl
  show gT (sb_169_0 217 u) _
  unfold sb_169_0
  refine gT_ite (fun hx => ?_) (fun _ => gT_map (gT_ret ⟨rfl, b⟩))
  refine gT_v1 (A := fun _ z => z = u) (k_168 b.1 (by omega)) (fun v2 s1 e => ?_)
  subst e
  have q := Bm_at b hx
  refine gT_ite (fun _ => gT_ret ⟨⟨rfl, q.1⟩, ?_⟩) (fun _ => gT_map (gT_ret ⟨rfl, b⟩))
  show (400 - gI (gw s1 217 11 (g32 (gI s1 217 11 + 1))) 217 11).toNat < (400 - gI s1 217 11).toNat
  rw [q.2]
  omega
theorem k_170 (h : J p s) : gT (f_170 217 v s) (fun r => r.1 = 1 ∧ (0 ≤ r.2.1 ∧ r.2.1 ≤ 1) ∧ Bm p s r.2.2.2 ∧ (r.2.1 ≠ 0 → gI r.2.2.2 217 11 < gI r.2.2.2 217 10)) := by
  unfold f_170
  refine gT_v0 (A := fun u => Bm p s u) (k_169 h) (fun s1 b => ?_)
  have r1 := J_f (i := 11) b.1 t12 rfl (by decide) rfl
  have r2 := J_f (i := 10) b.1 t12 rfl (by decide) rfl
  refine gT_ite (fun hx => ?_) (fun _ => gT_ret ⟨rfl, by first | decide | omega | (dsimp only; omega), b, fun e => absurd rfl e⟩)
  refine gT_v1 (A := fun _ z => z = s1) (k_168 b.1 (by omega)) (fun v2 s2 e => ?_)
  subst e
  exact gT_ite (fun _ => gT_ret ⟨rfl, by first | decide | omega | (dsimp only; omega), b, fun _ => hx⟩) (fun _ => gT_ret ⟨rfl, by first | decide | omega | (dsimp only; omega), b, fun e => absurd rfl e⟩)
theorem k_171 (h : J p s) (hw : 1 ≤ gsl w) : gT (f_171 217 w s) (fun r => r.1 = 1 ∧ (0 ≤ r.2.1 ∧ r.2.1 ≤ 1) ∧ Bm p s r.2.2.2 ∧ (r.2.1 ≠ 0 → gI s 217 11 + 1 ≤ gI r.2.2.2 217 11 ∧ gI r.2.2.2 217 11 ≤ gI s 217 10)) := by
  have hlen := gtx_le w
  have hsl : gsl w = ((gtx w).length : Int) := rfl
  have hsr := gshr_0 (x := gsl w) (by omega)
  unfold f_171
  refine gT_v0 (A := fun u => Bm p s u) (k_169 h) (fun s1 b => ?_)
  have r1 := J_f (i := 11) b.1 t12 rfl (by decide) rfl
  have r2 := J_f (i := 10) b.1 t12 rfl (by decide) rfl
  have ee := Bm_e b.2.1
  have hcont : ∀ x2 : Int, gI s1 217 11 ≤ x2 → (x2 ≤ gI s1 217 11 ∨ x2 ≤ gI s1 217 10) → gT (fb_171_38 217 w x2 s1) (fun r => r.1 = 1 ∧ (0 ≤ r.2.1 ∧ r.2.1 ≤ 1) ∧ Bm p s r.2.2.2 ∧ (r.2.1 ≠ 0 → gI s 217 11 + 1 ≤ gI r.2.2.2 217 11 ∧ gI r.2.2.2 217 11 ≤ gI s 217 10)) := by
    intro x2 hx2 hx3
    unfold fb_171_38
    refine gT_v1 (A := fun v u => v = gsl w ∧ u = s1) ⟨_, rfl, rfl, hsr, rfl⟩ (fun v9 s8 hA => ?_)
    obtain ⟨rfl, rfl⟩ := hA
    have e1 := g32_eq (v := x2 - gI s8 217 11) (by omega) (by omega)
    refine gT_ite (fun h5 => ?_) (fun _ => gT_ret ⟨rfl, by first | decide | omega | (dsimp only; omega), b, fun e => absurd rfl e⟩)
    refine gT_loop (fun y => y.1 = 217 ∧ y.2.1 = w ∧ y.2.2.1 = x2 ∧ (0 ≤ y.2.2.2.1 ∧ y.2.2.2.1 ≤ gsl w) ∧ y.2.2.2.2 = s8) (fun y => (gsl w - y.2.2.2.1).toNat) (fun y hy => ?_) ⟨rfl, rfl, rfl, by dsimp only; omega, rfl⟩
    obtain ⟨x0, x1, x2', x3, u⟩ := y
    obtain ⟨q0, q1, q2, r3, q3⟩ := hy
    dsimp only at q0 q1 q2 r3 q3
    subst q0 q1 q2 q3
    show gT (sb_171_55 217 x1 x2' x3 u) _
    unfold sb_171_55
    refine gT_v1 (A := fun v z => v = gsl x1 ∧ z = u) ⟨_, rfl, rfl, hsr, rfl⟩ (fun v11 s10 hA => ?_)
    obtain ⟨rfl, rfl⟩ := hA
    refine gT_ite (fun h6 => ?_) (fun _ => gT_map ?_)
    · have e4 := g32_eq (v := gI s10 217 11 + x3) (by omega) (by omega)
      rw [e4]
      refine gT_v1 (A := fun _ z => z = s10) (k_168 b.1 (by omega)) (fun v13 s12 e => ?_)
      subst e
      refine gT_v1 (A := fun _ z => z = s12) (gT_chk (by omega) (by omega) (gT_ret ⟨rfl, rfl⟩)) (fun v15 s14 e => ?_)
      subst e
      have e5 := g32_eq (v := x3 + 1) (by omega) (by omega)
      exact gT_ite (fun _ => gT_ret ⟨⟨rfl, rfl, rfl, by dsimp only; omega, rfl⟩, by dsimp only; omega⟩) (fun _ => gT_map (gT_ret ⟨rfl, by first | decide | omega | (dsimp only; omega), b, fun e => absurd rfl e⟩))
    · extract_lets s16
      have q1 : gI s16 217 11 = x2' := rd_same (show s16 = gw s10 217 11 x2' from rfl)
      have q2 : gI s16 217 12 = gI s10 217 12 := rd_k (a := 217) (k := 12) (show s16 = gw s10 217 11 x2' from rfl) (by decide)
      have c3 := b.2.2.1
      refine gT_ret ⟨rfl, by first | decide | omega | (dsimp only; omega), ⟨J_wf b.1 t12 rfl (by decide) (by decide) (fun q hq => by cases hq; dsimp only; omega), Fm_w b.2.1 (Or.inl rfl), ?_, ?_, ?_⟩, fun _ => ?_⟩
      · show _ ≤ gI s16 217 11
        omega
      · show gI s16 217 11 ≤ _ ∨ gI s16 217 11 ≤ _
        omega
      · show gI s16 217 12 = -1 → _
        rw [q2]
        exact b.2.2.2.2
      · show _ ≤ gI s16 217 11 ∧ gI s16 217 11 ≤ _
        omega
  refine gT_loop (fun y => y.1 = 217 ∧ y.2.1 = w ∧ (gI s1 217 11 ≤ y.2.2.1 ∧ (y.2.2.1 ≤ gI s1 217 11 ∨ y.2.2.1 ≤ gI s1 217 10)) ∧ y.2.2.2 = s1) (fun y => (400 - y.2.2.1).toNat) (fun y hy => ?_) ⟨rfl, rfl, by dsimp only; omega, rfl⟩
  obtain ⟨x0, x1, x2, u⟩ := y
  obtain ⟨q0, q1, q2, q3⟩ := hy
  dsimp only at q0 q1 q2 q3
  subst q0 q1 q3
  show gT (sb_171_9 217 x1 x2 u) _
  unfold sb_171_9
  refine gT_ite (fun hx => ?_) (fun _ => gT_map (hcont _ q2.1 q2.2))
  refine gT_v1 (A := fun _ z => z = u) (k_168 b.1 (by omega)) (fun v4 s3 e => ?_)
  subst e
  refine gT_v1 (A := fun _ z => z = s3) q_150 (fun v6 s5 e => ?_)
  subst e
  have e5 := g32_eq (v := x2 + 1) (by omega) (by omega)
  exact gT_ite (fun _ => gT_map (hcont _ q2.1 q2.2)) (fun _ => gT_ret ⟨⟨rfl, rfl, by dsimp only; omega, rfl⟩, by dsimp only; omega⟩)
theorem k_172 (h : J p s) (hv : 0 ≤ v) : gT (f_172 217 v s) (fun r => r.1 = 0 ∧ Bm p s r.2.2.2 ∧ gI r.2.2.2 217 12 ≠ -1) := by
  unfold f_172
  refine gT_ite (fun h0 => ?_) (fun h0 => gT_ret ⟨rfl, Bm_r h, h0⟩)
  extract_lets s1
  have e1 : gI s1 217 12 = v := rd_same (show s1 = gw s 217 12 v from rfl)
  have e2 : gI s1 217 11 = gI s 217 11 := rd_k (a := 217) (k := 11) (show s1 = gw s 217 12 v from rfl) (by decide)
  refine gT_ret ⟨rfl, ⟨J_wf h t12 rfl (by decide) (by decide) (fun q hq => by cases hq), Fm_w (Fm_r s) (Or.inr rfl), ?_, ?_, fun _ => h0⟩, ?_⟩
  · show _ ≤ gI s1 217 11
    omega
  · show gI s1 217 11 ≤ _ ∨ _
    omega
  · show gI s1 217 12 ≠ -1
    omega
theorem k_173 (h : J p s) : gT (f_173 217 s) (fun r => r.1 = 1 ∧ (r.2.1 = gI r.2.2.2 217 11 ∧ 0 ≤ r.2.1 ∧ r.2.1 ≤ 406) ∧ Bm p s r.2.2.2) := by
  unfold f_173
  refine gT_v0 (A := fun u => Bm p s u) (k_169 h) (fun s1 b => ?_)
  have r1 := J_f (i := 11) b.1 t12 rfl (by decide) rfl
  exact gT_ret ⟨rfl, ⟨rfl, r1⟩, b⟩
theorem k_174 {lo hi : Int} (h : J p s) : gT (f_174 217 lo hi s) (fun r => r.1 = 1 ∧ Bm p s r.2.2.2 ∧ (gI r.2.2.2 217 12 = -1 → lo ≤ r.2.1 ∧ r.2.1 ≤ hi)) := by
  unfold f_174
  refine gT_ite (fun h0 => ?_) (fun h0 => gT_ret ⟨rfl, Bm_r h, fun e => absurd e h0⟩)
  refine gT_v1 (A := fun v u => (v = gI u 217 11 ∧ 0 ≤ v ∧ v ≤ 406) ∧ Bm p s u) (k_173 h) (fun v2 s1 h1 => ?_)
  obtain ⟨r2, b1⟩ := h1
  have hend : ∀ (x4 : Int) (u : gS), Bm p s u → gT (fb_174_89 217 lo hi v2 x4 u) (fun r => r.1 = 1 ∧ Bm p s r.2.2.2 ∧ (gI r.2.2.2 217 12 = -1 → lo ≤ r.2.1 ∧ r.2.1 ≤ hi)) := by
    intro x4 u b
    have hw : gT (fb_174_119 217 v2 x4 u) (fun r => r.1 = 1 ∧ Bm p s r.2.2.2 ∧ (gI r.2.2.2 217 12 = -1 → lo ≤ r.2.1 ∧ r.2.1 ≤ hi)) := by
      unfold fb_174_119
      refine gT_v0 (A := fun z => Bm p u z ∧ gI z 217 12 ≠ -1) (k_172 b.1 r2.2.1) (fun s8 h8 => ?_)
      exact gT_ret ⟨rfl, Bm_t b h8.1, fun e => absurd e h8.2⟩
    unfold fb_174_89
    exact gT_ite (fun _ => hw) (fun _ => gT_ite (fun _ => hw) (fun _ => gT_ite (fun _ => hw) (fun _ => gT_ite (fun _ => hw) (fun _ => gT_ret ⟨rfl, b, fun _ => by dsimp only; omega⟩))))
  refine gT_loop (fun y => y.1 = 217 ∧ y.2.1 = lo ∧ y.2.2.1 = hi ∧ y.2.2.2.1 = v2 ∧ Bm p s y.2.2.2.2.2) (fun y => (400 - gI y.2.2.2.2.2 217 11).toNat) (fun y hy => ?_) ⟨rfl, rfl, rfl, rfl, b1⟩
  obtain ⟨x0, x1, x2, x3, x4, u⟩ := y
  obtain ⟨q0, q1, q2, q3, b⟩ := hy
  dsimp only at q0 q1 q2 q3 b
  subst q0 q1 q2 q3
  have r1 := J_f (i := 11) b.1 t12 rfl (by decide) rfl
  have r10 := J_f (i := 10) b.1 t12 rfl (by decide) rfl
  show gT (sb_174_18 217 x1 x2 x3 x4 u) _
  unfold sb_174_18
  refine gT_ite (fun hx => ?_) (fun _ => gT_map (hend _ _ b))
  refine gT_v1 (A := fun _ z => z = u) (k_168 b.1 (by omega)) (fun v4 s3 e => ?_)
  subst e
  refine gT_v1 (A := fun _ z => z = s3) q_150 (fun v6 s5 e => ?_)
  subst e
  refine gT_ite (fun _ => gT_map (hend _ _ b)) (fun _ => gT_ite (fun _ => gT_map (hend _ _ b)) (fun _ => ?_))
  refine gT_v1 (A := fun _ z => z = s5) (k_168 b.1 (by omega)) (fun v11 s10 e => ?_)
  subst e
  extract_lets v12 s13
  have q := Bm_at b hx
  refine gT_ret ⟨⟨rfl, rfl, rfl, rfl, q.1⟩, ?_⟩
  show (400 - gI (gw s10 217 11 (g32 (gI s10 217 11 + 1))) 217 11).toNat < (400 - gI s10 217 11).toNat
  rw [q.2]
  omega
theorem k_175 {lo hi : Int} (h : J p s) (hw : 1 ≤ gsl w) : gT (f_175 217 w lo hi s) (fun r => r.1 = 1 ∧ Bm p s r.2.2.2 ∧ (gI r.2.2.2 217 12 = -1 → lo ≤ r.2.1 ∧ r.2.1 ≤ hi)) := by
  have hend : ∀ u, Bm p s u → gT (fb_175_24 217 lo hi u) (fun r => r.1 = 1 ∧ Bm p s r.2.2.2 ∧ (gI r.2.2.2 217 12 = -1 → lo ≤ r.2.1 ∧ r.2.1 ≤ hi)) := by
    intro u b
    unfold fb_175_24
    refine gT_v1 (A := fun v z => Bm p u z ∧ (gI z 217 12 = -1 → lo ≤ v ∧ v ≤ hi)) (k_174 b.1) (fun v7 s6 h6 => ?_)
    exact gT_ret ⟨rfl, Bm_t b h6.1, h6.2⟩
  unfold f_175
  refine gT_ite (fun h0 => ?_) (fun h0 => hend _ (Bm_r h))
  refine gT_v1 (A := fun v z => (0 ≤ v ∧ v ≤ 1) ∧ Bm p s z ∧ (v ≠ 0 → gI s 217 11 + 1 ≤ gI z 217 11 ∧ gI z 217 11 ≤ gI s 217 10)) (k_171 h hw) (fun v2 s1 h1 => ?_)
  refine gT_ite (fun _ => ?_) (fun _ => hend _ h1.2.1)
  have r1 := J_f (i := 11) h1.2.1.1 t12 rfl (by decide) rfl
  refine gT_v0 (A := fun z => Bm p s1 z ∧ gI z 217 12 ≠ -1) (k_172 h1.2.1.1 r1.1) (fun s4 h4 => hend _ (Bm_t h1.2.1 h4.1))
theorem k_176 (h : J p s) (hw : 1 ≤ gsl w) : gT (f_176 217 w s) (fun r => r.1 = 1 ∧ Bm p s r.2.2.2) := by
  have hend : ∀ u, Bm p s u → gT (fb_176_24 217 u) (fun r => r.1 = 1 ∧ Bm p s r.2.2.2) := by
    intro u b
    unfold fb_176_24
    refine gT_ite (fun _ => ?_) (fun _ => gT_ret ⟨rfl, b⟩)
    refine gT_v1 (A := fun v z => (v = gI z 217 11 ∧ 0 ≤ v ∧ v ≤ 406) ∧ Bm p u z) (k_173 b.1) (fun v7 s6 h6 => ?_)
    obtain ⟨r2, b6⟩ := h6
    have hfin : ∀ (x3 x4 : Int) (z : gS), Bm p s z → gT (fb_176_145 217 v7 x3 x4 z) (fun r => r.1 = 1 ∧ Bm p s r.2.2.2) := by
      intro x3 x4 z bz
      have hw : gT (fb_176_154 217 v7 x3 z) (fun r => r.1 = 1 ∧ Bm p s r.2.2.2) := by
        unfold fb_176_154
        refine gT_v0 (A := fun y => Bm p z y ∧ gI y 217 12 ≠ -1) (k_172 bz.1 r2.2.1) (fun s8 h8 => ?_)
        exact gT_ret ⟨rfl, Bm_t bz h8.1⟩
      unfold fb_176_145
      exact gT_ite (fun _ => hw) (fun _ => gT_ite (fun _ => hw) (fun _ => gT_ret ⟨rfl, bz⟩))
    refine gT_loop (fun y => y.1 = 217 ∧ y.2.1 = v7 ∧ Bm p s y.2.2.2.2) (fun y => (400 - gI y.2.2.2.2 217 11).toNat) (fun y hy => ?_) ⟨rfl, rfl, Bm_t b b6⟩
    obtain ⟨x0, x2, x3, x4, z⟩ := y
    obtain ⟨q0, q1, bz⟩ := hy
    dsimp only at q0 q1 bz
    subst q0 q1
    have r1 := J_f (i := 11) bz.1 t12 rfl (by decide) rfl
    have r10 := J_f (i := 10) bz.1 t12 rfl (by decide) rfl
    show gT (sb_176_44 217 x2 x3 x4 z) _
    unfold sb_176_44
    refine gT_ite (fun hx => ?_) (fun _ => gT_map (hfin _ _ _ bz))
    refine gT_v1 (A := fun _ y => y = z) (k_168 bz.1 (by omega)) (fun v9 s8 e => ?_)
    subst e
    refine gT_v1 (A := fun _ y => y = s8) q_150 (fun v11 s10 e => ?_)
    subst e
    refine gT_ite (fun _ => gT_map (hfin _ _ _ bz)) (fun _ => ?_)
    refine gT_v1 (A := fun _ y => y = s10) (k_168 bz.1 (by omega)) (fun v16 s15 e => ?_)
    subst e
    have q := Bm_at bz hx
    have h112 : ∀ x5 w0 : Int, gT (fb_176_112 217 x2 x3 x5 w0 s15) (Sum.elim (fun y => (y.1 = 217 ∧ y.2.1 = x2 ∧ Bm p s y.2.2.2.2) ∧ (400 - gI y.2.2.2.2 217 11).toNat < (400 - gI s15 217 11).toNat) (fun r => r.1 = 1 ∧ Bm p s r.2.2.2)) := by
      intro x5 w0
      have h130 : ∀ a b : Int, gT (fb_176_130 217 x2 a b x3 s15) (Sum.elim (fun y => (y.1 = 217 ∧ y.2.1 = x2 ∧ Bm p s y.2.2.2.2) ∧ (400 - gI y.2.2.2.2 217 11).toNat < (400 - gI s15 217 11).toNat) (fun r => r.1 = 1 ∧ Bm p s r.2.2.2)) := by
        intro a b
        unfold fb_176_130
        refine gT_ret ⟨⟨rfl, rfl, q.1⟩, ?_⟩
        show (400 - gI (gw s15 217 11 (g32 (gI s15 217 11 + 1))) 217 11).toNat < (400 - gI s15 217 11).toNat
        rw [q.2]
        omega
      unfold fb_176_112
      exact gT_ite (fun _ => h130 _ _) (fun _ => h130 _ _)
    refine gT_ite (fun _ => h112 _ _) (fun _ => gT_ite (fun _ => ?_) (fun _ => h112 _ _))
    refine gT_v1 (A := fun _ y => y = s15) d153_pure (fun v19 s18 e => ?_)
    subst e
    exact gT_ite (fun _ => h112 _ _) (fun _ => h112 _ _)
  unfold f_176
  refine gT_ite (fun h0 => ?_) (fun h0 => hend _ (Bm_r h))
  refine gT_v1 (A := fun v z => (0 ≤ v ∧ v ≤ 1) ∧ Bm p s z ∧ (v ≠ 0 → gI s 217 11 + 1 ≤ gI z 217 11 ∧ gI z 217 11 ≤ gI s 217 10)) (k_171 h hw) (fun v2 s1 h1 => ?_)
  refine gT_ite (fun _ => ?_) (fun _ => hend _ h1.2.1)
  have r1 := J_f (i := 11) h1.2.1.1 t12 rfl (by decide) rfl
  refine gT_v0 (A := fun z => Bm p s1 z ∧ gI z 217 12 ≠ -1) (k_172 h1.2.1.1 r1.1) (fun s4 h4 => hend _ (Bm_t h1.2.1 h4.1))
end Rm
