section So
variable {p : gP} {s s' : gS} {a0 : Nat}
theorem r_24 (h : J p s) : gR s 217 24 = 230 := J_r h rfl (by decide +kernel) (by decide +kernel)
theorem e_160 {r : Int} (h : J p s) (hr : 0 ≤ r ∧ r ≤ 5) : gT (f_160 217 r 0 s) (fun q => q.1 = 1 ∧ q.2.1 = gI s 218 (88 + 2 * r).toNat ∧ q.2.2.2 = s) := by
  have e1 := g32_eq (v := 2 * r) (by omega) (by omega)
  have e2 := g32_eq (v := 88 + 2 * r) (by omega) (by omega)
  have e3 := g32_eq (v := 88 + 2 * r + 0) (by omega) (by omega)
  unfold f_160
  rw [e1, e2, e3, r_m h t12]
  refine gT_chk (by omega) (by omega) (gT_ret ⟨rfl, ?_, rfl⟩)
  dsimp only
  rw [show 88 + 2 * r + 0 = 88 + 2 * r by omega]
/-- what a rival and those behind it give -/
def gvv (s : gS) (r x men : Int) : Int := if x = -1 then gI s 230 (64 * (r + 1) + men).toNat else g32 (min (gI s 218 (88 + 2 * r).toNat) (g32 (3 * gI s 218 (40 + 6 * x.toNat + (0 : Int).toNat))) + gI s 230 (64 * (r + 1) + gand men (gxor (gshl 1 x) (-1))).toNat)
theorem e_246 {r x men : Int} (h : J p s) (hr : 0 ≤ r ∧ r ≤ 5) (hx : -1 ≤ x ∧ x ≤ 5) (hm : 0 ≤ men ∧ men ≤ 63) : gT (f_246 217 r x men s) (fun q => q.1 = 1 ∧ q.2.1 = gvv s r x men ∧ q.2.2.2 = s) := by
  have e1 := g32_eq (v := r + 1) (by omega) (by omega)
  have e2 := g32_eq (v := 64 * (r + 1)) (by omega) (by omega)
  have e3 := g32_eq (v := 64 * (r + 1) + men) (by omega) (by omega)
  have b := gand_le_l (x := men) (m := gxor (gshl 1 x) (-1)) hm.1 (by omega)
  have e4 := g32_eq (v := 64 * (r + 1) + gand men (gxor (gshl 1 x) (-1))) (by omega) (by omega)
  unfold f_246 gvv
  rw [e1, e2, e3, e4]
  refine gT_ite (fun hc => ?_) (fun hc => ?_)
  · rw [r_24 h, if_pos hc]
    exact gT_chk (by omega) (by omega) (gT_ret ⟨rfl, rfl, rfl⟩)
  · rw [if_neg hc]
    refine gT_v1 (A := fun v u => v = gI s 218 (88 + 2 * r).toNat ∧ u = s) (e_160 h hr) (fun v2 s1 h1 => ?_)
    obtain ⟨q2, q1⟩ := h1
    subst q1
    refine gT_v1 (A := fun v u => v = gI s1 218 (40 + 6 * x.toNat + (0 : Int).toNat) ∧ u = s1) (gT_mono (c_156 h t12 (by omega) (by decide)) (fun q hq => ⟨hq.1, hq.2.2⟩)) (fun v4 s3 h3 => ?_)
    obtain ⟨q4, q3⟩ := h3
    subst q3
    refine gT_v1 (A := fun v u => v = min v2 (g32 (3 * v4)) ∧ u = s3) e_151 (fun v6 s5 h5 => ?_)
    obtain ⟨q6, q5⟩ := h5
    subst q5
    rw [r_24 h]
    refine gT_chk (by omega) (by omega) (gT_ret ⟨rfl, ?_, rfl⟩)
    dsimp only
    rw [q6, q4, q2]
def bt (men x : Int) : Prop := gand (gshr men x) 1 = 1
theorem e_153 {men x : Int} : gT (f_153 men x s) (fun q => q.1 = 1 ∧ ((q.2.1 = 1 ∧ bt men x) ∨ (q.2.1 = 0 ∧ ¬ bt men x)) ∧ q.2.2.2 = s) := by
  unfold f_153
  exact gT_ite (fun hc => gT_ret ⟨rfl, Or.inl ⟨rfl, hc⟩, rfl⟩) (fun hc => gT_ret ⟨rfl, Or.inr ⟨rfl, hc⟩, rfl⟩)
/-- the table is right in the rows behind r0 and, in r0, below m0 -/
def Tab (M n : Int) (s : gS) (r0 m0 : Int) : Prop := ∀ r men : Int, 0 ≤ r → r < n → 0 ≤ men → men < 64 → (r0 < r ∨ (r = r0 ∧ men < m0)) → ∃ x : Int, (x = -1 ∨ ((0 ≤ x ∧ x < M) ∧ bt men x)) ∧ gvv s r x men = gI s 230 (64 * r + men).toNat
/-- what stays -/
def Hs (p : gP) (M n : Int) (s : gS) : Prop := J p s ∧ gI s 218 4 = M ∧ gI s 218 6 = n
theorem gvv_w {r r0 m0 x men v : Int} (hr : r0 ≤ r) (h0 : 0 ≤ r0) (hm0 : 0 ≤ m0 ∧ m0 ≤ 63) (hm : 0 ≤ men ∧ men ≤ 63) : gvv (gw s 230 (64 * r0 + m0).toNat v) r x men = gvv s r x men := by
  have b := gand_le_l (x := men) (m := gxor (gshl 1 x) (-1)) hm.1 (by omega)
  have e1 : ∀ i : Int, 0 ≤ i → gI (gw s 230 (64 * r0 + m0).toNat v) 230 (64 * (r + 1) + i).toNat = gI s 230 (64 * (r + 1) + i).toNat := fun i hi => rd_k (a := 230) (k := (64 * (r + 1) + i).toNat) rfl (by omega)
  have e2 : ∀ k, gI (gw s 230 (64 * r0 + m0).toNat v) 218 k = gI s 218 k := fun k => rd_a rfl (by decide)
  unfold gvv
  rw [e1 men hm.1, e1 _ b.1, e2, e2]
theorem Tab_w {M n r0 m0 v : Int} (h : Tab M n s r0 m0) (h0 : 0 ≤ r0) (hm0 : 0 ≤ m0 ∧ m0 ≤ 63) (hv : r0 < n → ∃ x : Int, (x = -1 ∨ ((0 ≤ x ∧ x < M) ∧ bt m0 x)) ∧ gvv s r0 x m0 = v) : Tab M n (gw s 230 (64 * r0 + m0).toNat v) r0 (m0 + 1) := by
  intro r men h1 h2 h3 h4 h5
  by_cases e : r = r0 ∧ men = m0
  · obtain ⟨rfl, rfl⟩ := e
    obtain ⟨x, hx1, hx2⟩ := hv h2
    refine ⟨x, hx1, ?_⟩
    rw [gvv_w (by omega) h0 hm0 hm0, hx2]
    exact (rd_same rfl).symm
  · obtain ⟨x, hx1, hx2⟩ := h r men h1 h2 h3 h4 (by omega)
    refine ⟨x, hx1, ?_⟩
    rw [gvv_w (by omega) h0 hm0 (by omega), hx2]
    exact (rd_k (a := 230) (k := (64 * r + men).toNat) rfl (by omega)).symm
theorem Hs_w {M n v : Int} {k : Nat} (h : Hs p M n s) : Hs p M n (gw s 230 k v) := by
  refine ⟨?_, (rd_a rfl (by decide)).trans h.2.1, (rd_a rfl (by decide)).trans h.2.2⟩
  have := J_wa (k := k) (v := v) h.1 (T_f (i := 24) h.1 t12 (by decide) rfl rfl) rfl
  rw [r_24 h.1] at this
  exact this
theorem c_252 {v : Int} (h : J p s) : gT (f_252 217 v s) (fun q => q.1 = 1 ∧ (0 ≤ q.2.1 ∧ q.2.1 ≤ 63) ∧ q.2.2.2 = s) := by
  have bm := J_m (k := 4) h h t12 rfl
  unfold f_252
  refine gT_loop (fun y => y.1 = 217 ∧ (0 ≤ y.2.2.1 ∧ y.2.2.1 ≤ 63) ∧ (0 ≤ y.2.2.2.1 ∧ y.2.2.2.1 ≤ 6) ∧ y.2.2.2.2 = s) (fun y => (6 - y.2.2.2.1).toNat) (fun y hy => ?_) ⟨rfl, by dsimp only; omega, by dsimp only; omega, rfl⟩
  obtain ⟨x0, x1, x2, x3, u⟩ := y
  obtain ⟨q0, r2, r3, q1⟩ := hy
  dsimp only at q0 r2 r3 q1
  subst q0 q1
  have g1 := g32_eq (v := x3 + 1) (by omega) (by omega)
  show gT (sb_252_4 217 x1 x2 x3 u) _
  unfold sb_252_4
  refine gT_ite (fun hx => ?_) (fun _ => gT_map (gT_ret ⟨rfl, r2, rfl⟩))
  refine gT_v1 (A := fun _ z => z = u) (gT_mono (c_156 h t12 (by omega) (by decide)) (fun q hq => ⟨hq.1, hq.2.2.2⟩)) (fun v5 s4 e => ?_)
  subst e
  have b1 := gshl_5 (x := x3) (by omega)
  have b2 := gor_lt (x := x2) (y := gshl 1 x3) 6 (by decide) (by constructor <;> omega) (by constructor <;> omega)
  have b3 := gor_lt (x := x2) (y := 0) 6 (by decide) (by constructor <;> omega) (by constructor <;> omega)
  exact gT_ite (fun _ => gT_ret ⟨⟨rfl, by dsimp only; omega, by dsimp only; omega, rfl⟩, by dsimp only; omega⟩) (fun _ => gT_ret ⟨⟨rfl, by dsimp only; omega, by dsimp only; omega, rfl⟩, by dsimp only; omega⟩)
/-- who gets whom -/
theorem c247_b {M n k men : Int} (h : Hs p M n s) (ht : Tab M n s (-1) 0) (hM : 0 ≤ M ∧ M ≤ 6) (hn : 0 ≤ n ∧ n ≤ 6) (hk : 0 ≤ k ∧ k < n) (hm : 0 ≤ men ∧ men ≤ 63) : gT (gloop st_247_175 (217, k, men, -1, 0, s)) (fun q => q.1 = 1 ∧ True ∧ J p q.2.2.2) := by
  refine gT_loop (fun y => y.1 = 217 ∧ y.2.1 = k ∧ (0 ≤ y.2.2.1 ∧ y.2.2.1 ≤ 63) ∧ (0 ≤ y.2.2.2.2.1 ∧ y.2.2.2.2.1 ≤ 6) ∧ y.2.2.2.2.2 = s) (fun y => (6 - y.2.2.2.2.1).toNat) (fun y hy => ?_) ⟨rfl, rfl, hm, by dsimp only; omega, rfl⟩
  obtain ⟨x0, x1, x3, x4, x5, u⟩ := y
  obtain ⟨q0, q1, r3, r5, q2⟩ := hy
  dsimp only at q0 q1 r3 r5 q2
  subst q0 q1 q2
  show gT (sb_247_175 217 x1 x3 x4 x5 u) _
  unfold sb_247_175
  refine gT_ite (fun _ => gT_map (gT_ret ⟨rfl, trivial, h.1⟩)) (fun hx => ?_)
  obtain ⟨X, hX1, hX2⟩ := ht x5 x3 r5.1 (by omega) r3.1 (by omega) (Or.inl (by omega))
  have bX : -1 ≤ X ∧ X ≤ 5 := by
    rcases hX1 with e | ⟨e, -⟩
    · omega
    · omega
  refine gT_loop (fun y => (y.1 = 217 ∧ y.2.1 = x1 ∧ y.2.2.1 = x3 ∧ y.2.2.2.2.1 = x5 ∧ y.2.2.2.2.2 = u) ∧ (-1 ≤ y.2.2.2.1 ∧ y.2.2.2.1 ≤ X)) (fun y => (X - y.2.2.2.1).toNat) (fun y hy => ?_) ⟨⟨rfl, rfl, rfl, rfl, rfl⟩, by dsimp only; omega⟩
  obtain ⟨y0, y1, y3, y4, y5, w⟩ := y
  obtain ⟨⟨q0, q1, q3, q5, q6⟩, r4⟩ := hy
  dsimp only at q0 q1 q3 q5 q6 r4
  subst q0 q1 q3 q5 q6
  have g4 := g32_eq (v := y4 + 1) (by omega) (by omega)
  have g5 := g32_eq (v := y5 + 1) (by omega) (by omega)
  have g6 := g32_eq (v := 64 * y5) (by omega) (by omega)
  have g7 := g32_eq (v := 64 * y5 + y3) (by omega) (by omega)
  have hgo : (y4 = -1 ∨ bt y3 y4) → gT (fb_247_199 217 y1 y3 y4 y5 w) (Sum.elim (fun y => ((y.1 = 217 ∧ y.2.1 = y1 ∧ y.2.2.1 = y3 ∧ y.2.2.2.2.1 = y5 ∧ y.2.2.2.2.2 = w) ∧ (-1 ≤ y.2.2.2.1 ∧ y.2.2.2.1 ≤ X)) ∧ (X - y.2.2.2.1).toNat < (X - y4).toNat) (Sum.elim (fun y => (y.1 = 217 ∧ y.2.1 = y1 ∧ (0 ≤ y.2.2.1 ∧ y.2.2.1 ≤ 63) ∧ (0 ≤ y.2.2.2.2.1 ∧ y.2.2.2.2.1 ≤ 6) ∧ y.2.2.2.2.2 = w) ∧ (6 - y.2.2.2.2.1).toNat < (6 - y5).toNat) (fun q => q.1 = 1 ∧ True ∧ J p q.2.2.2))) := by
    intro hy4
    unfold fb_247_199
    rw [g6, g7, g5, g4]
    refine gT_v1 (A := fun v z => v = gvv w y5 y4 y3 ∧ z = w) (e_246 h.1 (by omega) (by omega) (by omega)) (fun v6 s5 h5 => ?_)
    obtain ⟨e6, e5⟩ := h5
    subst e5
    rw [r_24 h.1]
    refine gT_chk (by omega) (by omega) ?_
    refine gT_ite (fun hv => gT_map ?_) (fun hv => ?_)
    · have b1 := gand_le (x := y3) (m := 63) (by decide) (by decide)
      have b2 := gand_le_l (x := y3) (m := gxor (gshl 1 y4) (-1)) r3.1 (by omega)
      exact gT_ite (fun _ => gT_ret ⟨⟨rfl, rfl, by dsimp only; omega, by dsimp only; omega, rfl⟩, by dsimp only; omega⟩) (fun _ => gT_ret ⟨⟨rfl, rfl, by dsimp only; omega, by dsimp only; omega, rfl⟩, by dsimp only; omega⟩)
    · have hlt : y4 < X := by
        by_cases e : y4 = X
        · exfalso
          apply hv
          rw [e6, e]
          exact hX2
        · omega
      exact gT_ret ⟨⟨⟨rfl, rfl, rfl, rfl, rfl⟩, by dsimp only; omega⟩, by dsimp only; omega⟩
  show gT (sb_247_184 217 y1 y3 y4 y5 w) _
  unfold sb_247_184
  refine gT_ite (fun h1 => hgo (Or.inl h1)) (fun h1 => ?_)
  refine gT_v1 (A := fun v z => ((v = 1 ∧ bt y3 y4) ∨ (v = 0 ∧ ¬ bt y3 y4)) ∧ z = w) e_153 (fun v9 s8 h8 => ?_)
  obtain ⟨r9, e8⟩ := h8
  subst e8
  refine gT_ite (fun h0 => ?_) (fun h0 => hgo (Or.inr ?_))
  · have hnb : ¬ bt y3 y4 := by
      rcases r9 with ⟨e, -⟩ | ⟨-, e⟩
      · omega
      · exact e
    have hlt : y4 < X := by
      by_cases e : y4 = X
      · exfalso
        rcases hX1 with e1 | ⟨-, e1⟩
        · omega
        · rw [e] at hnb; exact hnb e1
      · omega
    rw [g4]
    exact gT_ret ⟨⟨⟨rfl, rfl, rfl, rfl, rfl⟩, by dsimp only; omega⟩, by dsimp only; omega⟩
  · rcases r9 with ⟨-, e⟩ | ⟨e, -⟩
    · exact e
    · omega
/-- a cell of the table -/
theorem c247_r {M y1 y2 y3 y4 b : Int} {w : gS} (hw : Hs p M y2 w) (hM : 0 ≤ M ∧ M ≤ 6) (hn : 0 ≤ y2 ∧ y2 ≤ 6) (r3 : 0 ≤ y3 ∧ y3 ≤ y2) (r4 : 0 ≤ y4 ∧ y4 ≤ 63) (hb : y3 < y2 → gvv w y3 (-1) y4 = b) : gT (gloop st_247_77 (217, y1, y2, y3, y4, b, 0, w)) (fun q => ∃ b', q = Sum.inl (217, y1, y2, y3, y4 + 1, gw w 230 (64 * y3 + y4).toNat b') ∧ (y3 < y2 → ∃ x : Int, (x = -1 ∨ ((0 ≤ x ∧ x < M) ∧ bt y4 x)) ∧ gvv w y3 x y4 = b')) := by
  have g4 := g32_eq (v := y4 + 1) (by omega) (by omega)
  have g6 := g32_eq (v := 64 * y3) (by omega) (by omega)
  have g7 := g32_eq (v := 64 * y3 + y4) (by omega) (by omega)
  have hwr : ∀ (b : Int), (y3 < y2 → ∃ x : Int, (x = -1 ∨ ((0 ≤ x ∧ x < M) ∧ bt y4 x)) ∧ gvv w y3 x y4 = b) → gT (fb_247_125 217 y1 y2 y3 y4 b w) (fun q => ∃ b', q = Sum.inl (217, y1, y2, y3, y4 + 1, gw w 230 (64 * y3 + y4).toNat b') ∧ (y3 < y2 → ∃ x : Int, (x = -1 ∨ ((0 ≤ x ∧ x < M) ∧ bt y4 x)) ∧ gvv w y3 x y4 = b')) := by
    intro b hb
    unfold fb_247_125
    rw [g6, g7, g4, r_24 hw.1]
    exact gT_chk (by omega) (by omega) (gT_ret ⟨b, rfl, hb⟩)
  refine gT_loop (fun y => (y.1 = 217 ∧ y.2.1 = y1 ∧ y.2.2.1 = y2 ∧ y.2.2.2.1 = y3 ∧ y.2.2.2.2.1 = y4 ∧ y.2.2.2.2.2.2.2 = w) ∧ (0 ≤ y.2.2.2.2.2.2.1 ∧ y.2.2.2.2.2.2.1 ≤ 6) ∧ (y3 < y2 → ∃ x : Int, (x = -1 ∨ ((0 ≤ x ∧ x < M) ∧ bt y4 x)) ∧ gvv w y3 x y4 = y.2.2.2.2.2.1)) (fun y => (6 - y.2.2.2.2.2.2.1).toNat) (fun y hy => ?_) ⟨⟨rfl, rfl, rfl, rfl, rfl, rfl⟩, by dsimp only; omega, fun e => ⟨-1, Or.inl rfl, hb e⟩⟩
  obtain ⟨z0, z1, z2, z3, z4, z5, z6, o⟩ := y
  obtain ⟨⟨q0, q1, q2, q3, q4, q5⟩, r6, hex⟩ := hy
  dsimp only at q0 q1 q2 q3 q4 q5 r6 hex
  subst q0 q1 q2 q3 q4 q5
  have g8 := g32_eq (v := z6 + 1) (by omega) (by omega)
  show gT (sb_247_77 217 z1 z2 z3 z4 z5 z6 o) _
  unfold sb_247_77
  rw [r_m hw.1 t12, hw.2.1]
  refine gT_ite (fun h6 => ?_) (fun _ => gT_map (hwr _ hex))
  refine gT_ite (fun h3 => ?_) (fun _ => gT_map (hwr _ hex))
  refine gT_v1 (A := fun v u => ((v = 1 ∧ bt z4 z6) ∨ (v = 0 ∧ ¬ bt z4 z6)) ∧ u = o) e_153 (fun v12 s11 h11 => ?_)
  obtain ⟨r12, e11⟩ := h11
  subst e11
  refine gT_ite (fun _ => gT_ret ⟨⟨⟨rfl, rfl, rfl, rfl, rfl, rfl⟩, by dsimp only; omega, hex⟩, by dsimp only; omega⟩) (fun hn => ?_)
  refine gT_v1 (A := fun v u => v = gvv s11 z3 z6 z4 ∧ u = s11) (e_246 hw.1 (by omega) (by omega) (by omega)) (fun v15 s14 h14 => ?_)
  obtain ⟨e15, e14⟩ := h14
  subst e14
  refine gT_v1 (A := fun v u => v = max z5 v15 ∧ u = s14) e_152 (fun v17 s16 h16 => ?_)
  obtain ⟨e17, e16⟩ := h16
  subst e16
  have hbt : bt z4 z6 := by
    rcases r12 with ⟨-, e⟩ | ⟨e, -⟩
    · exact e
    · omega
  refine gT_ret ⟨⟨⟨rfl, rfl, rfl, rfl, rfl, rfl⟩, by dsimp only; omega, fun e => ?_⟩, by dsimp only; omega⟩
  dsimp only
  by_cases hc : z5 ≤ v15
  · exact ⟨z6, Or.inr ⟨⟨r6.1, h6⟩, hbt⟩, by rw [e17, Int.max_eq_right hc, e15]⟩
  · obtain ⟨x, hx1, hx2⟩ := hex e
    exact ⟨x, hx1, by rw [e17, Int.max_eq_left (Int.le_of_lt (Int.not_le.mp hc)), hx2]⟩
/-- a row of the table -/
theorem c247_q {M x1 x2 x3 : Int} {u : gS} (hu : Hs p M x2 u) (tu : Tab M x2 u x3 0) (hM : 0 ≤ M ∧ M ≤ 6) (hn : 0 ≤ x2 ∧ x2 ≤ 6) (r3 : 0 ≤ x3 ∧ x3 ≤ x2) : gT (gloop st_247_48 (217, x1, x2, x3, 0, u)) (fun q => ∃ s', q = Sum.inl (217, x1, x2, x3 - 1, s') ∧ Hs p M x2 s' ∧ Tab M x2 s' (x3 - 1) 0) := by
  refine gT_loop (fun y => (y.1 = 217 ∧ y.2.1 = x1 ∧ y.2.2.1 = x2 ∧ y.2.2.2.1 = x3) ∧ (0 ≤ y.2.2.2.2.1 ∧ y.2.2.2.2.1 ≤ 64) ∧ Hs p M x2 y.2.2.2.2.2 ∧ Tab M x2 y.2.2.2.2.2 x3 y.2.2.2.2.1) (fun y => (64 - y.2.2.2.2.1).toNat) ?_ ?_
  rotate_left
  · dsimp only
    exact ⟨⟨rfl, rfl, rfl, rfl⟩, by decide, hu, tu⟩
  intro y hy
  obtain ⟨y0, y1, y2, y3, y4, w⟩ := y
  obtain ⟨⟨q0, q1, q2, q3⟩, r4, hw, tw⟩ := hy
  dsimp only at q0 q1 q2 q3 r4 hw tw
  subst q0 q1 q2 q3
  have g3 := g32_eq (v := y3 + -1) (by omega) (by omega)
  have hrow : ∀ b : Int, y4 < 64 → (y3 < y2 → gvv w y3 (-1) y4 = b) → gT (fb_247_72 217 y1 y2 y3 y4 b w) (Sum.elim (fun y => ((y.1 = 217 ∧ y.2.1 = y1 ∧ y.2.2.1 = y2 ∧ y.2.2.2.1 = y3) ∧ (0 ≤ y.2.2.2.2.1 ∧ y.2.2.2.2.1 ≤ 64) ∧ Hs p M y2 y.2.2.2.2.2 ∧ Tab M y2 y.2.2.2.2.2 y3 y.2.2.2.2.1) ∧ (64 - y.2.2.2.2.1).toNat < (64 - y4).toNat) (fun q => ∃ s', q = Sum.inl (217, y1, y2, y3 - 1, s') ∧ Hs p M y2 s' ∧ Tab M y2 s' (y3 - 1) 0)) := by
    intro b h64 hb
    unfold fb_247_72
    refine gT_mono (c247_r hw hM hn r3 (by omega) hb) (fun q hq => ?_)
    obtain ⟨b', rfl, hb'⟩ := hq
    exact ⟨⟨⟨rfl, rfl, rfl, rfl⟩, by dsimp only; omega, Hs_w hw, Tab_w tw (by omega) (by omega) hb'⟩, by dsimp only; omega⟩
  show gT (sb_247_48 217 y1 y2 y3 y4 w) _
  unfold sb_247_48
  refine gT_ite (fun h64 => ?_) (fun h64 => gT_map ?_)
  · refine gT_ite (fun he => hrow _ h64 (fun e => by omega)) (fun he => ?_)
    refine gT_v1 (A := fun v u => v = gvv w y3 (-1) y4 ∧ u = w) (e_246 hw.1 (by omega) (by decide) (by omega)) (fun v20 s19 h19 => ?_)
    obtain ⟨e20, e19⟩ := h19
    subst e19
    exact hrow _ h64 (fun _ => e20.symm)
  · refine gT_ret ⟨w, ?_, hw, fun r men h1 h2 h3 h4 h5 => tw r men h1 h2 h3 h4 (by omega)⟩
    rw [g3]
    rfl
theorem c247_a {M n k : Int} (h : Hs p M n s) (hM : 0 ≤ M ∧ M ≤ 6) (hn : 0 ≤ n ∧ n ≤ 6) (hk : k = -1 ∨ (0 ≤ k ∧ k < n)) : gT (gloop st_247_41 (217, k, n, n, s)) (fun q => q.1 = 1 ∧ True ∧ J p q.2.2.2) := by
  refine gT_loop (fun y => (y.1 = 217 ∧ y.2.1 = k ∧ y.2.2.1 = n) ∧ (-1 ≤ y.2.2.2.1 ∧ y.2.2.2.1 ≤ n) ∧ Hs p M n y.2.2.2.2 ∧ Tab M n y.2.2.2.2 y.2.2.2.1 0) (fun y => (y.2.2.2.1 + 1).toNat) (fun y hy => ?_) ⟨⟨rfl, rfl, rfl⟩, by dsimp only; omega, h, fun r men h1 h2 h3 h4 h5 => by dsimp only at h5; omega⟩
  obtain ⟨x0, x1, x2, x3, u⟩ := y
  obtain ⟨⟨q0, q1, q2⟩, r3, hu, tu⟩ := hy
  dsimp only at q0 q1 q2 r3 hu tu
  subst q0 q1 q2
  show gT (sb_247_41 217 x1 x2 x3 u) _
  unfold sb_247_41
  refine gT_ite (fun hx => gT_map ?_) (fun hx => ?_)
  · refine gT_v1 (A := fun v z => (0 ≤ v ∧ v ≤ 63) ∧ z = u) (c_252 hu.1) (fun v4 s3 h3 => ?_)
    obtain ⟨r4, e3⟩ := h3
    subst e3
    have e : x3 = -1 := by omega
    subst e
    refine gT_ite (fun _ => ?_) (fun hk1 => c247_b hu tu hM hn (by omega) r4)
    exact gT_chk (by omega) (by omega) (gT_ret ⟨rfl, trivial, hu.1⟩)
  · refine gT_mono (c247_q hu tu hM hn (by omega)) (fun q hq => ?_)
    obtain ⟨s', rfl, hs', ts'⟩ := hq
    exact ⟨⟨⟨rfl, rfl, rfl⟩, by dsimp only; omega, hs', ts'⟩, by dsimp only; omega⟩
theorem d_247 {a1 : Int} (hp : -1 ≤ p.1 ∧ p.1 ≤ 0) (h : J p s) (t0 : T 12 a0) : gT (f_247 a0 a1 s) (fun r => r.1 = 1 ∧ True ∧ J p r.2.2.2) := by
  rw [T_12 t0]
  have hth : ∀ (w : Int) (z : gS), (0 < w ∨ (w = 0 ∧ (a1 = -1 ∨ (0 ≤ a1 ∧ a1 < gI z 218 6)))) → J p z → gT (fb_247_19 217 a1 w 217 z) (fun r => r.1 = 1 ∧ True ∧ J p r.2.2.2) := by
    intro w z hw jz
    unfold fb_247_19
    extract_lets s1 v2
    have j1 : J p s1 := J_wf jz t12 rfl (by decide) (by decide) (fun q hq => by cases hq)
    have e1 : gI s1 217 0 = w := rd_same (show s1 = gw z 217 0 w from rfl)
    have e6 : gI s1 218 6 = gI z 218 6 := rd_a (show s1 = gw z 217 0 w from rfl) (by decide)
    refine gT_ite (fun _ => gT_ret ⟨rfl, trivial, j1⟩) (fun hn => ?_)
    have b6 := m_rd (k := 6) j1 rfl
    have b4 := m_rd (k := 4) j1 rfl
    have ev : v2 = gI s1 218 6 := by
      show gI s1 (gR s1 217 1) 6 = _
      rw [r_m j1 t12]
    rw [ev]
    exact c247_a (M := gI s1 218 4) ⟨j1, rfl, rfl⟩ (by omega) (by omega) (by omega)
  unfold f_247
  refine gT_ite (fun hk => hth _ _ (Or.inr ⟨rfl, Or.inl hk⟩) h) (fun hk => ?_)
  have b6 := m_rd (k := 6) h rfl
  refine gT_v1 (A := fun v u => ((v = 1 ∧ 0 ≤ a1 ∧ a1 ≤ gI s 218 6 - 1) ∨ (v = 0 ∧ (a1 < 0 ∨ gI s 218 6 - 1 < a1))) ∧ u = s) ?_ (fun v22 s21 h21 => ?_)
  · unfold f_164
    rw [r_m h t12, g32_eq (v := gI s 218 6 - 1) (by omega) (by omega)]
    refine gT_v1 (A := fun v u => ((v = 1 ∧ 0 ≤ a1 ∧ a1 ≤ gI s 218 6 - 1) ∨ (v = 0 ∧ (a1 < 0 ∨ gI s 218 6 - 1 < a1))) ∧ u = s) e_150 (fun v u hu => gT_ret ⟨rfl, hu⟩)
  obtain ⟨r22, e21⟩ := h21
  subst e21
  exact gT_ite (fun _ => hth _ _ (Or.inl (by decide)) h) (fun _ => hth _ _ (Or.inr ⟨rfl, Or.inr (by omega)⟩) h)
end So
