section Ac
variable {p : gP} {s s2 : gS} {a a0 f k : Nat} {v : Int}
theorem k0_pl : k0 29 = 340 ∧ k0 31 = 340 ∧ k0 32 = 340 ∧ k0 224 = 340 ∧ k0 225 = 340 ∧ k0 226 = 340 ∧ k0 227 = 340 := by decide +kernel
theorem J_wpl (h : J p s) (h2 : J p s2) (t : T 9 a) (hf : f = 3 ∨ f = 5 ∨ f = 6) : J p (gw s (gR s2 a f) k v) := by
  rw [T_9 t]
  have e := k0_pl
  rcases hf with rfl | rfl | rfl
  · rw [J_r (r := 29) h2 rfl (by decide +kernel) (by decide +kernel)]
    exact J_wb h (by omega) (fun q hq => by cases hq)
  · rw [J_r (r := 31) h2 rfl (by decide +kernel) (by decide +kernel)]
    exact J_wb h (by omega) (fun q hq => by cases hq)
  · rw [J_r (r := 32) h2 rfl (by decide +kernel) (by decide +kernel)]
    exact J_wb h (by omega) (fun q hq => by cases hq)
theorem J_wmo (h : J p s) (h2 : J p s2) (t : T 12 a) (hf : f = 18 ∨ f = 19 ∨ f = 20 ∨ f = 21) : J p (gw s (gR s2 a f) k v) := by
  rw [T_12 t]
  have e := k0_pl
  rcases hf with rfl | rfl | rfl | rfl
  · rw [J_r (r := 224) h2 rfl (by decide +kernel) (by decide +kernel)]
    exact J_wb h (by omega) (fun q hq => by cases hq)
  · rw [J_r (r := 225) h2 rfl (by decide +kernel) (by decide +kernel)]
    exact J_wb h (by omega) (fun q hq => by cases hq)
  · rw [J_r (r := 226) h2 rfl (by decide +kernel) (by decide +kernel)]
    exact J_wb h (by omega) (fun q hq => by cases hq)
  · rw [J_r (r := 227) h2 rfl (by decide +kernel) (by decide +kernel)]
    exact J_wb h (by omega) (fun q hq => by cases hq)
theorem r_ac (h : J p s) : gR s 217 5 = 221 := J_r h rfl (by decide +kernel) (by decide +kernel)
theorem c209_b {s0 : gS} (h : J p s) (h6 : gI s 217 6 ≤ 11) (hm : ∀ k, gI s 218 k = gI s0 218 k) : gT (fb_209_50 217 s) (fun r => r.1 = 0 ∧ J p r.2.2.2 ∧ ∀ k, gI r.2.2.2 218 k = gI s0 218 k) := by
  unfold fb_209_50
  refine gT_loop (fun y => y.1 = 217 ∧ (0 ≤ y.2.1 ∧ y.2.1 ≤ 340) ∧ J p y.2.2 ∧ gI y.2.2 217 6 ≤ 11 ∧ ∀ k, gI y.2.2 218 k = gI s0 218 k) (fun y => (340 - y.2.1).toNat) (fun y hy => ?_) ⟨rfl, by dsimp only; omega, h, h6, hm⟩
  obtain ⟨x0, x1, z⟩ := y
  obtain ⟨q0, r1, h, h6, hm⟩ := hy
  dsimp only at q0 r1 h h6 hm
  subst q0
  have r6 := J_f (i := 6) h t12 rfl (by decide) rfl
  have g1 := g32_eq (v := 340 * gI z 217 6) (by omega) (by omega)
  have g2 := g32_eq (v := 340 * gI z 217 6 + x1) (by omega) (by omega)
  have g3 := g32_eq (v := x1 + 1) (by omega) (by omega)
  show gT (sb_209_52 217 x1 z) _
  unfold sb_209_52
  rw [g1, g2, g3]
  refine gT_ite (fun hx => ?_) (fun _ => gT_map ?_)
  · refine gT_chk (by omega) (by omega) (gT_chk (by omega) (by omega) ?_)
    extract_lets s3
    have j3 : J p s3 := J_cpm h h h h t12 t12 (by decide) (by decide) (show (340 * gI z 217 6 + x1).toNat % 340 = x1.toNat by omega)
    have e3 : s3 = gw z 221 (340 * gI z 217 6 + x1).toNat (gI z (gR z 217 1) x1.toNat) := by
      show gw z (gR z 217 5) _ _ = _
      rw [r_ac h]
    have e6 : gI s3 217 6 = gI z 217 6 := rd_a e3 (by decide)
    exact gT_ret ⟨⟨rfl, by dsimp only; omega, j3, by dsimp only; omega, fun k => (rd_a e3 (by decide)).trans (hm k)⟩, by dsimp only; omega⟩
  · extract_lets s4
    have g4 := g32_eq (v := gI z 217 6 + 1) (by omega) (by omega)
    have j4 : J p s4 := J_wf h t12 rfl (by decide) (by decide) (fun q hq => by cases hq; dsimp only; omega)
    exact gT_ret ⟨rfl, j4, fun k => (rd_a (show s4 = gw z 217 6 (g32 (gI z 217 6 + 1)) from rfl) (by decide)).trans (hm k)⟩
theorem c_209 (h : J p s) : gT (f_209 217 s) (fun r => r.1 = 0 ∧ J p r.2.2.2 ∧ ∀ k, gI r.2.2.2 218 k = gI s 218 k) := by
  have r6 := J_f (i := 6) h t12 rfl (by decide) rfl
  unfold f_209
  refine gT_ite (fun h12 => ?_) (fun _ => c209_b h (by omega) (fun _ => rfl))
  refine gT_loop (fun y => y.1 = 217 ∧ (0 ≤ y.2.1 ∧ y.2.1 ≤ 3740) ∧ J p y.2.2 ∧ gI y.2.2 217 6 = 12 ∧ ∀ k, gI y.2.2 218 k = gI s 218 k) (fun y => (3740 - y.2.1).toNat) (fun y hy => ?_) ⟨rfl, by dsimp only; omega, h, h12, fun _ => rfl⟩
  obtain ⟨x0, x1, z⟩ := y
  obtain ⟨q0, r1, h, h12, hm⟩ := hy
  dsimp only at q0 r1 h h12 hm
  subst q0
  have r6 := J_f (i := 6) h t12 rfl (by decide) rfl
  have g2 := g32_eq (v := x1 + 340) (by omega) (by omega)
  have g3 := g32_eq (v := x1 + 1) (by omega) (by omega)
  show gT (sb_209_11 217 x1 z) _
  unfold sb_209_11
  rw [g2, g3]
  refine gT_ite (fun hx => ?_) (fun _ => gT_map ?_)
  · refine gT_chk (by omega) (by omega) (gT_chk (by omega) (by omega) ?_)
    extract_lets s3
    have j3 : J p s3 := J_cpm h h h h t12 t12 (by decide) (by decide) (show x1.toNat % 340 = (x1 + 340).toNat % 340 by omega)
    have e3 : s3 = gw z 221 x1.toNat (gI z (gR z 217 5) (x1 + 340).toNat) := by
      show gw z (gR z 217 5) _ _ = _
      rw [r_ac h]
    exact gT_ret ⟨⟨rfl, by dsimp only; omega, j3, (rd_a e3 (by decide)).trans h12, fun k => (rd_a e3 (by decide)).trans (hm k)⟩, by dsimp only; omega⟩
  · extract_lets s2
    have g4 := g32_eq (v := gI z 217 6 - 1) (by omega) (by omega)
    have j2 : J p s2 := J_wf h t12 rfl (by decide) (by decide) (fun q hq => by cases hq; dsimp only; omega)
    have e2 : gI s2 217 6 = g32 (gI z 217 6 - 1) := rd_same (show s2 = gw z 217 6 (g32 (gI z 217 6 - 1)) from rfl)
    exact c209_b j2 (by omega) (fun k => (rd_a (show s2 = gw z 217 6 (g32 (gI z 217 6 - 1)) from rfl) (by decide)).trans (hm k))
theorem d_209 (_hp : -1 ≤ p.1 ∧ p.1 ≤ 0) (h : J p s) (t0 : T 12 a0) : gT (f_209 a0 s) (fun r => r.1 = 0 ∧ J p r.2.2.2) := by
  rw [T_12 t0]
  exact gT_mono (c_209 h) (fun _ hr => ⟨hr.1, hr.2.1⟩)
theorem d_260 (_hp : -1 ≤ p.1 ∧ p.1 ≤ 0) (h : J p s) (t0 : T 12 a0) : gT (f_260 a0 s) (fun r => r.1 = 1 ∧ (0 ≤ r.2.1 ∧ r.2.1 ≤ 1) ∧ J p r.2.2.2) := by
  rw [T_12 t0]
  unfold f_260
  extract_lets s1 s2
  have j1 : J p s1 := J_wf h t12 rfl (by decide) (by decide) (fun q hq => by cases hq)
  have r6 := J_f (i := 6) j1 t12 rfl (by decide) rfl
  refine gT_ite (fun _ => gT_ret ⟨rfl, by dsimp only; omega, j1⟩) (fun hn => ?_)
  have g4 := g32_eq (v := gI s1 217 6 - 1) (by omega) (by omega)
  have j2 : J p s2 := J_wf j1 t12 rfl (by decide) (by decide) (fun q hq => by cases hq; dsimp only; omega)
  have e2 : gI s2 217 6 = g32 (gI s1 217 6 - 1) := rd_same (show s2 = gw s1 217 6 (g32 (gI s1 217 6 - 1)) from rfl)
  refine gT_loop (fun y => y.1 = 217 ∧ (0 ≤ y.2.1 ∧ y.2.1 ≤ 340) ∧ J p y.2.2 ∧ gI y.2.2 217 6 ≤ 11) (fun y => (340 - y.2.1).toNat) (fun y hy => ?_) ⟨rfl, by dsimp only; omega, j2, by dsimp only; omega⟩
  obtain ⟨x0, x1, z⟩ := y
  obtain ⟨q0, r1, h, h6⟩ := hy
  dsimp only at q0 r1 h h6
  subst q0
  have r6 := J_f (i := 6) h t12 rfl (by decide) rfl
  have g1 := g32_eq (v := 340 * gI z 217 6) (by omega) (by omega)
  have g2 := g32_eq (v := 340 * gI z 217 6 + x1) (by omega) (by omega)
  have g3 := g32_eq (v := x1 + 1) (by omega) (by omega)
  show gT (sb_260_26 217 x1 z) _
  unfold sb_260_26
  rw [g1, g2, g3]
  refine gT_ite (fun hx => ?_) (fun _ => gT_map (gT_ret ⟨rfl, by dsimp only; omega, h⟩))
  refine gT_chk (by omega) (by omega) (gT_chk (by omega) (by omega) ?_)
  extract_lets s3
  have j3 : J p s3 := J_cpm h h h h t12 t12 (by decide) (by decide) (show x1.toNat = (340 * gI z 217 6 + x1).toNat % 340 by omega)
  have e3 : s3 = gw z 218 x1.toNat (gI z (gR z 217 5) (340 * gI z 217 6 + x1).toNat) := by
    show gw z (gR z 217 1) _ _ = _
    rw [r_m h t12]
  have e6 : gI s3 217 6 = gI z 217 6 := rd_a e3 (by decide)
  exact gT_ret ⟨⟨rfl, by dsimp only; omega, j3, by dsimp only; omega⟩, by dsimp only; omega⟩
end Ac
