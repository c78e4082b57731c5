section Tape
variable {p : Int} {s : gS} {x0 a0 : Nat}
theorem d78_a {x4 x5 : Int} (t : T 10 x0) (h : J0 p s) (h3 : gI s x0 3 ≤ 399) : gT (gloop st_78_174 (x0, x4, x5, s)) (fun r => r.1 = 0 ∧ J p r.2.2.2) := by
  refine gT_loop (fun y => T 10 y.1 ∧ J0 p y.2.2.2 ∧ gI y.2.2.2 y.1 3 ≤ 399) (fun y => (400 - gI y.2.2.2 y.1 4).toNat) (fun y hy => ?_) ⟨t, h, h3⟩
  obtain ⟨x0, x4, x5, s⟩ := y
  obtain ⟨t, h, h3⟩ := hy
  dsimp only at t h h3
  have hend : J p s := ⟨h, Or.inr (by have e := (k0_one x0 t.1).2.1 t.2; rw [e] at h3; exact h3)⟩
  have r4 := J0_f (i := 4) h t rfl (by decide) rfl
  have r1 := J0_f (i := 1) h t rfl (by decide) rfl
  show gT (sb_78_174 x0 x4 x5 s) _
  unfold sb_78_174
  refine gT_ite (fun _ => gT_map (gT_ret ⟨rfl, hend⟩)) (fun _ => ?_)
  refine gT_ite (fun h5 => ?_) (fun _ => gT_map (gT_ret ⟨rfl, hend⟩))
  refine gT_chk (by omega) (by omega) ?_
  refine gT_ite (fun _ => gT_map (gT_ret ⟨rfl, hend⟩)) (fun _ => ?_)
  refine gT_chk (by omega) (by omega) ?_
  refine gT_ite (fun _ => gT_map (gT_ret ⟨rfl, hend⟩)) (fun _ => ?_)
  extract_lets s7
  have e1 := g32_eq (v := gI s x0 4 + 1) (by omega) (by omega)
  have e2 : gI s7 x0 4 = g32 (gI s x0 4 + 1) := rd_same (show s7 = gw s x0 4 (g32 (gI s x0 4 + 1)) from rfl)
  have e3 : gI s7 x0 3 = gI s x0 3 := rd_k (a := x0) (k := 3) (show s7 = gw s x0 4 (g32 (gI s x0 4 + 1)) from rfl) (by decide)
  refine gT_ret ⟨⟨t, J0_wf h t rfl (by decide) (fun q hq => by cases hq; dsimp only; omega), ?_⟩, ?_⟩
  · show gI s7 x0 3 ≤ 399
    omega
  · show (400 - gI s7 x0 4).toNat < (400 - gI s x0 4).toNat
    omega
theorem d78_b {x2 w0 : Int} (t : T 10 x0) (h : J0 p s) (h3 : gI s x0 3 ≤ 399) (h4 : gI s x0 4 ≤ 399) : gT (fb_78_135 x0 x2 w0 x0 s) (fun r => r.1 = 0 ∧ J p r.2.2.2) := by
  unfold fb_78_135
  extract_lets s5 s6
  have r4 := J0_f (i := 4) h t rfl (by decide) rfl
  have a1 : gI s5 x0 4 = gI s x0 4 := rd_k (a := x0) (k := 4) (show s5 = gw s x0 2 w0 from rfl) (by decide)
  have a2 : gI s5 x0 3 = gI s x0 3 := rd_k (a := x0) (k := 3) (show s5 = gw s x0 2 w0 from rfl) (by decide)
  have e1 := g32_eq (v := gI s5 x0 4 + 1) (by omega) (by omega)
  have h5 : J0 p s5 := J0_wf h t rfl (by decide) (fun q hq => by cases hq)
  have h6 : J0 p s6 := J0_wf h5 t rfl (by decide) (fun q hq => by cases hq; dsimp only; omega)
  have a3 : gI s6 x0 3 = gI s5 x0 3 := rd_k (a := x0) (k := 3) (show s6 = gw s5 x0 4 (g32 (gI s5 x0 4 + 1)) from rfl) (by decide)
  refine gT_ite (fun _ => ?_) (fun _ => ?_)
  · unfold fb_78_159
    refine gT_ite (fun _ => ?_) (fun _ => ?_)
    · exact d78_a t h6 (by omega)
    · exact d78_a t h6 (by omega)
  · unfold fb_78_159
    refine gT_ite (fun _ => ?_) (fun _ => ?_)
    · exact d78_a t h6 (by omega)
    · exact d78_a t h6 (by omega)
theorem d78_c {x2 w0 : Int} (t : T 10 x0) (h : J0 p s) (h3 : gI s x0 3 ≤ 399) (h4 : gI s x0 4 ≤ 399) : gT (fb_78_116 x0 x2 w0 s) (fun r => r.1 = 0 ∧ J p r.2.2.2) := by
  unfold fb_78_116
  refine gT_ite (fun _ => ?_) (fun _ => d78_b t h h3 h4)
  refine gT_ite (fun _ => d78_b t h h3 h4) (fun _ => d78_b t h h3 h4)
theorem d78_d {x1 w0 : Int} (t : T 10 x0) (h : J0 p s) (h3 : gI s x0 3 ≤ 399) (h4 : gI s x0 4 ≤ 399) : gT (fb_78_98 x0 x1 w0 s) (fun r => r.1 = 0 ∧ J p r.2.2.2) := by
  unfold fb_78_98
  refine gT_ite (fun _ => d78_c t h h3 h4) (fun _ => ?_)
  refine gT_ite (fun _ => d78_c t h h3 h4) (fun _ => d78_c t h h3 h4)
theorem d78_e (t : T 10 x0) (h : J0 p s) : gT (fb_78_46 x0 s) (fun r => r.1 = 0 ∧ J p r.2.2.2) := by
  unfold fb_78_46
  extract_lets s3 v4 s8
  have r3 := J0_f (i := 3) h t rfl (by decide) rfl
  have r1 := J0_f (i := 1) h t rfl (by decide) rfl
  have h3 : J0 p s3 := J0_wf h t rfl (by decide) (fun q hq => by cases hq; dsimp only; omega)
  have a3 : gI s3 x0 3 = gI s x0 3 := rd_k (a := x0) (k := 3) (show s3 = gw s x0 4 (gI s x0 3) from rfl) (by decide)
  have a4 : gI s3 x0 4 = gI s x0 3 := rd_same (show s3 = gw s x0 4 (gI s x0 3) from rfl)
  have a1 : gI s3 x0 1 = gI s x0 1 := rd_k (a := x0) (k := 1) (show s3 = gw s x0 4 (gI s x0 3) from rfl) (by decide)
  refine gT_ite (fun h5 => ?_) (fun _ => ?_)
  · refine gT_chk (by omega) (by omega) ?_
    refine gT_ite (fun _ => d78_d t h3 (by omega) (by omega)) (fun _ => ?_)
    refine gT_ite (fun _ => d78_d t h3 (by omega) (by omega)) (fun _ => d78_d t h3 (by omega) (by omega))
  · have h8 : J0 p s8 := J0_wf h3 t rfl (by decide) (fun q hq => by cases hq)
    have a8 : gI s8 x0 2 = 0 := rd_same (show s8 = gw s3 x0 2 0 from rfl)
    refine gT_ret ⟨rfl, h8, Or.inl ?_⟩
    have e := T_10 t
    rw [e] at a8
    exact a8
theorem d_78 (_hp : -1 ≤ p ∧ p ≤ 0) (h : J p s) (t0 : T 10 a0) : gT (f_78 a0 s) (fun r => r.1 = 0 ∧ J p r.2.2.2) := by
  unfold f_78
  extract_lets s1
  have r4 := J0_f (i := 4) h.1 t0 rfl (by decide) rfl
  have h1 : J0 p s1 := J0_wf h.1 t0 rfl (by decide) (fun q hq => by cases hq; dsimp only; omega)
  refine gT_loop (fun y => T 10 y.1 ∧ J0 p y.2) (fun y => (400 - gI y.2 y.1 3).toNat) (fun y hy => ?_) ⟨t0, h1⟩
  obtain ⟨x0, s⟩ := y
  obtain ⟨t, h⟩ := hy
  dsimp only at t h
  have r3 := J0_f (i := 3) h t rfl (by decide) rfl
  have r1 := J0_f (i := 1) h t rfl (by decide) rfl
  show gT (sb_78_8 x0 s) _
  unfold sb_78_8
  refine gT_ite (fun h5 => ?_) (fun _ => gT_map (d78_e t h))
  refine gT_chk (by omega) (by omega) ?_
  refine gT_ite (fun _ => ?_) (fun _ => gT_map (d78_e t h))
  extract_lets s2
  have e1 := g32_eq (v := gI s x0 3 + 1) (by omega) (by omega)
  have e2 : gI s2 x0 3 = g32 (gI s x0 3 + 1) := rd_same (show s2 = gw s x0 3 (g32 (gI s x0 3 + 1)) from rfl)
  refine gT_ret ⟨⟨t, J0_wf h t rfl (by decide) (fun q hq => by cases hq; dsimp only; omega)⟩, ?_⟩
  show (400 - gI s2 x0 3).toNat < (400 - gI s x0 3).toNat
  omega
theorem d_81 {a1 : Int} (_hp : -1 ≤ p ∧ p ≤ 0) (h : J p s) (t0 : T 10 a0) : gT (f_81 a0 a1 s) (fun r => r.1 = 1 ∧ (0 ≤ r.2.1 ∧ r.2.1 ≤ 1) ∧ J p r.2.2.2) := by
  have r3 := J_f (i := 3) h t0 rfl (by decide) rfl
  have e := T_10 t0
  have h2 := h.2
  unfold TK at h2
  unfold f_81
  refine gT_ite (fun h5 => ?_) (fun _ => ?_)
  · refine gT_chk (by omega) (by rw [e] at h5 ⊢; omega) ?_
    refine gT_ite (fun _ => gT_ret ⟨rfl, by dsimp only; omega, h⟩) (fun _ => ?_)
    unfold fb_81_25
    exact gT_ret ⟨rfl, by dsimp only; omega, h⟩
  · unfold fb_81_25
    exact gT_ret ⟨rfl, by dsimp only; omega, h⟩
end Tape
