/-- all but the tape's thing is as it was -/
def Fr (s s' : gS) : Prop := (gn s' = gn s ∧ (∀ a, gK s' a = gK s a) ∧ ∀ a k, gR s' a k = gR s a k) ∧ ∀ a k, ¬ (a = 1 ∧ (k = 2 ∨ k = 3 ∨ k = 4)) → gI s' a k = gI s a k
theorem Fr_r (s : gS) : Fr s s := ⟨⟨rfl, fun _ => rfl, fun _ _ => rfl⟩, fun _ _ _ => rfl⟩
theorem Fr_t {s s' s2 : gS} (h : Fr s s') (h2 : Fr s' s2) : Fr s s2 := ⟨⟨h2.1.1.trans h.1.1, fun a => (h2.1.2.1 a).trans (h.1.2.1 a), fun a k => (h2.1.2.2 a k).trans (h.1.2.2 a k)⟩, fun a k hc => (h2.2 a k hc).trans (h.2 a k hc)⟩
theorem Fr_w {s s' : gS} {a k : Nat} {v : Int} (h : Fr s s') (ha : T 10 a) (hk : k = 2 ∨ k = 3 ∨ k = 4) : Fr s (gw s' a k v) := by
  refine ⟨h.1, fun b j hc => ?_⟩
  show (if b = a ∧ j = k then v else gI s' b j) = _
  rw [if_neg (fun e => hc ⟨by rw [e.1]; exact T_10 ha, by rw [e.2]; exact hk⟩)]
  exact h.2 b j hc
/-- a thing that is not the end has a letter -/
def Wt (s : gS) : Prop := gI s 1 2 = 0 ∨ gI s 1 3 + 1 ≤ gI s 1 4
section Tape
variable {p : gP} {F : Int} {s s0 : gS} {x0 a0 : Nat}
theorem TG_fr (hf : Fr s0 s) (h : TG p s0) : TG p s := by
  unfold TG
  rw [hf.2 1 1 (by decide), hf.2 217 8 (by decide), hf.2 0 15 (by decide), hf.2 217 3 (by decide)]
  exact h
def Pad (p : gP) (F : Int) (s0 : gS) (r : gO) : Prop := r.1 = 0 ∧ J p r.2.2.2 ∧ Fr s0 r.2.2.2 ∧ Wt r.2.2.2 ∧ F ≤ gI r.2.2.2 1 3
theorem d78_a {x4 x5 : Int} (t : T 10 x0) (hG : TG p s0) (h : J0 p.1 s) (h3 : gI s x0 3 ≤ 399) (hf : Fr s0 s) (hF : F ≤ gI s x0 3) (hw : gI s x0 3 + 1 ≤ gI s x0 4) : gT (gloop st_78_174 (x0, x4, x5, s)) (Pad p F s0) := by
  refine gT_loop (fun y => T 10 y.1 ∧ J0 p.1 y.2.2.2 ∧ gI y.2.2.2 y.1 3 ≤ 399 ∧ Fr s0 y.2.2.2 ∧ F ≤ gI y.2.2.2 y.1 3 ∧ gI y.2.2.2 y.1 3 + 1 ≤ gI y.2.2.2 y.1 4) (fun y => (400 - gI y.2.2.2 y.1 4).toNat) (fun y hy => ?_) ⟨t, h, h3, hf, hF, hw⟩
  obtain ⟨x0, x4, x5, s⟩ := y
  obtain ⟨t, h, h3, hf, hF, hw⟩ := hy
  dsimp only at t h h3 hf hF hw
  have hend : Pad p F s0 (0, 0, 0, s) := by
    have e := T_10 t
    rw [e] at h3 hF hw
    exact ⟨rfl, ⟨h, Or.inr h3, TG_fr hf hG⟩, hf, Or.inr hw, hF⟩
  have r4 := J0_f (i := 4) h t rfl (by decide) rfl
  have r1 := J0_f (i := 1) h t rfl (by decide) rfl
  show gT (sb_78_174 x0 x4 x5 s) _
  unfold sb_78_174
  refine gT_ite (fun _ => gT_map (gT_ret hend)) (fun _ => ?_)
  refine gT_ite (fun h5 => ?_) (fun _ => gT_map (gT_ret hend))
  refine gT_chk (by omega) (by omega) ?_
  refine gT_ite (fun _ => gT_map (gT_ret hend)) (fun _ => ?_)
  refine gT_chk (by omega) (by omega) ?_
  refine gT_ite (fun _ => gT_map (gT_ret hend)) (fun _ => ?_)
  extract_lets s7
  have e1 := g32_eq (v := gI s x0 4 + 1) (by omega) (by omega)
  have e2 : gI s7 x0 4 = g32 (gI s x0 4 + 1) := rd_same (show s7 = gw s x0 4 (g32 (gI s x0 4 + 1)) from rfl)
  have e3 : gI s7 x0 3 = gI s x0 3 := rd_k (a := x0) (k := 3) (show s7 = gw s x0 4 (g32 (gI s x0 4 + 1)) from rfl) (by decide)
  refine gT_ret ⟨⟨t, J0_wf h t rfl (by decide) (fun q hq => by cases hq; dsimp only; omega), ?_, Fr_w hf t (by decide), ?_, ?_⟩, ?_⟩
  · show gI s7 x0 3 ≤ 399
    omega
  · show F ≤ gI s7 x0 3
    omega
  · show gI s7 x0 3 + 1 ≤ gI s7 x0 4
    omega
  · show (400 - gI s7 x0 4).toNat < (400 - gI s x0 4).toNat
    omega
theorem d78_b {x2 w0 : Int} (t : T 10 x0) (hG : TG p s0) (h : J0 p.1 s) (h3 : gI s x0 3 ≤ 399) (h4 : gI s x0 4 = gI s x0 3) (hf : Fr s0 s) (hF : F ≤ gI s x0 3) : gT (fb_78_135 x0 x2 w0 x0 s) (Pad p F s0) := by
  unfold fb_78_135
  extract_lets s5 s6
  have r4 := J0_f (i := 4) h t rfl (by decide) rfl
  have a1 : gI s5 x0 4 = gI s x0 4 := rd_k (a := x0) (k := 4) (show s5 = gw s x0 2 w0 from rfl) (by decide)
  have a2 : gI s5 x0 3 = gI s x0 3 := rd_k (a := x0) (k := 3) (show s5 = gw s x0 2 w0 from rfl) (by decide)
  have e1 := g32_eq (v := gI s5 x0 4 + 1) (by omega) (by omega)
  have h5 : J0 p.1 s5 := J0_wf h t rfl (by decide) (fun q hq => by cases hq)
  have h6 : J0 p.1 s6 := J0_wf h5 t rfl (by decide) (fun q hq => by cases hq; dsimp only; omega)
  have a3 : gI s6 x0 3 = gI s5 x0 3 := rd_k (a := x0) (k := 3) (show s6 = gw s5 x0 4 (g32 (gI s5 x0 4 + 1)) from rfl) (by decide)
  have a4 : gI s6 x0 4 = g32 (gI s5 x0 4 + 1) := rd_same (show s6 = gw s5 x0 4 (g32 (gI s5 x0 4 + 1)) from rfl)
  have f6 : Fr s0 s6 := Fr_w (Fr_w hf t (by decide)) t (by decide)
  refine gT_ite (fun _ => ?_) (fun _ => ?_)
  · unfold fb_78_159
    refine gT_ite (fun _ => ?_) (fun _ => ?_)
    · exact d78_a t hG h6 (by omega) f6 (by omega) (by omega)
    · exact d78_a t hG h6 (by omega) f6 (by omega) (by omega)
  · unfold fb_78_159
    refine gT_ite (fun _ => ?_) (fun _ => ?_)
    · exact d78_a t hG h6 (by omega) f6 (by omega) (by omega)
    · exact d78_a t hG h6 (by omega) f6 (by omega) (by omega)
theorem d78_c {x2 w0 : Int} (t : T 10 x0) (hG : TG p s0) (h : J0 p.1 s) (h3 : gI s x0 3 ≤ 399) (h4 : gI s x0 4 = gI s x0 3) (hf : Fr s0 s) (hF : F ≤ gI s x0 3) : gT (fb_78_116 x0 x2 w0 s) (Pad p F s0) := by
  unfold fb_78_116
  refine gT_ite (fun _ => ?_) (fun _ => d78_b t hG h h3 h4 hf hF)
  refine gT_ite (fun _ => d78_b t hG h h3 h4 hf hF) (fun _ => d78_b t hG h h3 h4 hf hF)
theorem d78_d {x1 w0 : Int} (t : T 10 x0) (hG : TG p s0) (h : J0 p.1 s) (h3 : gI s x0 3 ≤ 399) (h4 : gI s x0 4 = gI s x0 3) (hf : Fr s0 s) (hF : F ≤ gI s x0 3) : gT (fb_78_98 x0 x1 w0 s) (Pad p F s0) := by
  unfold fb_78_98
  refine gT_ite (fun _ => d78_c t hG h h3 h4 hf hF) (fun _ => ?_)
  refine gT_ite (fun _ => d78_c t hG h h3 h4 hf hF) (fun _ => d78_c t hG h h3 h4 hf hF)
theorem d78_e (t : T 10 x0) (hG : TG p s0) (h : J0 p.1 s) (hf : Fr s0 s) (hF : F ≤ gI s x0 3) : gT (fb_78_46 x0 s) (Pad p F s0) := by
  unfold fb_78_46
  extract_lets s3 v4 s8
  have r3 := J0_f (i := 3) h t rfl (by decide) rfl
  have r1 := J0_f (i := 1) h t rfl (by decide) rfl
  have h3 : J0 p.1 s3 := J0_wf h t rfl (by decide) (fun q hq => by cases hq; dsimp only; omega)
  have a3 : gI s3 x0 3 = gI s x0 3 := rd_k (a := x0) (k := 3) (show s3 = gw s x0 4 (gI s x0 3) from rfl) (by decide)
  have a4 : gI s3 x0 4 = gI s x0 3 := rd_same (show s3 = gw s x0 4 (gI s x0 3) from rfl)
  have a1 : gI s3 x0 1 = gI s x0 1 := rd_k (a := x0) (k := 1) (show s3 = gw s x0 4 (gI s x0 3) from rfl) (by decide)
  have f3 : Fr s0 s3 := Fr_w hf t (by decide)
  refine gT_ite (fun h5 => ?_) (fun _ => ?_)
  · refine gT_chk (by omega) (by omega) ?_
    refine gT_ite (fun _ => d78_d t hG h3 (by omega) (by omega) f3 (by omega)) (fun _ => ?_)
    refine gT_ite (fun _ => d78_d t hG h3 (by omega) (by omega) f3 (by omega)) (fun _ => d78_d t hG h3 (by omega) (by omega) f3 (by omega))
  · have h8 : J0 p.1 s8 := J0_wf h3 t rfl (by decide) (fun q hq => by cases hq)
    have a8 : gI s8 x0 2 = 0 := rd_same (show s8 = gw s3 x0 2 0 from rfl)
    have b8 : gI s8 x0 3 = gI s3 x0 3 := rd_k (a := x0) (k := 3) (show s8 = gw s3 x0 2 0 from rfl) (by decide)
    have f8 : Fr s0 s8 := Fr_w f3 t (by decide)
    have hF8 : F ≤ gI s8 x0 3 := by omega
    have e := T_10 t
    rw [e] at a8 hF8
    exact gT_ret ⟨rfl, ⟨h8, Or.inl a8, TG_fr f8 hG⟩, f8, Or.inl a8, hF8⟩
theorem c_78 (h : J p s) (t0 : T 10 a0) : gT (f_78 a0 s) (Pad p (gI s 1 4) s) := by
  have hG := h.2.2
  unfold f_78
  extract_lets s1
  have r4 := J0_f (i := 4) h.1 t0 rfl (by decide) rfl
  have h1 : J0 p.1 s1 := J0_wf h.1 t0 rfl (by decide) (fun q hq => by cases hq; dsimp only; omega)
  have a1 : gI s1 a0 3 = gI s a0 4 := rd_same (show s1 = gw s a0 3 (gI s a0 4) from rfl)
  have f1 : Fr s s1 := Fr_w (Fr_r s) t0 (by decide)
  have hF1 : gI s 1 4 ≤ gI s1 a0 3 := by rw [a1, T_10 t0]; exact Int.le_refl _
  generalize gI s 1 4 = F at hF1
  refine gT_loop (fun y => T 10 y.1 ∧ J0 p.1 y.2 ∧ Fr s y.2 ∧ F ≤ gI y.2 y.1 3) (fun y => (400 - gI y.2 y.1 3).toNat) (fun y hy => ?_) ⟨t0, h1, f1, hF1⟩
  obtain ⟨x0, s'⟩ := y
  obtain ⟨t, h, hf, hF⟩ := hy
  dsimp only at t h hf hF
  have r3 := J0_f (i := 3) h t rfl (by decide) rfl
  have r1 := J0_f (i := 1) h t rfl (by decide) rfl
  show gT (sb_78_8 x0 s') _
  unfold sb_78_8
  refine gT_ite (fun h5 => ?_) (fun _ => gT_map (d78_e t hG h hf hF))
  refine gT_chk (by omega) (by omega) ?_
  refine gT_ite (fun _ => ?_) (fun _ => gT_map (d78_e t hG h hf hF))
  extract_lets s2
  have e1 := g32_eq (v := gI s' x0 3 + 1) (by omega) (by omega)
  have e2 : gI s2 x0 3 = g32 (gI s' x0 3 + 1) := rd_same (show s2 = gw s' x0 3 (g32 (gI s' x0 3 + 1)) from rfl)
  refine gT_ret ⟨⟨t, J0_wf h t rfl (by decide) (fun q hq => by cases hq; dsimp only; omega), Fr_w hf t (by decide), ?_⟩, ?_⟩
  · show F ≤ gI s2 x0 3
    omega
  · show (400 - gI s2 x0 3).toNat < (400 - gI s' x0 3).toNat
    omega
theorem d_78 (_hp : -1 ≤ p.1 ∧ p.1 ≤ 0) (h : J p s) (t0 : T 10 a0) : gT (f_78 a0 s) (fun r => r.1 = 0 ∧ J p r.2.2.2) := gT_mono (c_78 h t0) (fun _ hr => ⟨hr.1, hr.2.1⟩)
theorem c_81 {a1 : Int} (h : J p s) (t0 : T 10 a0) : gT (f_81 a0 a1 s) (fun r => r.1 = 1 ∧ (0 ≤ r.2.1 ∧ r.2.1 ≤ 1 ∧ (r.2.1 = 1 → gI s 1 2 = 3)) ∧ r.2.2.2 = s) := by
  have r3 := J_f (i := 3) h t0 rfl (by decide) rfl
  have e := T_10 t0
  subst e
  have h2 := h.2.1
  unfold TK at h2
  unfold f_81
  refine gT_ite (fun h5 => ?_) (fun _ => ?_)
  · refine gT_chk (by omega) (by omega) ?_
    refine gT_ite (fun _ => gT_ret ⟨rfl, by dsimp only; omega, rfl⟩) (fun _ => ?_)
    unfold fb_81_25
    exact gT_ret ⟨rfl, by dsimp only; omega, rfl⟩
  · unfold fb_81_25
    exact gT_ret ⟨rfl, by dsimp only; omega, rfl⟩
theorem d_81 {a1 : Int} (_hp : -1 ≤ p.1 ∧ p.1 ≤ 0) (h : J p s) (t0 : T 10 a0) : gT (f_81 a0 a1 s) (fun r => r.1 = 1 ∧ (0 ≤ r.2.1 ∧ r.2.1 ≤ 1) ∧ J p r.2.2.2) := gT_mono (c_81 h t0) (fun _ hr => ⟨hr.1, ⟨hr.2.1.1, hr.2.1.2.1⟩, by rw [hr.2.2]; exact h⟩)
end Tape
