theorem gsl_pos : ∀ w, w < 70 → 43 ≤ w → 1 ≤ gsl w := by decide +kernel
section Ln
variable {p : gP} {x : Int} {s : gS}
theorem m_rd (h : J p s) {k : Nat} {a b : Int} (hf : mrn k = some (a, b)) : a ≤ gI s 218 k ∧ b ≥ gI s 218 k := by
  have := J_m h h t12 hf
  rw [r_m h t12] at this
  exact this
theorem c_177 (h : J p s) (hx : 0 ≤ x) : gT (f_177 217 x s) (fun r => r.1 = 0 ∧ J p r.2.2.2) := by
  have r3 := m_rd (k := 3) h rfl
  have hgo : ∀ u, Bm p s u → (gI u 217 12 = -1 → gI s 218 3 ≤ 7) → gT (fb_177_16 217 u) (fun r => r.1 = 0 ∧ J p r.2.2.2) := by
    intro u b hq
    unfold fb_177_16
    refine gT_v1 (A := fun v z => Bm p u z ∧ (gI z 217 12 = -1 → 1 ≤ v ∧ v ≤ 30)) (k_175 b.1 (gsl_pos 43 (by decide) (by decide))) (fun v4 s3 h3 => ?_)
    refine gT_v1 (A := fun v z => Bm p s3 z ∧ (gI z 217 12 = -1 → 0 ≤ v ∧ v ≤ 99)) (k_175 h3.1.1 (gsl_pos 44 (by decide) (by decide))) (fun v6 s5 h5 => ?_)
    refine gT_v1 (A := fun v z => Bm p s5 z ∧ (gI z 217 12 = -1 → 0 ≤ v ∧ v ≤ 50)) (k_175 h5.1.1 (gsl_pos 45 (by decide) (by decide))) (fun v8 s7 h7 => ?_)
    have bu := Bm_t (Bm_t h3.1 h5.1) h7.1
    have b7 := Bm_t b bu
    refine gT_ite (fun h0 => ?_) (fun _ => gT_ret ⟨rfl, b7.1⟩)
    have e3 : gI s7 218 3 = gI s 218 3 := b7.2.1.2 218 3 (by decide)
    have q3 := hq (bu.2.2.2.2 h0)
    have m7 := r_m b7.1 t12
    rw [m7, e3]
    have g1 := g32_eq (v := 3 * gI s 218 3) (by omega) (by omega)
    have g2 := g32_eq (v := 16 + 3 * gI s 218 3) (by omega) (by omega)
    rw [g1, g2]
    extract_lets v9 s10 s11 s12 s13
    have hv9 : v9 = 16 + 3 * gI s 218 3 := rfl
    have g3 := g32_eq (v := v9 + 0) (by omega) (by omega)
    have g4 := g32_eq (v := v9 + 1) (by omega) (by omega)
    have g5 := g32_eq (v := v9 + 2) (by omega) (by omega)
    have j10 : J p s10 := by
      show J p (gw s7 218 _ _)
      rw [← m7]
      exact J_wmf b7.1 b7.1 t12 (by omega)
    have m10 := r_m j10 t12
    have j11 : J p s11 := J_wmf j10 j10 t12 (by omega)
    have m11 := r_m j11 t12
    have h50 := h7.2 h0
    have j12 : J p s12 := J_wm j11 j11 t12 (fun q hq => by
      rw [show (g32 (v9 + 2)).toNat = 16 + 3 * (gI s 218 3).toNat + 2 by omega, mrn_s (by omega)] at hq
      cases hq
      exact h50)
    have m12 := r_m j12 t12
    have e10 : gI s10 218 3 = gI s7 218 3 := rd_k (a := 218) (k := 3) (show s10 = gw s7 218 (g32 (v9 + 0)).toNat v4 from rfl) (by omega)
    have e11 : gI s11 218 3 = gI s10 218 3 := rd_k (a := 218) (k := 3) (show s11 = gw s10 (gR s10 217 1) (g32 (v9 + 1)).toNat v6 from rfl) (by omega)
    have e12 : gI s12 218 3 = gI s11 218 3 := rd_k (a := 218) (k := 3) (show s12 = gw s11 (gR s11 217 1) (g32 (v9 + 2)).toNat v8 from rfl) (by omega)
    have j13 : J p s13 := J_wm j12 j12 t12 (fun q hq => by
      cases hq
      dsimp only
      rw [m12]
      have g6 := g32_eq (v := gI s12 218 3 + 1) (by omega) (by omega)
      omega)
    exact gT_chk (by omega) (by omega) (gT_chk (by omega) (by omega) (gT_chk (by omega) (by omega) (gT_ret ⟨rfl, j13⟩)))
  unfold f_177
  rw [r_m h t12]
  refine gT_ite (fun h8 => ?_) (fun h8 => hgo _ (Bm_r h) (fun _ => by omega))
  refine gT_v0 (A := fun z => Bm p s z ∧ gI z 217 12 ≠ -1) (k_172 h hx) (fun s1 h1 => hgo _ h1.1 (fun e => absurd e h1.2))
theorem c_178 (h : J p s) (hx : 0 ≤ x) : gT (f_178 217 x s) (fun r => r.1 = 0 ∧ J p r.2.2.2) := by
  have r3 := m_rd (k := 4) h rfl
  have hgo : ∀ u, Bm p s u → (gI u 217 12 = -1 → gI s 218 4 ≤ 5) → gT (fb_178_16 217 u) (fun r => r.1 = 0 ∧ J p r.2.2.2) := by
    intro u b hq
    unfold fb_178_16
    refine gT_v1 (A := fun v z => Bm p u z ∧ (gI z 217 12 = -1 → 0 ≤ v ∧ v ≤ 99)) (k_175 b.1 (gsl_pos 46 (by decide) (by decide))) (fun v4 s3 h3 => ?_)
    refine gT_v1 (A := fun v z => Bm p s3 z ∧ (gI z 217 12 = -1 → 0 ≤ v ∧ v ≤ 9)) (k_175 h3.1.1 (gsl_pos 47 (by decide) (by decide))) (fun v6 s5 h5 => ?_)
    refine gT_v1 (A := fun v z => Bm p s5 z) (k_176 h5.1.1 (gsl_pos 48 (by decide) (by decide))) (fun v8 s7 h7 => ?_)
    have bu := Bm_t (Bm_t h3.1 h5.1) h7
    have b7 := Bm_t b bu
    refine gT_ite (fun h0 => ?_) (fun _ => gT_ret ⟨rfl, b7.1⟩)
    have e3 : gI s7 218 4 = gI s 218 4 := b7.2.1.2 218 4 (by decide)
    have q3 := hq (bu.2.2.2.2 h0)
    have q6 := h5.2 (h7.2.2.2.2 h0)
    have q4 := h3.2 (h5.1.2.2.2.2 (h7.2.2.2.2 h0))
    have m7 := r_m b7.1 t12
    rw [m7]
    extract_lets v9
    have hv9 : v9 = gI s7 218 4 := rfl
    clear_value v9
    have hr9 : 0 ≤ v9 ∧ v9 ≤ 5 := by omega
    have P : ∀ {w v : Int} {z : gS} (hw : 0 ≤ w ∧ w ≤ 5) (hv : (w = 0 → 0 ≤ v ∧ v ≤ 99) ∧ (w = 1 → 0 ≤ v ∧ v ≤ 9) ∧ (w = 3 → 0 ≤ v ∧ v ≤ 8)), J p z ∧ gI z 218 4 = gI s 218 4 → gT (f_157 217 v9 w v z) (fun r => r.1 = 0 ∧ (J p r.2.2.2 ∧ gI r.2.2.2 218 4 = gI s 218 4)) := by
      intro w v z hw hv hz
      refine gT_mono (c_157 hz.1 t12 hr9 hw hv) (fun r hr => ⟨hr.1, hr.2.1, ?_⟩)
      rw [rd_k (a := 218) (k := 4) hr.2.2 (by omega)]
      exact hz.2
    refine gT_v0 (A := fun z => J p z ∧ gI z 218 4 = gI s 218 4) (P (by decide) ⟨fun _ => q4, fun e => absurd e (by first | decide | omega | (dsimp only; omega)), fun e => absurd e (by first | decide | omega | (dsimp only; omega))⟩ ⟨b7.1, e3⟩) (fun s10 h10 => ?_)
    refine gT_v0 (A := fun z => J p z ∧ gI z 218 4 = gI s 218 4) (P (by decide) ⟨fun e => absurd e (by first | decide | omega | (dsimp only; omega)), fun _ => q6, fun e => absurd e (by first | decide | omega | (dsimp only; omega))⟩ h10) (fun s12 h12 => ?_)
    refine gT_v0 (A := fun z => J p z ∧ gI z 218 4 = gI s 218 4) (P (by decide) ⟨fun e => absurd e (by first | decide | omega | (dsimp only; omega)), fun e => absurd e (by first | decide | omega | (dsimp only; omega)), fun e => absurd e (by first | decide | omega | (dsimp only; omega))⟩ h12) (fun s14 h14 => ?_)
    refine gT_v0 (A := fun z => J p z ∧ gI z 218 4 = gI s 218 4) (P (by decide) ⟨fun e => absurd e (by first | decide | omega | (dsimp only; omega)), fun e => absurd e (by first | decide | omega | (dsimp only; omega)), fun _ => by first | decide | omega | (dsimp only; omega)⟩ h14) (fun s16 h16 => ?_)
    refine gT_v0 (A := fun z => J p z ∧ gI z 218 4 = gI s 218 4) (P (by decide) ⟨fun e => absurd e (by first | decide | omega | (dsimp only; omega)), fun e => absurd e (by first | decide | omega | (dsimp only; omega)), fun e => absurd e (by first | decide | omega | (dsimp only; omega))⟩ h16) (fun s18 h18 => ?_)
    refine gT_v0 (A := fun z => J p z ∧ gI z 218 4 = gI s 218 4) (P (by decide) ⟨fun e => absurd e (by first | decide | omega | (dsimp only; omega)), fun e => absurd e (by first | decide | omega | (dsimp only; omega)), fun e => absurd e (by first | decide | omega | (dsimp only; omega))⟩ h18) (fun s20 h20 => ?_)
    extract_lets s22
    have j22 : J p s22 := J_wm h20.1 h20.1 t12 (fun q hq => by
      cases hq
      dsimp only
      rw [r_m h20.1 t12, h20.2]
      have g6 := g32_eq (v := gI s 218 4 + 1) (by omega) (by omega)
      omega)
    exact gT_ret ⟨rfl, j22⟩
  unfold f_178
  rw [r_m h t12]
  refine gT_ite (fun h8 => ?_) (fun h8 => hgo _ (Bm_r h) (fun _ => by omega))
  refine gT_v0 (A := fun z => Bm p s z ∧ gI z 217 12 ≠ -1) (k_172 h hx) (fun s1 h1 => hgo _ h1.1 (fun e => absurd e h1.2))
theorem c_179 (h : J p s) (hx : 0 ≤ x) : gT (f_179 217 x s) (fun r => r.1 = 0 ∧ J p r.2.2.2) := by
  have r3 := m_rd (k := 5) h rfl
  have hgo : ∀ u, Bm p s u → (gI u 217 12 = -1 → gI s 218 5 ≤ 5) → gT (fb_179_16 217 u) (fun r => r.1 = 0 ∧ J p r.2.2.2) := by
    intro u b hq
    unfold fb_179_16
    refine gT_v1 (A := fun v z => Bm p u z ∧ (gI z 217 12 = -1 → 0 ≤ v ∧ v ≤ 99)) (k_175 b.1 (gsl_pos 44 (by decide) (by decide))) (fun v4 s3 h3 => ?_)
    refine gT_v1 (A := fun v z => Bm p s3 z) (k_176 h3.1.1 (gsl_pos 49 (by decide) (by decide))) (fun v6 s5 h5 => ?_)
    have bu := Bm_t h3.1 h5
    have b5 := Bm_t b bu
    refine gT_ite (fun h0 => ?_) (fun _ => gT_ret ⟨rfl, b5.1⟩)
    have e3 : gI s5 218 5 = gI s 218 5 := b5.2.1.2 218 5 (by decide)
    have q3 := hq (bu.2.2.2.2 h0)
    have m5 := r_m b5.1 t12
    rw [m5, e3]
    have g1 := g32_eq (v := 2 * gI s 218 5) (by omega) (by omega)
    have g2 := g32_eq (v := 76 + 2 * gI s 218 5) (by omega) (by omega)
    rw [g1, g2]
    refine gT_chk (by omega) (by omega) ?_
    extract_lets s7 s8 s9
    have j7 : J p s7 := by
      have hz := J_wmf (v := v4) (k := (76 + 2 * gI s 218 5).toNat) b5.1 b5.1 t12 (by omega)
      rw [m5] at hz
      exact hz
    have m7 := r_m j7 t12
    have e7 : gI s7 218 5 = gI s5 218 5 := rd_k (a := 218) (k := 5) (show s7 = gw s5 218 (76 + 2 * gI s 218 5).toNat v4 from rfl) (by omega)
    have g3 := g32_eq (v := 76 + 2 * gI s 218 5 + 1) (by omega) (by omega)
    have hi : g32 (g32 (76 + g32 (2 * gI s7 (gR s7 217 1) 5)) + 1) = 76 + 2 * gI s 218 5 + 1 := by rw [m7, e7, e3, g1, g2, g3]
    have j8 : J p s8 := J_wmf j7 j7 t12 (by rw [hi]; omega)
    have m8 := r_m j8 t12
    have e8 : gI s8 218 5 = gI s7 218 5 := rd_k (a := 218) (k := 5) (show s8 = gw s7 (gR s7 217 1) (g32 (g32 (76 + g32 (2 * gI s7 (gR s7 217 1) 5)) + 1)).toNat v6 from rfl) (by rw [hi]; omega)
    have j9 : J p s9 := J_wm j8 j8 t12 (fun q hq => by
      cases hq
      dsimp only
      rw [m8]
      have g6 := g32_eq (v := gI s8 218 5 + 1) (by omega) (by omega)
      omega)
    exact gT_chk (by rw [hi]; omega) (by rw [hi]; omega) (gT_ret ⟨rfl, j9⟩)
  unfold f_179
  rw [r_m h t12]
  refine gT_ite (fun h8 => ?_) (fun h8 => hgo _ (Bm_r h) (fun _ => by omega))
  refine gT_v0 (A := fun z => Bm p s z ∧ gI z 217 12 ≠ -1) (k_172 h hx) (fun s1 h1 => hgo _ h1.1 (fun e => absurd e h1.2))
theorem c_180 (h : J p s) (hx : 0 ≤ x) : gT (f_180 217 x s) (fun r => r.1 = 0 ∧ J p r.2.2.2) := by
  have r3 := m_rd (k := 6) h rfl
  have hgo : ∀ u, Bm p s u → (gI u 217 12 = -1 → gI s 218 6 ≤ 5) → gT (fb_180_17 217 u) (fun r => r.1 = 0 ∧ J p r.2.2.2) := by
    intro u b hq
    unfold fb_180_17
    refine gT_v1 (A := fun v z => Bm p u z ∧ (gI z 217 12 = -1 → 0 ≤ v ∧ v ≤ 999)) (k_174 b.1) (fun v4 s5 h5 => ?_)
    have bu := h5.1
    have b5 := Bm_t b bu
    refine gT_ite (fun h0 => ?_) (fun _ => gT_ret ⟨rfl, b5.1⟩)
    have e3 : gI s5 218 6 = gI s 218 6 := b5.2.1.2 218 6 (by decide)
    have q3 := hq (bu.2.2.2.2 h0)
    have m5 := r_m b5.1 t12
    rw [m5, e3]
    have g1 := g32_eq (v := 2 * gI s 218 6) (by omega) (by omega)
    have g2 := g32_eq (v := 88 + 2 * gI s 218 6) (by omega) (by omega)
    have g20 := g32_eq (v := 88 + 2 * gI s 218 6 + 0) (by omega) (by omega)
    rw [g1, g2, g20]
    refine gT_chk (by omega) (by omega) ?_
    extract_lets s7 s8 s9
    have j7 : J p s7 := by
      have hz := J_wmf (v := v4) (k := (88 + 2 * gI s 218 6 + 0).toNat) b5.1 b5.1 t12 (by omega)
      rw [m5] at hz
      exact hz
    have m7 := r_m j7 t12
    have e7 : gI s7 218 6 = gI s5 218 6 := rd_k (a := 218) (k := 6) (show s7 = gw s5 218 (88 + 2 * gI s 218 6 + 0).toNat v4 from rfl) (by omega)
    have g3 := g32_eq (v := 88 + 2 * gI s 218 6 + 1) (by omega) (by omega)
    have hi : g32 (g32 (88 + g32 (2 * gI s7 (gR s7 217 1) 6)) + 1) = 88 + 2 * gI s 218 6 + 1 := by rw [m7, e7, e3, g1, g2, g3]
    have j8 : J p s8 := J_wmf j7 j7 t12 (by rw [hi]; omega)
    have m8 := r_m j8 t12
    have e8 : gI s8 218 6 = gI s7 218 6 := rd_k (a := 218) (k := 6) (show s8 = gw s7 (gR s7 217 1) (g32 (g32 (88 + g32 (2 * gI s7 (gR s7 217 1) 6)) + 1)).toNat 0 from rfl) (by rw [hi]; omega)
    have j9 : J p s9 := J_wm j8 j8 t12 (fun q hq => by
      cases hq
      dsimp only
      rw [m8]
      have g6 := g32_eq (v := gI s8 218 6 + 1) (by omega) (by omega)
      omega)
    exact gT_chk (by rw [hi]; omega) (by rw [hi]; omega) (gT_ret ⟨rfl, j9⟩)
  unfold f_180
  rw [r_m h t12]
  refine gT_ite (fun h8 => ?_) (fun h8 => hgo _ (Bm_r h) (fun _ => by omega))
  refine gT_v0 (A := fun z => Bm p s z ∧ gI z 217 12 ≠ -1) (k_172 h hx) (fun s1 h1 => hgo _ h1.1 (fun e => absurd e h1.2))
theorem c_181 {w hi : Int} (h : J p s) (hw : 0 ≤ w ∧ w < 740) (hm : ∀ q, mrn w.toNat = some q → q.1 ≤ 0 ∧ hi ≤ q.2) : gT (f_181 217 w hi s) (fun r => r.1 = 0 ∧ J p r.2.2.2) := by
  unfold f_181
  refine gT_v1 (A := fun v z => Bm p s z ∧ (gI z 217 12 = -1 → 0 ≤ v ∧ v ≤ hi)) (k_174 h) (fun v2 s1 h1 => ?_)
  refine gT_ite (fun h0 => ?_) (fun _ => gT_ret ⟨rfl, h1.1.1⟩)
  refine gT_chk hw.1 hw.2 ?_
  exact gT_ret ⟨rfl, J_wm h1.1.1 h1.1.1 t12 (fun q hq => by have := hm q hq; have := h1.2 h0; omega)⟩
theorem c_182 (h : J p s) : gT (f_182 217 s) (fun r => r.1 = 0 ∧ J p r.2.2.2) := by
  unfold f_182
  refine gT_v1 (A := fun v u => (v = gI u 217 11 ∧ 0 ≤ v ∧ v ≤ 406) ∧ Bm p s u) (k_173 h) (fun v2 s1 h1 => ?_)
  have hv := h1.1.2.1
  have j1 := h1.2.1
  clear h1
  refine gT_v1 (A := fun v z => (0 ≤ v ∧ v ≤ 1) ∧ Bm p s1 z ∧ (v ≠ 0 → gI s1 217 11 + 1 ≤ gI z 217 11 ∧ gI z 217 11 ≤ gI s1 217 10)) (k_171 j1 (gsl_pos 50 (by decide) (by decide))) (fun v4 u0 h3 => ?_)
  have k0 := h3.2.1.1
  clear h3
  refine gT_ite (fun _ => ?_) (fun _ => gT_v0 (A := fun z => J p z) (c_177 k0 hv) (fun z hz => gT_ret ⟨rfl, hz⟩))
  refine gT_v1 (A := fun v z => (0 ≤ v ∧ v ≤ 1) ∧ Bm p u0 z ∧ (v ≠ 0 → gI u0 217 11 + 1 ≤ gI z 217 11 ∧ gI z 217 11 ≤ gI u0 217 10)) (k_171 k0 (gsl_pos 51 (by decide) (by decide))) (fun v4 u1 h3 => ?_)
  have k1 := h3.2.1.1
  clear h3
  refine gT_ite (fun _ => ?_) (fun _ => gT_v0 (A := fun z => J p z) (c_178 k1 hv) (fun z hz => gT_ret ⟨rfl, hz⟩))
  refine gT_v1 (A := fun v z => (0 ≤ v ∧ v ≤ 1) ∧ Bm p u1 z ∧ (v ≠ 0 → gI u1 217 11 + 1 ≤ gI z 217 11 ∧ gI z 217 11 ≤ gI u1 217 10)) (k_171 k1 (gsl_pos 52 (by decide) (by decide))) (fun v4 u2 h3 => ?_)
  have k2 := h3.2.1.1
  clear h3
  refine gT_ite (fun _ => ?_) (fun _ => gT_v0 (A := fun z => J p z) (c_179 k2 hv) (fun z hz => gT_ret ⟨rfl, hz⟩))
  refine gT_v1 (A := fun v z => (0 ≤ v ∧ v ≤ 1) ∧ Bm p u2 z ∧ (v ≠ 0 → gI u2 217 11 + 1 ≤ gI z 217 11 ∧ gI z 217 11 ≤ gI u2 217 10)) (k_171 k2 (gsl_pos 53 (by decide) (by decide))) (fun v4 u3 h3 => ?_)
  have k3 := h3.2.1.1
  clear h3
  refine gT_ite (fun _ => ?_) (fun _ => gT_v0 (A := fun z => J p z) (c_180 k3 hv) (fun z hz => gT_ret ⟨rfl, hz⟩))
  refine gT_v1 (A := fun v z => (0 ≤ v ∧ v ≤ 1) ∧ Bm p u3 z ∧ (v ≠ 0 → gI u3 217 11 + 1 ≤ gI z 217 11 ∧ gI z 217 11 ≤ gI u3 217 10)) (k_171 k3 (gsl_pos 54 (by decide) (by decide))) (fun v4 u4 h3 => ?_)
  have k4 := h3.2.1.1
  clear h3
  refine gT_ite (fun _ => ?_) (fun _ => gT_v0 (A := fun z => J p z) (c_181 k4 (by decide) (fun q hq => by cases hq)) (fun z hz => gT_ret ⟨rfl, hz⟩))
  refine gT_v1 (A := fun v z => (0 ≤ v ∧ v ≤ 1) ∧ Bm p u4 z ∧ (v ≠ 0 → gI u4 217 11 + 1 ≤ gI z 217 11 ∧ gI z 217 11 ≤ gI u4 217 10)) (k_171 k4 (gsl_pos 55 (by decide) (by decide))) (fun v4 u5 h3 => ?_)
  have k5 := h3.2.1.1
  clear h3
  refine gT_ite (fun _ => ?_) (fun _ => gT_v0 (A := fun z => J p z) (c_181 k5 (by decide) (fun q hq => by cases hq)) (fun z hz => gT_ret ⟨rfl, hz⟩))
  refine gT_v1 (A := fun v z => (0 ≤ v ∧ v ≤ 1) ∧ Bm p u5 z ∧ (v ≠ 0 → gI u5 217 11 + 1 ≤ gI z 217 11 ∧ gI z 217 11 ≤ gI u5 217 10)) (k_171 k5 (gsl_pos 56 (by decide) (by decide))) (fun v4 u6 h3 => ?_)
  have k6 := h3.2.1.1
  clear h3
  refine gT_ite (fun _ => ?_) (fun _ => gT_v0 (A := fun z => J p z) (c_181 k6 (by decide) (fun q hq => by cases hq)) (fun z hz => gT_ret ⟨rfl, hz⟩))
  refine gT_v1 (A := fun v z => (0 ≤ v ∧ v ≤ 1) ∧ Bm p u6 z ∧ (v ≠ 0 → gI u6 217 11 + 1 ≤ gI z 217 11 ∧ gI z 217 11 ≤ gI u6 217 10)) (k_171 k6 (gsl_pos 57 (by decide) (by decide))) (fun v4 u7 h3 => ?_)
  have k7 := h3.2.1.1
  clear h3
  refine gT_ite (fun _ => ?_) (fun _ => gT_v0 (A := fun z => J p z) (c_181 k7 (by decide) (fun q hq => by cases hq; decide)) (fun z hz => gT_ret ⟨rfl, hz⟩))
  have r1 := J_f (i := 11) k7 t12 rfl (by decide) rfl
  exact gT_v0 (A := fun z => Bm p u7 z ∧ gI z 217 12 ≠ -1) (k_172 k7 r1.1) (fun z hz => gT_ret ⟨rfl, hz.1.1⟩)
end Ln
