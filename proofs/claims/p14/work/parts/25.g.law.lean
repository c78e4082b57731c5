def Km (p : gP) (e d b u : Int) (s : gS) : Prop := J p s ∧ gI s 217 10 = e ∧ gI s 217 13 = d ∧ b ≤ gI s 217 11 ∧ gI s 217 11 ≤ u
section Lw
variable {p : gP} {e d b b' u : Int} {s s' : gS} {v : Int} {w : Nat}
theorem Km_b (h : Km p e d b u s) (hB : Bm p s s') (hu : e ≤ u) : Km p e d b u s' := by
  have e1 := Bm_e hB.2.1
  have e2 : gI s' 217 13 = gI s 217 13 := hB.2.1.2 217 13 (by decide)
  obtain ⟨-, h1, h2, h3, h4⟩ := h
  have q1 := hB.2.2.1
  have q2 := hB.2.2.2.1
  exact ⟨hB.1, by omega, by omega, by omega, by omega⟩
theorem Km_lo (h : Km p e d b u s) (hb : b' ≤ b) : Km p e d b' u s := ⟨h.1, h.2.1, h.2.2.1, by have := h.2.2.2.1; omega, h.2.2.2.2⟩
theorem Km_of (h : J p s) : Km p (gI s 217 10) (gI s 217 13) (gI s 217 11) 406 s := ⟨h, rfl, rfl, Int.le_refl _, (J_f (i := 11) h t12 rfl (by decide) rfl).2⟩
theorem k_188 (h : J p s) : gT (f_188 217 s) (fun r => r.1 = 1 ∧ Bm p s r.2.2.2) := by
  have hend : ∀ (x : Int) (u : gS), Bm p s u → -1 ≤ x ∧ x ≤ 6 → gT (fb_188_145 217 x u) (fun r => r.1 = 1 ∧ Bm p s r.2.2.2) := by
    intro x u hb hx
    unfold fb_188_145
    have r1 := J_f (i := 11) hb.1 t12 rfl (by decide) rfl
    refine gT_ite (fun _ => ?_) (fun _ => gT_chk (by omega) (by omega) (gT_ret ⟨rfl, hb⟩))
    exact gT_v0 (A := fun z => Bm p u z ∧ gI z 217 12 ≠ -1) (k_172 hb.1 r1.1) (fun z hz => gT_ret ⟨rfl, Bm_t hb hz.1⟩)
  have hname : ∀ u : gS, Bm p s u → gT (fb_188_52 217 u) (fun r => r.1 = 1 ∧ Bm p s r.2.2.2) := by
    intro u0 b0
    unfold fb_188_52
    refine gT_v1 (A := fun v z => (0 ≤ v ∧ v ≤ 1) ∧ Bm p u0 z ∧ (v ≠ 0 → gI u0 217 11 + 1 ≤ gI z 217 11 ∧ gI z 217 11 ≤ gI u0 217 10)) (k_171 b0.1 (gsl_pos 51 (by decide) (by decide))) (fun v4 u1 h3 => ?_)
    have b1 := Bm_t b0 h3.2.1
    clear h3
    refine gT_ite (fun _ => ?_) (fun _ => hend _ _ b1 (by decide))
    refine gT_v1 (A := fun v z => (0 ≤ v ∧ v ≤ 1) ∧ Bm p u1 z ∧ (v ≠ 0 → gI u1 217 11 + 1 ≤ gI z 217 11 ∧ gI z 217 11 ≤ gI u1 217 10)) (k_171 b1.1 (gsl_pos 46 (by decide) (by decide))) (fun v4 u2 h3 => ?_)
    have b2 := Bm_t b1 h3.2.1
    clear h3
    refine gT_ite (fun _ => ?_) (fun _ => hend _ _ b2 (by decide))
    refine gT_v1 (A := fun v z => (0 ≤ v ∧ v ≤ 1) ∧ Bm p u2 z ∧ (v ≠ 0 → gI u2 217 11 + 1 ≤ gI z 217 11 ∧ gI z 217 11 ≤ gI u2 217 10)) (k_171 b2.1 (gsl_pos 47 (by decide) (by decide))) (fun v4 u3 h3 => ?_)
    have b3 := Bm_t b2 h3.2.1
    clear h3
    refine gT_ite (fun _ => ?_) (fun _ => hend _ _ b3 (by decide))
    refine gT_v1 (A := fun v z => (0 ≤ v ∧ v ≤ 1) ∧ Bm p u3 z ∧ (v ≠ 0 → gI u3 217 11 + 1 ≤ gI z 217 11 ∧ gI z 217 11 ≤ gI u3 217 10)) (k_171 b3.1 (gsl_pos 58 (by decide) (by decide))) (fun v4 u4 h3 => ?_)
    have b4 := Bm_t b3 h3.2.1
    clear h3
    refine gT_ite (fun _ => ?_) (fun _ => hend _ _ b4 (by decide))
    refine gT_v1 (A := fun v z => (0 ≤ v ∧ v ≤ 1) ∧ Bm p u4 z ∧ (v ≠ 0 → gI u4 217 11 + 1 ≤ gI z 217 11 ∧ gI z 217 11 ≤ gI u4 217 10)) (k_171 b4.1 (gsl_pos 59 (by decide) (by decide))) (fun v4 u5 h3 => ?_)
    have b5 := Bm_t b4 h3.2.1
    clear h3
    refine gT_ite (fun _ => ?_) (fun _ => hend _ _ b5 (by decide))
    refine gT_v1 (A := fun v z => (0 ≤ v ∧ v ≤ 1) ∧ Bm p u5 z ∧ (v ≠ 0 → gI u5 217 11 + 1 ≤ gI z 217 11 ∧ gI z 217 11 ≤ gI u5 217 10)) (k_171 b5.1 (gsl_pos 60 (by decide) (by decide))) (fun v4 u6 h3 => ?_)
    have b6 := Bm_t b5 h3.2.1
    clear h3
    refine gT_ite (fun _ => ?_) (fun _ => hend _ _ b6 (by decide))
    refine gT_v1 (A := fun v z => (0 ≤ v ∧ v ≤ 1) ∧ Bm p u6 z ∧ (v ≠ 0 → gI u6 217 11 + 1 ≤ gI z 217 11 ∧ gI z 217 11 ≤ gI u6 217 10)) (k_171 b6.1 (gsl_pos 61 (by decide) (by decide))) (fun v4 u7 h3 => ?_)
    have b7 := Bm_t b6 h3.2.1
    clear h3
    exact gT_ite (fun _ => hend _ _ b7 (by decide)) (fun _ => hend _ _ b7 (by decide))
  unfold f_188
  refine gT_ite (fun _ => ?_) (fun _ => gT_ret ⟨rfl, Bm_r h⟩)
  refine gT_v0 (A := fun z => Bm p s z) (k_169 h) (fun s1 b1 => ?_)
  have r1 := J_f (i := 11) b1.1 t12 rfl (by decide) rfl
  have r10 := J_f (i := 10) b1.1 t12 rfl (by decide) rfl
  refine gT_ite (fun hx => ?_) (fun _ => hname _ b1)
  refine gT_v1 (A := fun _ z => z = s1) (k_168 b1.1 (by omega)) (fun v4 s3 e => ?_)
  subst e
  refine gT_v1 (A := fun _ z => z = s3) q_150 (fun v6 s5 e => ?_)
  subst e
  refine gT_ite (fun _ => hname _ b1) (fun _ => ?_)
  refine gT_v1 (A := fun v z => Bm p s5 z ∧ (gI z 217 12 = -1 → 0 ≤ v ∧ v ≤ 999)) (k_174 b1.1) (fun v32 s31 h31 => ?_)
  exact gT_ret ⟨rfl, Bm_t b1 h31.1⟩
theorem k_189 (h : J p s) : gT (f_189 217 s) (fun r => r.1 = 1 ∧ Bm p s r.2.2.2) := by
  unfold f_189
  refine gT_v1 (A := fun _ z => Bm p s z) (k_188 h) (fun v2 s1 b1 => ?_)
  refine gT_loop (fun y => y.1 = 217 ∧ Bm p s y.2.2) (fun y => (400 - gI y.2.2 217 11).toNat) (fun y hy => ?_) ⟨rfl, b1⟩
  obtain ⟨x0, x1, u⟩ := y
  obtain ⟨q0, b⟩ := hy
  dsimp only at q0 b
  subst q0
  show gT (sb_189_5 217 x1 u) _
  unfold sb_189_5
  refine gT_ite (fun _ => ?_) (fun _ => gT_map (gT_ret ⟨rfl, b⟩))
  refine gT_v1 (A := fun v z => (0 ≤ v ∧ v ≤ 1) ∧ Bm p u z ∧ (v ≠ 0 → gI z 217 11 < gI z 217 10)) (k_170 b.1) (fun v4 s3 h3 => ?_)
  refine gT_ite (fun _ => gT_map (gT_ret ⟨rfl, Bm_t b h3.2.1⟩)) (fun hn => ?_)
  have q := Bm_at (Bm_t b h3.2.1) (h3.2.2 hn)
  have r10 := J_f (i := 10) h3.2.1.1 t12 rfl (by decide) rfl
  extract_lets s6
  refine gT_v1 (A := fun _ z => Bm p s6 z) (k_188 q.1.1) (fun v8 s7 b7 => ?_)
  refine gT_ret ⟨⟨rfl, Bm_t q.1 b7⟩, ?_⟩
  show (400 - gI s7 217 11).toNat < (400 - gI u 217 11).toNat
  have q1 := h3.2.1.2.2.1
  have q2 := b7.2.2.1
  have q3 : gI s6 217 11 = gI s3 217 11 + 1 := q.2
  have q4 := h3.2.2 hn
  omega
theorem k_190 (h : J p s) : gT (f_190 217 s) (fun r => r.1 = 1 ∧ (0 ≤ r.2.1 ∧ r.2.1 ≤ 1) ∧ Bm p s r.2.2.2) := by
  have hend : ∀ (x1 x2 : Int) (u : gS), Bm p s u → gI u 217 11 < gI u 217 10 → gT (fb_190_73 217 x1 x2 u) (fun r => r.1 = 1 ∧ (0 ≤ r.2.1 ∧ r.2.1 ≤ 1) ∧ Bm p s r.2.2.2) := by
    intro x1 x2 u b hx
    unfold fb_190_73
    have q := Bm_at b hx
    extract_lets s17
    refine gT_v1 (A := fun _ z => Bm p s17 z) (k_189 q.1.1) (fun v19 s18 b18 => ?_)
    have b := Bm_t q.1 b18
    exact gT_ite (fun _ => gT_ite (fun _ => gT_ret ⟨rfl, by first | decide | omega | (dsimp only; omega), b⟩) (fun _ => gT_ret ⟨rfl, by first | decide | omega | (dsimp only; omega), b⟩)) (fun _ => gT_ite (fun _ => gT_ret ⟨rfl, by first | decide | omega | (dsimp only; omega), b⟩) (fun _ => gT_ret ⟨rfl, by first | decide | omega | (dsimp only; omega), b⟩))
  unfold f_190
  refine gT_v1 (A := fun v z => (0 ≤ v ∧ v ≤ 1) ∧ Bm p s z ∧ (v ≠ 0 → gI s 217 11 + 1 ≤ gI z 217 11 ∧ gI z 217 11 ≤ gI s 217 10)) (k_171 h (gsl_pos 62 (by decide) (by decide))) (fun v2 s1 h1 => ?_)
  have b1 := h1.2.1
  have r15 := J_f (i := 15) b1.1 t12 rfl (by decide) rfl
  refine gT_ite (fun _ => ?_) (fun _ => gT_bool (by omega) (gT_ret ⟨rfl, r15, b1⟩))
  refine gT_v1 (A := fun v z => (0 ≤ v ∧ v ≤ 1) ∧ Bm p s1 z ∧ (v ≠ 0 → gI s1 217 11 + 1 ≤ gI z 217 11 ∧ gI z 217 11 ≤ gI s1 217 10)) (k_171 b1.1 (gsl_pos 63 (by decide) (by decide))) (fun v5 s4 h4 => ?_)
  have b4 := Bm_t b1 h4.2.1
  have r16 := J_f (i := 16) b4.1 t12 rfl (by decide) rfl
  refine gT_ite (fun _ => ?_) (fun _ => gT_bool (by omega) (gT_ret ⟨rfl, r16, b4⟩))
  refine gT_v1 (A := fun _ z => Bm p s4 z) (k_189 b4.1) (fun v8 s7 h7 => ?_)
  have b7 := Bm_t b4 h7
  refine gT_ite (fun _ => ?_) (fun _ => gT_ret ⟨rfl, by first | decide | omega | (dsimp only; omega), b7⟩)
  refine gT_v1 (A := fun v z => (0 ≤ v ∧ v ≤ 1) ∧ Bm p s7 z ∧ (v ≠ 0 → gI z 217 11 < gI z 217 10)) (k_170 b7.1) (fun v10 s9 h9 => ?_)
  have b9 := Bm_t b7 h9.2.1
  refine gT_ite (fun _ => ?_) (fun hn => hend _ _ _ b9 (h9.2.2 hn))
  refine gT_v1 (A := fun v z => (0 ≤ v ∧ v ≤ 1) ∧ Bm p s9 z ∧ (v ≠ 0 → gI z 217 11 < gI z 217 10)) (k_170 b9.1) (fun v13 s12 h12 => ?_)
  have b12 := Bm_t b9 h12.2.1
  refine gT_ite (fun _ => ?_) (fun hn => hend _ _ _ b12 (h12.2.2 hn))
  have r1 := J_f (i := 11) b12.1 t12 rfl (by decide) rfl
  exact gT_v0 (A := fun z => Bm p s12 z ∧ gI z 217 12 ≠ -1) (k_172 b12.1 r1.1) (fun z hz => gT_ret ⟨rfl, by first | decide | omega | (dsimp only; omega), Bm_t b12 hz.1⟩)
theorem Km_dp (h : Km p e d b u s) {d' : Int} (hd : 0 ≤ d' ∧ d' ≤ 6) : Km p e d' b u (gw s 217 13 d') := by
  have e1 : gI (gw s 217 13 d') 217 10 = gI s 217 10 := rd_k (a := 217) (k := 10) rfl (by decide)
  have e2 : gI (gw s 217 13 d') 217 11 = gI s 217 11 := rd_k (a := 217) (k := 11) rfl (by decide)
  have e3 : gI (gw s 217 13 d') 217 13 = d' := rd_same rfl
  obtain ⟨h0, h1, h2, h3, h4⟩ := h
  exact ⟨J_wf h0 t12 rfl (by decide) (by decide) (fun q hq => by cases hq; exact hd), by omega, e3, by omega, by omega⟩
theorem Km_at (h : Km p e d b u s) {u' : Int} (hu : gI s 217 11 + 1 ≤ u') (hu6 : u' ≤ 406) : Km p e d b u' (gw s 217 11 (g32 (gI s 217 11 + 1))) := by
  have r1 := J_f (i := 11) h.1 t12 rfl (by decide) rfl
  have e0 := g32_eq (v := gI s 217 11 + 1) (by omega) (by omega)
  rw [e0]
  have e1 : gI (gw s 217 11 (gI s 217 11 + 1)) 217 10 = gI s 217 10 := rd_k (a := 217) (k := 10) rfl (by decide)
  have e2 : gI (gw s 217 11 (gI s 217 11 + 1)) 217 11 = gI s 217 11 + 1 := rd_same rfl
  have e3 : gI (gw s 217 11 (gI s 217 11 + 1)) 217 13 = gI s 217 13 := rd_k (a := 217) (k := 13) rfl (by decide)
  obtain ⟨h0, h1, h2, h3, h4⟩ := h
  exact ⟨J_wf h0 t12 rfl (by decide) (by decide) (fun q hq => by cases hq; dsimp only; omega), by omega, by omega, by omega, by omega⟩
theorem k_191 {R S : Nat → gS → Option gO} (hd : 0 ≤ d ∧ d ≤ 6) (hu : e + 6 - d ≤ u) (hu6 : u ≤ 406) (hR : d < 6 → ∀ {b : Int} {s : gS}, Km p e (d + 1) b u s → gT (R 217 s) (fun r => r.1 = 1 ∧ (0 ≤ r.2.1 ∧ r.2.1 ≤ 1) ∧ Km p e (d + 1) b u r.2.2.2)) (hS : d < 6 → ∀ {b : Int} {s : gS}, Km p e (d + 1) b (e + 5 - d) s → gT (S 217 s) (fun r => r.1 = 1 ∧ (0 ≤ r.2.1 ∧ r.2.1 ≤ 1) ∧ Km p e (d + 1) b (e + 5 - d) r.2.2.2)) (h : Km p e d b u s) : gT (fo_191 R S 217 s) (fun r => r.1 = 1 ∧ (0 ≤ r.2.1 ∧ r.2.1 ≤ 1) ∧ Km p e d b u r.2.2.2) := by
  have heu : e ≤ u := by omega
  have h138 : ∀ (x : Int) (z : gS), (0 ≤ x ∧ x ≤ 1) → d < 6 → Km p e (d + 1) b u z → gT (fb_191_138 R S 217 x z) (fun r => r.1 = 1 ∧ (0 ≤ r.2.1 ∧ r.2.1 ≤ 1) ∧ Km p e d b u r.2.2.2) := by
    intro x z hx hd6 kz
    unfold fb_191_138
    have g := g32_eq (v := gI z 217 13 - 1) (by have := kz.2.2.1; omega) (by have := kz.2.2.1; omega)
    rw [g, kz.2.2.1, show d + 1 - 1 = d by omega]
    exact gT_bool (by omega) (gT_ret ⟨rfl, hx, Km_dp kz hd⟩)
  have h40 : ∀ (x1 x2 : Int) (z : gS), 0 ≤ x1 → Km p e d b u z → (x2 = 0 → gI z 217 11 < gI z 217 10) → gT (fb_191_40 R S 217 x1 x2 z) (fun r => r.1 = 1 ∧ (0 ≤ r.2.1 ∧ r.2.1 ≤ 1) ∧ Km p e d b u r.2.2.2) := by
    intro x1 x2 z hx1 kz hx
    unfold fb_191_40
    rw [kz.2.2.1]
    refine gT_ite (fun _ => ?_) (fun h6 => ?_)
    · exact gT_v0 (A := fun y => Bm p z y ∧ gI y 217 12 ≠ -1) (k_172 kz.1 hx1) (fun y hy => gT_ret ⟨rfl, by first | decide | omega | (dsimp only; omega), Km_b kz hy.1 heu⟩)
    have hd6 : d < 6 := by omega
    have g := g32_eq (v := d + 1) (by omega) (by omega)
    rw [g]
    extract_lets s14 s15
    have k14 : Km p e (d + 1) b u s14 := Km_dp kz (by omega)
    refine gT_ite (fun h0 => ?_) (fun _ => ?_)
    · have a14 : gI s14 217 11 = gI z 217 11 := rd_k (a := 217) (k := 11) (show s14 = gw z 217 13 (d + 1) from rfl) (by decide)
      have k15 : Km p e (d + 1) b (e + 5 - d) s15 := Km_at k14 (by have := hx h0; have := kz.2.1; omega) (by omega)
      refine gT_v1 (A := fun v y => (0 ≤ v ∧ v ≤ 1) ∧ Km p e (d + 1) b (e + 5 - d) y) (hS hd6 k15) (fun v17 s16 h16 => ?_)
      have h128 : ∀ y, Km p e (d + 1) b (e + 5 - d) y → gT (fb_191_128 R S 217 v17 y) (fun r => r.1 = 1 ∧ (0 ≤ r.2.1 ∧ r.2.1 ≤ 1) ∧ Km p e d b u r.2.2.2) := by
        intro y ky
        unfold fb_191_128
        exact h138 _ _ h16.1 hd6 (Km_at ky (by have := ky.2.2.2.2; omega) hu6)
      refine gT_ite (fun _ => ?_) (fun _ => h128 _ h16.2)
      refine gT_v1 (A := fun v y => (0 ≤ v ∧ v ≤ 1) ∧ Bm p s16 y ∧ (v ≠ 0 → gI y 217 11 < gI y 217 10)) (k_170 h16.2.1) (fun v20 s19 h19 => ?_)
      have k19 := Km_b h16.2 h19.2.1 (by omega)
      refine gT_ite (fun _ => ?_) (fun _ => h128 _ k19)
      have r1 := J_f (i := 11) k19.1 t12 rfl (by decide) rfl
      exact gT_v0 (A := fun y => Bm p s19 y ∧ gI y 217 12 ≠ -1) (k_172 k19.1 r1.1) (fun y hy => h128 _ (Km_b k19 hy.1 (by omega)))
    · refine gT_v1 (A := fun v y => (0 ≤ v ∧ v ≤ 1) ∧ Km p e (d + 1) b u y) (hR hd6 k14) (fun v27 s26 h26 => ?_)
      exact gT_ite (fun _ => h138 _ _ (by decide) hd6 h26.2) (fun _ => h138 _ _ (by decide) hd6 h26.2)
  unfold fo_191
  refine gT_ite (fun _ => ?_) (fun _ => gT_ret ⟨rfl, by first | decide | omega | (dsimp only; omega), h⟩)
  refine gT_v1 (A := fun v z => (v = gI z 217 11 ∧ 0 ≤ v ∧ v ≤ 406) ∧ Bm p s z) (k_173 h.1) (fun v2 s1 h1 => ?_)
  have k1 := Km_b h h1.2 heu
  refine gT_v1 (A := fun v z => (0 ≤ v ∧ v ≤ 1) ∧ Bm p s1 z ∧ (v ≠ 0 → gI s1 217 11 + 1 ≤ gI z 217 11 ∧ gI z 217 11 ≤ gI s1 217 10)) (k_171 k1.1 (gsl_pos 64 (by decide) (by decide))) (fun v4 s3 h3 => ?_)
  have k3 := Km_b k1 h3.2.1 heu
  refine gT_ite (fun h0 => ?_) (fun hn => h40 _ _ _ h1.1.2.1 k3 (fun e => absurd e hn))
  refine gT_v1 (A := fun v z => (0 ≤ v ∧ v ≤ 1) ∧ Bm p s3 z ∧ (v ≠ 0 → gI z 217 11 < gI z 217 10)) (k_170 k3.1) (fun v7 s6 h6 => ?_)
  have k6 := Km_b k3 h6.2.1 heu
  refine gT_ite (fun _ => ?_) (fun hn => h40 _ _ _ h1.1.2.1 k6 (fun _ => h6.2.2 hn))
  refine gT_v1 (A := fun v z => (0 ≤ v ∧ v ≤ 1) ∧ Bm p s6 z) (k_190 k6.1) (fun v10 s9 h9 => ?_)
  exact gT_ret ⟨rfl, h9.1, Km_b k6 h9.2 heu⟩
theorem k_192 {R : Nat → gS → Option gO} (heu : e ≤ u) (hR : ∀ {b : Int} {s : gS}, Km p e d b u s → gT (R 217 s) (fun r => r.1 = 1 ∧ (0 ≤ r.2.1 ∧ r.2.1 ≤ 1) ∧ Km p e d b u r.2.2.2)) (h : Km p e d b u s) : gT (fo_192 R 217 s) (fun r => r.1 = 1 ∧ (0 ≤ r.2.1 ∧ r.2.1 ≤ 1) ∧ Km p e d b u r.2.2.2) := by
  unfold fo_192
  refine gT_v1 (A := fun v z => (0 ≤ v ∧ v ≤ 1) ∧ Km p e d b u z) (hR h) (fun v2 s1 h1 => ?_)
  refine gT_loop (fun y => y.1 = 217 ∧ (0 ≤ y.2.1 ∧ y.2.1 ≤ 1) ∧ Km p e d b u y.2.2) (fun y => (u - gI y.2.2 217 11).toNat) (fun y hy => ?_) ⟨rfl, h1.1, h1.2⟩
  obtain ⟨x0, x1, z⟩ := y
  obtain ⟨q0, r1, k⟩ := hy
  dsimp only at q0 r1 k
  subst q0
  show gT (sb_192_5 R 217 x1 z) _
  unfold sb_192_5
  refine gT_ite (fun _ => ?_) (fun _ => gT_map (gT_bool (by omega) (gT_ret ⟨rfl, r1, k⟩)))
  refine gT_v1 (A := fun v y => (0 ≤ v ∧ v ≤ 1) ∧ Bm p z y ∧ (v ≠ 0 → gI z 217 11 + 1 ≤ gI y 217 11 ∧ gI y 217 11 ≤ gI z 217 10)) (k_171 k.1 (gsl_pos 65 (by decide) (by decide))) (fun v5 s4 h4 => ?_)
  have k4 := Km_b k h4.2.1 heu
  refine gT_ite (fun _ => gT_map (gT_bool (by omega) (gT_ret ⟨rfl, r1, k4⟩))) (fun hn => ?_)
  have q4 := (h4.2.2 hn).1
  have k4' : Km p e d (gI z 217 11 + 1) u s4 := ⟨k4.1, k4.2.1, k4.2.2.1, q4, k4.2.2.2.2⟩
  refine gT_v1 (A := fun v y => (0 ≤ v ∧ v ≤ 1) ∧ Km p e d (gI z 217 11 + 1) u y) (hR k4') (fun v8 s7 h7 => ?_)
  have k7 : Km p e d b u s7 := Km_lo h7.2 (by have := k.2.2.2.1; omega)
  have m7 : (u - gI s7 217 11).toNat < (u - gI z 217 11).toNat := by
    have := h7.2.2.2.2
    omega
  exact gT_ite (fun _ => gT_ret ⟨⟨rfl, by first | decide | omega | (dsimp only; omega), k7⟩, m7⟩) (fun _ => gT_ite (fun _ => gT_ret ⟨⟨rfl, by first | decide | omega | (dsimp only; omega), k7⟩, m7⟩) (fun _ => gT_ret ⟨⟨rfl, by first | decide | omega | (dsimp only; omega), k7⟩, m7⟩))
theorem k_193 {R : Nat → gS → Option gO} (heu : e ≤ u) (hR : ∀ {b : Int} {s : gS}, Km p e d b u s → gT (R 217 s) (fun r => r.1 = 1 ∧ (0 ≤ r.2.1 ∧ r.2.1 ≤ 1) ∧ Km p e d b u r.2.2.2)) (h : Km p e d b u s) : gT (fo_193 R 217 s) (fun r => r.1 = 1 ∧ (0 ≤ r.2.1 ∧ r.2.1 ≤ 1) ∧ Km p e d b u r.2.2.2) := by
  unfold fo_193
  refine gT_v1 (A := fun v z => (0 ≤ v ∧ v ≤ 1) ∧ Km p e d b u z) (hR h) (fun v2 s1 h1 => ?_)
  refine gT_loop (fun y => y.1 = 217 ∧ (0 ≤ y.2.1 ∧ y.2.1 ≤ 1) ∧ Km p e d b u y.2.2) (fun y => (u - gI y.2.2 217 11).toNat) (fun y hy => ?_) ⟨rfl, h1.1, h1.2⟩
  obtain ⟨x0, x1, z⟩ := y
  obtain ⟨q0, r1, k⟩ := hy
  dsimp only at q0 r1 k
  subst q0
  show gT (sb_193_5 R 217 x1 z) _
  unfold sb_193_5
  refine gT_ite (fun _ => ?_) (fun _ => gT_map (gT_bool (by omega) (gT_ret ⟨rfl, r1, k⟩)))
  refine gT_v1 (A := fun v y => (0 ≤ v ∧ v ≤ 1) ∧ Bm p z y ∧ (v ≠ 0 → gI z 217 11 + 1 ≤ gI y 217 11 ∧ gI y 217 11 ≤ gI z 217 10)) (k_171 k.1 (gsl_pos 66 (by decide) (by decide))) (fun v5 s4 h4 => ?_)
  have k4 := Km_b k h4.2.1 heu
  refine gT_ite (fun _ => gT_map (gT_bool (by omega) (gT_ret ⟨rfl, r1, k4⟩))) (fun hn => ?_)
  have q4 := (h4.2.2 hn).1
  have k4' : Km p e d (gI z 217 11 + 1) u s4 := ⟨k4.1, k4.2.1, k4.2.2.1, q4, k4.2.2.2.2⟩
  refine gT_v1 (A := fun v y => (0 ≤ v ∧ v ≤ 1) ∧ Km p e d (gI z 217 11 + 1) u y) (hR k4') (fun v8 s7 h7 => ?_)
  have k7 : Km p e d b u s7 := Km_lo h7.2 (by have := k.2.2.2.1; omega)
  have m7 : (u - gI s7 217 11).toNat < (u - gI z 217 11).toNat := by
    have := h7.2.2.2.2
    omega
  exact gT_ite (fun _ => gT_ite (fun _ => gT_ret ⟨⟨rfl, by first | decide | omega | (dsimp only; omega), k7⟩, m7⟩) (fun _ => gT_ret ⟨⟨rfl, by first | decide | omega | (dsimp only; omega), k7⟩, m7⟩)) (fun _ => gT_ret ⟨⟨rfl, by first | decide | omega | (dsimp only; omega), k7⟩, m7⟩)
theorem k_rg (n : Nat) : ∀ {e d b u : Int} {s : gS}, 0 ≤ d ∧ d ≤ 6 → e + 6 - d ≤ u → u ≤ 406 → Km p e d b u s → (3 * (6 - d) + 3 ≤ n → gT (fn_193 n 217 s) (fun r => r.1 = 1 ∧ (0 ≤ r.2.1 ∧ r.2.1 ≤ 1) ∧ Km p e d b u r.2.2.2)) ∧ (3 * (6 - d) + 2 ≤ n → gT (fn_192 n 217 s) (fun r => r.1 = 1 ∧ (0 ≤ r.2.1 ∧ r.2.1 ≤ 1) ∧ Km p e d b u r.2.2.2)) ∧ (3 * (6 - d) + 1 ≤ n → gT (fn_191 n 217 s) (fun r => r.1 = 1 ∧ (0 ≤ r.2.1 ∧ r.2.1 ≤ 1) ∧ Km p e d b u r.2.2.2)) := by
  induction n with
  | zero => intro e d b u s hd hu hu6 h; exact ⟨fun e => by omega, fun e => by omega, fun e => by omega⟩
  | succ n ih =>
    intro e d b u s hd hu hu6 h
    refine ⟨fun e => ?_, fun e => ?_, fun e => ?_⟩
    · exact k_193 (R := fn_192 n) (by omega) (fun h => (ih hd hu hu6 h).2.1 (by omega)) h
    · exact k_192 (R := fn_191 n) (by omega) (fun h => (ih hd hu hu6 h).2.2 (by omega)) h
    · exact k_191 (R := fn_191 n) (S := fn_193 n) hd hu hu6 (fun h6 _ _ h => (ih (by omega) (by omega) hu6 h).2.2 (by omega)) (fun h6 _ _ h => (ih (by omega) (by omega) (by omega) h).1 (by omega)) h
theorem k_f193 (h : J p s) : gT (f_193 217 s) (fun r => r.1 = 1 ∧ (0 ≤ r.2.1 ∧ r.2.1 ≤ 1) ∧ J p r.2.2.2) := by
  have r10 := J_f (i := 10) h t12 rfl (by decide) rfl
  have r13 := J_f (i := 13) h t12 rfl (by decide) rfl
  exact gT_mono ((k_rg 24 r13 (by omega) (by decide) (Km_of h)).1 (by omega)) (fun r hr => ⟨hr.1, hr.2.1, hr.2.2.1⟩)
theorem k_194 (h : J p s) : gT (f_194 217 s) (fun r => r.1 = 0 ∧ J p r.2.2.2) := by
  have h67 : ∀ (x1 x2 w : Int) (z : gS), J p z → gT (fb_194_67 217 x1 x2 w z) (fun r => r.1 = 0 ∧ J p r.2.2.2) := by
    intro x1 x2 w z jz
    have h95 : ∀ a c : Int, gT (fb_194_95 a c 217 z) (fun r => r.1 = 0 ∧ J p r.2.2.2) := by
      intro a c
      unfold fb_194_95
      exact gT_ret ⟨rfl, J_wf jz t12 rfl (by decide) (by decide) (fun q hq => by cases hq)⟩
    unfold fb_194_67
    exact gT_ite (fun _ => gT_ite (fun _ => gT_ret ⟨rfl, jz⟩) (fun _ => gT_ite (fun _ => h95 _ _) (fun _ => h95 _ _))) (fun _ => gT_ret ⟨rfl, jz⟩)
  have h29 : ∀ (x : Int) (z : gS), J p z → gT (fb_194_29 217 x z) (fun r => r.1 = 0 ∧ J p r.2.2.2) := by
    intro x z jz
    unfold fb_194_29
    refine gT_v1 (A := fun v y => Bm p z y ∧ (gI y 217 12 = -1 → 0 ≤ v ∧ v ≤ 30)) (k_174 jz) (fun v10 s9 h9 => ?_)
    refine gT_ite (fun _ => ?_) (fun _ => gT_ret ⟨rfl, h9.1.1⟩)
    refine gT_v1 (A := fun v y => (0 ≤ v ∧ v ≤ 1) ∧ Bm p s9 y ∧ (v ≠ 0 → gI s9 217 11 + 1 ≤ gI y 217 11 ∧ gI y 217 11 ≤ gI s9 217 10)) (k_171 h9.1.1 (gsl_pos 69 (by decide) (by decide))) (fun v12 s11 h11 => ?_)
    refine gT_ite (fun _ => h67 _ _ _ _ h11.2.1.1) (fun _ => ?_)
    refine gT_v1 (A := fun v y => (0 ≤ v ∧ v ≤ 1) ∧ J p y) (k_f193 h11.2.1.1) (fun v16 s15 h15 => ?_)
    exact gT_ite (fun _ => h67 _ _ _ _ h15.2) (fun _ => h67 _ _ _ _ h15.2)
  unfold f_194
  refine gT_v1 (A := fun v y => (0 ≤ v ∧ v ≤ 1) ∧ Bm p s y ∧ (v ≠ 0 → gI s 217 11 + 1 ≤ gI y 217 11 ∧ gI y 217 11 ≤ gI s 217 10)) (k_171 h (gsl_pos 67 (by decide) (by decide))) (fun v2 s1 h1 => ?_)
  refine gT_ite (fun _ => ?_) (fun _ => h29 _ _ h1.2.1.1)
  refine gT_v1 (A := fun v y => (0 ≤ v ∧ v ≤ 1) ∧ Bm p s1 y ∧ (v ≠ 0 → gI s1 217 11 + 1 ≤ gI y 217 11 ∧ gI y 217 11 ≤ gI s1 217 10)) (k_171 h1.2.1.1 (gsl_pos 68 (by decide) (by decide))) (fun v5 s4 h4 => ?_)
  refine gT_ite (fun _ => ?_) (fun _ => h29 _ _ h4.2.1.1)
  have r1 := J_f (i := 11) h4.2.1.1 t12 rfl (by decide) rfl
  exact gT_v0 (A := fun y => Bm p s4 y ∧ gI y 217 12 ≠ -1) (k_172 h4.2.1.1 r1.1) (fun y hy => gT_ret ⟨rfl, hy.1.1⟩)
theorem k_184 {a : Int} (h : J p s) : gT (f_184 217 a s) (fun r => r.1 = 1 ∧ J p r.2.2.2) := by
  unfold f_184
  refine gT_v0 (A := fun z => Bm p s z) (k_169 h) (fun s1 b1 => ?_)
  obtain ⟨L, hL⟩ : ∃ L : Int, L = if a = 0 then 14 else 12 := ⟨_, rfl⟩
  have hL' : (a = 0 → L = 14) ∧ (a ≠ 0 → L = 12) := ⟨fun e => by rw [hL, if_pos e], fun e => by rw [hL, if_neg e]⟩
  clear hL
  have hgo : ∀ w : Int, gT (fb_184_20 217 a w s1) (fun r => r.1 = 1 ∧ J p r.2.2.2) := by
    intro w
    unfold fb_184_20
    refine gT_loop (fun y => y.1 = 217 ∧ y.2.1 = a ∧ (0 ≤ y.2.2.2.1 ∧ y.2.2.2.1 ≤ 15) ∧ (y.2.2.2.1 ≤ L ∨ gI y.2.2.2.2 217 12 ≠ -1) ∧ J p y.2.2.2.2) (fun y => (16 - y.2.2.2.1).toNat) (fun y hy => ?_) ⟨rfl, rfl, by dsimp only; omega, by dsimp only; omega, b1.1⟩
    obtain ⟨x0, x1, x2, x3, z⟩ := y
    obtain ⟨q0, q1, r3, hf, jz⟩ := hy
    dsimp only at q0 q1 r3 hf jz
    subst q0 q1
    have e5 := g32_eq (v := x3 + 1) (by omega) (by omega)
    have h80 : ∀ y : gS, x3 ≤ L → J p y → (x3 + 1 ≤ L ∨ gI y 217 12 ≠ -1) → gT (fb_184_80 217 x1 x2 x3 y) (Sum.elim (fun o => (o.1 = 217 ∧ o.2.1 = x1 ∧ (0 ≤ o.2.2.2.1 ∧ o.2.2.2.1 ≤ 15) ∧ (o.2.2.2.1 ≤ L ∨ gI o.2.2.2.2 217 12 ≠ -1) ∧ J p o.2.2.2.2) ∧ (16 - o.2.2.2.1).toNat < (16 - x3).toNat) (fun r => r.1 = 1 ∧ J p r.2.2.2)) := by
      intro y hxL jy hy
      have hx15 : x3 ≤ 14 := by omega
      unfold fb_184_80
      refine gT_v0 (A := fun o => Bm p y o) (k_169 jy) (fun s7 b7 => ?_)
      refine gT_ite (fun h0 => ?_) (fun h0 => gT_ret ⟨⟨rfl, rfl, by dsimp only; omega, Or.inr h0, b7.1⟩, by dsimp only; omega⟩)
      have hx1 : x3 + 1 ≤ L := hy.resolve_right (fun e => e (b7.2.2.2.2 h0))
      refine gT_ite (fun _ => gT_ret ⟨⟨rfl, rfl, by dsimp only; omega, by dsimp only; omega, b7.1⟩, by dsimp only; omega⟩) (fun _ => ?_)
      refine gT_v1 (A := fun v o => (0 ≤ v ∧ v ≤ 1) ∧ Bm p s7 o ∧ (v ≠ 0 → gI o 217 11 < gI o 217 10)) (k_170 b7.1) (fun v10 s9 h9 => ?_)
      refine gT_ite (fun _ => ?_) (fun hn => ?_)
      · have r1 := J_f (i := 11) h9.2.1.1 t12 rfl (by decide) rfl
        exact gT_v0 (A := fun o => Bm p s9 o ∧ gI o 217 12 ≠ -1) (k_172 h9.2.1.1 r1.1) (fun o ho => gT_ret ⟨⟨rfl, rfl, by dsimp only; omega, by dsimp only; omega, ho.1.1⟩, by dsimp only; omega⟩)
      · have q := Bm_at h9.2.1 (h9.2.2 hn)
        exact gT_ret ⟨⟨rfl, rfl, by dsimp only; omega, by dsimp only; omega, q.1.1⟩, by dsimp only; omega⟩
    show gT (sb_184_23 217 x1 x2 x3 z) _
    unfold sb_184_23
    refine gT_ite (fun _ => gT_map (gT_ret ⟨rfl, jz⟩)) (fun _ => ?_)
    refine gT_ite (fun h0 => ?_) (fun _ => gT_map (gT_ret ⟨rfl, jz⟩))
    have hxL : x3 ≤ L := hf.resolve_right (fun e => e h0)
    refine gT_v0 (A := fun o => Bm p z o) (k_169 jz) (fun s3 b3 => ?_)
    have h51 : ∀ W : Int, W = L → gT (fb_184_51 217 x1 x2 x3 W x3 s3) (Sum.elim (fun o => (o.1 = 217 ∧ o.2.1 = x1 ∧ (0 ≤ o.2.2.2.1 ∧ o.2.2.2.1 ≤ 15) ∧ (o.2.2.2.1 ≤ L ∨ gI o.2.2.2.2 217 12 ≠ -1) ∧ J p o.2.2.2.2) ∧ (16 - o.2.2.2.1).toNat < (16 - x3).toNat) (fun r => r.1 = 1 ∧ J p r.2.2.2)) := by
      intro W hW
      unfold fb_184_51
      refine gT_ite (fun _ => ?_) (fun hn => ?_)
      · have r1 := J_f (i := 11) b3.1 t12 rfl (by decide) rfl
        exact gT_v0 (A := fun o => Bm p s3 o ∧ gI o 217 12 ≠ -1) (k_172 b3.1 r1.1) (fun o ho => h80 _ hxL ho.1.1 (Or.inr ho.2))
      · refine gT_ite (fun _ => ?_) (fun _ => ?_)
        · exact gT_v0 (A := fun o => J p o) (c_182 b3.1) (fun o ho => h80 _ hxL ho (Or.inl (by omega)))
        · exact gT_v0 (A := fun o => J p o) (k_194 b3.1) (fun o ho => h80 _ hxL ho (Or.inl (by omega)))
    exact gT_ite (fun h => h51 14 (by omega)) (fun h => h51 12 (by omega))
  exact gT_ite (fun _ => hgo _) (fun _ => hgo _)
/-- for callers that know only J -/
theorem d_184 {a0 : Nat} {a1 : Int} (_hp : -1 ≤ p.1 ∧ p.1 ≤ 0) (h : J p s) (t0 : T 12 a0) : gT (f_184 a0 a1 s) (fun r => r.1 = 1 ∧ True ∧ J p r.2.2.2) := by
  rw [T_12 t0]
  exact gT_mono (k_184 h) (fun _ hr => ⟨hr.1, trivial, hr.2⟩)
end Lw
