/-! the model reads a book; both halves together -/
/-- between the two halves of book -/
def Mbo (l : Nat) (v : Int) (s : gS) : Prop := (Rc2 s ∧ Rc3 s ∧ Rc4 s ∧ Rc5 s) ∧ ((((v = 1 ∧ ∃ q, rdb (gI s 222) l (gI s 218) = Sum.inl q) ∨ (v = 2 ∧ gI s 218 0 = 12 ∧ ∃ W, rdb (gI s 222) l (gI s 218) = Sum.inr W)) ∧ Rc1 s) ∨ (v = 0 ∧ (0 ≤ gI s 218 0 ∧ gI s 218 0 < 12) ∧ Rv (gI s 218) ∧ ∃ W, rdb (gI s 222) l (gI s 218) = Sum.inr W ∧ gI s 231 0 = gI s 218 0 + 1 ∧ ∀ k, Tx k → cv s 9 15 k = if k = 0 then gI s 218 0 + 1 else W k))
section Mk
variable {s t u : gS} {p : gP} {L : Nat → Int} {e l : Nat} {V W : Nat → Int} {v : Int}
theorem gQ_d1 {Q : Type} {P : Q → Prop} {z : Option gO} {A : gO → Prop} {K : Nat → gS → Option Q} {E : Int → gS → Option Q} (h : gQ z A) (k : ∀ r, A r → r.1 = 1 → gQ (E r.2.1 r.2.2.2) P) (kz : ∀ r, A r → 2 ≤ r.1 → gQ (K (r.1 - 2) r.2.2.2) P) : gQ (z.bind (gc1 K E)) P := by
  cases z with
  | none => exact gQ_none
  | some r =>
    have hA := h r rfl
    show gQ (gc1 K E r) P
    unfold gc1
    by_cases c : r.1 = 1
    · rw [if_pos c]
      exact k r hA c
    · rw [if_neg c]
      by_cases d : 2 ≤ r.1
      · rw [if_pos d]
        exact kz r hA d
      · rw [if_neg d]
        exact gQ_none
theorem bo_c (h : Rt s) {r : gO} (hB : Bh s l r) (hc : (∀ a k, 9 ≤ a → a < 27 → gI r.2.2.2 a k = gI s a k) ∧ gI r.2.2.2 0 14 = gI s 0 14) : Rc1 r.2.2.2 ∧ Rc4 r.2.2.2 := by
  obtain ⟨hf, -⟩ := hB
  exact ⟨c1_e h.1 hc.1 (fun k _ => hf 218 k (by decide) (by decide) (by omega) (by omega) (by omega)), c4_e h.2.2.2.1 (hf 0 13 (by decide) (by decide) (by omega) (by omega) (by omega)) hc.2 hc.1 (fun a k h1 h2 => hf a k (by omega) (by omega) (by omega) (by omega) (by omega))⟩
theorem bo_d (h : Rt s) {r : gO} (hf : ∀ a k, a < 232 → a ≠ 1 → ¬ (9 ≤ a ∧ a < 27) → ¬ (36 ≤ a ∧ a < 54) → ¬ (a = 0 ∧ (k = 14 ∨ k = 16)) → gI r.2.2.2 a k = gI s a k) : Rc2 r.2.2.2 ∧ Rc3 r.2.2.2 ∧ Rc5 r.2.2.2 := by
  obtain ⟨h1, h2, h3, h4, h5⟩ := h
  exact ⟨fun k => (hf 2 k (by decide) (by decide) (by omega) (by omega) (by omega)).trans ((h2 k).trans (hf 222 k (by decide) (by decide) (by omega) (by omega) (by omega)).symm), c3_e h3 (hf 217 3 (by decide) (by decide) (by omega) (by omega) (by omega)) (fun a k g1 g2 => hf a k (by omega) (by omega) (by omega) (by omega) (by omega)) (fun k => hf 219 k (by decide) (by decide) (by omega) (by omega) (by omega)), c5_e h5 (hf 217 6 (by decide) (by decide) (by omega) (by omega) (by omega)) (fun k => hf 221 k (by decide) (by decide) (by omega) (by omega) (by omega)) (fun k => hf 218 k (by decide) (by decide) (by omega) (by omega) (by omega))⟩
theorem rb_276 (hJ : J p s) (h : Rt s) : gQ (f_276 0 231 s) (fun r => Mbo p.2.1.toNat r.2.1 r.2.2.2) := by
  have q2_l : 0 ≤ gI s 218 0 ∧ gI s 218 0 ≤ 12 := ⟨(h.1 0 Tx_n.1).2.2.1, (h.1 0 Tx_n.1).2.1 rfl⟩
  unfold f_276
  refine gQ_d1 (rb_89 hJ h) (fun r hB_l hr => ?_) (fun r hB_l hr => ?_)
  · refine gQ_chk ?_
    dsimp only
    refine gQ_ret ?_
    dsimp only
    obtain ⟨hf, hc_l⟩ := hB_l
    obtain ⟨d2_l, d3_l, d5_l⟩ := bo_d h hf
    rcases hc_l with ⟨⟨z_l, -⟩ | ⟨z_l, -⟩, -⟩ | ⟨-, c2_l, W_l, c3_l, c4_l, c5_l, c6_l⟩
    · omega
    · omega
    have e2_l : ∀ a_l k_l, a_l ≠ 231 → gI (gw r.2.2.2 231 (0 : Int).toNat r.2.1) a_l k_l = gI r.2.2.2 a_l k_l := fun a_l k_l ha_l => rd_a rfl ha_l
    have e3_l : gI (gw r.2.2.2 231 (0 : Int).toNat r.2.1) 231 0 = r.2.1 := rd_same rfl
    generalize gw r.2.2.2 231 (0 : Int).toNat r.2.1 = t at *
    have g8 : ∀ k_l, gI t 218 k_l = gI s 218 k_l := fun k_l => (e2_l 218 k_l (by decide)).trans (hf 218 k_l (by decide) (by decide) (by omega) (by omega) (by omega))
    have g22 : gI t 222 = gI s 222 := funext fun k_l => (e2_l 222 k_l (by decide)).trans (hf 222 k_l (by decide) (by decide) (by omega) (by omega) (by omega))
    have g18 : gI t 218 = gI s 218 := funext g8
    refine ⟨⟨fun k_l => (e2_l 2 k_l (by decide)).trans ((d2_l k_l).trans (e2_l 222 k_l (by decide)).symm), c3_e d3_l (e2_l 217 3 (by decide)) (fun a_l k_l g1 g2 => e2_l a_l k_l (by omega)) (fun k_l => e2_l 219 k_l (by decide)), c4_0 ?_ ((e2_l 0 14 (by decide)).trans c5_l), c5_e d5_l (e2_l 217 6 (by decide)) (fun k_l => e2_l 221 k_l (by decide)) (fun k_l => e2_l 218 k_l (by decide))⟩, Or.inr ⟨rfl, ?_, ?_, W_l, ?_, ?_, fun k_l hk => ?_⟩⟩
    · rw [e2_l 0 13 (by decide), hf 0 13 (by decide) (by decide) (by omega) (by omega) (by omega)]
      exact h.2.2.2.1.1
    · rw [g18]
      exact ⟨q2_l.1, c2_l⟩
    · rw [g18]
      exact fun k_l hk => (h.1 k_l hk).2.2
    · rw [g22, g18]
      exact c3_l
    · rw [e3_l, g18]
      exact c4_l
    · have hp := pa_15 k_l hk.1.1
      have e4_l : cv t 9 15 k_l = cv r.2.2.2 9 15 k_l := e2_l _ _ (by omega)
      rw [e4_l, g18]
      exact c6_l k_l hk
  · obtain ⟨hf, hc_l⟩ := id hB_l
    obtain ⟨d2_l, d3_l, d5_l⟩ := bo_d h hf
    have g22 : gI r.2.2.2 222 = gI s 222 := funext fun k_l => hf 222 k_l (by decide) (by decide) (by omega) (by omega) (by omega)
    have g18 : gI r.2.2.2 218 = gI s 218 := funext fun k_l => hf 218 k_l (by decide) (by decide) (by omega) (by omega) (by omega)
    rcases hc_l with ⟨hq, hx⟩ | ⟨z_l, -⟩
    · obtain ⟨m1_l, m4_l⟩ := bo_c h hB_l hx
      rcases hq with ⟨z_l, q_l, hq⟩ | ⟨z_l, c12_l, W_l, hq⟩
      · rw [if_pos (by omega)]
        refine gQ_ret ⟨⟨d2_l, d3_l, m4_l, d5_l⟩, Or.inl ⟨Or.inl ⟨rfl, q_l, ?_⟩, m1_l⟩⟩
        dsimp only
        rw [g22, g18]
        exact hq
      · rw [if_neg (by omega), if_pos (by omega)]
        refine gQ_ret ⟨⟨d2_l, d3_l, m4_l, d5_l⟩, Or.inl ⟨Or.inr ⟨rfl, ?_, W_l, ?_⟩, m1_l⟩⟩
        · dsimp only
          rw [g18]
          omega
        · dsimp only
          rw [g22, g18]
          exact hq
    · omega
/-- the model's reading of a book -/
theorem m_184 (hL : ∀ k, 0 ≤ L k ∧ L k ≤ 255) (hM : Mp s L e) (h11 : gI s 217 11 = 0) (h12 : gI s 217 12 = -1) (h9 : gI s 217 9 = -1) (hJ : J p s) (hg : Rg (gI s 218)) : gT (f_184 217 0 s) (MB (rdb L e (gI s 218)) s) := by
  have hb_l := sk_b (L := L) (e := e) (a := 0) (Nat.zero_le e)
  unfold f_184
  refine gT_v0 (A := fun z_l => (Fm s z_l ∧ gI z_l 217 12 = gI s 217 12 ∧ gI z_l 217 11 = ((sk L e 0 : Nat) : Int)) ∧ J p z_l) (gT_b0 (A := fun z_l => Fm s z_l ∧ gI z_l 217 12 = gI s 217 12 ∧ gI z_l 217 11 = ((sk L e 0 : Nat) : Int)) (B := fun z_l => J p z_l) (w_169 (a := 0) hM h11 (Nat.zero_le e)) (gT_mono (k_169 hJ) (fun r_l hr => ⟨hr.1, hr.2.1⟩))) (fun s1_l h1 => ?_)
  obtain ⟨⟨f1_l, f2_l, f3_l⟩, j1⟩ := h1
  have e10_l : gI s1_l 217 10 = (e : Int) := (f1_l.2 217 10 (by omega)).trans hM.1.1
  rw [f3_l, e10_l]
  unfold rdb
  by_cases c : sk L e 0 = e
  · rw [if_pos c, if_neg (by omega)]
    unfold fb_184_20
    refine gT_step ?_
    show gT (sb_184_23 217 0 0 0 s1_l) _
    unfold sb_184_23
    rw [if_pos rfl]
    refine gT_map (gT_ret ⟨rfl, Mf_fm f1_l, Or.inr ⟨_, rfl, f2_l.trans h12, fun k hk => f1_l.2 218 k (by omega)⟩⟩)
  · rw [if_neg c, if_pos (by omega)]
    unfold fb_184_20
    have hMt : Mat s1_l L e (sk L e 0) := ⟨Mp_fr hM f1_l, f2_l.trans h12, sk L e 0, f3_l, hb_l.2, sk_i⟩
    refine gT_mono (m_lp hL 14 0 (sk L e 0) s1_l (gI s 218) (Int.le_refl 0) rfl hMt j1 ((f1_l.2 217 9 (by omega)).trans h9) hg (fun k hk => f1_l.2 218 k (by omega))) (fun r_l hr => MB_t (Mf_fm f1_l) hr)
/-- what is left behind the reading -/
def Mq (s u : gS) : Prop := RF u ∧ (∀ k, k < 340 → gI u 220 k = gI s 218 k) ∧ ∀ a k, a ≠ 220 → ¬ (a = 218 ∧ k < 100) → ¬ (a = 217 ∧ (k = 0 ∨ 8 ≤ k)) → gI u a k = gI s a k
theorem bq_1 {w0 : Int} (hw : w0 = 1 ∨ w0 = 2) (h : Mq s u) : gQ (fb_187_43 217 w0 217 u) (fun r => gI r.2.2.2 217 0 = w0 ∧ (∀ k, gI r.2.2.2 218 k = gI s 218 k) ∧ ∀ a k, a ≠ 220 → ¬ (a = 217 ∧ (k = 0 ∨ 8 ≤ k)) → gI r.2.2.2 a k = gI s a k) := by
  obtain ⟨hg, ha_l, hf⟩ := h
  have e0_l : gI (gw u 217 0 w0) 217 0 = w0 := rd_same rfl
  have hg7 : RF (gw u 217 0 w0) := RF_sm hg rfl
  unfold fb_187_43
  dsimp only
  rw [e0_l, if_pos (by omega)]
  have i7_l : ∀ a k, ¬ (a = 217 ∧ k = 0) → gI (gw u 217 0 w0) a k = gI u a k := fun a k hz => by
    show (if a = 217 ∧ k = 0 then _ else gI u a k) = _
    rw [if_neg hz]
  generalize gw u 217 0 w0 = s7 at *
  refine gQ_v0 (A := fun z_l => Sm s7 z_l ∧ (∀ k, k < 340 → gI z_l 218 k = gI s7 220 k) ∧ ∀ a k, ¬ (a = 218 ∧ k < 340) → gI z_l a k = gI s7 a k) (fun r hr => x_186 (rr_217_1 hg7).2 (rr_217_4 hg7).2 r hr) (fun s8 h8 => ?_)
  obtain ⟨x1_l, x2_l, x3⟩ := h8
  have k8_l : ∀ k, gI s8 218 k = gI s 218 k := fun k => by
    by_cases c : k < 340
    · rw [x2_l k c, i7_l 220 k (by omega)]
      exact ha_l k c
    · rw [x3 218 k (by omega), i7_l 218 k (by omega)]
      exact hf 218 k (by omega) (by omega) (by omega)
  refine gQ_ret ⟨(x3 217 0 (by omega)).trans e0_l, k8_l, fun a k h1 h2 => ?_⟩
  dsimp only
  by_cases c : a = 218
  · rw [c]
    exact k8_l k
  · rw [x3 a k (by omega), i7_l a k (by omega)]
    exact hf a k h1 (by omega) h2
theorem bq_0 {x : Int} (h : Mq s u) (hx : gI u 218 0 = x) (hb : 0 ≤ x ∧ x < 12) : gQ (fb_187_43 217 0 217 u) (fun r => r.2.1 = x + 1 ∧ gI r.2.2.2 217 0 = 0 ∧ gI r.2.2.2 217 6 = 0 ∧ gI r.2.2.2 218 0 = x + 1 ∧ (∀ k, k ≠ 0 → gI r.2.2.2 218 k = gI u 218 k) ∧ ∀ a k, a ≠ 220 → a ≠ 218 → ¬ (a = 217 ∧ (k = 0 ∨ k = 6 ∨ 8 ≤ k)) → gI r.2.2.2 a k = gI s a k) := by
  obtain ⟨hg, ha_l, hf⟩ := h
  have e0_l : gI (gw u 217 0 0) 217 0 = 0 := rd_same rfl
  have hg7 : RF (gw u 217 0 0) := RF_sm hg rfl
  unfold fb_187_43
  dsimp only
  rw [e0_l, if_neg (by omega)]
  have i7_l : ∀ a k, ¬ (a = 217 ∧ k = 0) → gI (gw u 217 0 0) a k = gI u a k := fun a k hz => by
    show (if a = 217 ∧ k = 0 then _ else gI u a k) = _
    rw [if_neg hz]
  generalize gw u 217 0 0 = s7 at *
  have r1_l : gR s7 217 1 = 218 := (rr_217_1 hg7).2
  rw [r1_l, i7_l 218 0 (by omega), hx, g32_eq (v := x + 1) (by omega) (by omega)]
  have r2 : gR (gw (gw s7 218 0 (x + 1)) 217 6 0) 217 1 = 218 := r1_l
  rw [r2]
  have j1 : gI (gw (gw s7 218 0 (x + 1)) 217 6 0) 218 0 = x + 1 := (rd_a rfl (by decide)).trans (rd_same rfl)
  have j2_l : gI (gw (gw s7 218 0 (x + 1)) 217 6 0) 217 6 = 0 := rd_same rfl
  have j3_l : ∀ a k, ¬ (a = 217 ∧ k = 6) → ¬ (a = 218 ∧ k = 0) → gI (gw (gw s7 218 0 (x + 1)) 217 6 0) a k = gI s7 a k := fun a k h1 h2 => by
    show (if a = 217 ∧ k = 6 then _ else if a = 218 ∧ k = 0 then _ else gI s7 a k) = _
    rw [if_neg h1, if_neg h2]
  refine gQ_ret ?_
  generalize gw (gw s7 218 0 (x + 1)) 217 6 0 = s11 at *
  refine ⟨j1, (j3_l 217 0 (by omega) (by omega)).trans e0_l, j2_l, j1, fun k hk => ?_, fun a k h1 h2 h3 => ?_⟩
  · dsimp only
    rw [j3_l 218 k (by omega) (by omega), i7_l 218 k (by omega)]
  · dsimp only
    rw [j3_l a k (by omega) (by omega), i7_l a k (by omega)]
    exact hf a k h1 (by omega) (by omega)
theorem rb_187 (hp : -1 ≤ p.1 ∧ p.1 ≤ 0) (hJ : J p s) (h : Mbo p.2.2.1.toNat v s) : gQ (f_187 217 s) (fun r => Rt r.2.2.2 ∧ gI r.2.2.2 217 0 = v ∧ (v = 0 → gI r.2.2.2 231 0 = r.2.1)) := by
  have hg : RF s := hJ.1.2.1
  have hl : gI s 217 8 = p.2.2.1 := hJ.2.2.2.1
  have hb8 := J_f hJ (kd := 12) (a := 217) (i := 8) t217 rfl (fun z_l => by cases z_l) (x := 0) (y := 400) rfl
  have hL : ∀ k_l, 0 ≤ gI s 222 k_l ∧ gI s 222 k_l ≤ 255 := fun k_l => J_ra hJ (a := 222) (k := k_l) (by decide) (by rw [k0_sp.2.1]; decide) rfl
  have m_l : ∀ k_l x_l y_l, arn 218 k_l = some (x_l, y_l) → x_l ≤ gI s 218 k_l ∧ gI s 218 k_l ≤ y_l := fun k_l x_l y_l hk => J_ra hJ (a := 218) (k := k_l) (by decide) (by rw [k0_sp.2.2.2.1]; decide) hk
  have hR : Rg (gI s 218) := ⟨m_l 3 0 8 rfl, m_l 4 0 6 rfl, m_l 5 0 6 rfl, m_l 6 0 6 rfl⟩
  unfold f_187
  refine gQ_v0 (A := fun z_l => (Sm s z_l ∧ Asd z_l ∧ ∀ a_l k_l, a_l ≠ 220 → gI z_l a_l k_l = gI s a_l k_l) ∧ J p z_l) (fun r hr => ⟨x_185 (rr_217_1 hg).2 (rr_217_4 hg).2 r hr, (gQ_T (d_185 hp hJ t217) r hr).2⟩) (fun s1_l h1 => ?_)
  obtain ⟨⟨x1_l, x2_l, x3⟩, j1⟩ := h1
  refine gQ_v0 (A := fun z_l => (Sm s1_l z_l ∧ (gI z_l 217 12 = -1 ∧ gI z_l 217 9 = -1 ∧ gI z_l 217 10 = gI s 217 8 ∧ gI z_l 217 11 = 0) ∧ ∀ a_l k_l, ¬ (a_l = 217 ∧ 8 ≤ k_l) → gI z_l a_l k_l = gI s1_l a_l k_l) ∧ J (p.1, p.2.1, 0, p.2.2.2.1, p.2.2.2.2) z_l) (fun r hr => ⟨?_, (gQ_T (d_183 hp j1 t217) r hr).2⟩) (fun s3_l h3 => ?_)
  · unfold f_183 at hr
    dsimp only at hr
    cases hr
    dsimp only
    refine ⟨⟨rfl, rfl, rfl⟩, ⟨?_, ?_, ?_, ?_⟩, fun a_l k_l hz => ?_⟩
    · simp only [rdw]
      rfl
    · simp only [rdw]
      rfl
    · simp only [rdw]
      exact x3 217 8 (by decide)
    · simp only [rdw]
      rfl
    · simp only [rdw]
      rw [if_neg (by omega), if_neg (by omega), if_neg (by omega), if_neg (by omega), if_neg (by omega), if_neg (by omega)]
  obtain ⟨⟨y1, ⟨y2, y3, y4, y5⟩, y6⟩, j3_l⟩ := h3
  have hg3 : RF s3_l := j3_l.1.2.1
  have i3_l : ∀ a_l k_l, a_l ≠ 220 → ¬ (a_l = 217 ∧ 8 ≤ k_l) → gI s3_l a_l k_l = gI s a_l k_l := fun a_l k_l ha_l hz => (y6 a_l k_l hz).trans (x3 a_l k_l ha_l)
  have g18 : gI s3_l 218 = gI s 218 := funext fun k_l => i3_l 218 k_l (by decide) (by omega)
  have a3 : ∀ k_l, k_l < 340 → gI s3_l 220 k_l = gI s 218 k_l := fun k_l hk => by
    rw [y6 220 k_l (by omega), x2_l k_l hk]
    exact x3 218 k_l (by decide)
  have hM_l : Mp s3_l (gI s 222) p.2.2.1.toNat := by
    refine ⟨⟨?_, by omega⟩, ⟨(rr_217_1 hg3).2, (rr_217_7 hg3).2⟩, fun k_l hk => ?_⟩
    · rw [y4, hl]
      omega
    · unfold f_168
      rw [if_pos y3, (rr_217_7 hg3).2, Int.toNat_natCast]
      unfold gchk
      rw [if_pos (by omega), i3_l 222 k_l (by decide) (by omega)]
  have hT_l := m_184 hL hM_l y5 y2 y3 j3_l (by rw [g18]; exact hR)
  rw [g18] at hT_l
  refine gQ_w1 (A := fun _ z_l => Mf s3_l z_l ∧ ((∃ q_l : Nat, rdb (gI s 222) p.2.2.1.toNat (gI s 218) = Sum.inl q_l ∧ gI z_l 217 12 = (q_l : Int)) ∨ (∃ W_l : Nat → Int, rdb (gI s 222) p.2.2.1.toNat (gI s 218) = Sum.inr W_l ∧ gI z_l 217 12 = -1 ∧ ∀ k_l, k_l < 100 → gI z_l 218 k_l = W_l k_l))) (fun r hr => (gQ_T hT_l r hr).2) (fun v6 s5 h5 => ?_)
  obtain ⟨f5_l, h5⟩ := h5
  have hg5 : RF s5 := fun a_l k_l ha_l hz => (f5_l.1.2.2 a_l k_l).trans (hg3 a_l k_l ha_l hz)
  have hQ : Mq s s5 := ⟨hg5, fun k_l hk => (f5_l.2 220 k_l (by omega) (by omega)).trans (a3 k_l hk), fun a_l k_l h1 h2 h3 => (f5_l.2 a_l k_l (by omega) h2).trans (i3_l a_l k_l h1 (by omega))⟩
  rw [(rr_217_1 hg5).2]
  obtain ⟨⟨d2_l, d3_l, d4_l, d5_l⟩, hc_l⟩ := h
  have bad_l : ∀ w0_l : Int, Rc1 s → (w0_l = 1 ∨ w0_l = 2) → v = w0_l → gQ (fb_187_43 217 w0_l 217 s5) (fun r => Rt r.2.2.2 ∧ gI r.2.2.2 217 0 = v ∧ (v = 0 → gI r.2.2.2 231 0 = r.2.1)) := fun w0_l hC hw hv r hr => by
    obtain ⟨z1, z2, z3⟩ := bq_1 hw hQ r hr
    refine ⟨Rt_5 (c1_e hC (fun a_l k_l h1 h2 => z3 a_l k_l (by omega) (by omega)) (fun k_l _ => z2 k_l)) (fun k_l => (z3 2 k_l (by omega) (by omega)).trans ((d2_l k_l).trans (z3 222 k_l (by omega) (by omega)).symm)) (c3_e d3_l (z3 217 3 (by omega) (by omega)) (fun a_l k_l h1 h2 => z3 a_l k_l (by omega) (by omega)) (fun k_l => z3 219 k_l (by omega) (by omega))) (c4_e d4_l (z3 0 13 (by omega) (by omega)) (z3 0 14 (by omega) (by omega)) (fun a_l k_l h1 h2 => z3 a_l k_l (by omega) (by omega)) (fun a_l k_l h1 h2 => z3 a_l k_l (by omega) (by omega))) (c5_e d5_l (z3 217 6 (by omega) (by omega)) (fun k_l => z3 221 k_l (by omega) (by omega)) z2), z1.trans hv.symm, fun z_l => by omega⟩
  rcases h5 with ⟨q_l, q1_l, q2_l⟩ | ⟨W_l, q1_l, q2_l, q3_l⟩
  · rw [if_neg (by omega)]
    rcases hc_l with ⟨⟨v1_l, -⟩ | ⟨-, -, W_l, q3_l⟩, hC⟩ | ⟨-, -, -, W_l, q3_l, -⟩
    · exact bad_l 1 hC (Or.inl rfl) v1_l
    · rw [q1_l] at q3_l
      cases q3_l
    · rw [q1_l] at q3_l
      cases q3_l
  · have w0_l := rdb_0 q1_l
    have e5_l : gI s5 218 0 = gI s 218 0 := (q3_l 0 (by decide)).trans w0_l
    rw [if_pos q2_l, e5_l]
    rcases hc_l with ⟨⟨-, q_l, z_l⟩ | ⟨v2, c12_l, -⟩, hC⟩ | ⟨v0_l, c12_l, hv, W2_l, z1, z2, z3⟩
    · rw [q1_l] at z_l
      cases z_l
    · rw [if_pos c12_l]
      exact bad_l 2 hC (Or.inr rfl) v2
    · rw [if_neg (by omega)]
      rw [q1_l] at z1
      injection z1 with z4
      intro r hr
      obtain ⟨w1_l, w2_l, w3_l, w4_l, w5, w6_l⟩ := bq_0 hQ e5_l c12_l r hr
      refine ⟨Rt_5 (fun k_l hk => ?_) (fun k_l => (w6_l 2 k_l (by omega) (by omega) (by omega)).trans ((d2_l k_l).trans (w6_l 222 k_l (by omega) (by omega) (by omega)).symm)) (c3_e d3_l (w6_l 217 3 (by omega) (by omega) (by omega)) (fun a_l k_l h1 h2 => w6_l a_l k_l (by omega) (by omega) (by omega)) (fun k_l => w6_l 219 k_l (by omega) (by omega) (by omega))) (c4_e d4_l (w6_l 0 13 (by omega) (by omega) (by omega)) (w6_l 0 14 (by omega) (by omega) (by omega)) (fun a_l k_l h1 h2 => w6_l a_l k_l (by omega) (by omega) (by omega)) (fun a_l k_l h1 h2 => w6_l a_l k_l (by omega) (by omega) (by omega))) (c5_0 w3_l), w2_l.trans v0_l.symm, fun _ => ?_⟩
      · have hp := pa_15 k_l hk.1.1
        have e9_l : cv r.2.2.2 9 15 k_l = cv s 9 15 k_l := w6_l _ _ (by omega) (by omega) (by omega)
        rw [e9_l, z3 k_l hk]
        by_cases ck : k_l = 0
        · rw [if_pos ck, ck, w4_l]
          exact ⟨rfl, fun _ => by omega, by omega⟩
        · rw [if_neg ck, w5 k_l ck, q3_l k_l hk.1.1, z4]
          exact ⟨rfl, fun z_l => absurd z_l ck, by rw [← z4]; exact rdb_R q1_l hR hv k_l hk⟩
      · rw [w6_l 231 0 (by omega) (by omega) (by omega), z2]
        exact w1_l.symm
end Mk
