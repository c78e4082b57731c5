section Mo2
variable {s s' : gS} {L : Nat → Int} {e a : Nat} {c x : Int}
/-- what the reader of the model reads -/
def Mp (s : gS) (L : Nat → Int) (e : Nat) : Prop := (gI s 217 10 = (e : Int) ∧ e ≤ 400) ∧ (gR s 217 1 = 218 ∧ gR s 217 7 = 222) ∧ ∀ k : Nat, k < e → f_168 217 (k : Int) s = some (1, L k, 0, s)
theorem Mp_fr (h : Mp s L e) (hf : Fm s s') : Mp s' L e := by
  obtain ⟨⟨h1, h2⟩, ⟨h3, h4⟩, h5⟩ := h
  have r1_l : gR s' 217 1 = 218 := (hf.1.2.2 217 1).trans h3
  have r7 : gR s' 217 7 = 222 := (hf.1.2.2 217 7).trans h4
  refine ⟨⟨(hf.2 217 10 (by decide)).trans h1, h2⟩, ⟨r1_l, r7⟩, fun k_l hk => ?_⟩
  have q_l := h5 k_l hk
  unfold f_168 at q_l ⊢
  rw [h3, h4] at q_l
  rw [r1_l, r7, hf.2 217 9 (by decide), hf.2 222 _ (fun z_l => absurd z_l.1 (by decide)), hf.2 218 _ (fun z_l => absurd z_l.1 (by decide))]
  unfold gchk at q_l ⊢
  by_cases c1 : gI s 217 9 = -1
  · rw [if_pos c1] at q_l ⊢
    by_cases c2 : 0 ≤ (k_l : Int) ∧ (k_l : Int) < 400
    · rw [if_pos c2] at q_l ⊢
      have e1_l : gI s 222 (k_l : Int).toNat = L k_l := by
        injection q_l with q_l
        injection q_l with _ q_l
        injection q_l
      rw [e1_l]
    · rw [if_neg c2] at q_l
      cases q_l
  · rw [if_neg c1] at q_l ⊢
    by_cases c2 : 0 ≤ g32 (gI s 217 9 + (k_l : Int)) ∧ g32 (gI s 217 9 + (k_l : Int)) < 740
    · rw [if_pos c2] at q_l ⊢
      have e1_l : gI s 218 (g32 (gI s 217 9 + (k_l : Int))).toNat = L k_l := by
        injection q_l with q_l
        injection q_l with _ q_l
        injection q_l
      rw [e1_l]
    · rw [if_neg c2] at q_l
      cases q_l
theorem w_168 {k : Nat} (h : Mp s L e) (hk : k < e) : gT (f_168 217 (k : Int) s) (fun r => r.1 = 1 ∧ r.2.1 = L k ∧ r.2.2.2 = s) := ⟨_, h.2.2 k hk, rfl, rfl, rfl⟩
theorem w_169 (hM : Mp s L e) (ha : gI s 217 11 = (a : Int)) (hae : a ≤ e) : gT (f_169 217 s) (fun r => r.1 = 0 ∧ Fm s r.2.2.2 ∧ gI r.2.2.2 217 12 = gI s 217 12 ∧ gI r.2.2.2 217 11 = ((sk L e a : Nat) : Int)) := by
  unfold f_169
  refine gT_loop (fun y_l => y_l.1 = 217 ∧ Fm s y_l.2 ∧ gI y_l.2 217 12 = gI s 217 12 ∧ ∃ b_l : Nat, gI y_l.2 217 11 = (b_l : Int) ∧ b_l ≤ e ∧ sk L e b_l = sk L e a) (fun y_l => (e - gI y_l.2 217 11).toNat) (fun y_l hy => ?_) ⟨rfl, Fm_r s, rfl, a, ha, hae, rfl⟩
  obtain ⟨x0_l, u_l⟩ := y_l
  obtain ⟨q0, hf, hw, b_l, hb_l, hbe, hs⟩ := hy
  dsimp only at q0 hf hw hb_l
  subst q0
  have hu := Mp_fr hM hf
  have h400 := hM.1.2
  show gT (sb_169_0 217 u_l) _
  unfold sb_169_0
  rw [hb_l, hu.1.1]
  refine gT_ite (fun hx => ?_) (fun hx => gT_map (gT_ret ⟨rfl, hf, hw, ?_⟩))
  rotate_left
  · dsimp only
    rw [hb_l, ← hs, sk_n (a := b_l) (by omega)]
  refine gT_v1 (A := fun v_l z_l => v_l = L b_l ∧ z_l = u_l) (w_168 hu (by omega)) (fun v2 s1_l h1 => ?_)
  obtain ⟨e2_l, e1_l⟩ := h1
  subst e1_l
  refine gT_ite (fun hc_l => ?_) (fun hc_l => gT_map (gT_ret ⟨rfl, hf, hw, ?_⟩))
  rotate_left
  · dsimp only
    rw [hb_l, ← hs, sk_n (a := b_l) (by omega)]
  rw [hb_l]
  have hb1 : b_l < e := by omega
  have hm_l : ((e : Int) - ((b_l : Int) + 1)).toNat < ((e : Int) - (b_l : Int)).toNat := by omega
  have g_l := g32_eq (v := (b_l : Int) + 1) (by omega) (by omega)
  rw [g_l]
  clear g_l
  have k1_l : gI (gw s1_l 217 11 ((b_l : Int) + 1)) 217 11 = ((b_l + 1 : Nat) : Int) := (rd_same rfl).trans rfl
  have k2_l : gI (gw s1_l 217 11 ((b_l : Int) + 1)) 217 12 = gI s1_l 217 12 := rd_k (a := 217) (k := 12) rfl (by decide)
  refine gT_ret ⟨⟨rfl, Fm_w hf (Or.inl rfl), k2_l.trans hw, b_l + 1, k1_l, hb1, ?_⟩, ?_⟩
  · rw [← hs, sk_s (a := b_l) ⟨hb1, by rw [← e2_l]; exact hc_l⟩]
  · dsimp only
    rw [k1_l]
    exact hm_l
theorem w_170 (hM : Mp s L e) (ha : gI s 217 11 = (a : Int)) (hae : a ≤ e) : gT (f_170 217 c s) (fun r => r.1 = 1 ∧ Fm s r.2.2.2 ∧ gI r.2.2.2 217 12 = gI s 217 12 ∧ gI r.2.2.2 217 11 = ((sk L e a : Nat) : Int) ∧ ((r.2.1 = 1 ∧ sk L e a < e ∧ L (sk L e a) = c) ∨ (r.2.1 = 0 ∧ ¬ (sk L e a < e ∧ L (sk L e a) = c)))) := by
  unfold f_170 fb_170_31
  refine gT_v0 (A := fun u_l => Fm s u_l ∧ gI u_l 217 12 = gI s 217 12 ∧ gI u_l 217 11 = ((sk L e a : Nat) : Int)) (w_169 hM ha hae) (fun s1_l h1 => ?_)
  obtain ⟨hf, hw, hb_l⟩ := h1
  have hu := Mp_fr hM hf
  rw [hb_l, hu.1.1]
  refine gT_ite (fun hx => ?_) (fun hx => gT_ret ⟨rfl, hf, hw, hb_l, Or.inr ⟨rfl, fun z_l => by omega⟩⟩)
  refine gT_v1 (A := fun v_l z_l => v_l = L (sk L e a) ∧ z_l = s1_l) (w_168 hu (by omega)) (fun v4_l s3_l h3 => ?_)
  obtain ⟨e4_l, e3_l⟩ := h3
  subst e3_l
  exact gT_ite (fun hc_l => gT_ret ⟨rfl, hf, hw, hb_l, Or.inl ⟨rfl, by omega, by rw [← e4_l]; exact hc_l⟩⟩) (fun hc_l => gT_ret ⟨rfl, hf, hw, hb_l, Or.inr ⟨rfl, fun z_l => hc_l (by rw [e4_l]; exact z_l.2)⟩⟩)
theorem w_150 {x y z : Int} : gT (f_150 x y z s) (fun r => r.1 = 1 ∧ ((r.2.1 = 1 ∧ y ≤ x ∧ x ≤ z) ∨ (r.2.1 = 0 ∧ ¬ (y ≤ x ∧ x ≤ z))) ∧ r.2.2.2 = s) := by
  unfold f_150
  refine gT_ite (fun _ => gT_ret ⟨rfl, Or.inr ⟨rfl, by omega⟩, rfl⟩) (fun _ => ?_)
  exact gT_ite (fun _ => gT_ret ⟨rfl, Or.inr ⟨rfl, by omega⟩, rfl⟩) (fun _ => gT_ret ⟨rfl, Or.inl ⟨rfl, by omega⟩, rfl⟩)
theorem w_171 {w : Nat} (hw1 : 1 ≤ (gtx w).length) (hM : Mp s L e) (ha : gI s 217 11 = (a : Int)) (hae : a ≤ e) : gT (f_171 217 w s) (fun r => r.1 = 1 ∧ Fm s r.2.2.2 ∧ gI r.2.2.2 217 12 = gI s 217 12 ∧ ((r.2.1 = 1 ∧ Wd L e w (sk L e a) ∧ gI r.2.2.2 217 11 = ((sk L e a + (gtx w).length : Nat) : Int)) ∨ (r.2.1 = 0 ∧ ¬ Wd L e w (sk L e a) ∧ gI r.2.2.2 217 11 = ((sk L e a : Nat) : Int)))) := by
  have hlen := gtx_le w
  have hsl : gsl w = ((gtx w).length : Int) := rfl
  have hsr := gshr_0 (x := gsl w) (by omega)
  have h400 := hM.1.2
  have hsk := sk_b (L := L) (e := e) (a := a) hae
  unfold f_171
  refine gT_v0 (A := fun u_l => Fm s u_l ∧ gI u_l 217 12 = gI s 217 12 ∧ gI u_l 217 11 = ((sk L e a : Nat) : Int)) (w_169 hM ha hae) (fun s1_l h1 => ?_)
  obtain ⟨hf, hwr, hb_l⟩ := h1
  have hu := Mp_fr hM hf
  generalize sk L e a = f at hb_l hsk
  have hcont : ∀ k_l : Nat, k_l = lr L e f → gT (fb_171_38 217 w (k_l : Int) s1_l) (fun r => r.1 = 1 ∧ Fm s r.2.2.2 ∧ gI r.2.2.2 217 12 = gI s 217 12 ∧ ((r.2.1 = 1 ∧ Wd L e w f ∧ gI r.2.2.2 217 11 = ((f + (gtx w).length : Nat) : Int)) ∨ (r.2.1 = 0 ∧ ¬ Wd L e w f ∧ gI r.2.2.2 217 11 = (f : Int)))) := by
    intro k_l hk
    have kb := lrn_b (L := L) (e := e) e (a := f)
    have kb2 : f ≤ k_l ∧ k_l ≤ e := by unfold lr at hk; omega
    unfold fb_171_38
    refine gT_v1 (A := fun v_l u_l => v_l = gsl w ∧ u_l = s1_l) ⟨_, rfl, rfl, hsr, rfl⟩ (fun v9 s8 hA => ?_)
    obtain ⟨rfl, rfl⟩ := hA
    rw [hb_l]
    have e1_l := g32_eq (v := (k_l : Int) - (f : Int)) (by omega) (by omega)
    rw [e1_l]
    clear e1_l
    refine gT_ite (fun h5 => ?_) (fun h5 => gT_ret ⟨rfl, hf, hwr, Or.inr ⟨rfl, fun z_l => h5 ?_, hb_l⟩⟩)
    rotate_left
    · have := z_l.1
      omega
    refine gT_loop (fun y_l => (y_l.1 = 217 ∧ y_l.2.1 = w ∧ y_l.2.2.1 = (k_l : Int)) ∧ (∃ i_l : Nat, y_l.2.2.2.1 = (i_l : Int) ∧ i_l ≤ (gtx w).length ∧ ∀ j_l, j_l < i_l → L (f + j_l) = ch w j_l) ∧ y_l.2.2.2.2 = s8) (fun y_l => (gsl w - y_l.2.2.2.1).toNat) (fun y_l hy => ?_) ⟨⟨rfl, rfl, rfl⟩, ⟨0, rfl, by omega, fun j_l hj => by omega⟩, rfl⟩
    obtain ⟨x0_l, x1_l, x2_l, x3, u_l⟩ := y_l
    obtain ⟨⟨q0, q1_l, q2_l⟩, ⟨i_l, i1_l, i2_l, i3_l⟩, q3_l⟩ := hy
    dsimp only at q0 q1_l q2_l i1_l q3_l
    subst q0 q1_l q2_l q3_l
    show gT (sb_171_55 217 x1_l (k_l : Int) x3 u_l) _
    unfold sb_171_55
    refine gT_v1 (A := fun v_l z_l => v_l = gsl x1_l ∧ z_l = u_l) ⟨_, rfl, rfl, hsr, rfl⟩ (fun v11 s10 hA => ?_)
    obtain ⟨rfl, rfl⟩ := hA
    refine gT_ite (fun h6 => ?_) (fun h6 => gT_map ?_)
    · rw [hb_l, i1_l]
      have e4_l := g32_eq (v := (f : Int) + (i_l : Int)) (by omega) (by omega)
      rw [e4_l]
      clear e4_l
      rw [show (f : Int) + (i_l : Int) = ((f + i_l : Nat) : Int) by omega]
      refine gT_v1 (A := fun v_l z_l => v_l = L (f + i_l) ∧ z_l = s10) (w_168 hu (by omega)) (fun v13 s12 h12 => ?_)
      obtain ⟨e13_l, e12_l⟩ := h12
      subst e12_l
      refine gT_v1 (A := fun v_l z_l => v_l = ch x1_l i_l ∧ z_l = s12) (gT_chk (by omega) (by omega) (gT_ret ⟨rfl, by dsimp only; rw [Int.toNat_natCast]; rfl, rfl⟩)) (fun v15 s14 h14 => ?_)
      obtain ⟨e15_l, e14_l⟩ := h14
      subst e14_l
      have hi1 : i_l + 1 ≤ (gtx x1_l).length := by omega
      have hm_l : (gsl x1_l - ((i_l : Int) + 1)).toNat < (gsl x1_l - (i_l : Int)).toNat := by omega
      have e5_l := g32_eq (v := (i_l : Int) + 1) (by omega) (by omega)
      rw [e5_l]
      clear e5_l
      refine gT_ite (fun hc_l => gT_ret ⟨⟨⟨rfl, rfl, rfl⟩, ⟨i_l + 1, rfl, hi1, fun j_l hj => ?_⟩, rfl⟩, hm_l⟩) (fun hc_l => gT_map (gT_ret ⟨rfl, hf, hwr, Or.inr ⟨rfl, fun z_l => hc_l ?_, hb_l⟩⟩))
      · by_cases ej : j_l = i_l
        · rw [ej, ← e13_l, hc_l, e15_l]
        · exact i3_l j_l (by omega)
      · rw [e13_l, z_l.2 i_l (by omega), e15_l]
    · extract_lets s16
      have k1_l : gI s16 217 11 = (k_l : Int) := rd_same (show s16 = gw s10 217 11 (k_l : Int) from rfl)
      have k2_l : gI s16 217 12 = gI s10 217 12 := rd_k (a := 217) (k := 12) (show s16 = gw s10 217 11 (k_l : Int) from rfl) (by decide)
      refine gT_ret ⟨rfl, Fm_w hf (Or.inl rfl), k2_l.trans hwr, Or.inl ⟨rfl, ⟨by omega, fun j_l hj => i3_l j_l (by omega)⟩, ?_⟩⟩
      dsimp only
      rw [k1_l]
      omega
  rw [hb_l]
  refine gT_loop (fun y_l => (y_l.1 = 217 ∧ y_l.2.1 = w) ∧ (∃ k_l : Nat, y_l.2.2.1 = (k_l : Int) ∧ f ≤ k_l ∧ k_l ≤ e ∧ lr L e k_l = lr L e f) ∧ y_l.2.2.2 = s1_l) (fun y_l => ((e : Int) - y_l.2.2.1).toNat) (fun y_l hy => ?_) ⟨⟨rfl, rfl⟩, ⟨f, rfl, Nat.le_refl _, hsk.2, rfl⟩, rfl⟩
  obtain ⟨x0_l, x1_l, x2_l, u_l⟩ := y_l
  obtain ⟨⟨q0, q1_l⟩, ⟨k_l, k1_l, k2_l, k3_l, k4_l⟩, q3_l⟩ := hy
  dsimp only at q0 q1_l k1_l q3_l
  subst q0 q1_l q3_l
  show gT (sb_171_9 217 x1_l x2_l u_l) _
  unfold sb_171_9
  rw [hu.1.1, k1_l]
  refine gT_ite (fun hx => ?_) (fun hx => gT_map (hcont k_l ?_))
  rotate_left
  · rw [← k4_l, lr_n (a := k_l) (by omega)]
  refine gT_v1 (A := fun v_l z_l => v_l = L k_l ∧ z_l = u_l) (w_168 hu (by omega)) (fun v4_l s3_l h3 => ?_)
  obtain ⟨e4_l, e3_l⟩ := h3
  subst e3_l
  refine gT_v1 (A := fun v_l z_l => ((v_l = 1 ∧ 97 ≤ v4_l ∧ v4_l ≤ 122) ∨ (v_l = 0 ∧ ¬ (97 ≤ v4_l ∧ v4_l ≤ 122))) ∧ z_l = s3_l) w_150 (fun v6 s5 h5 => ?_)
  obtain ⟨e6_l, e5_l⟩ := h5
  subst e5_l
  have hk1 : f ≤ k_l + 1 ∧ k_l + 1 ≤ e := by omega
  have hm_l : ((e : Int) - ((k_l : Int) + 1)).toNat < ((e : Int) - (k_l : Int)).toNat := by omega
  have g_l := g32_eq (v := (k_l : Int) + 1) (by omega) (by omega)
  rw [g_l]
  clear g_l
  refine gT_ite (fun hc_l => gT_map (hcont k_l ?_)) (fun hc_l => gT_ret ⟨⟨⟨rfl, rfl⟩, ⟨k_l + 1, rfl, hk1.1, hk1.2, ?_⟩, rfl⟩, hm_l⟩)
  · rw [← k4_l, lr_n (a := k_l) (by omega)]
  · rw [← k4_l, lr_s (a := k_l) (by omega)]
end Mo2
