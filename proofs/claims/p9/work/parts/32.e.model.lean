section Mo2
variable {s s' : gS} {L : Nat → Int} {e a : Nat} {c x : Int}
/-- what the reader of the model reads -/
def Mp (s : gS) (L : Nat → Int) (e : Nat) : Prop := (gI s 217 10 = (e : Int) ∧ e ≤ 400) ∧ (gR s 217 1 = 218 ∧ gR s 217 7 = 222) ∧ ∀ k : Nat, k < e → f_168 217 (k : Int) s = some (1, L k, 0, s)
theorem Mp_fr (h : Mp s L e) (hf : Fm s s') : Mp s' L e := by
  obtain ⟨⟨h1, h2⟩, ⟨h3, h4⟩, h5⟩ := h
  have r1 : gR s' 217 1 = 218 := (hf.1.2.2 217 1).trans h3
  have r7 : gR s' 217 7 = 222 := (hf.1.2.2 217 7).trans h4
  refine ⟨⟨(hf.2 217 10 (by decide)).trans h1, h2⟩, ⟨r1, r7⟩, fun k hk => ?_⟩
  have q := h5 k hk
  unfold f_168 at q ⊢
  rw [h3, h4] at q
  rw [r1, r7, hf.2 217 9 (by decide), hf.2 222 _ (fun z => absurd z.1 (by decide)), hf.2 218 _ (fun z => absurd z.1 (by decide))]
  unfold gchk at q ⊢
  by_cases c1 : gI s 217 9 = -1
  · rw [if_pos c1] at q ⊢
    by_cases c2 : 0 ≤ (k : Int) ∧ (k : Int) < 400
    · rw [if_pos c2] at q ⊢
      have e1 : gI s 222 (k : Int).toNat = L k := by
        injection q with q
        injection q with _ q
        injection q
      rw [e1]
    · rw [if_neg c2] at q
      cases q
  · rw [if_neg c1] at q ⊢
    by_cases c2 : 0 ≤ g32 (gI s 217 9 + (k : Int)) ∧ g32 (gI s 217 9 + (k : Int)) < 740
    · rw [if_pos c2] at q ⊢
      have e1 : gI s 218 (g32 (gI s 217 9 + (k : Int))).toNat = L k := by
        injection q with q
        injection q with _ q
        injection q
      rw [e1]
    · rw [if_neg c2] at q
      cases q
theorem w_168 {k : Nat} (h : Mp s L e) (hk : k < e) : gT (f_168 217 (k : Int) s) (fun r => r.1 = 1 ∧ r.2.1 = L k ∧ r.2.2.2 = s) := ⟨_, h.2.2 k hk, rfl, rfl, rfl⟩
theorem w_169 (hM : Mp s L e) (ha : gI s 217 11 = (a : Int)) (hae : a ≤ e) : gT (f_169 217 s) (fun r => r.1 = 0 ∧ Fm s r.2.2.2 ∧ gI r.2.2.2 217 12 = gI s 217 12 ∧ gI r.2.2.2 217 11 = ((sk L e a : Nat) : Int)) := by
  unfold f_169
  refine gT_loop (fun y => y.1 = 217 ∧ Fm s y.2 ∧ gI y.2 217 12 = gI s 217 12 ∧ ∃ b : Nat, gI y.2 217 11 = (b : Int) ∧ b ≤ e ∧ sk L e b = sk L e a) (fun y => (e - gI y.2 217 11).toNat) (fun y hy => ?_) ⟨rfl, Fm_r s, rfl, a, ha, hae, rfl⟩
  obtain ⟨x0, u⟩ := y
  obtain ⟨q0, hf, hw, b, hb, hbe, hs⟩ := hy
  dsimp only at q0 hf hw hb
  subst q0
  have hu := Mp_fr hM hf
  have h400 := hM.1.2
  show gT (sb_169_0 217 u) _
  unfold sb_169_0
  rw [hb, hu.1.1]
  refine gT_ite (fun hx => ?_) (fun hx => gT_map (gT_ret ⟨rfl, hf, hw, ?_⟩))
  rotate_left
  · dsimp only
    rw [hb, ← hs, sk_n (a := b) (by omega)]
  refine gT_v1 (A := fun v z => v = L b ∧ z = u) (w_168 hu (by omega)) (fun v2 s1 h1 => ?_)
  obtain ⟨e2, e1⟩ := h1
  subst e1
  refine gT_ite (fun hc => ?_) (fun hc => gT_map (gT_ret ⟨rfl, hf, hw, ?_⟩))
  rotate_left
  · dsimp only
    rw [hb, ← hs, sk_n (a := b) (by omega)]
  rw [hb]
  have hb1 : b < e := by omega
  have hm : ((e : Int) - ((b : Int) + 1)).toNat < ((e : Int) - (b : Int)).toNat := by omega
  have g := g32_eq (v := (b : Int) + 1) (by omega) (by omega)
  rw [g]
  clear g
  have k1 : gI (gw s1 217 11 ((b : Int) + 1)) 217 11 = ((b + 1 : Nat) : Int) := (rd_same rfl).trans rfl
  have k2 : gI (gw s1 217 11 ((b : Int) + 1)) 217 12 = gI s1 217 12 := rd_k (a := 217) (k := 12) rfl (by decide)
  refine gT_ret ⟨⟨rfl, Fm_w hf (Or.inl rfl), k2.trans hw, b + 1, k1, hb1, ?_⟩, ?_⟩
  · rw [← hs, sk_s (a := b) ⟨hb1, by rw [← e2]; exact hc⟩]
  · dsimp only
    rw [k1]
    exact hm
theorem w_170 (hM : Mp s L e) (ha : gI s 217 11 = (a : Int)) (hae : a ≤ e) : gT (f_170 217 c s) (fun r => r.1 = 1 ∧ Fm s r.2.2.2 ∧ gI r.2.2.2 217 12 = gI s 217 12 ∧ gI r.2.2.2 217 11 = ((sk L e a : Nat) : Int) ∧ ((r.2.1 = 1 ∧ sk L e a < e ∧ L (sk L e a) = c) ∨ (r.2.1 = 0 ∧ ¬ (sk L e a < e ∧ L (sk L e a) = c)))) := by
  unfold f_170 fb_170_31
  refine gT_v0 (A := fun u => Fm s u ∧ gI u 217 12 = gI s 217 12 ∧ gI u 217 11 = ((sk L e a : Nat) : Int)) (w_169 hM ha hae) (fun s1 h1 => ?_)
  obtain ⟨hf, hw, hb⟩ := h1
  have hu := Mp_fr hM hf
  rw [hb, hu.1.1]
  refine gT_ite (fun hx => ?_) (fun hx => gT_ret ⟨rfl, hf, hw, hb, Or.inr ⟨rfl, fun z => by omega⟩⟩)
  refine gT_v1 (A := fun v z => v = L (sk L e a) ∧ z = s1) (w_168 hu (by omega)) (fun v4 s3 h3 => ?_)
  obtain ⟨e4, e3⟩ := h3
  subst e3
  exact gT_ite (fun hc => gT_ret ⟨rfl, hf, hw, hb, Or.inl ⟨rfl, by omega, by rw [← e4]; exact hc⟩⟩) (fun hc => gT_ret ⟨rfl, hf, hw, hb, Or.inr ⟨rfl, fun z => hc (by rw [e4]; exact z.2)⟩⟩)
theorem w_150 {x y z : Int} : gT (f_150 x y z s) (fun r => r.1 = 1 ∧ ((r.2.1 = 1 ∧ y ≤ x ∧ x ≤ z) ∨ (r.2.1 = 0 ∧ ¬ (y ≤ x ∧ x ≤ z))) ∧ r.2.2.2 = s) := by
  unfold f_150
  refine gT_ite (fun _ => gT_ret ⟨rfl, Or.inr ⟨rfl, by omega⟩, rfl⟩) (fun _ => ?_)
  exact gT_ite (fun _ => gT_ret ⟨rfl, Or.inr ⟨rfl, by omega⟩, rfl⟩) (fun _ => gT_ret ⟨rfl, Or.inl ⟨rfl, by omega⟩, rfl⟩)
theorem w_171 {w : Nat} (hw1 : 1 ≤ (gtx w).length) (hM : Mp s L e) (ha : gI s 217 11 = (a : Int)) (hae : a ≤ e) : gT (f_171 217 w s) (fun r => r.1 = 1 ∧ Fm s r.2.2.2 ∧ gI r.2.2.2 217 12 = gI s 217 12 ∧ ((r.2.1 = 1 ∧ Wd L e w (sk L e a) ∧ gI r.2.2.2 217 11 = ((sk L e a + (gtx w).length : Nat) : Int)) ∨ (r.2.1 = 0 ∧ ¬ Wd L e w (sk L e a) ∧ gI r.2.2.2 217 11 = ((sk L e a : Nat) : Int)))) := by
  have hlen := gtx_le w
  have hsl : gsl w = ((gtx w).length : Int) := rfl
  have hsr := gshr_0 (x := gsl w) (by omega)
  have h400 := hM.1.2
  have hsk := sk_b (L := L) (e := e) (a := a) hae
  unfold f_171
  refine gT_v0 (A := fun u => Fm s u ∧ gI u 217 12 = gI s 217 12 ∧ gI u 217 11 = ((sk L e a : Nat) : Int)) (w_169 hM ha hae) (fun s1 h1 => ?_)
  obtain ⟨hf, hwr, hb⟩ := h1
  have hu := Mp_fr hM hf
  generalize sk L e a = f at hb hsk
  have hcont : ∀ k : Nat, k = lr L e f → gT (fb_171_38 217 w (k : Int) s1) (fun r => r.1 = 1 ∧ Fm s r.2.2.2 ∧ gI r.2.2.2 217 12 = gI s 217 12 ∧ ((r.2.1 = 1 ∧ Wd L e w f ∧ gI r.2.2.2 217 11 = ((f + (gtx w).length : Nat) : Int)) ∨ (r.2.1 = 0 ∧ ¬ Wd L e w f ∧ gI r.2.2.2 217 11 = (f : Int)))) := by
    intro k hk
    have kb := lrn_b (L := L) (e := e) e (a := f)
    have kb2 : f ≤ k ∧ k ≤ e := by unfold lr at hk; omega
    unfold fb_171_38
    refine gT_v1 (A := fun v u => v = gsl w ∧ u = s1) ⟨_, rfl, rfl, hsr, rfl⟩ (fun v9 s8 hA => ?_)
    obtain ⟨rfl, rfl⟩ := hA
    rw [hb]
    have e1 := g32_eq (v := (k : Int) - (f : Int)) (by omega) (by omega)
    rw [e1]
    clear e1
    refine gT_ite (fun h5 => ?_) (fun h5 => gT_ret ⟨rfl, hf, hwr, Or.inr ⟨rfl, fun z => h5 ?_, hb⟩⟩)
    rotate_left
    · have := z.1
      omega
    refine gT_loop (fun y => (y.1 = 217 ∧ y.2.1 = w ∧ y.2.2.1 = (k : Int)) ∧ (∃ i : Nat, y.2.2.2.1 = (i : Int) ∧ i ≤ (gtx w).length ∧ ∀ j, j < i → L (f + j) = ch w j) ∧ y.2.2.2.2 = s8) (fun y => (gsl w - y.2.2.2.1).toNat) (fun y hy => ?_) ⟨⟨rfl, rfl, rfl⟩, ⟨0, rfl, by omega, fun j hj => by omega⟩, rfl⟩
    obtain ⟨x0, x1, x2, x3, u⟩ := y
    obtain ⟨⟨q0, q1, q2⟩, ⟨i, i1, i2, i3⟩, q3⟩ := hy
    dsimp only at q0 q1 q2 i1 q3
    subst q0 q1 q2 q3
    show gT (sb_171_55 217 x1 (k : Int) x3 u) _
    unfold sb_171_55
    refine gT_v1 (A := fun v z => v = gsl x1 ∧ z = u) ⟨_, rfl, rfl, hsr, rfl⟩ (fun v11 s10 hA => ?_)
    obtain ⟨rfl, rfl⟩ := hA
    refine gT_ite (fun h6 => ?_) (fun h6 => gT_map ?_)
    · rw [hb, i1]
      have e4 := g32_eq (v := (f : Int) + (i : Int)) (by omega) (by omega)
      rw [e4]
      clear e4
      rw [show (f : Int) + (i : Int) = ((f + i : Nat) : Int) by omega]
      refine gT_v1 (A := fun v z => v = L (f + i) ∧ z = s10) (w_168 hu (by omega)) (fun v13 s12 h12 => ?_)
      obtain ⟨e13, e12⟩ := h12
      subst e12
      refine gT_v1 (A := fun v z => v = ch x1 i ∧ z = s12) (gT_chk (by omega) (by omega) (gT_ret ⟨rfl, by dsimp only; rw [Int.toNat_natCast]; rfl, rfl⟩)) (fun v15 s14 h14 => ?_)
      obtain ⟨e15, e14⟩ := h14
      subst e14
      have hi1 : i + 1 ≤ (gtx x1).length := by omega
      have hm : (gsl x1 - ((i : Int) + 1)).toNat < (gsl x1 - (i : Int)).toNat := by omega
      have e5 := g32_eq (v := (i : Int) + 1) (by omega) (by omega)
      rw [e5]
      clear e5
      refine gT_ite (fun hc => gT_ret ⟨⟨⟨rfl, rfl, rfl⟩, ⟨i + 1, rfl, hi1, fun j hj => ?_⟩, rfl⟩, hm⟩) (fun hc => gT_map (gT_ret ⟨rfl, hf, hwr, Or.inr ⟨rfl, fun z => hc ?_, hb⟩⟩))
      · by_cases ej : j = i
        · rw [ej, ← e13, hc, e15]
        · exact i3 j (by omega)
      · rw [e13, z.2 i (by omega), e15]
    · extract_lets s16
      have k1 : gI s16 217 11 = (k : Int) := rd_same (show s16 = gw s10 217 11 (k : Int) from rfl)
      have k2 : gI s16 217 12 = gI s10 217 12 := rd_k (a := 217) (k := 12) (show s16 = gw s10 217 11 (k : Int) from rfl) (by decide)
      refine gT_ret ⟨rfl, Fm_w hf (Or.inl rfl), k2.trans hwr, Or.inl ⟨rfl, ⟨by omega, fun j hj => i3 j (by omega)⟩, ?_⟩⟩
      dsimp only
      rw [k1]
      omega
  rw [hb]
  refine gT_loop (fun y => (y.1 = 217 ∧ y.2.1 = w) ∧ (∃ k : Nat, y.2.2.1 = (k : Int) ∧ f ≤ k ∧ k ≤ e ∧ lr L e k = lr L e f) ∧ y.2.2.2 = s1) (fun y => ((e : Int) - y.2.2.1).toNat) (fun y hy => ?_) ⟨⟨rfl, rfl⟩, ⟨f, rfl, Nat.le_refl _, hsk.2, rfl⟩, rfl⟩
  obtain ⟨x0, x1, x2, u⟩ := y
  obtain ⟨⟨q0, q1⟩, ⟨k, k1, k2, k3, k4⟩, q3⟩ := hy
  dsimp only at q0 q1 k1 q3
  subst q0 q1 q3
  show gT (sb_171_9 217 x1 x2 u) _
  unfold sb_171_9
  rw [hu.1.1, k1]
  refine gT_ite (fun hx => ?_) (fun hx => gT_map (hcont k ?_))
  rotate_left
  · rw [← k4, lr_n (a := k) (by omega)]
  refine gT_v1 (A := fun v z => v = L k ∧ z = u) (w_168 hu (by omega)) (fun v4 s3 h3 => ?_)
  obtain ⟨e4, e3⟩ := h3
  subst e3
  refine gT_v1 (A := fun v z => ((v = 1 ∧ 97 ≤ v4 ∧ v4 ≤ 122) ∨ (v = 0 ∧ ¬ (97 ≤ v4 ∧ v4 ≤ 122))) ∧ z = s3) w_150 (fun v6 s5 h5 => ?_)
  obtain ⟨e6, e5⟩ := h5
  subst e5
  have hk1 : f ≤ k + 1 ∧ k + 1 ≤ e := by omega
  have hm : ((e : Int) - ((k : Int) + 1)).toNat < ((e : Int) - (k : Int)).toNat := by omega
  have g := g32_eq (v := (k : Int) + 1) (by omega) (by omega)
  rw [g]
  clear g
  refine gT_ite (fun hc => gT_map (hcont k ?_)) (fun hc => gT_ret ⟨⟨⟨rfl, rfl⟩, ⟨k + 1, rfl, hk1.1, hk1.2, ?_⟩, rfl⟩, hm⟩)
  · rw [← k4, lr_n (a := k) (by omega)]
  · rw [← k4, lr_s (a := k) (by omega)]
end Mo2
