section Th
variable {s s' : gS} {L : Nat → Int} {e f : Nat}
theorem lrn_b (n : Nat) : ∀ {a : Nat}, a ≤ lrn L e n a ∧ (lrn L e n a ≤ a ∨ lrn L e n a ≤ e) := by
  induction n with
  | zero => intro a; exact ⟨Nat.le_refl _, Or.inl (Nat.le_refl _)⟩
  | succ n ih_l =>
    intro a
    show a ≤ (if a < e ∧ 97 ≤ L a ∧ L a ≤ 122 then lrn L e n (a + 1) else a) ∧ ((if a < e ∧ 97 ≤ L a ∧ L a ≤ 122 then lrn L e n (a + 1) else a) ≤ a ∨ (if a < e ∧ 97 ≤ L a ∧ L a ≤ 122 then lrn L e n (a + 1) else a) ≤ e)
    by_cases h : a < e ∧ 97 ≤ L a ∧ L a ≤ 122
    · have := ih_l (a := a + 1)
      rw [if_pos h]
      omega
    · rw [if_neg h]
      omega
theorem drn_b (n : Nat) : ∀ {a : Nat}, a ≤ drn L e n a ∧ (drn L e n a ≤ a ∨ drn L e n a ≤ e) ∧ ∀ i, a ≤ i → i < drn L e n a → 48 ≤ L i ∧ L i ≤ 57 := by
  induction n with
  | zero => intro a; exact ⟨Nat.le_refl _, Or.inl (Nat.le_refl _), fun i h1 h2 => by have : drn L e 0 a = a := rfl; omega⟩
  | succ n ih_l =>
    intro a
    show a ≤ (if a < e ∧ 48 ≤ L a ∧ L a ≤ 57 then drn L e n (a + 1) else a) ∧ ((if a < e ∧ 48 ≤ L a ∧ L a ≤ 57 then drn L e n (a + 1) else a) ≤ a ∨ (if a < e ∧ 48 ≤ L a ∧ L a ≤ 57 then drn L e n (a + 1) else a) ≤ e) ∧ ∀ i, a ≤ i → i < (if a < e ∧ 48 ≤ L a ∧ L a ≤ 57 then drn L e n (a + 1) else a) → 48 ≤ L i ∧ L i ≤ 57
    by_cases h : a < e ∧ 48 ≤ L a ∧ L a ≤ 57
    · have q_l := ih_l (a := a + 1)
      rw [if_pos h]
      refine ⟨by omega, by omega, fun i h1 h2 => ?_⟩
      by_cases e1 : i = a
      · rw [e1]; exact h.2
      · exact q_l.2.2 i (by omega) h2
    · rw [if_neg h]
      exact ⟨Nat.le_refl _, Or.inl (Nat.le_refl _), fun i h1 h2 => by omega⟩
theorem en_b (hf : f ≤ e) : f ≤ en L e f ∧ en L e f ≤ e ∧ (f < e → f + 1 ≤ en L e f) := by
  have q1_l := lrn_b (L := L) (e := e) e (a := f + 1)
  have q2_l := drn_b (L := L) (e := e) e (a := f + 1)
  unfold en lr dr
  by_cases h : f < e
  · rw [if_pos h]
    by_cases h1 : 97 ≤ L f ∧ L f ≤ 122
    · rw [if_pos h1]; omega
    · rw [if_neg h1]
      by_cases h2 : 48 ≤ L f ∧ L f ≤ 57
      · rw [if_pos h2]; omega
      · rw [if_neg h2]; omega
  · rw [if_neg h]; omega
theorem sk_b {a : Nat} (ha : a ≤ e) : a ≤ sk L e a ∧ sk L e a ≤ e := by
  have := sk_ge (L := L) (e := e) e (a := a)
  unfold sk
  omega
theorem skp_i (n : Nat) : ∀ {a : Nat}, e ≤ a + n → ¬ (skp L e n a < e ∧ L (skp L e n a) = 32) := by
  induction n with
  | zero =>
    intro a h_l
    show ¬ (a < e ∧ L a = 32)
    omega
  | succ n ih_l =>
    intro a h_l
    show ¬ ((if a < e ∧ L a = 32 then skp L e n (a + 1) else a) < e ∧ L (if a < e ∧ L a = 32 then skp L e n (a + 1) else a) = 32)
    by_cases hc : a < e ∧ L a = 32
    · rw [if_pos hc]
      exact ih_l (by omega)
    · rw [if_neg hc]
      exact hc
theorem sk_i {a : Nat} : sk L e (sk L e a) = sk L e a := sk_n (by unfold sk; exact skp_i e (by omega))
/-- the tape stands at the thing that begins at f -/
def At (s : gS) (L : Nat → Int) (e f : Nat) : Prop := Tp s L e ∧ (f ≤ e ∧ sk L e f = f) ∧ gI s 1 3 = (f : Int) ∧ gI s 1 2 = kd L e f ∧ gI s 1 4 = ((en L e f : Nat) : Int)
/-- the next thing -/
def nx (L : Nat → Int) (e f : Nat) : Nat := sk L e (en L e f)
theorem v_adv (h : At s L e f) : gT (f_78 1 s) (fun r => r.1 = 0 ∧ Fr s r.2.2.2 ∧ At r.2.2.2 L e (nx L e f)) := by
  obtain ⟨hT_l, hf, h3, h2, h4⟩ := h
  have b_l := en_b (L := L) hf.1
  have q_l := sk_b (L := L) (e := e) (a := en L e f) b_l.2.1
  exact gT_mono (v_78 hT_l h4 b_l.2.1) (fun r hr => ⟨hr.1, hr.2.1, Tp_fr hT_l hr.2.1, ⟨q_l.2, sk_i⟩, hr.2.2.1, hr.2.2.2.1, hr.2.2.2.2⟩)
/-- the sign i of word w -/
def ch (w i : Nat) : Int := gi2c (gand (gsc w i) 255)
/-- word w stands at f -/
def Wd (L : Nat → Int) (e w f : Nat) : Prop := lr L e f = f + (gtx w).length ∧ ∀ i, i < (gtx w).length → L (f + i) = ch w i
theorem v_80 {w : Nat} (hw : 1 ≤ (gtx w).length) (h : At s L e f) : gT (f_80 1 w s) (fun r => r.1 = 1 ∧ r.2.2.2 = s ∧ ((r.2.1 = 1 ∧ Wd L e w f) ∨ (r.2.1 = 0 ∧ ¬ Wd L e w f))) := by
  obtain ⟨hT_l, hf, h3, h2, h4⟩ := h
  have b_l := en_b (L := L) hf.1
  have hlen := gtx_le w
  have hsl : gsl w = ((gtx w).length : Int) := rfl
  have hsr := gshr_0 (x := gsl w) (by omega)
  have h400 := hT_l.2.2.1
  unfold f_80
  rw [h2]
  refine gT_ite (fun hk => ?_) (fun hk => gT_ret ⟨rfl, rfl, Or.inr ⟨rfl, fun z_l => hk ?_⟩⟩)
  rotate_left
  · unfold Wd at z_l
    unfold kd
    have hl : f < e ∧ 97 ≤ L f ∧ L f ≤ 122 := by
      by_cases c : f < e ∧ 97 ≤ L f ∧ L f ≤ 122
      · exact c
      · rw [lr_n c] at z_l; omega
    rw [if_pos hl.1, if_pos hl.2]
  have hl : f < e ∧ 97 ≤ L f ∧ L f ≤ 122 := by
    unfold kd at hk
    by_cases c1 : f < e
    · rw [if_pos c1] at hk
      by_cases c2 : 97 ≤ L f ∧ L f ≤ 122
      · exact ⟨c1, c2⟩
      · rw [if_neg c2] at hk
        by_cases c3 : 48 ≤ L f ∧ L f ≤ 57
        · rw [if_pos c3] at hk; omega
        · rw [if_neg c3] at hk; omega
    · rw [if_neg c1] at hk; omega
  have he : en L e f = lr L e f := by
    unfold en
    rw [if_pos hl.1, if_pos hl.2, lr_s hl]
  refine gT_v1 (A := fun v_l u_l => v_l = gsl w ∧ u_l = s) ⟨_, rfl, rfl, hsr, rfl⟩ (fun v2 s1_l hA => ?_)
  obtain ⟨rfl, rfl⟩ := hA
  rw [h4, h3]
  have e1_l := g32_eq (v := ((en L e f : Nat) : Int) - (f : Int)) (by omega) (by omega)
  refine gT_ite (fun h5 => ?_) (fun h5 => gT_ret ⟨rfl, rfl, Or.inr ⟨rfl, fun z_l => h5 ?_⟩⟩)
  rotate_left
  · have := z_l.1
    omega
  refine gT_loop (fun y_l => y_l.1 = 1 ∧ y_l.2.1 = w ∧ (∃ i_l : Nat, y_l.2.2.1 = (i_l : Int) ∧ i_l ≤ (gtx w).length ∧ ∀ j_l, j_l < i_l → L (f + j_l) = ch w j_l) ∧ y_l.2.2.2 = s1_l) (fun y_l => (gsl w - y_l.2.2.1).toNat) (fun y_l hy => ?_) ⟨rfl, rfl, ⟨0, rfl, by omega, fun j_l hj => by omega⟩, rfl⟩
  obtain ⟨x0_l, x1_l, x2_l, u_l⟩ := y_l
  obtain ⟨e0_l, e2_l, ⟨i_l, q2_l, q3_l, q4_l⟩, e3_l⟩ := hy
  dsimp only at e0_l e2_l q2_l e3_l
  subst e0_l e2_l e3_l
  obtain ⟨t1_l, t2_l, t3_l, t4_l⟩ := hT_l
  show gT (sb_80_28 1 x1_l x2_l u_l) _
  unfold sb_80_28
  refine gT_v1 (A := fun v_l z_l => v_l = gsl x1_l ∧ z_l = u_l) ⟨_, rfl, rfl, hsr, rfl⟩ (fun v4_l s3_l hA => ?_)
  obtain ⟨rfl, rfl⟩ := hA
  refine gT_ite (fun h6 => ?_) (fun h6 => gT_map (gT_ret ⟨rfl, rfl, Or.inl ⟨rfl, by omega, fun j_l hj => q4_l j_l (by omega)⟩⟩))
  have e4_l := g32_eq (v := gI s3_l 1 3 + x2_l) (by omega) (by omega)
  rw [e4_l, h3, q2_l]
  refine gT_chk (by omega) (by omega) ?_
  refine gT_v1 (A := fun v_l z_l => v_l = ch x1_l i_l ∧ z_l = s3_l) (gT_chk (by omega) (by omega) (gT_ret ⟨rfl, by dsimp only; rw [Int.toNat_natCast]; rfl, rfl⟩)) (fun v6 s5 hA => ?_)
  obtain ⟨q6_l, q5_l⟩ := hA
  subst q5_l
  rw [t1_l, t4_l, show ((f : Int) + (i_l : Int)).toNat = f + i_l by omega]
  have hi1 : i_l + 1 ≤ (gtx x1_l).length := by omega
  have hm_l : (gsl x1_l - ((i_l : Int) + 1)).toNat < (gsl x1_l - (i_l : Int)).toNat := by omega
  have e5_l := g32_eq (v := (i_l : Int) + 1) (by omega) (by omega)
  rw [e5_l]
  clear e5_l e4_l
  refine gT_ite (fun hc_l => gT_ret ⟨⟨rfl, rfl, ⟨i_l + 1, rfl, hi1, fun j_l hj => ?_⟩, rfl⟩, hm_l⟩) (fun hc_l => gT_map (gT_ret ⟨rfl, rfl, Or.inr ⟨rfl, fun z_l => hc_l ?_⟩⟩))
  · by_cases ej : j_l = i_l
    · rw [ej, hc_l, q6_l]
    · exact q4_l j_l (by omega)
  · rw [z_l.2 i_l (by omega), q6_l]
/-- takeWord -/
theorem v_82 {w : Nat} (hw : 1 ≤ (gtx w).length) (h : At s L e f) : gT (f_82 1 w s) (fun r => r.1 = 1 ∧ Fr s r.2.2.2 ∧ ((r.2.1 = 1 ∧ Wd L e w f ∧ At r.2.2.2 L e (nx L e f)) ∨ (r.2.1 = 0 ∧ ¬ Wd L e w f ∧ At r.2.2.2 L e f))) := by
  unfold f_82
  refine gT_v1 (A := fun v_l u_l => u_l = s ∧ ((v_l = 1 ∧ Wd L e w f) ∨ (v_l = 0 ∧ ¬ Wd L e w f))) (v_80 hw h) (fun v2 s1_l h1 => ?_)
  obtain ⟨rfl, h1⟩ := h1
  refine gT_ite (fun h0 => gT_ret ⟨rfl, Fr_r _, Or.inr ⟨h0, ?_, h⟩⟩) (fun h0 => ?_)
  · rcases h1 with ⟨e1_l, -⟩ | ⟨-, e1_l⟩
    · omega
    · exact e1_l
  · refine gT_v0 (A := fun u_l => Fr s1_l u_l ∧ At u_l L e (nx L e f)) (v_adv h) (fun s4_l h4 => ?_)
    rcases h1 with ⟨e1_l, e2_l⟩ | ⟨e1_l, -⟩
    · exact gT_ret ⟨rfl, h4.1, Or.inl ⟨e1_l, e2_l, h4.2⟩⟩
    · omega
end Th
