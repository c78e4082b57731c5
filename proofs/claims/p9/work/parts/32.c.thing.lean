section Th
variable {s s' : gS} {L : Nat → Int} {e f : Nat}
theorem lrn_b (n : Nat) : ∀ {a : Nat}, a ≤ lrn L e n a ∧ (lrn L e n a ≤ a ∨ lrn L e n a ≤ e) := by
  induction n with
  | zero => intro a; exact ⟨Nat.le_refl _, Or.inl (Nat.le_refl _)⟩
  | succ n ih =>
    intro a
    show a ≤ (if a < e ∧ 97 ≤ L a ∧ L a ≤ 122 then lrn L e n (a + 1) else a) ∧ ((if a < e ∧ 97 ≤ L a ∧ L a ≤ 122 then lrn L e n (a + 1) else a) ≤ a ∨ (if a < e ∧ 97 ≤ L a ∧ L a ≤ 122 then lrn L e n (a + 1) else a) ≤ e)
    by_cases h : a < e ∧ 97 ≤ L a ∧ L a ≤ 122
    · have := ih (a := a + 1)
      rw [if_pos h]
      omega
    · rw [if_neg h]
      omega
theorem drn_b (n : Nat) : ∀ {a : Nat}, a ≤ drn L e n a ∧ (drn L e n a ≤ a ∨ drn L e n a ≤ e) ∧ ∀ i, a ≤ i → i < drn L e n a → 48 ≤ L i ∧ L i ≤ 57 := by
  induction n with
  | zero => intro a; exact ⟨Nat.le_refl _, Or.inl (Nat.le_refl _), fun i h1 h2 => by have : drn L e 0 a = a := rfl; omega⟩
  | succ n ih =>
    intro a
    show a ≤ (if a < e ∧ 48 ≤ L a ∧ L a ≤ 57 then drn L e n (a + 1) else a) ∧ ((if a < e ∧ 48 ≤ L a ∧ L a ≤ 57 then drn L e n (a + 1) else a) ≤ a ∨ (if a < e ∧ 48 ≤ L a ∧ L a ≤ 57 then drn L e n (a + 1) else a) ≤ e) ∧ ∀ i, a ≤ i → i < (if a < e ∧ 48 ≤ L a ∧ L a ≤ 57 then drn L e n (a + 1) else a) → 48 ≤ L i ∧ L i ≤ 57
    by_cases h : a < e ∧ 48 ≤ L a ∧ L a ≤ 57
    · have q := ih (a := a + 1)
      rw [if_pos h]
      refine ⟨by omega, by omega, fun i h1 h2 => ?_⟩
      by_cases e1 : i = a
      · rw [e1]; exact h.2
      · exact q.2.2 i (by omega) h2
    · rw [if_neg h]
      exact ⟨Nat.le_refl _, Or.inl (Nat.le_refl _), fun i h1 h2 => by omega⟩
theorem en_b (hf : f ≤ e) : f ≤ en L e f ∧ en L e f ≤ e ∧ (f < e → f + 1 ≤ en L e f) := by
  have q1 := lrn_b (L := L) (e := e) e (a := f + 1)
  have q2 := drn_b (L := L) (e := e) e (a := f + 1)
  unfold en lr dr
  by_cases h : f < e
  · rw [if_pos h]
    by_cases h1 : 97 ≤ L f ∧ L f ≤ 122
    · rw [if_pos h1]; omega
    · rw [if_neg h1]
      by_cases h2 : 48 ≤ L f ∧ L f ≤ 57
      · rw [if_pos h2]; omega
      · rw [if_neg h2]; omega
  · rw [if_neg h]; omega
theorem sk_b {a : Nat} (ha : a ≤ e) : a ≤ sk L e a ∧ sk L e a ≤ e := by
  have := sk_ge (L := L) (e := e) e (a := a)
  unfold sk
  omega
theorem skp_i (n : Nat) : ∀ {a : Nat}, e ≤ a + n → ¬ (skp L e n a < e ∧ L (skp L e n a) = 32) := by
  induction n with
  | zero =>
    intro a h
    show ¬ (a < e ∧ L a = 32)
    omega
  | succ n ih =>
    intro a h
    show ¬ ((if a < e ∧ L a = 32 then skp L e n (a + 1) else a) < e ∧ L (if a < e ∧ L a = 32 then skp L e n (a + 1) else a) = 32)
    by_cases hc : a < e ∧ L a = 32
    · rw [if_pos hc]
      exact ih (by omega)
    · rw [if_neg hc]
      exact hc
theorem sk_i {a : Nat} : sk L e (sk L e a) = sk L e a := sk_n (by unfold sk; exact skp_i e (by omega))
/-- the tape stands at the thing that begins at f -/
def At (s : gS) (L : Nat → Int) (e f : Nat) : Prop := Tp s L e ∧ (f ≤ e ∧ sk L e f = f) ∧ gI s 1 3 = (f : Int) ∧ gI s 1 2 = kd L e f ∧ gI s 1 4 = ((en L e f : Nat) : Int)
/-- the next thing -/
def nx (L : Nat → Int) (e f : Nat) : Nat := sk L e (en L e f)
theorem v_adv (h : At s L e f) : gT (f_78 1 s) (fun r => r.1 = 0 ∧ Fr s r.2.2.2 ∧ At r.2.2.2 L e (nx L e f)) := by
  obtain ⟨hT, hf, h3, h2, h4⟩ := h
  have b := en_b (L := L) hf.1
  have q := sk_b (L := L) (e := e) (a := en L e f) b.2.1
  exact gT_mono (v_78 hT h4 b.2.1) (fun r hr => ⟨hr.1, hr.2.1, Tp_fr hT hr.2.1, ⟨q.2, sk_i⟩, hr.2.2.1, hr.2.2.2.1, hr.2.2.2.2⟩)
/-- the sign i of word w -/
def ch (w i : Nat) : Int := gi2c (gand (gsc w i) 255)
/-- word w stands at f -/
def Wd (L : Nat → Int) (e w f : Nat) : Prop := lr L e f = f + (gtx w).length ∧ ∀ i, i < (gtx w).length → L (f + i) = ch w i
theorem v_80 {w : Nat} (hw : 1 ≤ (gtx w).length) (h : At s L e f) : gT (f_80 1 w s) (fun r => r.1 = 1 ∧ r.2.2.2 = s ∧ ((r.2.1 = 1 ∧ Wd L e w f) ∨ (r.2.1 = 0 ∧ ¬ Wd L e w f))) := by
  obtain ⟨hT, hf, h3, h2, h4⟩ := h
  have b := en_b (L := L) hf.1
  have hlen := gtx_le w
  have hsl : gsl w = ((gtx w).length : Int) := rfl
  have hsr := gshr_0 (x := gsl w) (by omega)
  have h400 := hT.2.2.1
  unfold f_80
  rw [h2]
  refine gT_ite (fun hk => ?_) (fun hk => gT_ret ⟨rfl, rfl, Or.inr ⟨rfl, fun z => hk ?_⟩⟩)
  rotate_left
  · unfold Wd at z
    unfold kd
    have hl : f < e ∧ 97 ≤ L f ∧ L f ≤ 122 := by
      by_cases c : f < e ∧ 97 ≤ L f ∧ L f ≤ 122
      · exact c
      · rw [lr_n c] at z; omega
    rw [if_pos hl.1, if_pos hl.2]
  have hl : f < e ∧ 97 ≤ L f ∧ L f ≤ 122 := by
    unfold kd at hk
    by_cases c1 : f < e
    · rw [if_pos c1] at hk
      by_cases c2 : 97 ≤ L f ∧ L f ≤ 122
      · exact ⟨c1, c2⟩
      · rw [if_neg c2] at hk
        by_cases c3 : 48 ≤ L f ∧ L f ≤ 57
        · rw [if_pos c3] at hk; omega
        · rw [if_neg c3] at hk; omega
    · rw [if_neg c1] at hk; omega
  have he : en L e f = lr L e f := by
    unfold en
    rw [if_pos hl.1, if_pos hl.2, lr_s hl]
  refine gT_v1 (A := fun v u => v = gsl w ∧ u = s) ⟨_, rfl, rfl, hsr, rfl⟩ (fun v2 s1 hA => ?_)
  obtain ⟨rfl, rfl⟩ := hA
  rw [h4, h3]
  have e1 := g32_eq (v := ((en L e f : Nat) : Int) - (f : Int)) (by omega) (by omega)
  refine gT_ite (fun h5 => ?_) (fun h5 => gT_ret ⟨rfl, rfl, Or.inr ⟨rfl, fun z => h5 ?_⟩⟩)
  rotate_left
  · have := z.1
    omega
  refine gT_loop (fun y => y.1 = 1 ∧ y.2.1 = w ∧ (∃ i : Nat, y.2.2.1 = (i : Int) ∧ i ≤ (gtx w).length ∧ ∀ j, j < i → L (f + j) = ch w j) ∧ y.2.2.2 = s1) (fun y => (gsl w - y.2.2.1).toNat) (fun y hy => ?_) ⟨rfl, rfl, ⟨0, rfl, by omega, fun j hj => by omega⟩, rfl⟩
  obtain ⟨x0, x1, x2, u⟩ := y
  obtain ⟨e0, e2, ⟨i, q2, q3, q4⟩, e3⟩ := hy
  dsimp only at e0 e2 q2 e3
  subst e0 e2 e3
  obtain ⟨t1, t2, t3, t4⟩ := hT
  show gT (sb_80_28 1 x1 x2 u) _
  unfold sb_80_28
  refine gT_v1 (A := fun v z => v = gsl x1 ∧ z = u) ⟨_, rfl, rfl, hsr, rfl⟩ (fun v4 s3 hA => ?_)
  obtain ⟨rfl, rfl⟩ := hA
  refine gT_ite (fun h6 => ?_) (fun h6 => gT_map (gT_ret ⟨rfl, rfl, Or.inl ⟨rfl, by omega, fun j hj => q4 j (by omega)⟩⟩))
  have e4 := g32_eq (v := gI s3 1 3 + x2) (by omega) (by omega)
  rw [e4, h3, q2]
  refine gT_chk (by omega) (by omega) ?_
  refine gT_v1 (A := fun v z => v = ch x1 i ∧ z = s3) (gT_chk (by omega) (by omega) (gT_ret ⟨rfl, by dsimp only; rw [Int.toNat_natCast]; rfl, rfl⟩)) (fun v6 s5 hA => ?_)
  obtain ⟨q6, q5⟩ := hA
  subst q5
  rw [t1, t4, show ((f : Int) + (i : Int)).toNat = f + i by omega]
  have hi1 : i + 1 ≤ (gtx x1).length := by omega
  have hm : (gsl x1 - ((i : Int) + 1)).toNat < (gsl x1 - (i : Int)).toNat := by omega
  have e5 := g32_eq (v := (i : Int) + 1) (by omega) (by omega)
  rw [e5]
  clear e5 e4
  refine gT_ite (fun hc => gT_ret ⟨⟨rfl, rfl, ⟨i + 1, rfl, hi1, fun j hj => ?_⟩, rfl⟩, hm⟩) (fun hc => gT_map (gT_ret ⟨rfl, rfl, Or.inr ⟨rfl, fun z => hc ?_⟩⟩))
  · by_cases ej : j = i
    · rw [ej, hc, q6]
    · exact q4 j (by omega)
  · rw [z.2 i (by omega), q6]
/-- takeWord -/
theorem v_82 {w : Nat} (hw : 1 ≤ (gtx w).length) (h : At s L e f) : gT (f_82 1 w s) (fun r => r.1 = 1 ∧ Fr s r.2.2.2 ∧ ((r.2.1 = 1 ∧ Wd L e w f ∧ At r.2.2.2 L e (nx L e f)) ∨ (r.2.1 = 0 ∧ ¬ Wd L e w f ∧ At r.2.2.2 L e f))) := by
  unfold f_82
  refine gT_v1 (A := fun v u => u = s ∧ ((v = 1 ∧ Wd L e w f) ∨ (v = 0 ∧ ¬ Wd L e w f))) (v_80 hw h) (fun v2 s1 h1 => ?_)
  obtain ⟨rfl, h1⟩ := h1
  refine gT_ite (fun h0 => gT_ret ⟨rfl, Fr_r _, Or.inr ⟨h0, ?_, h⟩⟩) (fun h0 => ?_)
  · rcases h1 with ⟨e1, -⟩ | ⟨-, e1⟩
    · omega
    · exact e1
  · refine gT_v0 (A := fun u => Fr s1 u ∧ At u L e (nx L e f)) (v_adv h) (fun s4 h4 => ?_)
    rcases h1 with ⟨e1, e2⟩ | ⟨e1, -⟩
    · exact gT_ret ⟨rfl, h4.1, Or.inl ⟨e1, e2, h4.2⟩⟩
    · omega
end Th
