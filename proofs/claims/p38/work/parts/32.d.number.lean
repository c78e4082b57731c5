section Nu
variable {s s' : gS} {L : Nat → Int} {e f : Nat}
/-- isSign, for a sign that is no letter and no figure -/
theorem v_81 {c : Int} (hc : ¬ (97 ≤ c ∧ c ≤ 122) ∧ ¬ (48 ≤ c ∧ c ≤ 57)) (h : At s L e f) : gT (f_81 1 c s) (fun r => r.1 = 1 ∧ r.2.2.2 = s ∧ ((r.2.1 = 1 ∧ f < e ∧ L f = c) ∨ (r.2.1 = 0 ∧ ¬ (f < e ∧ L f = c)))) := by
  obtain ⟨⟨t1_l, t2_l, t3_l, t4_l⟩, hf, h3, h2, h4⟩ := h
  have hk : (kd L e f = 3 ∧ f < e ∧ ¬ (97 ≤ L f ∧ L f ≤ 122) ∧ ¬ (48 ≤ L f ∧ L f ≤ 57)) ∨ (kd L e f ≠ 3 ∧ (f < e → (97 ≤ L f ∧ L f ≤ 122) ∨ (48 ≤ L f ∧ L f ≤ 57))) := by
    unfold kd
    by_cases c1 : f < e
    · rw [if_pos c1]
      by_cases c2 : 97 ≤ L f ∧ L f ≤ 122
      · rw [if_pos c2]; exact Or.inr ⟨by omega, fun _ => Or.inl c2⟩
      · rw [if_neg c2]
        by_cases c3 : 48 ≤ L f ∧ L f ≤ 57
        · rw [if_pos c3]; exact Or.inr ⟨by omega, fun _ => Or.inr c3⟩
        · rw [if_neg c3]; exact Or.inl ⟨rfl, c1, c2, c3⟩
    · rw [if_neg c1]; exact Or.inr ⟨by omega, fun z_l => absurd z_l c1⟩
  unfold f_81 fb_81_25
  rw [h2, h3, t1_l, t4_l, Int.toNat_natCast]
  refine gT_ite (fun h5 => ?_) (fun h5 => gT_ret ⟨rfl, rfl, Or.inr ⟨rfl, fun z_l => ?_⟩⟩)
  · have hl : f < e := by
      rcases hk with q_l | q_l
      · exact q_l.2.1
      · exact absurd h5 q_l.1
    refine gT_chk (by omega) (by omega) ?_
    exact gT_ite (fun h6 => gT_ret ⟨rfl, rfl, Or.inl ⟨rfl, hl, h6⟩⟩) (fun h6 => gT_ret ⟨rfl, rfl, Or.inr ⟨rfl, fun z_l => h6 z_l.2⟩⟩)
  · rcases hk with q_l | q_l
    · exact h5 q_l.1
    · have := q_l.2 z_l.1
      rw [z_l.2] at this
      omega
/-- takeSign -/
theorem v_83 {c : Int} (hc : ¬ (97 ≤ c ∧ c ≤ 122) ∧ ¬ (48 ≤ c ∧ c ≤ 57)) (h : At s L e f) : gT (f_83 1 c s) (fun r => r.1 = 1 ∧ Fr s r.2.2.2 ∧ ((r.2.1 = 1 ∧ (f < e ∧ L f = c) ∧ At r.2.2.2 L e (nx L e f)) ∨ (r.2.1 = 0 ∧ ¬ (f < e ∧ L f = c) ∧ At r.2.2.2 L e f))) := by
  unfold f_83
  refine gT_v1 (A := fun v_l u_l => u_l = s ∧ ((v_l = 1 ∧ f < e ∧ L f = c) ∨ (v_l = 0 ∧ ¬ (f < e ∧ L f = c)))) (v_81 hc h) (fun v2 s1_l h1 => ?_)
  obtain ⟨rfl, h1⟩ := h1
  refine gT_ite (fun h0 => gT_ret ⟨rfl, Fr_r _, Or.inr ⟨h0, ?_, h⟩⟩) (fun h0 => ?_)
  · rcases h1 with ⟨e1_l, -⟩ | ⟨-, e1_l⟩
    · omega
    · exact e1_l
  · refine gT_v0 (A := fun u_l => Fr s1_l u_l ∧ At u_l L e (nx L e f)) (v_adv h) (fun s4_l h4 => ?_)
    rcases h1 with ⟨e1_l, e2_l⟩ | ⟨e1_l, -⟩
    · exact gT_ret ⟨rfl, h4.1, Or.inl ⟨e1_l, e2_l, h4.2⟩⟩
    · omega
/-- the number of n figures at a -/
def nv (L : Nat → Int) (a : Nat) : Nat → Int
  | 0 => 0
  | n + 1 => nv L a n * 10 + L (a + n) - 48
/-- a number of at most three figures within lo and hi stands at f -/
def Nm (L : Nat → Int) (e f : Nat) (lo hi : Int) : Prop := (f < e ∧ 48 ≤ L f ∧ L f ≤ 57) ∧ dr L e f ≤ f + 3 ∧ lo ≤ nv L f (dr L e f - f) ∧ nv L f (dr L e f - f) ≤ hi
theorem nv_b {a n : Nat} (hn : n ≤ 3) (h : ∀ i, i < n → 48 ≤ L (a + i) ∧ L (a + i) ≤ 57) : 0 ≤ nv L a n ∧ nv L a n ≤ 999 := by
  have hc_l : n = 0 ∨ n = 1 ∨ n = 2 ∨ n = 3 := by omega
  rcases hc_l with rfl | rfl | rfl | rfl
  · simp only [nv]
    omega
  · have h0 := h 0 (by omega)
    simp only [nv]
    omega
  · have h0 := h 0 (by omega)
    have h1 := h 1 (by omega)
    simp only [nv]
    omega
  · have h0 := h 0 (by omega)
    have h1 := h 1 (by omega)
    have h2 := h 2 (by omega)
    simp only [nv]
    omega
/-- takeNumber -/
theorem v_84 {lo hi : Int} (h : At s L e f) : gT (f_84 1 lo hi s) (fun r => r.1 = 1 ∧ Fr s r.2.2.2 ∧ ((Nm L e f lo hi ∧ r.2.1 = nv L f (dr L e f - f) ∧ At r.2.2.2 L e (nx L e f)) ∨ (¬ Nm L e f lo hi ∧ r.2.1 = -1 ∧ At r.2.2.2 L e f))) := by
  have hA := h
  obtain ⟨⟨t1_l, t2_l, t3_l, t4_l⟩, hf, h3, h2, h4⟩ := h
  have b_l := en_b (L := L) hf.1
  have q_l := drn_b (L := L) (e := e) e (a := f)
  unfold f_84
  rw [h2, h3, h4]
  have g0 := g32_eq (v := ((en L e f : Nat) : Int) - (f : Int)) (by omega) (by omega)
  rw [g0]
  refine gT_ite (fun hk => ?_) (fun hk => gT_ret ⟨rfl, Fr_r s, Or.inr ⟨fun z_l => hk ?_, rfl, hA⟩⟩)
  rotate_left
  · obtain ⟨⟨z1, z2⟩, -⟩ := z_l
    unfold kd
    rw [if_pos z1, if_neg (by omega), if_pos z2]
  have hl : f < e ∧ 48 ≤ L f ∧ L f ≤ 57 := by
    unfold kd at hk
    by_cases c1_l : f < e
    · rw [if_pos c1_l] at hk
      by_cases c2_l : 97 ≤ L f ∧ L f ≤ 122
      · rw [if_pos c2_l] at hk; omega
      · rw [if_neg c2_l] at hk
        by_cases c3 : 48 ≤ L f ∧ L f ≤ 57
        · exact ⟨c1_l, c3⟩
        · rw [if_neg c3] at hk; omega
    · rw [if_neg c1_l] at hk; omega
  have he : en L e f = dr L e f := by
    unfold en
    rw [if_pos hl.1, if_neg (by omega), if_pos hl.2, dr_s hl]
  have hdg : ∀ i_l, i_l < dr L e f - f → 48 ≤ L (f + i_l) ∧ L (f + i_l) ≤ 57 := fun i_l hi => q_l.2.2 (f + i_l) (by omega) (by unfold dr at hi; omega)
  refine gT_ite (fun h5 => gT_ret ⟨rfl, Fr_r s, Or.inr ⟨fun z_l => ?_, rfl, hA⟩⟩) (fun h5 => ?_)
  · have := z_l.2.1
    omega
  refine gT_loop (fun y_l => (y_l.1 = 1 ∧ y_l.2.1 = lo ∧ y_l.2.2.1 = hi) ∧ (∃ i_l : Nat, i_l ≤ dr L e f - f ∧ y_l.2.2.2.2.1 = (f : Int) + i_l ∧ y_l.2.2.2.1 = nv L f i_l) ∧ y_l.2.2.2.2.2 = s) (fun y_l => ((e : Int) - y_l.2.2.2.2.1).toNat) (fun y_l hy => ?_) ⟨⟨rfl, rfl, rfl⟩, ⟨0, by omega, by dsimp only; omega, rfl⟩, rfl⟩
  obtain ⟨x0_l, x1_l, x2_l, x3, x4_l, u_l⟩ := y_l
  obtain ⟨⟨q0, q1_l, q2_l⟩, ⟨i_l, i1_l, i2_l, i3_l⟩, q3_l⟩ := hy
  dsimp only at q0 q1_l q2_l i2_l i3_l q3_l
  subst q0 q1_l q2_l q3_l
  have nb := nv_b (L := L) (a := f) (n := i_l) (by omega) (fun j_l hj => hdg j_l (by omega))
  show gT (sb_84_31 1 x1_l x2_l x3 x4_l u_l) _
  unfold sb_84_31
  rw [h4, t1_l, t4_l]
  refine gT_ite (fun h6 => ?_) (fun h6 => gT_map ?_)
  · refine gT_chk (by omega) (by omega) ?_
    have hd_l := hdg i_l (by omega)
    rw [show x4_l.toNat = f + i_l by omega]
    have g1 := g32_eq (v := x3 * 10) (by omega) (by omega)
    have g2 := g32_eq (v := x3 * 10 + L (f + i_l)) (by omega) (by omega)
    have g3_l := g32_eq (v := x3 * 10 + L (f + i_l) - 48) (by omega) (by omega)
    have g4 := g32_eq (v := x4_l + 1) (by omega) (by omega)
    rw [g1, g2, g3_l, g4]
    refine gT_ret ⟨⟨⟨rfl, rfl, rfl⟩, ⟨i_l + 1, by omega, by dsimp only; omega, ?_⟩, rfl⟩, by dsimp only; omega⟩
    dsimp only
    rw [i3_l]
    rfl
  · have ei : i_l = dr L e f - f := by omega
    subst ei
    refine gT_ite (fun c1_l => gT_ret ⟨rfl, Fr_r u_l, Or.inr ⟨fun z_l => ?_, rfl, hA⟩⟩) (fun c1_l => ?_)
    · have := z_l.2.2.1
      omega
    refine gT_ite (fun c2_l => gT_ret ⟨rfl, Fr_r u_l, Or.inr ⟨fun z_l => ?_, rfl, hA⟩⟩) (fun c2_l => ?_)
    · have := z_l.2.2.2
      omega
    refine gT_v0 (A := fun o => Fr u_l o ∧ At o L e (nx L e f)) (v_adv hA) (fun s2_l k2_l => ?_)
    exact gT_ret ⟨rfl, k2_l.1, Or.inl ⟨⟨hl, by omega, by omega, by omega⟩, i3_l, k2_l.2⟩⟩
end Nu
