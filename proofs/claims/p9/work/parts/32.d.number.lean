section Nu
variable {s s' : gS} {L : Nat → Int} {e f : Nat}
/-- isSign, for a sign that is no letter and no figure -/
theorem v_81 {c : Int} (hc : ¬ (97 ≤ c ∧ c ≤ 122) ∧ ¬ (48 ≤ c ∧ c ≤ 57)) (h : At s L e f) : gT (f_81 1 c s) (fun r => r.1 = 1 ∧ r.2.2.2 = s ∧ ((r.2.1 = 1 ∧ f < e ∧ L f = c) ∨ (r.2.1 = 0 ∧ ¬ (f < e ∧ L f = c)))) := by
  obtain ⟨⟨t1, t2, t3, t4⟩, hf, h3, h2, h4⟩ := h
  have hk : (kd L e f = 3 ∧ f < e ∧ ¬ (97 ≤ L f ∧ L f ≤ 122) ∧ ¬ (48 ≤ L f ∧ L f ≤ 57)) ∨ (kd L e f ≠ 3 ∧ (f < e → (97 ≤ L f ∧ L f ≤ 122) ∨ (48 ≤ L f ∧ L f ≤ 57))) := by
    unfold kd
    by_cases c1 : f < e
    · rw [if_pos c1]
      by_cases c2 : 97 ≤ L f ∧ L f ≤ 122
      · rw [if_pos c2]; exact Or.inr ⟨by omega, fun _ => Or.inl c2⟩
      · rw [if_neg c2]
        by_cases c3 : 48 ≤ L f ∧ L f ≤ 57
        · rw [if_pos c3]; exact Or.inr ⟨by omega, fun _ => Or.inr c3⟩
        · rw [if_neg c3]; exact Or.inl ⟨rfl, c1, c2, c3⟩
    · rw [if_neg c1]; exact Or.inr ⟨by omega, fun z => absurd z c1⟩
  unfold f_81 fb_81_25
  rw [h2, h3, t1, t4, Int.toNat_natCast]
  refine gT_ite (fun h5 => ?_) (fun h5 => gT_ret ⟨rfl, rfl, Or.inr ⟨rfl, fun z => ?_⟩⟩)
  · have hl : f < e := by
      rcases hk with q | q
      · exact q.2.1
      · exact absurd h5 q.1
    refine gT_chk (by omega) (by omega) ?_
    exact gT_ite (fun h6 => gT_ret ⟨rfl, rfl, Or.inl ⟨rfl, hl, h6⟩⟩) (fun h6 => gT_ret ⟨rfl, rfl, Or.inr ⟨rfl, fun z => h6 z.2⟩⟩)
  · rcases hk with q | q
    · exact h5 q.1
    · have := q.2 z.1
      rw [z.2] at this
      omega
/-- takeSign -/
theorem v_83 {c : Int} (hc : ¬ (97 ≤ c ∧ c ≤ 122) ∧ ¬ (48 ≤ c ∧ c ≤ 57)) (h : At s L e f) : gT (f_83 1 c s) (fun r => r.1 = 1 ∧ Fr s r.2.2.2 ∧ ((r.2.1 = 1 ∧ (f < e ∧ L f = c) ∧ At r.2.2.2 L e (nx L e f)) ∨ (r.2.1 = 0 ∧ ¬ (f < e ∧ L f = c) ∧ At r.2.2.2 L e f))) := by
  unfold f_83
  refine gT_v1 (A := fun v u => u = s ∧ ((v = 1 ∧ f < e ∧ L f = c) ∨ (v = 0 ∧ ¬ (f < e ∧ L f = c)))) (v_81 hc h) (fun v2 s1 h1 => ?_)
  obtain ⟨rfl, h1⟩ := h1
  refine gT_ite (fun h0 => gT_ret ⟨rfl, Fr_r _, Or.inr ⟨h0, ?_, h⟩⟩) (fun h0 => ?_)
  · rcases h1 with ⟨e1, -⟩ | ⟨-, e1⟩
    · omega
    · exact e1
  · refine gT_v0 (A := fun u => Fr s1 u ∧ At u L e (nx L e f)) (v_adv h) (fun s4 h4 => ?_)
    rcases h1 with ⟨e1, e2⟩ | ⟨e1, -⟩
    · exact gT_ret ⟨rfl, h4.1, Or.inl ⟨e1, e2, h4.2⟩⟩
    · omega
/-- the number of n figures at a -/
def nv (L : Nat → Int) (a : Nat) : Nat → Int
  | 0 => 0
  | n + 1 => nv L a n * 10 + L (a + n) - 48
/-- a number of at most three figures within lo and hi stands at f -/
def Nm (L : Nat → Int) (e f : Nat) (lo hi : Int) : Prop := (f < e ∧ 48 ≤ L f ∧ L f ≤ 57) ∧ dr L e f ≤ f + 3 ∧ lo ≤ nv L f (dr L e f - f) ∧ nv L f (dr L e f - f) ≤ hi
theorem nv_b {a n : Nat} (hn : n ≤ 3) (h : ∀ i, i < n → 48 ≤ L (a + i) ∧ L (a + i) ≤ 57) : 0 ≤ nv L a n ∧ nv L a n ≤ 999 := by
  have hc : n = 0 ∨ n = 1 ∨ n = 2 ∨ n = 3 := by omega
  rcases hc with rfl | rfl | rfl | rfl
  · simp only [nv]
    omega
  · have h0 := h 0 (by omega)
    simp only [nv]
    omega
  · have h0 := h 0 (by omega)
    have h1 := h 1 (by omega)
    simp only [nv]
    omega
  · have h0 := h 0 (by omega)
    have h1 := h 1 (by omega)
    have h2 := h 2 (by omega)
    simp only [nv]
    omega
/-- takeNumber -/
theorem v_84 {lo hi : Int} (h : At s L e f) : gT (f_84 1 lo hi s) (fun r => r.1 = 1 ∧ Fr s r.2.2.2 ∧ ((Nm L e f lo hi ∧ r.2.1 = nv L f (dr L e f - f) ∧ At r.2.2.2 L e (nx L e f)) ∨ (¬ Nm L e f lo hi ∧ r.2.1 = -1 ∧ At r.2.2.2 L e f))) := by
  have hA := h
  obtain ⟨⟨t1, t2, t3, t4⟩, hf, h3, h2, h4⟩ := h
  have b := en_b (L := L) hf.1
  have q := drn_b (L := L) (e := e) e (a := f)
  unfold f_84
  rw [h2, h3, h4]
  have g0 := g32_eq (v := ((en L e f : Nat) : Int) - (f : Int)) (by omega) (by omega)
  rw [g0]
  refine gT_ite (fun hk => ?_) (fun hk => gT_ret ⟨rfl, Fr_r s, Or.inr ⟨fun z => hk ?_, rfl, hA⟩⟩)
  rotate_left
  · obtain ⟨⟨z1, z2⟩, -⟩ := z
    unfold kd
    rw [if_pos z1, if_neg (by omega), if_pos z2]
  have hl : f < e ∧ 48 ≤ L f ∧ L f ≤ 57 := by
    unfold kd at hk
    by_cases c1 : f < e
    · rw [if_pos c1] at hk
      by_cases c2 : 97 ≤ L f ∧ L f ≤ 122
      · rw [if_pos c2] at hk; omega
      · rw [if_neg c2] at hk
        by_cases c3 : 48 ≤ L f ∧ L f ≤ 57
        · exact ⟨c1, c3⟩
        · rw [if_neg c3] at hk; omega
    · rw [if_neg c1] at hk; omega
  have he : en L e f = dr L e f := by
    unfold en
    rw [if_pos hl.1, if_neg (by omega), if_pos hl.2, dr_s hl]
  have hdg : ∀ i, i < dr L e f - f → 48 ≤ L (f + i) ∧ L (f + i) ≤ 57 := fun i hi => q.2.2 (f + i) (by omega) (by unfold dr at hi; omega)
  refine gT_ite (fun h5 => gT_ret ⟨rfl, Fr_r s, Or.inr ⟨fun z => ?_, rfl, hA⟩⟩) (fun h5 => ?_)
  · have := z.2.1
    omega
  refine gT_loop (fun y => (y.1 = 1 ∧ y.2.1 = lo ∧ y.2.2.1 = hi) ∧ (∃ i : Nat, i ≤ dr L e f - f ∧ y.2.2.2.2.1 = (f : Int) + i ∧ y.2.2.2.1 = nv L f i) ∧ y.2.2.2.2.2 = s) (fun y => ((e : Int) - y.2.2.2.2.1).toNat) (fun y hy => ?_) ⟨⟨rfl, rfl, rfl⟩, ⟨0, by omega, by dsimp only; omega, rfl⟩, rfl⟩
  obtain ⟨x0, x1, x2, x3, x4, u⟩ := y
  obtain ⟨⟨q0, q1, q2⟩, ⟨i, i1, i2, i3⟩, q3⟩ := hy
  dsimp only at q0 q1 q2 i2 i3 q3
  subst q0 q1 q2 q3
  have nb := nv_b (L := L) (a := f) (n := i) (by omega) (fun j hj => hdg j (by omega))
  show gT (sb_84_31 1 x1 x2 x3 x4 u) _
  unfold sb_84_31
  rw [h4, t1, t4]
  refine gT_ite (fun h6 => ?_) (fun h6 => gT_map ?_)
  · refine gT_chk (by omega) (by omega) ?_
    have hd := hdg i (by omega)
    rw [show x4.toNat = f + i by omega]
    have g1 := g32_eq (v := x3 * 10) (by omega) (by omega)
    have g2 := g32_eq (v := x3 * 10 + L (f + i)) (by omega) (by omega)
    have g3 := g32_eq (v := x3 * 10 + L (f + i) - 48) (by omega) (by omega)
    have g4 := g32_eq (v := x4 + 1) (by omega) (by omega)
    rw [g1, g2, g3, g4]
    refine gT_ret ⟨⟨⟨rfl, rfl, rfl⟩, ⟨i + 1, by omega, by dsimp only; omega, ?_⟩, rfl⟩, by dsimp only; omega⟩
    dsimp only
    rw [i3]
    rfl
  · have ei : i = dr L e f - f := by omega
    subst ei
    refine gT_ite (fun c1 => gT_ret ⟨rfl, Fr_r u, Or.inr ⟨fun z => ?_, rfl, hA⟩⟩) (fun c1 => ?_)
    · have := z.2.2.1
      omega
    refine gT_ite (fun c2 => gT_ret ⟨rfl, Fr_r u, Or.inr ⟨fun z => ?_, rfl, hA⟩⟩) (fun c2 => ?_)
    · have := z.2.2.2
      omega
    refine gT_v0 (A := fun o => Fr u o ∧ At o L e (nx L e f)) (v_adv hA) (fun s2 k2 => ?_)
    exact gT_ret ⟨rfl, k2.1, Or.inl ⟨⟨hl, by omega, by omega, by omega⟩, i3, k2.2⟩⟩
end Nu
