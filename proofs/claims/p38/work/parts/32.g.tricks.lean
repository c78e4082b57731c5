theorem gor_ge {x y : Int} (hx : 0 ≤ x ∧ x < 1073741824) (hy : 0 ≤ y ∧ y < 1073741824) : y ≤ gor x y := by
  have hb_l := gor_lt (x := x) (y := y) 30 (by decide) (by constructor <;> omega) (by constructor <;> omega)
  have h2 : y.toNat ≤ (Int32.ofInt x ||| Int32.ofInt y).toBitVec.toNat := by
    rw [Int32.toBitVec_or, BitVec.toNat_or, gON hx.1 (by omega), gON hy.1 (by omega)]
    exact Nat.right_le_or
  have h4 : (Int32.ofInt x ||| Int32.ofInt y).toBitVec.toNat < 2 ^ 30 := by
    rw [Int32.toBitVec_or, BitVec.toNat_or, gON hx.1 (by omega), gON hy.1 (by omega)]
    exact Nat.or_lt_two_pow (by omega) (by omega)
  have h3 := gBN (z := Int32.ofInt x ||| Int32.ofInt y) rfl (by omega)
  unfold gor
  rw [h3]
  omega
section Tr
variable {s s' : gS} {L : Nat → Int} {e f a : Nat}
/-- the set of n letters at a, and whether each is a trick's and new -/
def tbs (L : Nat → Int) (a : Nat) : Nat → Int
  | 0 => 0
  | n + 1 => if L (a + n) - 97 < 6 then gor (tbs L a n) (gshl 1 (L (a + n) - 97)) else gor (tbs L a n) 0
def tgd (L : Nat → Int) (a : Nat) : Nat → Prop
  | 0 => True
  | n + 1 => tgd L a n ∧ L (a + n) - 97 < 6 ∧ gand (gshr (tbs L a n) (L (a + n) - 97)) 1 = 0
/-- tricks stand at f -/
def Tr (L : Nat → Int) (e f : Nat) : Prop := (f < e ∧ 97 ≤ L f ∧ L f ≤ 122) ∧ tgd L f (lr L e f - f)
theorem lrn_a (n : Nat) : ∀ {a : Nat}, ∀ i, a ≤ i → i < lrn L e n a → 97 ≤ L i ∧ L i ≤ 122 := by
  induction n with
  | zero => intro a i h1 h2; have : lrn L e 0 a = a := rfl; omega
  | succ n ih_l =>
    intro a i h1 h2
    have h2 : i < (if a < e ∧ 97 ≤ L a ∧ L a ≤ 122 then lrn L e n (a + 1) else a) := h2
    by_cases h : a < e ∧ 97 ≤ L a ∧ L a ≤ 122
    · rw [if_pos h] at h2
      by_cases e1 : i = a
      · rw [e1]; exact h.2
      · exact ih_l i (by omega) h2
    · rw [if_neg h] at h2
      omega
theorem tbs_b {n : Nat} (h : ∀ i, i < n → 97 ≤ L (a + i) ∧ L (a + i) ≤ 122) : 0 ≤ tbs L a n ∧ tbs L a n ≤ 63 := by
  induction n with
  | zero =>
    show (0 : Int) ≤ 0 ∧ (0 : Int) ≤ 63
    decide
  | succ n ih_l =>
    have q_l := ih_l (fun i hi_l => h i (by omega))
    have hl := h n (by omega)
    show 0 ≤ (if L (a + n) - 97 < 6 then gor (tbs L a n) (gshl 1 (L (a + n) - 97)) else gor (tbs L a n) 0) ∧ (if L (a + n) - 97 < 6 then gor (tbs L a n) (gshl 1 (L (a + n) - 97)) else gor (tbs L a n) 0) ≤ 63
    by_cases h6 : L (a + n) - 97 < 6
    · rw [if_pos h6]
      have b1 := gshl_5 (x := L (a + n) - 97) (by omega)
      have b2 := gor_lt (x := tbs L a n) (y := gshl 1 (L (a + n) - 97)) 6 (by decide) (by constructor <;> omega) (by constructor <;> omega)
      omega
    · rw [if_neg h6]
      have b3 := gor_lt (x := tbs L a n) (y := 0) 6 (by decide) (by constructor <;> omega) (by constructor <;> omega)
      omega
theorem tbs_1 {n : Nat} (h : ∀ i, i < n + 1 → 97 ≤ L (a + i) ∧ L (a + i) ≤ 122) (hg : tgd L a (n + 1)) : 1 ≤ tbs L a (n + 1) := by
  have hl := h n (by omega)
  have q_l := tbs_b (L := L) (a := a) (n := n) (fun i hi_l => h i (by omega))
  have h6 := hg.2.1
  show 1 ≤ (if L (a + n) - 97 < 6 then gor (tbs L a n) (gshl 1 (L (a + n) - 97)) else gor (tbs L a n) 0)
  rw [if_pos h6]
  have b1 := gshl_5 (x := L (a + n) - 97) (by omega)
  have b2 := gor_ge (x := tbs L a n) (y := gshl 1 (L (a + n) - 97)) (by omega) (by omega)
  omega
theorem tgd_le {n m : Nat} (h : tgd L a m) (hn : n ≤ m) : tgd L a n := by
  induction m with
  | zero => have : n = 0 := by omega
            rw [this]; trivial
  | succ m ih_l =>
    by_cases e1 : n = m + 1
    · rw [e1]; exact h
    · exact ih_l h.1 (by omega)
/-- takeTricks -/
theorem v_85 (h : At s L e f) : gT (f_85 1 s) (fun r => r.1 = 1 ∧ Fr s r.2.2.2 ∧ ((Tr L e f ∧ r.2.1 = tbs L f (lr L e f - f) ∧ At r.2.2.2 L e (nx L e f)) ∨ (¬ Tr L e f ∧ r.2.1 = -1 ∧ At r.2.2.2 L e f))) := by
  have hA := h
  obtain ⟨⟨t1_l, t2_l, t3_l, t4_l⟩, hf, h3, h2, h4⟩ := h
  have b_l := en_b (L := L) hf.1
  have la := lrn_a (L := L) (e := e) e (a := f)
  unfold f_85
  rw [h2, h3]
  refine gT_ite (fun hk => ?_) (fun hk => gT_ret ⟨rfl, Fr_r s, Or.inr ⟨fun z_l => hk ?_, rfl, hA⟩⟩)
  rotate_left
  · unfold kd
    rw [if_pos z_l.1.1, if_pos z_l.1.2]
  have hl : f < e ∧ 97 ≤ L f ∧ L f ≤ 122 := by
    unfold kd at hk
    by_cases c1_l : f < e
    · rw [if_pos c1_l] at hk
      by_cases c2_l : 97 ≤ L f ∧ L f ≤ 122
      · exact ⟨c1_l, c2_l⟩
      · rw [if_neg c2_l] at hk
        by_cases c3 : 48 ≤ L f ∧ L f ≤ 57
        · rw [if_pos c3] at hk; omega
        · rw [if_neg c3] at hk; omega
    · rw [if_neg c1_l] at hk; omega
  have he : en L e f = lr L e f := by
    unfold en
    rw [if_pos hl.1, if_pos hl.2, lr_s hl]
  have hlt : ∀ i_l, i_l < lr L e f - f → 97 ≤ L (f + i_l) ∧ L (f + i_l) ≤ 122 := fun i_l hi_l => la (f + i_l) (by omega) (by unfold lr at hi_l; omega)
  refine gT_loop (fun y_l => y_l.1 = 1 ∧ (∃ i_l : Nat, i_l ≤ lr L e f - f ∧ y_l.2.2.1 = (f : Int) + i_l ∧ y_l.2.1 = tbs L f i_l ∧ tgd L f i_l) ∧ y_l.2.2.2 = s) (fun y_l => ((e : Int) - y_l.2.2.1).toNat) (fun y_l hy => ?_) ⟨rfl, ⟨0, by omega, by dsimp only; omega, rfl, trivial⟩, rfl⟩
  obtain ⟨x0_l, x1_l, x2_l, u_l⟩ := y_l
  obtain ⟨q0, ⟨i_l, i1_l, i2_l, i3_l, i4_l⟩, q3_l⟩ := hy
  dsimp only at q0 i2_l i3_l q3_l
  subst q0 q3_l
  show gT (sb_85_17 1 x1_l x2_l u_l) _
  unfold sb_85_17
  rw [h4, t1_l, t4_l]
  refine gT_ite (fun h6 => ?_) (fun h6 => gT_map ?_)
  · refine gT_chk (by omega) (by omega) ?_
    have hd_l := hlt i_l (by omega)
    rw [show x2_l.toNat = f + i_l by omega]
    have g1 := g32_eq (v := L (f + i_l) - 97) (by omega) (by omega)
    have g4 := g32_eq (v := x2_l + 1) (by omega) (by omega)
    rw [g1, g4]
    extract_lets v1 v2
    have hv1 : v1 = L (f + i_l) - 97 := rfl
    refine gT_ite (fun c1_l => ?_) (fun c1_l => gT_map (gT_ret ⟨rfl, Fr_r u_l, Or.inr ⟨fun z_l => ?_, rfl, hA⟩⟩))
    rotate_left
    · have := (tgd_le z_l.2 (show i_l + 1 ≤ lr L e f - f by omega)).2.1
      omega
    refine gT_ite (fun c2_l => ?_) (fun c2_l => gT_map (gT_ret ⟨rfl, Fr_r u_l, Or.inr ⟨fun z_l => c2_l ?_, rfl, hA⟩⟩))
    rotate_left
    · rw [i3_l]
      exact (tgd_le z_l.2 (show i_l + 1 ≤ lr L e f - f by omega)).2.2
    refine gT_ret ⟨⟨rfl, ⟨i_l + 1, by omega, by dsimp only; omega, ?_, ⟨i4_l, c1_l, by rw [← i3_l]; exact c2_l⟩⟩, rfl⟩, by dsimp only; omega⟩
    show gor x1_l (gshl 1 v1) = (if L (f + i_l) - 97 < 6 then gor (tbs L f i_l) (gshl 1 (L (f + i_l) - 97)) else gor (tbs L f i_l) 0)
    rw [if_pos c1_l, i3_l, hv1]
  · have ei : i_l = lr L e f - f := by omega
    subst ei
    refine gT_v0 (A := fun o => Fr u_l o ∧ At o L e (nx L e f)) (v_adv hA) (fun s2_l k2_l => ?_)
    exact gT_ret ⟨rfl, k2_l.1, Or.inl ⟨⟨hl, i4_l⟩, i3_l, k2_l.2⟩⟩
end Tr
