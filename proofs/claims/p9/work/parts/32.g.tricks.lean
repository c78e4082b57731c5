theorem gor_ge {x y : Int} (hx : 0 ≤ x ∧ x < 1073741824) (hy : 0 ≤ y ∧ y < 1073741824) : y ≤ gor x y := by
  have hb := gor_lt (x := x) (y := y) 30 (by decide) (by constructor <;> omega) (by constructor <;> omega)
  have h2 : y.toNat ≤ (Int32.ofInt x ||| Int32.ofInt y).toBitVec.toNat := by
    rw [Int32.toBitVec_or, BitVec.toNat_or, gON hx.1 (by omega), gON hy.1 (by omega)]
    exact Nat.right_le_or
  have h4 : (Int32.ofInt x ||| Int32.ofInt y).toBitVec.toNat < 2 ^ 30 := by
    rw [Int32.toBitVec_or, BitVec.toNat_or, gON hx.1 (by omega), gON hy.1 (by omega)]
    exact Nat.or_lt_two_pow (by omega) (by omega)
  have h3 := gBN (z := Int32.ofInt x ||| Int32.ofInt y) rfl (by omega)
  unfold gor
  rw [h3]
  omega
section Tr
variable {s s' : gS} {L : Nat → Int} {e f a : Nat}
/-- the set of n letters at a, and whether each is a trick's and new -/
def tbs (L : Nat → Int) (a : Nat) : Nat → Int
  | 0 => 0
  | n + 1 => if L (a + n) - 97 < 6 then gor (tbs L a n) (gshl 1 (L (a + n) - 97)) else gor (tbs L a n) 0
def tgd (L : Nat → Int) (a : Nat) : Nat → Prop
  | 0 => True
  | n + 1 => tgd L a n ∧ L (a + n) - 97 < 6 ∧ gand (gshr (tbs L a n) (L (a + n) - 97)) 1 = 0
/-- tricks stand at f -/
def Tr (L : Nat → Int) (e f : Nat) : Prop := (f < e ∧ 97 ≤ L f ∧ L f ≤ 122) ∧ tgd L f (lr L e f - f)
theorem lrn_a (n : Nat) : ∀ {a : Nat}, ∀ i, a ≤ i → i < lrn L e n a → 97 ≤ L i ∧ L i ≤ 122 := by
  induction n with
  | zero => intro a i h1 h2; have : lrn L e 0 a = a := rfl; omega
  | succ n ih =>
    intro a i h1 h2
    have h2 : i < (if a < e ∧ 97 ≤ L a ∧ L a ≤ 122 then lrn L e n (a + 1) else a) := h2
    by_cases h : a < e ∧ 97 ≤ L a ∧ L a ≤ 122
    · rw [if_pos h] at h2
      by_cases e1 : i = a
      · rw [e1]; exact h.2
      · exact ih i (by omega) h2
    · rw [if_neg h] at h2
      omega
theorem tbs_b {n : Nat} (h : ∀ i, i < n → 97 ≤ L (a + i) ∧ L (a + i) ≤ 122) : 0 ≤ tbs L a n ∧ tbs L a n ≤ 63 := by
  induction n with
  | zero =>
    show (0 : Int) ≤ 0 ∧ (0 : Int) ≤ 63
    decide
  | succ n ih =>
    have q := ih (fun i hi => h i (by omega))
    have hl := h n (by omega)
    show 0 ≤ (if L (a + n) - 97 < 6 then gor (tbs L a n) (gshl 1 (L (a + n) - 97)) else gor (tbs L a n) 0) ∧ (if L (a + n) - 97 < 6 then gor (tbs L a n) (gshl 1 (L (a + n) - 97)) else gor (tbs L a n) 0) ≤ 63
    by_cases h6 : L (a + n) - 97 < 6
    · rw [if_pos h6]
      have b1 := gshl_5 (x := L (a + n) - 97) (by omega)
      have b2 := gor_lt (x := tbs L a n) (y := gshl 1 (L (a + n) - 97)) 6 (by decide) (by constructor <;> omega) (by constructor <;> omega)
      omega
    · rw [if_neg h6]
      have b3 := gor_lt (x := tbs L a n) (y := 0) 6 (by decide) (by constructor <;> omega) (by constructor <;> omega)
      omega
theorem tbs_1 {n : Nat} (h : ∀ i, i < n + 1 → 97 ≤ L (a + i) ∧ L (a + i) ≤ 122) (hg : tgd L a (n + 1)) : 1 ≤ tbs L a (n + 1) := by
  have hl := h n (by omega)
  have q := tbs_b (L := L) (a := a) (n := n) (fun i hi => h i (by omega))
  have h6 := hg.2.1
  show 1 ≤ (if L (a + n) - 97 < 6 then gor (tbs L a n) (gshl 1 (L (a + n) - 97)) else gor (tbs L a n) 0)
  rw [if_pos h6]
  have b1 := gshl_5 (x := L (a + n) - 97) (by omega)
  have b2 := gor_ge (x := tbs L a n) (y := gshl 1 (L (a + n) - 97)) (by omega) (by omega)
  omega
theorem tgd_le {n m : Nat} (h : tgd L a m) (hn : n ≤ m) : tgd L a n := by
  induction m with
  | zero => have : n = 0 := by omega
            rw [this]; trivial
  | succ m ih =>
    by_cases e1 : n = m + 1
    · rw [e1]; exact h
    · exact ih h.1 (by omega)
/-- takeTricks -/
theorem v_85 (h : At s L e f) : gT (f_85 1 s) (fun r => r.1 = 1 ∧ Fr s r.2.2.2 ∧ ((Tr L e f ∧ r.2.1 = tbs L f (lr L e f - f) ∧ At r.2.2.2 L e (nx L e f)) ∨ (¬ Tr L e f ∧ r.2.1 = -1 ∧ At r.2.2.2 L e f))) := by
  have hA := h
  obtain ⟨⟨t1, t2, t3, t4⟩, hf, h3, h2, h4⟩ := h
  have b := en_b (L := L) hf.1
  have la := lrn_a (L := L) (e := e) e (a := f)
  unfold f_85
  rw [h2, h3]
  refine gT_ite (fun hk => ?_) (fun hk => gT_ret ⟨rfl, Fr_r s, Or.inr ⟨fun z => hk ?_, rfl, hA⟩⟩)
  rotate_left
  · unfold kd
    rw [if_pos z.1.1, if_pos z.1.2]
  have hl : f < e ∧ 97 ≤ L f ∧ L f ≤ 122 := by
    unfold kd at hk
    by_cases c1 : f < e
    · rw [if_pos c1] at hk
      by_cases c2 : 97 ≤ L f ∧ L f ≤ 122
      · exact ⟨c1, c2⟩
      · rw [if_neg c2] at hk
        by_cases c3 : 48 ≤ L f ∧ L f ≤ 57
        · rw [if_pos c3] at hk; omega
        · rw [if_neg c3] at hk; omega
    · rw [if_neg c1] at hk; omega
  have he : en L e f = lr L e f := by
    unfold en
    rw [if_pos hl.1, if_pos hl.2, lr_s hl]
  have hlt : ∀ i, i < lr L e f - f → 97 ≤ L (f + i) ∧ L (f + i) ≤ 122 := fun i hi => la (f + i) (by omega) (by unfold lr at hi; omega)
  refine gT_loop (fun y => y.1 = 1 ∧ (∃ i : Nat, i ≤ lr L e f - f ∧ y.2.2.1 = (f : Int) + i ∧ y.2.1 = tbs L f i ∧ tgd L f i) ∧ y.2.2.2 = s) (fun y => ((e : Int) - y.2.2.1).toNat) (fun y hy => ?_) ⟨rfl, ⟨0, by omega, by dsimp only; omega, rfl, trivial⟩, rfl⟩
  obtain ⟨x0, x1, x2, u⟩ := y
  obtain ⟨q0, ⟨i, i1, i2, i3, i4⟩, q3⟩ := hy
  dsimp only at q0 i2 i3 q3
  subst q0 q3
  show gT (sb_85_17 1 x1 x2 u) _
  unfold sb_85_17
  rw [h4, t1, t4]
  refine gT_ite (fun h6 => ?_) (fun h6 => gT_map ?_)
  · refine gT_chk (by omega) (by omega) ?_
    have hd := hlt i (by omega)
    rw [show x2.toNat = f + i by omega]
    have g1 := g32_eq (v := L (f + i) - 97) (by omega) (by omega)
    have g4 := g32_eq (v := x2 + 1) (by omega) (by omega)
    rw [g1, g4]
    extract_lets v1 v2
    have hv1 : v1 = L (f + i) - 97 := rfl
    refine gT_ite (fun c1 => ?_) (fun c1 => gT_map (gT_ret ⟨rfl, Fr_r u, Or.inr ⟨fun z => ?_, rfl, hA⟩⟩))
    rotate_left
    · have := (tgd_le z.2 (show i + 1 ≤ lr L e f - f by omega)).2.1
      omega
    refine gT_ite (fun c2 => ?_) (fun c2 => gT_map (gT_ret ⟨rfl, Fr_r u, Or.inr ⟨fun z => c2 ?_, rfl, hA⟩⟩))
    rotate_left
    · rw [i3]
      exact (tgd_le z.2 (show i + 1 ≤ lr L e f - f by omega)).2.2
    refine gT_ret ⟨⟨rfl, ⟨i + 1, by omega, by dsimp only; omega, ?_, ⟨i4, c1, by rw [← i3]; exact c2⟩⟩, rfl⟩, by dsimp only; omega⟩
    show gor x1 (gshl 1 v1) = (if L (f + i) - 97 < 6 then gor (tbs L f i) (gshl 1 (L (f + i) - 97)) else gor (tbs L f i) 0)
    rw [if_pos c1, i3, hv1]
  · have ei : i = lr L e f - f := by omega
    subst ei
    refine gT_v0 (A := fun o => Fr u o ∧ At o L e (nx L e f)) (v_adv hA) (fun s2 k2 => ?_)
    exact gT_ret ⟨rfl, k2.1, Or.inl ⟨⟨hl, i4⟩, i3, k2.2⟩⟩
end Tr
