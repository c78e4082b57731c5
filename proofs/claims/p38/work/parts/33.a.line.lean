/-! a line of the book as a function of its bytes -/
noncomputable def cif {α : Type} (P : Prop) (a b : α) : α := @ite α P (Classical.propDecidable P) a b
section Cf
variable {α β : Type} {P : Prop} {a b : α}
theorem cif_p (h : P) : cif P a b = a := by
  unfold cif
  exact if_pos h
theorem cif_n (h : ¬ P) : cif P a b = b := by
  unfold cif
  exact if_neg h
/-- go on where nothing is wrong -/
def eb (x : Nat ⊕ α) (k : α → Nat ⊕ β) : Nat ⊕ β := match x with
  | Sum.inl q => Sum.inl q
  | Sum.inr y => k y
theorem eb_l {q : Nat} {k : α → Nat ⊕ β} : eb (Sum.inl q) k = Sum.inl q := rfl
theorem eb_r {y : α} {k : α → Nat ⊕ β} : eb (Sum.inr y) k = k y := rfl
end Cf
noncomputable def nb (L : Nat → Int) (e w : Nat) (lo hi : Int) (f : Nat) : Nat ⊕ (Int × Nat) := cif (Wd L e w f) (cif (Nm L e (nx L e f) lo hi) (Sum.inr (nv L (nx L e f) (dr L e (nx L e f) - nx L e f), nx L e (nx L e f))) (Sum.inl (nx L e f))) (Sum.inl f)
noncomputable def tb (L : Nat → Int) (e w : Nat) (f : Nat) : Nat ⊕ (Int × Nat) := cif (Wd L e w f) (cif (Tr L e (nx L e f)) (Sum.inr (tbs L (nx L e f) (lr L e (nx L e f) - nx L e f), nx L e (nx L e f))) (Sum.inl (nx L e f))) (Sum.inl f)
abbrev gLW := Nat × Int × Int × Int
noncomputable def lnS (L : Nat → Int) (e f : Nat) : Nat ⊕ (gLW × Nat) := eb (nb L e 18 1 30 f) (fun y1 => eb (nb L e 19 0 99 y1.2) (fun y2 => eb (nb L e 20 0 50 y2.2) (fun y3 => Sum.inr ((0, y1.1, y2.1, y3.1), y3.2))))
noncomputable def lnM (L : Nat → Int) (e f : Nat) : Nat ⊕ (gLW × Nat) := eb (nb L e 21 0 99 f) (fun y1 => eb (nb L e 22 0 9 y1.2) (fun y2 => eb (tb L e 23 y2.2) (fun y3 => Sum.inr ((1, y1.1, y2.1, y3.1), y3.2))))
noncomputable def lnT (L : Nat → Int) (e f : Nat) : Nat ⊕ (gLW × Nat) := eb (nb L e 19 0 99 f) (fun y1 => eb (tb L e 24 y1.2) (fun y2 => Sum.inr ((2, y1.1, y2.1, 0), y2.2)))
noncomputable def ln1 (L : Nat → Int) (e t w : Nat) (hi : Int) (f : Nat) : Nat ⊕ (gLW × Nat) := eb (nb L e w 0 hi f) (fun y => Sum.inr ((t, y.1, 0, 0), y.2))
noncomputable def ln (L : Nat → Int) (e f : Nat) (V : Nat → Int) : Nat ⊕ (gLW × Nat) :=
  cif (Wd L e 13 f) (if V 3 < 8 then lnS L e (nx L e f) else Sum.inl f)
  (cif (Wd L e 14 f) (if V 4 < 6 then lnM L e (nx L e f) else Sum.inl f)
  (cif (Wd L e 15 f) (if V 5 < 6 then lnT L e (nx L e f) else Sum.inl f)
  (cif (Wd L e 16 f) (if V 6 < 6 then ln1 L e 3 16 999 f else Sum.inl f)
  (cif (Wd L e 17 f) (ln1 L e 4 17 999 f)
  (cif (Wd L e 25 f) (ln1 L e 5 25 99 f)
  (cif (Wd L e 26 f) (ln1 L e 6 26 100 f)
  (cif (Wd L e 27 f) (ln1 L e 7 27 50 f) (Sum.inl f))))))))
section Nb
variable {s s' : gS} {L : Nat → Int} {e f w : Nat} {lo hi : Int}
theorem nv_0 (h : Nm L e f lo hi) : 0 ≤ nv L f (dr L e f - f) := by
  have hb_l := drn_b (L := L) (e := e) e (a := f)
  refine (nv_b (L := L) (a := f) (n := dr L e f - f) (by have := h.2.1; omega) (fun i_l hi' => hb_l.2.2 (f + i_l) (by omega) ?_)).1
  show f + i_l < dr L e f
  omega
theorem tbs_0 : 0 ≤ tbs L f (lr L e f - f) := by
  have hb_l := lrn_a (L := L) (e := e) e (a := f)
  refine (tbs_b (L := L) (a := f) (n := lr L e f - f) (fun i_l hi' => hb_l (f + i_l) (by omega) ?_)).1
  show f + i_l < lr L e f
  omega
/-- the class reads a word and a number -/
theorem v13 (hw1 : 1 ≤ (gtx w).length) (h : At s L e f) (h6 : gR s 6 0 = 1) : gT (f_13 6 w lo hi s) (fun r => r.1 = 1 ∧ Fr s r.2.2.2 ∧ ((∃ q, nb L e w lo hi f = Sum.inl q ∧ r.2.1 = -1 ∧ At r.2.2.2 L e q) ∨ (∃ v g, nb L e w lo hi f = Sum.inr (v, g) ∧ 0 ≤ v ∧ r.2.1 = v ∧ At r.2.2.2 L e g))) := by
  refine gT_mono (v_13 hw1 h h6) (fun r hr => ⟨hr.1, hr.2.1, ?_⟩)
  rcases hr.2.2 with ⟨h1, h2, h3, h4⟩ | ⟨h1, h3, h4⟩ | ⟨h1, h2, h3, h4⟩
  · exact Or.inr ⟨_, _, by unfold nb; rw [cif_p h1, cif_p h2], nv_0 h2, h3, h4⟩
  · exact Or.inl ⟨_, by unfold nb; rw [cif_n h1], h3, h4⟩
  · exact Or.inl ⟨_, by unfold nb; rw [cif_p h1, cif_n h2], h3, h4⟩
theorem v14 (hw1 : 1 ≤ (gtx w).length) (h : At s L e f) (h6 : gR s 6 0 = 1) : gT (f_14 6 w s) (fun r => r.1 = 1 ∧ Fr s r.2.2.2 ∧ ((∃ q, tb L e w f = Sum.inl q ∧ r.2.1 = -1 ∧ At r.2.2.2 L e q) ∨ (∃ v g, tb L e w f = Sum.inr (v, g) ∧ 0 ≤ v ∧ r.2.1 = v ∧ At r.2.2.2 L e g))) := by
  refine gT_mono (v_14 hw1 h h6) (fun r hr => ⟨hr.1, hr.2.1, ?_⟩)
  rcases hr.2.2 with ⟨h1, h2, h3, h4⟩ | ⟨h1, h3, h4⟩ | ⟨h1, h2, h3, h4⟩
  · exact Or.inr ⟨_, _, by unfold tb; rw [cif_p h1, cif_p h2], tbs_0, h3, h4⟩
  · exact Or.inl ⟨_, by unfold tb; rw [cif_n h1], h3, h4⟩
  · exact Or.inl ⟨_, by unfold tb; rw [cif_p h1, cif_n h2], h3, h4⟩
theorem Fr_ww {a k : Nat} {v : Int} (h : Fr s s') : Fr (gw s a k v) (gw s' a k v) := by
  refine ⟨h.1, fun b_l j_l hb_l => ?_⟩
  show (if b_l = a ∧ j_l = k then v else gI s' b_l j_l) = (if b_l = a ∧ j_l = k then v else gI s b_l j_l)
  rw [h.2 b_l j_l hb_l]
end Nb
/-- what a line writes into the draft -/
def cw (w : gLW) (s : gS) : gS := match w.1 with
  | 0 => gw (gw (gw (gw s 37 (gI s 36 5).toNat w.2.1) 38 (gI s 36 5).toNat w.2.2.1) 39 (gI s 36 5).toNat w.2.2.2) 36 5 (gI s 36 5 + 1)
  | 1 => gw (gw (gw (gw (gw (gw (gw s (48 + (gI s 42 4).toNat) 0 w.2.1) (48 + (gI s 42 4).toNat) 1 w.2.2.1) (48 + (gI s 42 4).toNat) 2 w.2.2.2) (48 + (gI s 42 4).toNat) 3 0) (48 + (gI s 42 4).toNat) 4 0) (48 + (gI s 42 4).toNat) 5 0) 42 4 (gI s 42 4 + 1)
  | 2 => gw (gw (gw s 40 (gI s 36 6).toNat w.2.1) 41 (gI s 36 6).toNat w.2.2.1) 36 6 (gI s 36 6 + 1)
  | 3 => gw (gw (gw s 44 (gI s 42 5).toNat w.2.1) 45 (gI s 42 5).toNat 0) 42 5 (gI s 42 5 + 1)
  | 4 => gw s 42 6 w.2.1
  | 5 => gw s 36 7 w.2.1
  | 6 => gw s 36 8 w.2.1
  | _ => gw s 36 9 w.2.1
/-- the references that a line needs -/
def Rd (s : gS) : Prop := (gR s 6 0 = 1 ∧ (gR s 36 0 = 37 ∧ gR s 36 1 = 38 ∧ gR s 36 2 = 39 ∧ gR s 36 3 = 40 ∧ gR s 36 4 = 41) ∧ gR s 42 0 = 43 ∧ gR s 42 1 = 44 ∧ gR s 42 2 = 45) ∧ ∀ i, i < 6 → gR s 43 i = 48 + i
theorem Rd_fr {s s' : gS} (h : Rd s) (hf : Fr s s') : Rd s' := by
  unfold Rd at h ⊢
  simp only [hf.1.2.2]
  exact h
section Cl
variable {s s' : gS} {L : Nat → Int} {e f : Nat} {v1 v2 v3 : Int}
theorem x_2 (hr : Rd s) (h0 : 0 ≤ gI s 36 5) (h8 : gI s 36 5 < 8) : gT (f_2 36 v1 v2 v3 s) (fun r => r = (0, 0, 0, cw (0, v1, v2, v3) s)) := by
  obtain ⟨⟨-, ⟨r1_l, r2, r3, -, -⟩, -⟩, -⟩ := hr
  have g1 := g32_eq (v := gI s 36 5 + 1) (by omega) (by omega)
  unfold f_2
  rw [if_pos h8]
  refine gT_chk h0 h8 (gT_chk ?_ ?_ (gT_chk ?_ ?_ (gT_ret ?_)))
  · show 0 ≤ gI (gw s (gR s 36 0) (gI s 36 5).toNat v1) 36 5
    rw [r1_l]; exact h0
  · show gI (gw s (gR s 36 0) (gI s 36 5).toNat v1) 36 5 < 8
    rw [r1_l]; exact h8
  · show 0 ≤ gI (gw (gw s (gR s 36 0) (gI s 36 5).toNat v1) (gR s 36 1) (gI (gw s (gR s 36 0) (gI s 36 5).toNat v1) 36 5).toNat v2) 36 5
    rw [r1_l, r2]; exact h0
  · show gI (gw (gw s (gR s 36 0) (gI s 36 5).toNat v1) (gR s 36 1) (gI (gw s (gR s 36 0) (gI s 36 5).toNat v1) 36 5).toNat v2) 36 5 < 8
    rw [r1_l, r2]; exact h8
  · show (0, 0, 0, gw (gw (gw (gw s (gR s 36 0) (gI s 36 5).toNat v1) (gR s 36 1) (gI (gw s (gR s 36 0) (gI s 36 5).toNat v1) 36 5).toNat v2) (gR s 36 2) (gI (gw (gw s (gR s 36 0) (gI s 36 5).toNat v1) (gR s 36 1) (gI (gw s (gR s 36 0) (gI s 36 5).toNat v1) 36 5).toNat v2) 36 5).toNat v3) 36 5 (g32 (gI (gw (gw (gw s (gR s 36 0) (gI s 36 5).toNat v1) (gR s 36 1) (gI (gw s (gR s 36 0) (gI s 36 5).toNat v1) 36 5).toNat v2) (gR s 36 2) (gI (gw (gw s (gR s 36 0) (gI s 36 5).toNat v1) (gR s 36 1) (gI (gw s (gR s 36 0) (gI s 36 5).toNat v1) 36 5).toNat v2) 36 5).toNat v3) 36 5 + 1))) = _
    rw [r1_l, r2, r3]
    show (0, 0, 0, gw (gw (gw (gw s 37 (gI s 36 5).toNat v1) 38 (gI s 36 5).toNat v2) 39 (gI s 36 5).toNat v3) 36 5 (g32 (gI s 36 5 + 1))) = _
    rw [g1]
    rfl
theorem x_3 (hr : Rd s) (h0 : 0 ≤ gI s 36 6) (h8 : gI s 36 6 < 6) : gT (f_3 36 v1 v2 s) (fun r => r = (0, 0, 0, cw (2, v1, v2, 0) s)) := by
  obtain ⟨⟨-, ⟨-, -, -, r1_l, r2⟩, -⟩, -⟩ := hr
  have g1 := g32_eq (v := gI s 36 6 + 1) (by omega) (by omega)
  unfold f_3
  rw [if_pos h8]
  refine gT_chk h0 h8 (gT_chk ?_ ?_ (gT_ret ?_))
  · show 0 ≤ gI (gw s (gR s 36 3) (gI s 36 6).toNat v1) 36 6
    rw [r1_l]; exact h0
  · show gI (gw s (gR s 36 3) (gI s 36 6).toNat v1) 36 6 < 6
    rw [r1_l]; exact h8
  · show (0, 0, 0, gw (gw (gw s (gR s 36 3) (gI s 36 6).toNat v1) (gR s 36 4) (gI (gw s (gR s 36 3) (gI s 36 6).toNat v1) 36 6).toNat v2) 36 6 (g32 (gI (gw (gw s (gR s 36 3) (gI s 36 6).toNat v1) (gR s 36 4) (gI (gw s (gR s 36 3) (gI s 36 6).toNat v1) 36 6).toNat v2) 36 6 + 1))) = _
    rw [r1_l, r2]
    show (0, 0, 0, gw (gw (gw s 40 (gI s 36 6).toNat v1) 41 (gI s 36 6).toNat v2) 36 6 (g32 (gI s 36 6 + 1))) = _
    rw [g1]
    rfl
theorem x_25 (hr : Rd s) (h0 : 0 ≤ gI s 42 5) (h8 : gI s 42 5 < 6) : gT (f_25 42 v1 s) (fun r => r = (0, 0, 0, cw (3, v1, 0, 0) s)) := by
  obtain ⟨⟨-, -, -, r1_l, r2⟩, -⟩ := hr
  have g1 := g32_eq (v := gI s 42 5 + 1) (by omega) (by omega)
  unfold f_25
  rw [if_pos h8]
  refine gT_chk h0 h8 (gT_chk ?_ ?_ (gT_ret ?_))
  · show 0 ≤ gI (gw s (gR s 42 1) (gI s 42 5).toNat v1) 42 5
    rw [r1_l]; exact h0
  · show gI (gw s (gR s 42 1) (gI s 42 5).toNat v1) 42 5 < 6
    rw [r1_l]; exact h8
  · show (0, 0, 0, gw (gw (gw s (gR s 42 1) (gI s 42 5).toNat v1) (gR s 42 2) (gI (gw s (gR s 42 1) (gI s 42 5).toNat v1) 42 5).toNat 0) 42 5 (g32 (gI (gw (gw s (gR s 42 1) (gI s 42 5).toNat v1) (gR s 42 2) (gI (gw s (gR s 42 1) (gI s 42 5).toNat v1) 42 5).toNat 0) 42 5 + 1))) = _
    rw [r1_l, r2]
    show (0, 0, 0, gw (gw (gw s 44 (gI s 42 5).toNat v1) 45 (gI s 42 5).toNat 0) 42 5 (g32 (gI s 42 5 + 1))) = _
    rw [g1]
    rfl
theorem x_24 (hr : Rd s) (h0 : 0 ≤ gI s 42 4) (h8 : gI s 42 4 < 6) : gT (f_24 42 v1 v2 v3 s) (fun r => r = (0, 0, 0, cw (1, v1, v2, v3) s)) := by
  obtain ⟨⟨-, -, r1_l, -, -⟩, r2⟩ := hr
  have g1 := g32_eq (v := gI s 42 4 + 1) (by omega) (by omega)
  have r3 := r2 (gI s 42 4).toNat (by omega)
  unfold f_24
  rw [if_pos h8]
  refine gT_chk h0 h8 (gT_ret ?_)
  rw [r1_l, r3]
  have n42 : ∀ (z_l : gS) (k_l : Nat) (v_l : Int), gI (gw z_l (48 + (gI s 42 4).toNat) k_l v_l) 42 4 = gI z_l 42 4 := fun z_l k_l v_l => rd_a rfl (by omega)
  simp only [n42]
  rw [g1]
  rfl
end Cl
