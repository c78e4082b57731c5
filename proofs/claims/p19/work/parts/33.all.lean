section
/-! a line of the book as a function of its bytes -/
noncomputable def cif {α : Type} (P : Prop) (a b : α) : α := @ite α P (Classical.propDecidable P) a b
section Cf
variable {α β : Type} {P : Prop} {a b : α}
theorem cif_p (h : P) : cif P a b = a := by
  unfold cif
  exact if_pos h
theorem cif_n (h : ¬ P) : cif P a b = b := by
  unfold cif
  exact if_neg h
/-- go on where nothing is wrong -/
noncomputable def eb (x : Nat ⊕ α) (k : α → Nat ⊕ β) : Nat ⊕ β := match x with
  | Sum.inl q => Sum.inl q
  | Sum.inr y => k y
theorem eb_l {q : Nat} {k : α → Nat ⊕ β} : eb (Sum.inl q) k = Sum.inl q := rfl
theorem eb_r {y : α} {k : α → Nat ⊕ β} : eb (Sum.inr y) k = k y := rfl
end Cf
noncomputable def nb (L : Nat → Int) (e w : Nat) (lo hi : Int) (f : Nat) : Nat ⊕ (Int × Nat) := cif (Wd L e w f) (cif (Nm L e (nx L e f) lo hi) (Sum.inr (nv L (nx L e f) (dr L e (nx L e f) - nx L e f), nx L e (nx L e f))) (Sum.inl (nx L e f))) (Sum.inl f)
noncomputable def tb (L : Nat → Int) (e w : Nat) (f : Nat) : Nat ⊕ (Int × Nat) := cif (Wd L e w f) (cif (Tr L e (nx L e f)) (Sum.inr (tbs L (nx L e f) (lr L e (nx L e f) - nx L e f), nx L e (nx L e f))) (Sum.inl (nx L e f))) (Sum.inl f)
abbrev gLW := Nat × Int × Int × Int
noncomputable def lnS (L : Nat → Int) (e f : Nat) : Nat ⊕ (gLW × Nat) := eb (nb L e 18 1 30 f) (fun y1 => eb (nb L e 19 0 99 y1.2) (fun y2 => eb (nb L e 20 0 50 y2.2) (fun y3 => Sum.inr ((0, y1.1, y2.1, y3.1), y3.2))))
noncomputable def lnM (L : Nat → Int) (e f : Nat) : Nat ⊕ (gLW × Nat) := eb (nb L e 21 0 99 f) (fun y1 => eb (nb L e 22 0 9 y1.2) (fun y2 => eb (tb L e 23 y2.2) (fun y3 => Sum.inr ((1, y1.1, y2.1, y3.1), y3.2))))
noncomputable def lnT (L : Nat → Int) (e f : Nat) : Nat ⊕ (gLW × Nat) := eb (nb L e 19 0 99 f) (fun y1 => eb (tb L e 24 y1.2) (fun y2 => Sum.inr ((2, y1.1, y2.1, 0), y2.2)))
noncomputable def ln1 (L : Nat → Int) (e t w : Nat) (hi : Int) (f : Nat) : Nat ⊕ (gLW × Nat) := eb (nb L e w 0 hi f) (fun y => Sum.inr ((t, y.1, 0, 0), y.2))
noncomputable def ln (L : Nat → Int) (e f : Nat) (V : Nat → Int) : Nat ⊕ (gLW × Nat) :=
  cif (Wd L e 13 f) (if V 3 < 8 then lnS L e (nx L e f) else Sum.inl f)
  (cif (Wd L e 14 f) (if V 4 < 6 then lnM L e (nx L e f) else Sum.inl f)
  (cif (Wd L e 15 f) (if V 5 < 6 then lnT L e (nx L e f) else Sum.inl f)
  (cif (Wd L e 16 f) (if V 6 < 6 then ln1 L e 3 16 999 f else Sum.inl f)
  (cif (Wd L e 17 f) (ln1 L e 4 17 999 f)
  (cif (Wd L e 25 f) (ln1 L e 5 25 99 f)
  (cif (Wd L e 26 f) (ln1 L e 6 26 100 f)
  (cif (Wd L e 27 f) (ln1 L e 7 27 50 f) (Sum.inl f))))))))
section Nb
variable {s s' : gS} {L : Nat → Int} {e f w : Nat} {lo hi : Int}
theorem nv_0 (h : Nm L e f lo hi) : 0 ≤ nv L f (dr L e f - f) := by
  have hb_l := drn_b (L := L) (e := e) e (a := f)
  refine (nv_b (L := L) (a := f) (n := dr L e f - f) (by have := h.2.1; omega) (fun i_l hi' => hb_l.2.2 (f + i_l) (by omega) ?_)).1
  show f + i_l < dr L e f
  omega
theorem tbs_0 : 0 ≤ tbs L f (lr L e f - f) := by
  have hb_l := lrn_a (L := L) (e := e) e (a := f)
  refine (tbs_b (L := L) (a := f) (n := lr L e f - f) (fun i_l hi' => hb_l (f + i_l) (by omega) ?_)).1
  show f + i_l < lr L e f
  omega
/-- the class reads a word and a number -/
theorem v13 (hw1 : 1 ≤ (gtx w).length) (h : At s L e f) (h6 : gR s 6 0 = 1) : gT (f_13 6 w lo hi s) (fun r => r.1 = 1 ∧ Fr s r.2.2.2 ∧ ((∃ q, nb L e w lo hi f = Sum.inl q ∧ r.2.1 = -1 ∧ At r.2.2.2 L e q) ∨ (∃ v g, nb L e w lo hi f = Sum.inr (v, g) ∧ 0 ≤ v ∧ r.2.1 = v ∧ At r.2.2.2 L e g))) := by
  refine gT_mono (v_13 hw1 h h6) (fun r hr => ⟨hr.1, hr.2.1, ?_⟩)
  rcases hr.2.2 with ⟨h1, h2, h3, h4⟩ | ⟨h1, h3, h4⟩ | ⟨h1, h2, h3, h4⟩
  · exact Or.inr ⟨_, _, by unfold nb; rw [cif_p h1, cif_p h2], nv_0 h2, h3, h4⟩
  · exact Or.inl ⟨_, by unfold nb; rw [cif_n h1], h3, h4⟩
  · exact Or.inl ⟨_, by unfold nb; rw [cif_p h1, cif_n h2], h3, h4⟩
theorem v14 (hw1 : 1 ≤ (gtx w).length) (h : At s L e f) (h6 : gR s 6 0 = 1) : gT (f_14 6 w s) (fun r => r.1 = 1 ∧ Fr s r.2.2.2 ∧ ((∃ q, tb L e w f = Sum.inl q ∧ r.2.1 = -1 ∧ At r.2.2.2 L e q) ∨ (∃ v g, tb L e w f = Sum.inr (v, g) ∧ 0 ≤ v ∧ r.2.1 = v ∧ At r.2.2.2 L e g))) := by
  refine gT_mono (v_14 hw1 h h6) (fun r hr => ⟨hr.1, hr.2.1, ?_⟩)
  rcases hr.2.2 with ⟨h1, h2, h3, h4⟩ | ⟨h1, h3, h4⟩ | ⟨h1, h2, h3, h4⟩
  · exact Or.inr ⟨_, _, by unfold tb; rw [cif_p h1, cif_p h2], tbs_0, h3, h4⟩
  · exact Or.inl ⟨_, by unfold tb; rw [cif_n h1], h3, h4⟩
  · exact Or.inl ⟨_, by unfold tb; rw [cif_p h1, cif_n h2], h3, h4⟩
theorem Fr_ww {a k : Nat} {v : Int} (h : Fr s s') : Fr (gw s a k v) (gw s' a k v) := by
  refine ⟨h.1, fun b_l j_l hb_l => ?_⟩
  show (if b_l = a ∧ j_l = k then v else gI s' b_l j_l) = (if b_l = a ∧ j_l = k then v else gI s b_l j_l)
  rw [h.2 b_l j_l hb_l]
end Nb
/-- what a line writes into the draft -/
noncomputable def cw (w : gLW) (s : gS) : gS := match w.1 with
  | 0 => gw (gw (gw (gw s 37 (gI s 36 5).toNat w.2.1) 38 (gI s 36 5).toNat w.2.2.1) 39 (gI s 36 5).toNat w.2.2.2) 36 5 (gI s 36 5 + 1)
  | 1 => gw (gw (gw (gw (gw (gw (gw s (48 + (gI s 42 4).toNat) 0 w.2.1) (48 + (gI s 42 4).toNat) 1 w.2.2.1) (48 + (gI s 42 4).toNat) 2 w.2.2.2) (48 + (gI s 42 4).toNat) 3 0) (48 + (gI s 42 4).toNat) 4 0) (48 + (gI s 42 4).toNat) 5 0) 42 4 (gI s 42 4 + 1)
  | 2 => gw (gw (gw s 40 (gI s 36 6).toNat w.2.1) 41 (gI s 36 6).toNat w.2.2.1) 36 6 (gI s 36 6 + 1)
  | 3 => gw (gw (gw s 44 (gI s 42 5).toNat w.2.1) 45 (gI s 42 5).toNat 0) 42 5 (gI s 42 5 + 1)
  | 4 => gw s 42 6 w.2.1
  | 5 => gw s 36 7 w.2.1
  | 6 => gw s 36 8 w.2.1
  | _ => gw s 36 9 w.2.1
/-- the references that a line needs -/
noncomputable def Rd (s : gS) : Prop := (gR s 6 0 = 1 ∧ (gR s 36 0 = 37 ∧ gR s 36 1 = 38 ∧ gR s 36 2 = 39 ∧ gR s 36 3 = 40 ∧ gR s 36 4 = 41) ∧ gR s 42 0 = 43 ∧ gR s 42 1 = 44 ∧ gR s 42 2 = 45) ∧ ∀ i, i < 6 → gR s 43 i = 48 + i
theorem Rd_fr {s s' : gS} (h : Rd s) (hf : Fr s s') : Rd s' := by
  unfold Rd at h ⊢
  simp only [hf.1.2.2]
  exact h
section Cl
variable {s s' : gS} {L : Nat → Int} {e f : Nat} {v1 v2 v3 : Int}
theorem x_2 (hr : Rd s) (h0 : 0 ≤ gI s 36 5) (h8 : gI s 36 5 < 8) : gT (f_2 36 v1 v2 v3 s) (fun r => r = (0, 0, 0, cw (0, v1, v2, v3) s)) := by
  obtain ⟨⟨-, ⟨r1_l, r2, r3, -, -⟩, -⟩, -⟩ := hr
  have g1 := g32_eq (v := gI s 36 5 + 1) (by omega) (by omega)
  unfold f_2
  rw [if_pos h8]
  refine gT_chk h0 h8 (gT_chk ?_ ?_ (gT_chk ?_ ?_ (gT_ret ?_)))
  · show 0 ≤ gI (gw s (gR s 36 0) (gI s 36 5).toNat v1) 36 5
    rw [r1_l]; exact h0
  · show gI (gw s (gR s 36 0) (gI s 36 5).toNat v1) 36 5 < 8
    rw [r1_l]; exact h8
  · show 0 ≤ gI (gw (gw s (gR s 36 0) (gI s 36 5).toNat v1) (gR s 36 1) (gI (gw s (gR s 36 0) (gI s 36 5).toNat v1) 36 5).toNat v2) 36 5
    rw [r1_l, r2]; exact h0
  · show gI (gw (gw s (gR s 36 0) (gI s 36 5).toNat v1) (gR s 36 1) (gI (gw s (gR s 36 0) (gI s 36 5).toNat v1) 36 5).toNat v2) 36 5 < 8
    rw [r1_l, r2]; exact h8
  · show (0, 0, 0, gw (gw (gw (gw s (gR s 36 0) (gI s 36 5).toNat v1) (gR s 36 1) (gI (gw s (gR s 36 0) (gI s 36 5).toNat v1) 36 5).toNat v2) (gR s 36 2) (gI (gw (gw s (gR s 36 0) (gI s 36 5).toNat v1) (gR s 36 1) (gI (gw s (gR s 36 0) (gI s 36 5).toNat v1) 36 5).toNat v2) 36 5).toNat v3) 36 5 (g32 (gI (gw (gw (gw s (gR s 36 0) (gI s 36 5).toNat v1) (gR s 36 1) (gI (gw s (gR s 36 0) (gI s 36 5).toNat v1) 36 5).toNat v2) (gR s 36 2) (gI (gw (gw s (gR s 36 0) (gI s 36 5).toNat v1) (gR s 36 1) (gI (gw s (gR s 36 0) (gI s 36 5).toNat v1) 36 5).toNat v2) 36 5).toNat v3) 36 5 + 1))) = _
    rw [r1_l, r2, r3]
    show (0, 0, 0, gw (gw (gw (gw s 37 (gI s 36 5).toNat v1) 38 (gI s 36 5).toNat v2) 39 (gI s 36 5).toNat v3) 36 5 (g32 (gI s 36 5 + 1))) = _
    rw [g1]
    rfl
theorem x_3 (hr : Rd s) (h0 : 0 ≤ gI s 36 6) (h8 : gI s 36 6 < 6) : gT (f_3 36 v1 v2 s) (fun r => r = (0, 0, 0, cw (2, v1, v2, 0) s)) := by
  obtain ⟨⟨-, ⟨-, -, -, r1_l, r2⟩, -⟩, -⟩ := hr
  have g1 := g32_eq (v := gI s 36 6 + 1) (by omega) (by omega)
  unfold f_3
  rw [if_pos h8]
  refine gT_chk h0 h8 (gT_chk ?_ ?_ (gT_ret ?_))
  · show 0 ≤ gI (gw s (gR s 36 3) (gI s 36 6).toNat v1) 36 6
    rw [r1_l]; exact h0
  · show gI (gw s (gR s 36 3) (gI s 36 6).toNat v1) 36 6 < 6
    rw [r1_l]; exact h8
  · show (0, 0, 0, gw (gw (gw s (gR s 36 3) (gI s 36 6).toNat v1) (gR s 36 4) (gI (gw s (gR s 36 3) (gI s 36 6).toNat v1) 36 6).toNat v2) 36 6 (g32 (gI (gw (gw s (gR s 36 3) (gI s 36 6).toNat v1) (gR s 36 4) (gI (gw s (gR s 36 3) (gI s 36 6).toNat v1) 36 6).toNat v2) 36 6 + 1))) = _
    rw [r1_l, r2]
    show (0, 0, 0, gw (gw (gw s 40 (gI s 36 6).toNat v1) 41 (gI s 36 6).toNat v2) 36 6 (g32 (gI s 36 6 + 1))) = _
    rw [g1]
    rfl
theorem x_25 (hr : Rd s) (h0 : 0 ≤ gI s 42 5) (h8 : gI s 42 5 < 6) : gT (f_25 42 v1 s) (fun r => r = (0, 0, 0, cw (3, v1, 0, 0) s)) := by
  obtain ⟨⟨-, -, -, r1_l, r2⟩, -⟩ := hr
  have g1 := g32_eq (v := gI s 42 5 + 1) (by omega) (by omega)
  unfold f_25
  rw [if_pos h8]
  refine gT_chk h0 h8 (gT_chk ?_ ?_ (gT_ret ?_))
  · show 0 ≤ gI (gw s (gR s 42 1) (gI s 42 5).toNat v1) 42 5
    rw [r1_l]; exact h0
  · show gI (gw s (gR s 42 1) (gI s 42 5).toNat v1) 42 5 < 6
    rw [r1_l]; exact h8
  · show (0, 0, 0, gw (gw (gw s (gR s 42 1) (gI s 42 5).toNat v1) (gR s 42 2) (gI (gw s (gR s 42 1) (gI s 42 5).toNat v1) 42 5).toNat 0) 42 5 (g32 (gI (gw (gw s (gR s 42 1) (gI s 42 5).toNat v1) (gR s 42 2) (gI (gw s (gR s 42 1) (gI s 42 5).toNat v1) 42 5).toNat 0) 42 5 + 1))) = _
    rw [r1_l, r2]
    show (0, 0, 0, gw (gw (gw s 44 (gI s 42 5).toNat v1) 45 (gI s 42 5).toNat 0) 42 5 (g32 (gI s 42 5 + 1))) = _
    rw [g1]
    rfl
theorem x_24 (hr : Rd s) (h0 : 0 ≤ gI s 42 4) (h8 : gI s 42 4 < 6) : gT (f_24 42 v1 v2 v3 s) (fun r => r = (0, 0, 0, cw (1, v1, v2, v3) s)) := by
  obtain ⟨⟨-, -, r1_l, -, -⟩, r2⟩ := hr
  have g1 := g32_eq (v := gI s 42 4 + 1) (by omega) (by omega)
  have r3 := r2 (gI s 42 4).toNat (by omega)
  unfold f_24
  rw [if_pos h8]
  refine gT_chk h0 h8 (gT_ret ?_)
  rw [r1_l, r3]
  have n42 : ∀ (z_l : gS) (k_l : Nat) (v_l : Int), gI (gw z_l (48 + (gI s 42 4).toNat) k_l v_l) 42 4 = gI z_l 42 4 := fun z_l k_l v_l => rd_a rfl (by omega)
  simp only [n42]
  rw [g1]
  rfl
end Cl

end
section
/-! the class's lines -/
/-- only the tape's thing and the draft changed -/
noncomputable def Df (s s' : gS) : Prop := (gn s' = gn s ∧ (∀ a, gK s' a = gK s a) ∧ ∀ a k, gR s' a k = gR s a k) ∧ ∀ a k, ¬ (a = 1 ∧ (k = 2 ∨ k = 3 ∨ k = 4)) → ¬ (36 ≤ a ∧ a < 54) → gI s' a k = gI s a k
theorem Df_r (s : gS) : Df s s := ⟨⟨rfl, fun _ => rfl, fun _ _ => rfl⟩, fun _ _ _ _ => rfl⟩
theorem Df_t {s s' s2 : gS} (h : Df s s') (h2 : Df s' s2) : Df s s2 := ⟨⟨h2.1.1.trans h.1.1, fun a_l => (h2.1.2.1 a_l).trans (h.1.2.1 a_l), fun a_l k_l => (h2.1.2.2 a_l k_l).trans (h.1.2.2 a_l k_l)⟩, fun a_l k_l hc_l hd_l => (h2.2 a_l k_l hc_l hd_l).trans (h.2 a_l k_l hc_l hd_l)⟩
theorem Df_fr {s s' : gS} (h : Fr s s') : Df s s' := ⟨h.1, fun a_l k_l hc_l _ => h.2 a_l k_l hc_l⟩
theorem Df_w {s s' : gS} {a k : Nat} {v : Int} (h : Df s s') (ha : 36 ≤ a ∧ a < 54) : Df s (gw s' a k v) := by
  refine ⟨h.1, fun b_l j_l hc_l hd_l => ?_⟩
  show (if b_l = a ∧ j_l = k then v else gI s' b_l j_l) = _
  rw [if_neg (fun z_l => hd_l (by omega))]
  exact h.2 b_l j_l hc_l hd_l
noncomputable def NBv (L : Nat → Int) (e : Nat) (s : gS) (x : Nat ⊕ (Int × Nat)) (v : Int) (u : gS) : Prop := Fr s u ∧ ((∃ q, x = Sum.inl q ∧ v = -1 ∧ At u L e q) ∨ (∃ v' g, x = Sum.inr (v', g) ∧ 0 ≤ v' ∧ v = v' ∧ At u L e g))
noncomputable def CL (x : Nat ⊕ (gLW × Nat)) (L : Nat → Int) (e : Nat) (s : gS) (r : gO) : Prop := r.1 = 1 ∧ ((∃ q, x = Sum.inl q ∧ r.2.1 = 0 ∧ gI r.2.2.2 1 3 = (q : Int) ∧ Df s r.2.2.2) ∨ (∃ w g, x = Sum.inr (w, g) ∧ r.2.1 = 1 ∧ At r.2.2.2 L e g ∧ Fr (cw w s) r.2.2.2))
theorem gl_c0 : ∀ w, w < 28 → 13 ≤ w → 1 ≤ (gtx w).length := by decide +kernel
theorem gl_c (w : Nat) (h1 : 13 ≤ w) (h2 : w < 28) : 1 ≤ (gtx w).length := gl_c0 w h2 h1
section Cln
variable {s s' u : gS} {L : Nat → Int} {e f w : Nat} {lo hi : Int} {x : Nat ⊕ (gLW × Nat)}
theorem n13 (hw : 13 ≤ w ∧ w < 28) (h : At s L e f) (h6 : gR s 6 0 = 1) : gT (f_13 6 w lo hi s) (fun r => r.1 = 1 ∧ NBv L e s (nb L e w lo hi f) r.2.1 r.2.2.2) := v13 (gl_c w hw.1 hw.2) h h6
theorem n14 (hw : 13 ≤ w ∧ w < 28) (h : At s L e f) (h6 : gR s 6 0 = 1) : gT (f_14 6 w s) (fun r => r.1 = 1 ∧ NBv L e s (tb L e w f) r.2.1 r.2.2.2) := v14 (gl_c w hw.1 hw.2) h h6
theorem CL_f {q : Nat} (hx : x = Sum.inl q) (ha : At u L e q) (hf : Df s u) : CL x L e s (1, 0, 0, u) := ⟨rfl, Or.inl ⟨q, hx, rfl, ha.2.2.1, hf⟩⟩
theorem At_w {a k : Nat} {v : Int} (h : At s L e f) (ha : 36 ≤ a) : At (gw s a k v) L e f := by
  have hn : ∀ b_l j_l, b_l < 36 → gI (gw s a k v) b_l j_l = gI s b_l j_l := fun b_l j_l hb_l => rd_a rfl (by omega)
  obtain ⟨⟨h1, h2, h3, h4⟩, h5, h6, h7, h8⟩ := h
  exact ⟨⟨h1, (hn 1 1 (by omega)).trans h2, h3, fun j_l => (hn 2 j_l (by omega)).trans (h4 j_l)⟩, h5, (hn 1 3 (by omega)).trans h6, (hn 1 2 (by omega)).trans h7, (hn 1 4 (by omega)).trans h8⟩
theorem At_cw {y : gLW} (h : At s L e f) : At (cw y s) L e f := by
  unfold cw
  split
  · exact At_w (At_w (At_w (At_w h (by omega)) (by omega)) (by omega)) (by omega)
  · exact At_w (At_w (At_w (At_w (At_w (At_w (At_w h (by omega)) (by omega)) (by omega)) (by omega)) (by omega)) (by omega)) (by omega)
  · exact At_w (At_w (At_w h (by omega)) (by omega)) (by omega)
  · exact At_w (At_w (At_w h (by omega)) (by omega)) (by omega)
  · exact At_w h (by omega)
  · exact At_w h (by omega)
  · exact At_w h (by omega)
  · exact At_w h (by omega)
theorem Fr_cw {y : gLW} (h : Fr s s') : Fr (cw y s) (cw y s') := by
  have hn : ∀ a_l k_l, 36 ≤ a_l → gI s' a_l k_l = gI s a_l k_l := fun a_l k_l ha_l => h.2 a_l k_l (by omega)
  unfold cw
  split
  · rw [hn 36 5 (by omega)]
    exact Fr_ww (Fr_ww (Fr_ww (Fr_ww h)))
  · rw [hn 42 4 (by omega)]
    exact Fr_ww (Fr_ww (Fr_ww (Fr_ww (Fr_ww (Fr_ww (Fr_ww h))))))
  · rw [hn 36 6 (by omega)]
    exact Fr_ww (Fr_ww (Fr_ww h))
  · rw [hn 42 5 (by omega)]
    exact Fr_ww (Fr_ww (Fr_ww h))
  · exact Fr_ww h
  · exact Fr_ww h
  · exact Fr_ww h
  · exact Fr_ww h
theorem CL_r {y : gLW} {g : Nat} (hx : x = Sum.inr (y, g)) (ha : At u L e g) (hf : Fr s u) : CL x L e s (1, 1, 0, cw y u) := ⟨rfl, Or.inr ⟨y, g, hx, rfl, At_cw ha, Fr_cw hf⟩⟩
/-- a step's line -/
theorem c_15 (h : At s L e f) (hr : Rd s) (h0 : 0 ≤ gI s 36 5) (h8 : gI s 36 5 < 8) : gT (f_15 6 36 s) (CL (lnS L e (nx L e f)) L e s) := by
  unfold f_15
  rw [hr.1.1]
  refine gT_v0 (A := fun z_l => Fr s z_l ∧ At z_l L e (nx L e f)) (v_adv h) (fun s1_l h1 => ?_)
  have hr1 := Rd_fr hr h1.1
  refine gT_v1 (A := NBv L e s1_l (nb L e 18 1 30 (nx L e f))) (n13 (by decide) h1.2 hr1.1.1) (fun v4_l s3_l h3 => ?_)
  have hf3 := Fr_t h1.1 h3.1
  have hr3 := Rd_fr hr hf3
  rcases h3.2 with ⟨q_l, e1_l, e2_l, ha_l⟩ | ⟨w1_l, g1, e1_l, e0_l, e2_l, ha_l⟩
  · rw [if_pos e2_l]
    unfold fb_15_35
    rw [if_pos rfl]
    unfold fb_15_54
    rw [if_pos rfl]
    exact gT_ret (CL_f (by unfold lnS; rw [e1_l, eb_l]) ha_l (Df_fr hf3))
  rw [if_neg (by omega)]
  refine gT_v1 (A := NBv L e s3_l (nb L e 19 0 99 g1)) (n13 (by decide) ha_l hr3.1.1) (fun v10 s9 h9 => ?_)
  have hf9 := Fr_t hf3 h9.1
  have hr9 := Rd_fr hr hf9
  unfold fb_15_35
  rcases h9.2 with ⟨q_l, e3_l, e4_l, hb_l⟩ | ⟨w2_l, g2, e3_l, e5_l, e4_l, hb_l⟩
  · rw [if_pos e4_l]
    unfold fb_15_54
    rw [if_pos rfl]
    exact gT_ret (CL_f (by unfold lnS; rw [e1_l, eb_r, e3_l, eb_l]) hb_l (Df_fr hf9))
  rw [if_neg (by omega)]
  refine gT_v1 (A := NBv L e s9 (nb L e 20 0 50 g2)) (n13 (by decide) hb_l hr9.1.1) (fun v8 s7 h7 => ?_)
  have hf7 := Fr_t hf9 h7.1
  have hr7 := Rd_fr hr hf7
  have hc_l : gI s7 36 5 = gI s 36 5 := hf7.2 36 5 (by omega)
  unfold fb_15_54
  rcases h7.2 with ⟨q_l, e6_l, e7_l, hd_l⟩ | ⟨w3_l, g3_l, e6_l, e8, e7_l, hd_l⟩
  · rw [if_pos e7_l]
    exact gT_ret (CL_f (by unfold lnS; rw [e1_l, eb_r, e3_l, eb_r, e6_l, eb_l]) hd_l (Df_fr hf7))
  rw [if_neg (by omega)]
  refine gT_v0 (A := fun z_l => z_l = cw (0, v4_l, v10, v8) s7) (gT_mono (x_2 hr7 (by omega) (by omega)) (fun r_l hq => by rw [hq]; exact ⟨rfl, rfl⟩)) (fun s5 h5 => ?_)
  rw [h5]
  exact gT_ret (CL_r (by unfold lnS; rw [e1_l, eb_r, e3_l, eb_r, e6_l, eb_r, e2_l, e4_l, e7_l]) hd_l hf7)
/-- a man's line -/
theorem c_16 (h : At s L e f) (hr : Rd s) (h0 : 0 ≤ gI s 42 4) (h8 : gI s 42 4 < 6) : gT (f_16 6 42 s) (CL (lnM L e (nx L e f)) L e s) := by
  unfold f_16
  rw [hr.1.1]
  refine gT_v0 (A := fun z_l => Fr s z_l ∧ At z_l L e (nx L e f)) (v_adv h) (fun s1_l h1 => ?_)
  have hr1 := Rd_fr hr h1.1
  refine gT_v1 (A := NBv L e s1_l (nb L e 21 0 99 (nx L e f))) (n13 (by decide) h1.2 hr1.1.1) (fun v4_l s3_l h3 => ?_)
  have hf3 := Fr_t h1.1 h3.1
  have hr3 := Rd_fr hr hf3
  rcases h3.2 with ⟨q_l, e1_l, e2_l, ha_l⟩ | ⟨w1_l, g1, e1_l, e0_l, e2_l, ha_l⟩
  · rw [if_pos e2_l]
    unfold fb_16_35
    rw [if_pos rfl]
    unfold fb_16_51
    rw [if_pos rfl]
    exact gT_ret (CL_f (by unfold lnM; rw [e1_l, eb_l]) ha_l (Df_fr hf3))
  rw [if_neg (by omega)]
  refine gT_v1 (A := NBv L e s3_l (nb L e 22 0 9 g1)) (n13 (by decide) ha_l hr3.1.1) (fun v10 s9 h9 => ?_)
  have hf9 := Fr_t hf3 h9.1
  have hr9 := Rd_fr hr hf9
  unfold fb_16_35
  rcases h9.2 with ⟨q_l, e3_l, e4_l, hb_l⟩ | ⟨w2_l, g2, e3_l, e5_l, e4_l, hb_l⟩
  · rw [if_pos e4_l]
    unfold fb_16_51
    rw [if_pos rfl]
    exact gT_ret (CL_f (by unfold lnM; rw [e1_l, eb_r, e3_l, eb_l]) hb_l (Df_fr hf9))
  rw [if_neg (by omega)]
  refine gT_v1 (A := NBv L e s9 (tb L e 23 g2)) (n14 (by decide) hb_l hr9.1.1) (fun v8 s7 h7 => ?_)
  have hf7 := Fr_t hf9 h7.1
  have hr7 := Rd_fr hr hf7
  have hc_l : gI s7 42 4 = gI s 42 4 := hf7.2 42 4 (by omega)
  unfold fb_16_51
  rcases h7.2 with ⟨q_l, e6_l, e7_l, hd_l⟩ | ⟨w3_l, g3_l, e6_l, e8, e7_l, hd_l⟩
  · rw [if_pos e7_l]
    exact gT_ret (CL_f (by unfold lnM; rw [e1_l, eb_r, e3_l, eb_r, e6_l, eb_l]) hd_l (Df_fr hf7))
  rw [if_neg (by omega)]
  refine gT_v0 (A := fun z_l => z_l = cw (1, v4_l, v10, v8) s7) (gT_mono (x_24 hr7 (by omega) (by omega)) (fun r_l hq => by rw [hq]; exact ⟨rfl, rfl⟩)) (fun s5 h5 => ?_)
  rw [h5]
  exact gT_ret (CL_r (by unfold lnM; rw [e1_l, eb_r, e3_l, eb_r, e6_l, eb_r, e2_l, e4_l, e7_l]) hd_l hf7)
/-- a test's line -/
theorem c_17 (h : At s L e f) (hr : Rd s) (h0 : 0 ≤ gI s 36 6) (h8 : gI s 36 6 < 6) : gT (f_17 6 36 s) (CL (lnT L e (nx L e f)) L e s) := by
  unfold f_17
  rw [hr.1.1]
  refine gT_v0 (A := fun z_l => Fr s z_l ∧ At z_l L e (nx L e f)) (v_adv h) (fun s1_l h1 => ?_)
  have hr1 := Rd_fr hr h1.1
  refine gT_v1 (A := NBv L e s1_l (nb L e 19 0 99 (nx L e f))) (n13 (by decide) h1.2 hr1.1.1) (fun v4_l s3_l h3 => ?_)
  have hf3 := Fr_t h1.1 h3.1
  have hr3 := Rd_fr hr hf3
  rcases h3.2 with ⟨q_l, e1_l, e2_l, ha_l⟩ | ⟨w1_l, g1, e1_l, e0_l, e2_l, ha_l⟩
  · rw [if_pos e2_l]
    unfold fb_17_32
    rw [if_pos rfl]
    exact gT_ret (CL_f (by unfold lnT; rw [e1_l, eb_l]) ha_l (Df_fr hf3))
  rw [if_neg (by omega)]
  refine gT_v1 (A := NBv L e s3_l (tb L e 24 g1)) (n14 (by decide) ha_l hr3.1.1) (fun v8 s7 h7 => ?_)
  have hf7 := Fr_t hf3 h7.1
  have hr7 := Rd_fr hr hf7
  have hc_l : gI s7 36 6 = gI s 36 6 := hf7.2 36 6 (by omega)
  unfold fb_17_32
  rcases h7.2 with ⟨q_l, e6_l, e7_l, hd_l⟩ | ⟨w3_l, g3_l, e6_l, e8, e7_l, hd_l⟩
  · rw [if_pos e7_l]
    exact gT_ret (CL_f (by unfold lnT; rw [e1_l, eb_r, e6_l, eb_l]) hd_l (Df_fr hf7))
  rw [if_neg (by omega)]
  refine gT_v0 (A := fun z_l => z_l = cw (2, v4_l, v8, 0) s7) (gT_mono (x_3 hr7 (by omega) (by omega)) (fun r_l hq => by rw [hq]; exact ⟨rfl, rfl⟩)) (fun s5 h5 => ?_)
  rw [h5]
  exact gT_ret (CL_r (by unfold lnT; rw [e1_l, eb_r, e6_l, eb_r, e2_l, e7_l]) hd_l hf7)
/-- a rival's line -/
theorem c_18 (h : At s L e f) (hr : Rd s) (h0 : 0 ≤ gI s 42 5) (h8 : gI s 42 5 < 6) : gT (f_18 6 42 s) (CL (ln1 L e 3 16 999 f) L e s) := by
  unfold f_18
  refine gT_v1 (A := NBv L e s (nb L e 16 0 999 f)) (n13 (by decide) h hr.1.1) (fun v2 s1_l h1 => ?_)
  have hr1 := Rd_fr hr h1.1
  have hc_l : gI s1_l 42 5 = gI s 42 5 := h1.1.2 42 5 (by omega)
  rcases h1.2 with ⟨q_l, e1_l, e2_l, ha_l⟩ | ⟨w1_l, g1, e1_l, e0_l, e2_l, ha_l⟩
  · rw [if_pos e2_l]
    exact gT_ret (CL_f (by unfold ln1; rw [e1_l, eb_l]) ha_l (Df_fr h1.1))
  rw [if_neg (by omega)]
  refine gT_v0 (A := fun z_l => z_l = cw (3, v2, 0, 0) s1_l) (gT_mono (x_25 hr1 (by omega) (by omega)) (fun r_l hq => by rw [hq]; exact ⟨rfl, rfl⟩)) (fun s5 h5 => ?_)
  rw [h5]
  exact gT_ret (CL_r (by unfold ln1; rw [e1_l, eb_r, e2_l]) ha_l h1.1)
/-- a line with one number -/
theorem c_one {a k t : Nat} (ht : ∀ v z, cw (t, v, 0, 0) z = gw z a k v) (ha : 36 ≤ a ∧ a < 54) (hw : 13 ≤ w ∧ w < 28) (h : At s L e f) (hr : Rd s) : gT ((f_13 6 w 0 hi s).bind (gv1 (fun v2 s1 => if (gI (gw s1 a k v2) a k) = (-1) then some ((1, 0, 0, gw s1 a k v2)) else some ((1, 1, 0, gw s1 a k v2))))) (CL (ln1 L e t w hi f) L e s) := by
  refine gT_v1 (A := NBv L e s (nb L e w 0 hi f)) (n13 hw h hr.1.1) (fun v2 s1 h1 => ?_)
  have hs : gI (gw s1 a k v2) a k = v2 := rd_same rfl
  rw [hs]
  rcases h1.2 with ⟨q_l, e1_l, e2_l, hb_l⟩ | ⟨w1_l, g1, e1_l, e0_l, e2_l, hb_l⟩
  · rw [if_pos e2_l]
    exact gT_ret (CL_f (by unfold ln1; rw [e1_l, eb_l]) (At_w hb_l ha.1) (Df_w (Df_fr h1.1) ha))
  rw [if_neg (by omega), ← ht]
  exact gT_ret (CL_r (by unfold ln1; rw [e1_l, eb_r, e2_l]) hb_l h1.1)
theorem c_19 (h : At s L e f) (hr : Rd s) : gT (f_19 6 42 s) (CL (ln1 L e 4 17 999 f) L e s) := by
  unfold f_19
  exact c_one (fun _ _ => rfl) (by decide) (by decide) h hr
theorem c_20 (h : At s L e f) (hr : Rd s) : gT (f_20 6 36 s) (CL (cif (Wd L e 25 f) (ln1 L e 5 25 99 f) (cif (Wd L e 26 f) (ln1 L e 6 26 100 f) (cif (Wd L e 27 f) (ln1 L e 7 27 50 f) (Sum.inl f)))) L e s) := by
  unfold f_20
  rw [hr.1.1]
  refine gT_v1 (A := fun v_l z_l => z_l = s ∧ ((v_l = 1 ∧ Wd L e 25 f) ∨ (v_l = 0 ∧ ¬ Wd L e 25 f))) (v_80 (gl_c 25 (by decide) (by decide)) h) (fun v2 s1_l h1 => ?_)
  obtain ⟨q1_l, h1⟩ := h1
  rw [q1_l]
  rcases h1 with ⟨e1_l, w1_l⟩ | ⟨e1_l, w1_l⟩
  · rw [if_neg (by omega), cif_p w1_l]
    exact c_one (fun _ _ => rfl) (by decide) (by decide) h hr
  rw [if_pos e1_l, cif_n w1_l, hr.1.1]
  refine gT_v1 (A := fun v_l z_l => z_l = s ∧ ((v_l = 1 ∧ Wd L e 26 f) ∨ (v_l = 0 ∧ ¬ Wd L e 26 f))) (v_80 (gl_c 26 (by decide) (by decide)) h) (fun v5 s4_l h4 => ?_)
  obtain ⟨q4_l, h4⟩ := h4
  rw [q4_l]
  rcases h4 with ⟨e4_l, w4_l⟩ | ⟨e4_l, w4_l⟩
  · rw [if_neg (by omega), cif_p w4_l]
    exact c_one (fun _ _ => rfl) (by decide) (by decide) h hr
  rw [if_pos e4_l, cif_n w4_l, hr.1.1]
  refine gT_v1 (A := fun v_l z_l => z_l = s ∧ ((v_l = 1 ∧ Wd L e 27 f) ∨ (v_l = 0 ∧ ¬ Wd L e 27 f))) (v_80 (gl_c 27 (by decide) (by decide)) h) (fun v8 s7 h7 => ?_)
  obtain ⟨q7_l, h7⟩ := h7
  rw [q7_l]
  rcases h7 with ⟨e7_l, w7_l⟩ | ⟨e7_l, w7_l⟩
  · rw [if_neg (by omega), cif_p w7_l]
    exact c_one (fun _ _ => rfl) (by decide) (by decide) h hr
  rw [if_pos e7_l, cif_n w7_l]
  exact gT_ret (CL_f rfl h (Df_r s))
end Cln

end
section
/-! book and court as one row, numbered as the model's -/
noncomputable def pa (B C k : Nat) : Nat := if k < 16 then (if k = 0 ∨ k = 3 ∨ k = 5 ∨ k = 10 ∨ k = 11 ∨ k = 12 then B else if k = 13 then C + 4 else C) else if k < 40 then B + 1 + (k - 16) % 3 else if k < 76 then C + 6 + (k - 40) / 6 else if k < 88 then B + 4 + (k - 76) % 2 else C + 2 + (k - 88) % 2
noncomputable def pjl : List Nat := [10, 0, 0, 5, 4, 6, 5, 8, 6, 7, 7, 8, 9, 1, 9, 0]
noncomputable def pj (k : Nat) : Nat := if k < 16 then pjl.getD k 0 else if k < 40 then (k - 16) / 3 else if k < 76 then (k - 40) % 6 else if k < 88 then (k - 76) / 2 else (k - 88) / 2
noncomputable def KK (k : Nat) : Prop := k < 100 ∧ k ≠ 1 ∧ k ≠ 2 ∧ k ≠ 15
noncomputable def cv (s : gS) (B C k : Nat) : Int := gI s (pa B C k) (pj k)
/-- what a line does to such a row -/
noncomputable def av (w : gLW) (V : Nat → Int) (k : Nat) : Int := match w.1 with
  | 0 => if k = 3 then V 3 + 1 else if k = 16 + 3 * (V 3).toNat + 2 then w.2.2.2 else if k = 16 + 3 * (V 3).toNat + 1 then w.2.2.1 else if k = 16 + 3 * (V 3).toNat + 0 then w.2.1 else V k
  | 1 => if k = 4 then V 4 + 1 else if k = 40 + 6 * (V 4).toNat + 5 then 0 else if k = 40 + 6 * (V 4).toNat + 4 then 0 else if k = 40 + 6 * (V 4).toNat + 3 then 0 else if k = 40 + 6 * (V 4).toNat + 2 then w.2.2.2 else if k = 40 + 6 * (V 4).toNat + 1 then w.2.2.1 else if k = 40 + 6 * (V 4).toNat + 0 then w.2.1 else V k
  | 2 => if k = 5 then V 5 + 1 else if k = 76 + 2 * (V 5).toNat + 1 then w.2.2.1 else if k = 76 + 2 * (V 5).toNat + 0 then w.2.1 else V k
  | 3 => if k = 6 then V 6 + 1 else if k = 88 + 2 * (V 6).toNat + 1 then 0 else if k = 88 + 2 * (V 6).toNat + 0 then w.2.1 else V k
  | 4 => if k = 8 then w.2.1 else V k
  | 5 => if k = 10 then w.2.1 else V k
  | 6 => if k = 11 then w.2.1 else V k
  | _ => if k = 12 then w.2.1 else V k
section Vt
theorem tS : ∀ k, k < 100 → ∀ n, n < 8 → ∀ j, j < 3 → (pa 36 42 k = 37 + j ∧ pj k = n ↔ k = 16 + 3 * n + j) := by decide +kernel
theorem tM : ∀ k, k < 100 → ∀ n, n < 6 → ∀ j, j < 6 → (pa 36 42 k = 48 + n ∧ pj k = j ↔ k = 40 + 6 * n + j) := by decide +kernel
theorem tT : ∀ k, k < 100 → ∀ n, n < 6 → ∀ j, j < 2 → (pa 36 42 k = 40 + j ∧ pj k = n ↔ k = 76 + 2 * n + j) := by decide +kernel
theorem tV : ∀ k, k < 100 → ∀ n, n < 6 → ∀ j, j < 2 → (pa 36 42 k = 44 + j ∧ pj k = n ↔ k = 88 + 2 * n + j) := by decide +kernel
theorem tC0 : ∀ k, k < 100 → (k ≠ 1 ∧ k ≠ 2 ∧ k ≠ 15) → (pa 36 42 k = 36 ∧ pj k = 5 ↔ k = 3) := by decide +kernel
theorem tC1 : ∀ k, k < 100 → (k ≠ 1 ∧ k ≠ 2 ∧ k ≠ 15) → (pa 36 42 k = 42 ∧ pj k = 4 ↔ k = 4) := by decide +kernel
theorem tC2 : ∀ k, k < 100 → (k ≠ 1 ∧ k ≠ 2 ∧ k ≠ 15) → (pa 36 42 k = 36 ∧ pj k = 6 ↔ k = 5) := by decide +kernel
theorem tC3 : ∀ k, k < 100 → (k ≠ 1 ∧ k ≠ 2 ∧ k ≠ 15) → (pa 36 42 k = 42 ∧ pj k = 5 ↔ k = 6) := by decide +kernel
theorem tC4 : ∀ k, k < 100 → (k ≠ 1 ∧ k ≠ 2 ∧ k ≠ 15) → (pa 36 42 k = 42 ∧ pj k = 6 ↔ k = 8) := by decide +kernel
theorem tC5 : ∀ k, k < 100 → (k ≠ 1 ∧ k ≠ 2 ∧ k ≠ 15) → (pa 36 42 k = 36 ∧ pj k = 7 ↔ k = 10) := by decide +kernel
theorem tC6 : ∀ k, k < 100 → (k ≠ 1 ∧ k ≠ 2 ∧ k ≠ 15) → (pa 36 42 k = 36 ∧ pj k = 8 ↔ k = 11) := by decide +kernel
theorem tC7 : ∀ k, k < 100 → (k ≠ 1 ∧ k ≠ 2 ∧ k ≠ 15) → (pa 36 42 k = 36 ∧ pj k = 9 ↔ k = 12) := by decide +kernel
theorem tC (k : Nat) (h0 : k < 100) (h1 : k ≠ 1) (h2 : k ≠ 2) (h3 : k ≠ 15) : (pa 36 42 k = 36 ∧ pj k = 5 ↔ k = 3) ∧ (pa 36 42 k = 42 ∧ pj k = 4 ↔ k = 4) ∧ (pa 36 42 k = 36 ∧ pj k = 6 ↔ k = 5) ∧ (pa 36 42 k = 42 ∧ pj k = 5 ↔ k = 6) ∧ (pa 36 42 k = 42 ∧ pj k = 6 ↔ k = 8) ∧ (pa 36 42 k = 36 ∧ pj k = 7 ↔ k = 10) ∧ (pa 36 42 k = 36 ∧ pj k = 8 ↔ k = 11) ∧ (pa 36 42 k = 36 ∧ pj k = 9 ↔ k = 12) := ⟨tC0 k h0 ⟨h1, h2, h3⟩, tC1 k h0 ⟨h1, h2, h3⟩, tC2 k h0 ⟨h1, h2, h3⟩, tC3 k h0 ⟨h1, h2, h3⟩, tC4 k h0 ⟨h1, h2, h3⟩, tC5 k h0 ⟨h1, h2, h3⟩, tC6 k h0 ⟨h1, h2, h3⟩, tC7 k h0 ⟨h1, h2, h3⟩⟩
theorem pa_d : ∀ k, k < 100 → 36 ≤ pa 36 42 k ∧ pa 36 42 k < 54 := by decide +kernel
end Vt
/-- the counts are within their bounds -/
noncomputable def Rg (V : Nat → Int) : Prop := (0 ≤ V 3 ∧ V 3 ≤ 8) ∧ (0 ≤ V 4 ∧ V 4 ≤ 6) ∧ (0 ≤ V 5 ∧ V 5 ≤ 6) ∧ (0 ≤ V 6 ∧ V 6 ≤ 6)
noncomputable def Rw (w : gLW) (V : Nat → Int) : Prop := (w.1 = 0 → V 3 < 8) ∧ (w.1 = 1 → V 4 < 6) ∧ (w.1 = 2 → V 5 < 6) ∧ (w.1 = 3 → V 6 < 6)
section Va
variable {s s' : gS} {V V' : Nat → Int} {w : gLW} {k : Nat}
theorem rdw {a j b i : Nat} {v : Int} : gI (gw s a j v) b i = if b = a ∧ i = j then v else gI s b i := rfl
theorem cv_fr (hf : Fr s s') (hk : KK k) : cv s' 36 42 k = cv s 36 42 k := hf.2 _ _ (fun z_l => by have := pa_d k hk.1; omega)
theorem cv_cw (hw : Rw w (cv s 36 42)) (hg : Rg (cv s 36 42)) (hk : KK k) : cv (cw w s) 36 42 k = av w (cv s 36 42) k := by
  obtain ⟨k1_l, k2_l, k3_l, k4_l⟩ := hk
  obtain ⟨c1_l, c2_l, c3_l, c4_l, c5_l, c6_l, c7_l, c8_l⟩ := tC k k1_l k2_l k3_l k4_l
  obtain ⟨g1, g2, g3_l, g4⟩ := hg
  obtain ⟨w1_l, w2_l, w3_l, w4_l⟩ := hw
  have q3_l : cv s 36 42 3 = gI s 36 5 := rfl
  have q4_l : cv s 36 42 4 = gI s 42 4 := rfl
  have q5_l : cv s 36 42 5 = gI s 36 6 := rfl
  have q6_l : cv s 36 42 6 = gI s 42 5 := rfl
  obtain ⟨t_l, v1_l, v2, v3⟩ := w
  unfold cw av
  dsimp only at w1_l w2_l w3_l w4_l ⊢
  split
  · have z_l := tS k k1_l (cv s 36 42 3).toNat (by have := w1_l rfl; omega)
    have z0 := z_l 0 (by omega)
    have z1 := z_l 1 (by omega)
    have z2 := z_l 2 (by omega)
    simp only [Nat.add_zero] at z0
    rw [q3_l] at z0 z1 z2 ⊢
    show gI _ (pa 36 42 k) (pj k) = _
    simp only [rdw, c1_l, z2, z1, z0, Nat.add_zero]
    rfl
  · have z_l := tM k k1_l (cv s 36 42 4).toNat (by have := w2_l rfl; omega)
    have z0 := z_l 0 (by omega)
    have z1 := z_l 1 (by omega)
    have z2 := z_l 2 (by omega)
    have z3 := z_l 3 (by omega)
    have z4 := z_l 4 (by omega)
    have z5 := z_l 5 (by omega)
    rw [q4_l] at z0 z1 z2 z3 z4 z5 ⊢
    show gI _ (pa 36 42 k) (pj k) = _
    simp only [rdw, c2_l, z5, z4, z3, z2, z1, z0]
    rfl
  · have z_l := tT k k1_l (cv s 36 42 5).toNat (by have := w3_l rfl; omega)
    have z0 := z_l 0 (by omega)
    have z1 := z_l 1 (by omega)
    simp only [Nat.add_zero] at z0
    rw [q5_l] at z0 z1 ⊢
    show gI _ (pa 36 42 k) (pj k) = _
    simp only [rdw, c3_l, z1, z0, Nat.add_zero]
    rfl
  · have z_l := tV k k1_l (cv s 36 42 6).toNat (by have := w4_l rfl; omega)
    have z0 := z_l 0 (by omega)
    have z1 := z_l 1 (by omega)
    simp only [Nat.add_zero] at z0
    rw [q6_l] at z0 z1 ⊢
    show gI _ (pa 36 42 k) (pj k) = _
    simp only [rdw, c4_l, z1, z0, Nat.add_zero]
    rfl
  · show gI _ (pa 36 42 k) (pj k) = _
    simp only [rdw, c5_l]
    rfl
  · show gI _ (pa 36 42 k) (pj k) = _
    simp only [rdw, c6_l]
    rfl
  · show gI _ (pa 36 42 k) (pj k) = _
    simp only [rdw, c7_l]
    rfl
  · show gI _ (pa 36 42 k) (pj k) = _
    simp only [rdw, c8_l]
    rfl
/-- rows alike on S go on alike on S -/
theorem av_S {S : Nat → Prop} (h : ∀ k, S k → V k = V' k) (h3 : V 3 = V' 3) (h4 : V 4 = V' 4) (h5 : V 5 = V' 5) (h6 : V 6 = V' 6) (hk : S k) : av w V k = av w V' k := by
  unfold av
  rw [h3, h4, h5, h6, h k hk]
theorem av_rg (hw : Rw w V) (hg : Rg V) : Rg (av w V) := by
  obtain ⟨⟨a3, b3⟩, ⟨a4, b4⟩, ⟨a5, b5⟩, ⟨a6, b6⟩⟩ := hg
  obtain ⟨w1_l, w2_l, w3_l, w4_l⟩ := hw
  obtain ⟨t_l, v1_l, v2, v3⟩ := w
  unfold Rg av
  dsimp only at w1_l w2_l w3_l w4_l ⊢
  split
  · have := w1_l rfl
    rw [if_pos rfl, if_neg (by omega), if_neg (by omega), if_neg (by omega), if_neg (by omega), if_neg (by omega), if_neg (by omega), if_neg (by omega), if_neg (by omega), if_neg (by omega), if_neg (by omega), if_neg (by omega), if_neg (by omega)]
    omega
  · have := w2_l rfl
    rw [if_neg (by omega), if_neg (by omega), if_neg (by omega), if_neg (by omega), if_neg (by omega), if_neg (by omega), if_neg (by omega), if_pos rfl, if_neg (by omega), if_neg (by omega), if_neg (by omega), if_neg (by omega), if_neg (by omega), if_neg (by omega), if_neg (by omega), if_neg (by omega), if_neg (by omega), if_neg (by omega), if_neg (by omega), if_neg (by omega), if_neg (by omega), if_neg (by omega)]
    omega
  · have := w3_l rfl
    rw [if_neg (by omega), if_neg (by omega), if_neg (by omega), if_neg (by omega), if_neg (by omega), if_neg (by omega), if_pos rfl, if_neg (by omega), if_neg (by omega), if_neg (by omega)]
    omega
  · have := w4_l rfl
    rw [if_neg (by omega), if_neg (by omega), if_neg (by omega), if_neg (by omega), if_neg (by omega), if_neg (by omega), if_neg (by omega), if_neg (by omega), if_neg (by omega), if_pos rfl]
    omega
  all_goals
    rw [if_neg (by omega), if_neg (by omega), if_neg (by omega), if_neg (by omega)]
    omega
end Va
/-- the text, with n lines at most -/
noncomputable def rdl (L : Nat → Int) (e : Nat) : Nat → Nat → (Nat → Int) → Nat ⊕ (Nat → Int)
  | 0, f, _ => Sum.inl f
  | n + 1, f, V => eb (ln L e f V) (fun y => if y.2 = e then Sum.inr (av y.1 V) else if L y.2 = 59 then rdl L e n (nx L e y.2) (av y.1 V) else Sum.inl y.2)
noncomputable def rdb (L : Nat → Int) (e : Nat) (V : Nat → Int) : Nat ⊕ (Nat → Int) := if sk L e 0 = e then Sum.inr V else rdl L e 14 (sk L e 0) V
section Rd2
variable {L : Nat → Int} {e f g : Nat} {V V' : Nat → Int} {w : gLW} {x y : Nat ⊕ (gLW × Nat)} {c : Prop}
theorem eb_w {α β : Type} {z : Nat ⊕ α} {k : α → Nat ⊕ β} {r : β} (h : eb z k = Sum.inr r) : ∃ q, z = Sum.inr q ∧ k q = Sum.inr r := by
  cases z with
  | inl q => cases h
  | inr q => exact ⟨q, rfl, h⟩
theorem lnS_t (h : lnS L e f = Sum.inr (w, g)) : w.1 = 0 := by
  obtain ⟨q1_l, -, h⟩ := eb_w h
  obtain ⟨q2_l, -, h⟩ := eb_w h
  obtain ⟨q3_l, -, h⟩ := eb_w h
  cases h
  rfl
theorem lnM_t (h : lnM L e f = Sum.inr (w, g)) : w.1 = 1 := by
  obtain ⟨q1_l, -, h⟩ := eb_w h
  obtain ⟨q2_l, -, h⟩ := eb_w h
  obtain ⟨q3_l, -, h⟩ := eb_w h
  cases h
  rfl
theorem lnT_t (h : lnT L e f = Sum.inr (w, g)) : w.1 = 2 := by
  obtain ⟨q1_l, -, h⟩ := eb_w h
  obtain ⟨q2_l, -, h⟩ := eb_w h
  cases h
  rfl
theorem ln1_t {t v : Nat} {hi : Int} (h : ln1 L e t v hi f = Sum.inr (w, g)) : w.1 = t := by
  obtain ⟨q1_l, -, h⟩ := eb_w h
  cases h
  rfl
theorem Rw_o (h : 4 ≤ w.1) : Rw w V := ⟨fun z_l => by omega, fun z_l => by omega, fun z_l => by omega, fun z_l => by omega⟩
/-- the counts have room for what a line tells -/
theorem ln_w (h : ln L e f V = Sum.inr (w, g)) : Rw w V := by
  unfold ln at h
  by_cases a1 : Wd L e 13 f
  · rw [cif_p a1] at h
    by_cases b1 : V 3 < 8
    · rw [if_pos b1] at h
      have := lnS_t h
      exact ⟨fun _ => b1, fun z_l => by omega, fun z_l => by omega, fun z_l => by omega⟩
    · rw [if_neg b1] at h; cases h
  rw [cif_n a1] at h
  by_cases a2 : Wd L e 14 f
  · rw [cif_p a2] at h
    by_cases b1 : V 4 < 6
    · rw [if_pos b1] at h
      have := lnM_t h
      exact ⟨fun z_l => by omega, fun _ => b1, fun z_l => by omega, fun z_l => by omega⟩
    · rw [if_neg b1] at h; cases h
  rw [cif_n a2] at h
  by_cases a3 : Wd L e 15 f
  · rw [cif_p a3] at h
    by_cases b1 : V 5 < 6
    · rw [if_pos b1] at h
      have := lnT_t h
      exact ⟨fun z_l => by omega, fun z_l => by omega, fun _ => b1, fun z_l => by omega⟩
    · rw [if_neg b1] at h; cases h
  rw [cif_n a3] at h
  by_cases a4 : Wd L e 16 f
  · rw [cif_p a4] at h
    by_cases b1 : V 6 < 6
    · rw [if_pos b1] at h
      have := ln1_t h
      exact ⟨fun z_l => by omega, fun z_l => by omega, fun z_l => by omega, fun _ => b1⟩
    · rw [if_neg b1] at h; cases h
  rw [cif_n a4] at h
  by_cases a5 : Wd L e 17 f
  · rw [cif_p a5] at h
    exact Rw_o (by have := ln1_t h; omega)
  rw [cif_n a5] at h
  by_cases a6 : Wd L e 25 f
  · rw [cif_p a6] at h
    exact Rw_o (by have := ln1_t h; omega)
  rw [cif_n a6] at h
  by_cases a7 : Wd L e 26 f
  · rw [cif_p a7] at h
    exact Rw_o (by have := ln1_t h; omega)
  rw [cif_n a7] at h
  by_cases a8 : Wd L e 27 f
  · rw [cif_p a8] at h
    exact Rw_o (by have := ln1_t h; omega)
  rw [cif_n a8] at h
  cases h
theorem ln_S (h3 : V 3 = V' 3) (h4 : V 4 = V' 4) (h5 : V 5 = V' 5) (h6 : V 6 = V' 6) : ln L e f V = ln L e f V' := by
  unfold ln
  rw [h3, h4, h5, h6]
/-- rows alike on S are read alike -/
theorem rdl_S {S : Nat → Prop} (s3 : S 3) (s4 : S 4) (s5 : S 5) (s6 : S 6) (n : Nat) : ∀ (f : Nat) (V V' : Nat → Int), (∀ k, S k → V k = V' k) → (∃ q, rdl L e n f V = Sum.inl q ∧ rdl L e n f V' = Sum.inl q) ∨ ∃ W W', rdl L e n f V = Sum.inr W ∧ rdl L e n f V' = Sum.inr W' ∧ ∀ k, S k → W k = W' k := by
  induction n with
  | zero => intro f V V' h_l; exact Or.inl ⟨f, rfl, rfl⟩
  | succ n ih_l =>
    intro f V V' h_l
    have el := ln_S (L := L) (e := e) (f := f) (h_l 3 s3) (h_l 4 s4) (h_l 5 s5) (h_l 6 s6)
    unfold rdl
    rw [el]
    cases hl : ln L e f V' with
    | inl q => exact Or.inl ⟨q, rfl, rfl⟩
    | inr z_l =>
      rw [eb_r, eb_r]
      have ha_l : ∀ k, S k → av z_l.1 V k = av z_l.1 V' k := fun k hk => av_S h_l (h_l 3 s3) (h_l 4 s4) (h_l 5 s5) (h_l 6 s6) hk
      by_cases c1 : z_l.2 = e
      · rw [if_pos c1, if_pos c1]
        exact Or.inr ⟨_, _, rfl, rfl, ha_l⟩
      · rw [if_neg c1, if_neg c1]
        by_cases c2 : L z_l.2 = 59
        · rw [if_pos c2, if_pos c2]
          exact ih_l _ _ _ ha_l
        · rw [if_neg c2, if_neg c2]
          exact Or.inl ⟨_, rfl, rfl⟩
theorem rdb_S {S : Nat → Prop} (s3 : S 3) (s4 : S 4) (s5 : S 5) (s6 : S 6) (h : ∀ k, S k → V k = V' k) : (∃ q, rdb L e V = Sum.inl q ∧ rdb L e V' = Sum.inl q) ∨ ∃ W W', rdb L e V = Sum.inr W ∧ rdb L e V' = Sum.inr W' ∧ ∀ k, S k → W k = W' k := by
  unfold rdb
  by_cases c : sk L e 0 = e
  · rw [if_pos c, if_pos c]
    exact Or.inr ⟨V, V', rfl, rfl, h⟩
  · rw [if_neg c, if_neg c]
    exact rdl_S s3 s4 s5 s6 14 _ _ _ h
end Rd2

end
section
/-! the class reads a text of the book -/
section Rl
variable {s s' z1 : gS} {L : Nat → Int} {e f : Nat} {V : Nat → Int} {x : Nat ⊕ (gLW × Nat)}
theorem CL_p {z : Option gO} (h : gT z (CL x L e s)) : gT (z.bind (gv1 (fun v s1 => if v = 0 then some ((1, 0, 0, s1)) else some ((1, 1, 0, s1))))) (CL x L e s) := by
  refine gT_v1 (A := fun v t_l => (∃ q_l : Nat, x = Sum.inl q_l ∧ v = 0 ∧ gI t_l 1 3 = (q_l : Int) ∧ Df s t_l) ∨ (∃ w_l g_l, x = Sum.inr (w_l, g_l) ∧ v = 1 ∧ At t_l L e g_l ∧ Fr (cw w_l s) t_l)) h (fun v1_l s1 h1 => ?_)
  rcases h1 with ⟨q_l, e1_l, e2_l, e3_l⟩ | ⟨w_l, g_l, e1_l, e2_l, e3_l⟩
  · rw [if_pos e2_l]
    exact gT_ret ⟨rfl, Or.inl ⟨q_l, e1_l, rfl, e3_l⟩⟩
  · rw [if_neg (by omega)]
    exact gT_ret ⟨rfl, Or.inr ⟨w_l, g_l, e1_l, rfl, e3_l⟩⟩
theorem CL_q {z : Option gO} (h : gT z (CL x L e s)) : gT (z.bind (gv1 (fun v s1 => some ((1, v, 0, s1))))) (CL x L e s) :=
  gT_v1 (A := fun v t_l => (∃ q : Nat, x = Sum.inl q ∧ v = 0 ∧ gI t_l 1 3 = (q : Int) ∧ Df s t_l) ∨ (∃ w g, x = Sum.inr (w, g) ∧ v = 1 ∧ At t_l L e g ∧ Fr (cw w s) t_l)) h (fun v1_l s1 h1 => gT_ret ⟨rfl, h1⟩)
theorem c_12 (h : At s L e f) (hr : Rd s) (hg : Rg (cv s 36 42)) : gT (f_12 6 36 42 s) (CL (ln L e f (cv s 36 42)) L e s) := by
  have q3_l : cv s 36 42 3 = gI s 36 5 := rfl
  have q4_l : cv s 36 42 4 = gI s 42 4 := rfl
  have q5_l : cv s 36 42 5 = gI s 36 6 := rfl
  have q6_l : cv s 36 42 6 = gI s 42 5 := rfl
  obtain ⟨g1, g2, g3_l, g4⟩ := hg
  unfold f_12 ln
  rw [hr.1.1]
  refine gT_v1 (A := fun v_l z_l => z_l = s ∧ ((v_l = 1 ∧ Wd L e 13 f) ∨ (v_l = 0 ∧ ¬ Wd L e 13 f))) (v_80 (gl_c 13 (by decide) (by decide)) h) (fun v2 s1_l h1 => ?_)
  obtain ⟨i1_l, h1⟩ := h1
  rw [i1_l]
  rcases h1 with ⟨e1_l, w1_l⟩ | ⟨e1_l, w1_l⟩
  · rw [if_neg (by omega), cif_p w1_l, q3_l]
    refine gT_ite (fun c_l => ?_) (fun c_l => ?_)
    · rw [if_pos c_l]
      exact CL_p (c_15 h hr (by omega) c_l)
    · rw [if_neg c_l]
      exact gT_ret (CL_f rfl h (Df_r s))
  rw [if_pos e1_l, cif_n w1_l, hr.1.1]
  refine gT_v1 (A := fun v_l z_l => z_l = s ∧ ((v_l = 1 ∧ Wd L e 14 f) ∨ (v_l = 0 ∧ ¬ Wd L e 14 f))) (v_80 (gl_c 14 (by decide) (by decide)) h) (fun v5 s4_l h4 => ?_)
  obtain ⟨i4_l, h4⟩ := h4
  rw [i4_l]
  rcases h4 with ⟨e4_l, w4_l⟩ | ⟨e4_l, w4_l⟩
  · rw [if_neg (by omega), cif_p w4_l, q4_l]
    refine gT_ite (fun c_l => ?_) (fun c_l => ?_)
    · rw [if_pos c_l]
      exact CL_p (c_16 h hr (by omega) c_l)
    · rw [if_neg c_l]
      exact gT_ret (CL_f rfl h (Df_r s))
  rw [if_pos e4_l, cif_n w4_l, hr.1.1]
  refine gT_v1 (A := fun v_l z_l => z_l = s ∧ ((v_l = 1 ∧ Wd L e 15 f) ∨ (v_l = 0 ∧ ¬ Wd L e 15 f))) (v_80 (gl_c 15 (by decide) (by decide)) h) (fun v8 s7 h7 => ?_)
  obtain ⟨i7_l, h7⟩ := h7
  rw [i7_l]
  rcases h7 with ⟨e7_l, w7_l⟩ | ⟨e7_l, w7_l⟩
  · rw [if_neg (by omega), cif_p w7_l, q5_l]
    refine gT_ite (fun c_l => ?_) (fun c_l => ?_)
    · rw [if_pos c_l]
      exact CL_p (c_17 h hr (by omega) c_l)
    · rw [if_neg c_l]
      exact gT_ret (CL_f rfl h (Df_r s))
  rw [if_pos e7_l, cif_n w7_l, hr.1.1]
  refine gT_v1 (A := fun v_l z_l => z_l = s ∧ ((v_l = 1 ∧ Wd L e 16 f) ∨ (v_l = 0 ∧ ¬ Wd L e 16 f))) (v_80 (gl_c 16 (by decide) (by decide)) h) (fun v11 s10 h10 => ?_)
  obtain ⟨i10_l, h10⟩ := h10
  rw [i10_l]
  rcases h10 with ⟨e10_l, w10_l⟩ | ⟨e10_l, w10_l⟩
  · rw [if_neg (by omega), cif_p w10_l, q6_l]
    refine gT_ite (fun c_l => ?_) (fun c_l => ?_)
    · rw [if_pos c_l]
      exact CL_p (c_18 h hr (by omega) c_l)
    · rw [if_neg c_l]
      exact gT_ret (CL_f rfl h (Df_r s))
  rw [if_pos e10_l, cif_n w10_l, hr.1.1]
  refine gT_v1 (A := fun v_l z_l => z_l = s ∧ ((v_l = 1 ∧ Wd L e 17 f) ∨ (v_l = 0 ∧ ¬ Wd L e 17 f))) (v_80 (gl_c 17 (by decide) (by decide)) h) (fun v14 s13 h13 => ?_)
  obtain ⟨i13, h13⟩ := h13
  rw [i13]
  rcases h13 with ⟨e13_l, w13_l⟩ | ⟨e13_l, w13_l⟩
  · rw [if_neg (by omega), cif_p w13_l]
    exact CL_q (c_19 h hr)
  rw [if_pos e13_l, cif_n w13_l]
  exact CL_q (c_20 h hr)
theorem v_79 (h : At s L e f) : gT (f_79 1 s) (fun r => r.1 = 1 ∧ r.2.2.2 = s ∧ ((r.2.1 = 1 ∧ f = e) ∨ (r.2.1 = 0 ∧ f < e))) := by
  have hk := h.2.2.2.1
  have hle := h.2.1.1
  unfold f_79
  rw [hk]
  unfold kd
  by_cases c : f < e
  · rw [if_pos c]
    have hz : ¬ (if 97 ≤ L f ∧ L f ≤ 122 then (1 : Int) else if 48 ≤ L f ∧ L f ≤ 57 then 2 else 3) = 0 := by
      split
      · decide
      · split <;> decide
    rw [if_neg hz]
    exact gT_ret ⟨rfl, rfl, Or.inr ⟨rfl, c⟩⟩
  · rw [if_neg c, if_pos rfl]
    exact gT_ret ⟨rfl, rfl, Or.inl ⟨rfl, by omega⟩⟩
theorem gT_step {σ Q : Type} {step : σ → Option (σ ⊕ Q)} {y : σ} {P : Q → Prop} (h : gT (step y) (Sum.elim (fun z => gT (gloop step z) P) P)) : gT (gloop step y) P := by
  obtain ⟨r_l, h1, h2⟩ := h
  cases r_l with
  | inl z => rw [gloop_inl h1]; exact h2
  | inr q_l => rw [gloop_inr h1]; exact ⟨q_l, rfl, h2⟩
noncomputable def CB (x : Nat ⊕ (Nat → Int)) (s : gS) (r : gO) : Prop := r.1 = 1 ∧ Df s r.2.2.2 ∧ ((∃ q : Nat, x = Sum.inl q ∧ r.2.1 = 0 ∧ gI r.2.2.2 1 3 = (q : Int)) ∨ (∃ W : Nat → Int, x = Sum.inr W ∧ r.2.1 = 1 ∧ ∀ k, KK k → cv r.2.2.2 36 42 k = W k))
theorem Df_cw {w : gLW} (hg : Rg (cv s 36 42)) (hw : Rw w (cv s 36 42)) : Df s (cw w s) := by
  have q4_l : cv s 36 42 4 = gI s 42 4 := rfl
  obtain ⟨t_l, v1_l, v2, v3⟩ := w
  have hm_l := hw.2.1
  have h4 := hg.2.1
  unfold cw
  dsimp only at hm_l ⊢
  split
  · exact Df_w (Df_w (Df_w (Df_w (Df_r s) (by omega)) (by omega)) (by omega)) (by omega)
  · have := hm_l rfl
    exact Df_w (Df_w (Df_w (Df_w (Df_w (Df_w (Df_w (Df_r s) (by omega)) (by omega)) (by omega)) (by omega)) (by omega)) (by omega)) (by omega)
  · exact Df_w (Df_w (Df_w (Df_r s) (by omega)) (by omega)) (by omega)
  · exact Df_w (Df_w (Df_w (Df_r s) (by omega)) (by omega)) (by omega)
  · exact Df_w (Df_r s) (by omega)
  · exact Df_w (Df_r s) (by omega)
  · exact Df_w (Df_r s) (by omega)
  · exact Df_w (Df_r s) (by omega)
theorem Rd_df (h : Rd s) (hf : Df s s') : Rd s' := by
  unfold Rd at h ⊢
  simp only [hf.1.2.2]
  exact h
theorem CB_t {y : Nat ⊕ (Nat → Int)} {r : gO} (h : Df s s') (hc : CB y s' r) : CB y s r := ⟨hc.1, Df_t h hc.2.1, hc.2.2⟩
theorem rg_e {V' : Nat → Int} (h : Rg V) (hV : ∀ k, KK k → V' k = V k) : Rg V' := by
  unfold Rg at h ⊢
  rw [hV 3 (by unfold KK; decide), hV 4 (by unfold KK; decide), hV 5 (by unfold KK; decide), hV 6 (by unfold KK; decide)]
  exact h
theorem c_lp (n : Nat) : ∀ (x3 : Int) (f : Nat) (s : gS) (V : Nat → Int), 0 ≤ x3 → x3 + n = 14 → At s L e f → Rd s → Rg V → (∀ k, KK k → cv s 36 42 k = V k) → gT (gloop st_11_21 (6, 36, 42, x3, s)) (CB (rdl L e n f V) s) := by
  induction n with
  | zero =>
    intro x3 f s V h0 hx h_l hr hg hV
    refine gT_step ?_
    show gT (sb_11_21 6 36 42 x3 s) _
    unfold sb_11_21
    rw [if_neg (by omega)]
    exact gT_map (gT_ret ⟨rfl, Df_r s, Or.inl ⟨f, rfl, rfl, h_l.2.2.1⟩⟩)
  | succ n ih_l =>
    intro x3 f s V h0 hx h_l hr hg hV
    have hgc : Rg (cv s 36 42) := rg_e hg hV
    have hln : ln L e f (cv s 36 42) = ln L e f V := ln_S (hV 3 (by unfold KK; decide)) (hV 4 (by unfold KK; decide)) (hV 5 (by unfold KK; decide)) (hV 6 (by unfold KK; decide))
    refine gT_step ?_
    show gT (sb_11_21 6 36 42 x3 s) _
    unfold sb_11_21
    rw [if_pos (by omega)]
    unfold rdl
    refine gT_v1 (A := fun v_l z_l => (∃ q_l : Nat, ln L e f (cv s 36 42) = Sum.inl q_l ∧ v_l = 0 ∧ gI z_l 1 3 = (q_l : Int) ∧ Df s z_l) ∨ (∃ w_l g_l, ln L e f (cv s 36 42) = Sum.inr (w_l, g_l) ∧ v_l = 1 ∧ At z_l L e g_l ∧ Fr (cw w_l s) z_l)) (c_12 h_l hr hgc) (fun v7 s6_l h6 => ?_)
    rcases h6 with ⟨q_l, e1_l, e2_l, e3_l, e4_l⟩ | ⟨w_l, g_l, e1_l, e2_l, e3_l, e4_l⟩
    · rw [if_pos e2_l]
      rw [hln] at e1_l
      refine gT_map (gT_ret ⟨rfl, e4_l, Or.inl ⟨q_l, ?_, rfl, e3_l⟩⟩)
      rw [e1_l, eb_l]
    have hw : Rw w_l (cv s 36 42) := ln_w e1_l
    have hD : Df s s6_l := Df_t (Df_cw hgc hw) (Df_fr e4_l)
    have hr6 := Rd_df hr hD
    have hV6 : ∀ k, KK k → cv s6_l 36 42 k = av w_l V k := fun k hk => ((cv_fr e4_l hk).trans (cv_cw hw hgc hk)).trans (av_S (S := KK) hV (hV 3 (by unfold KK; decide)) (hV 4 (by unfold KK; decide)) (hV 5 (by unfold KK; decide)) (hV 6 (by unfold KK; decide)) hk)
    have hg6 : Rg (av w_l V) := av_rg (by rw [hln] at e1_l; exact ln_w e1_l) hg
    rw [hln] at e1_l
    rw [if_neg (by omega), e1_l, eb_r, hr6.1.1]
    refine gT_v1 (A := fun v_l z_l => z_l = s6_l ∧ ((v_l = 1 ∧ g_l = e) ∨ (v_l = 0 ∧ g_l < e))) (v_79 e3_l) (fun v10 s9 h9 => ?_)
    obtain ⟨i9_l, h9⟩ := h9
    rw [i9_l]
    rcases h9 with ⟨e9_l, e10_l⟩ | ⟨e9_l, e10_l⟩
    · rw [if_neg (by omega)]
      refine gT_map (gT_ret ⟨rfl, hD, Or.inr ⟨av w_l V, ?_, rfl, hV6⟩⟩)
      exact if_pos e10_l
    rw [if_pos e9_l, hr6.1.1]
    refine gT_v1 (A := fun v_l z_l => Fr s6_l z_l ∧ ((v_l = 1 ∧ (g_l < e ∧ L g_l = 59) ∧ At z_l L e (nx L e g_l)) ∨ (v_l = 0 ∧ ¬ (g_l < e ∧ L g_l = 59) ∧ At z_l L e g_l))) (v_83 (by decide) e3_l) (fun v13 s12 h12 => ?_)
    have hD12 := Df_t hD (Df_fr h12.1)
    rw [if_neg (show ¬ g_l = e by omega)]
    rcases h12.2 with ⟨e11_l, e12_l, e13_l⟩ | ⟨e11_l, e12_l, e13_l⟩
    · rw [if_neg (by omega), g32_eq (v := x3 + 1) (by omega) (by omega), if_pos e12_l.2]
      refine gT_ret ?_
      show gT (gloop st_11_21 (6, 36, 42, x3 + 1, s12)) _
      refine gT_mono (ih_l (x3 + 1) (nx L e g_l) s12 (av w_l V) (by omega) (by omega) e13_l (Rd_df hr hD12) hg6 (fun k hk => (cv_fr h12.1 hk).trans (hV6 k hk))) (fun r_l hc_l => CB_t hD12 hc_l)
    · rw [if_pos e11_l, if_neg (fun z_l => e12_l ⟨e10_l, z_l⟩)]
      exact gT_map (gT_ret ⟨rfl, hD12, Or.inl ⟨g_l, rfl, rfl, e13_l.2.2.1⟩⟩)
/-- reads: the whole text -/
theorem c_11 (hT : Tp s L e) (hr : Rd s) (hg : Rg (cv s 36 42)) : gT (f_11 6 36 42 s) (CB (rdb L e (cv s 36 42)) s) := by
  unfold f_11
  rw [hr.1.1]
  refine gT_v0 (A := fun z_l => Fr s z_l ∧ At z_l L e (sk L e 0)) ?_ (fun s1_l h1 => ?_)
  · unfold f_77
    have hTw : Tp (gw s 1 4 0) L e := ⟨hT.1, (rd_k (k := 1) rfl (by decide)).trans hT.2.1, hT.2.2.1, fun j_l => (rd_a (a := 2) rfl (by decide)).trans (hT.2.2.2 j_l)⟩
    refine gT_v0 (A := fun z_l => Fr (gw s 1 4 0) z_l ∧ gI z_l 1 3 = ((sk L e 0 : Nat) : Int) ∧ gI z_l 1 2 = kd L e (sk L e 0) ∧ gI z_l 1 4 = ((en L e (sk L e 0) : Nat) : Int)) (v_78 (a := 0) hTw (rd_same rfl) (by omega)) (fun s3_l h3 => ?_)
    have hf : Fr s s3_l := Fr_t (Fr_w (Fr_r s) t10 (Or.inr (Or.inr rfl))) h3.1
    exact gT_ret ⟨rfl, hf, Tp_fr hT hf, ⟨(sk_b (by omega)).2, sk_i⟩, h3.2.1, h3.2.2.1, h3.2.2.2⟩
  have hr1 := Rd_fr hr h1.1
  rw [hr1.1.1]
  refine gT_v1 (A := fun v_l z_l => z_l = s1_l ∧ ((v_l = 1 ∧ sk L e 0 = e) ∨ (v_l = 0 ∧ sk L e 0 < e))) (v_79 h1.2) (fun v4_l s3_l h3 => ?_)
  obtain ⟨i3_l, h3⟩ := h3
  rw [i3_l]
  have hV : ∀ k_l, KK k_l → cv s1_l 36 42 k_l = cv s 36 42 k_l := fun k_l hk => cv_fr h1.1 hk
  unfold rdb
  rcases h3 with ⟨e1_l, e2_l⟩ | ⟨e1_l, e2_l⟩
  · rw [if_neg (by omega), if_pos e2_l]
    exact gT_ret ⟨rfl, Df_fr h1.1, Or.inr ⟨_, rfl, rfl, hV⟩⟩
  · rw [if_pos e1_l, if_neg (by omega)]
    exact gT_mono (c_lp 14 0 (sk L e 0) s1_l (cv s 36 42) (by omega) (by omega) h1.2 hr1 hg hV) (fun r_l hc_l => CB_t (Df_fr h1.1) hc_l)
end Rl

end
section
/-! the model's lines -/
section Me
variable {s s' : gS} {L : Nat → Int} {e f a w w' : Nat} {lo hi : Int}
theorem Wd_e (h : gtx w = gtx w') : Wd L e w f = Wd L e w' f := by
  unfold Wd ch gsc
  rw [h]
theorem nb_e (h : gtx w = gtx w') : nb L e w lo hi f = nb L e w' lo hi f := by
  unfold nb
  rw [Wd_e h]
theorem tb_e (h : gtx w = gtx w') : tb L e w f = tb L e w' f := by
  unfold tb
  rw [Wd_e h]
end Me
theorem gl_m0 : ∀ w, w < 58 → 43 ≤ w → 1 ≤ (gtx w).length := by decide +kernel
theorem gl_m (w : Nat) (h1 : 43 ≤ w) (h2 : w < 58) : 1 ≤ (gtx w).length := gl_m0 w h2 h1
theorem ge_43 : gtx 43 = gtx 18 ∧ gtx 44 = gtx 19 ∧ gtx 45 = gtx 20 ∧ gtx 46 = gtx 21 ∧ gtx 47 = gtx 22 ∧ gtx 48 = gtx 23 ∧ gtx 49 = gtx 24 := by decide +kernel
theorem ge_50 : gtx 50 = gtx 13 ∧ gtx 51 = gtx 14 ∧ gtx 52 = gtx 15 ∧ gtx 53 = gtx 16 ∧ gtx 54 = gtx 17 ∧ gtx 55 = gtx 25 ∧ gtx 56 = gtx 26 ∧ gtx 57 = gtx 27 := by decide +kernel
/-- what the model's reading of a number, of letters, says -/
noncomputable def MBv (L : Nat → Int) (e : Nat) (s : gS) (x : Nat ⊕ (Int × Nat)) (v : Int) (t : gS) : Prop := Fm s t ∧ ((∃ q : Nat, x = Sum.inl q ∧ gI t 217 12 = (q : Int)) ∨ (∃ v' g, x = Sum.inr (v', g) ∧ v = v' ∧ gI t 217 12 = -1 ∧ ∃ b : Nat, gI t 217 11 = (b : Int) ∧ b ≤ e ∧ sk L e b = g))
section Mn
variable {s s' : gS} {L : Nat → Int} {e f a w w' : Nat} {lo hi : Int}
theorem nx_b (hf : f ≤ e) : nx L e f ≤ e := (sk_b (en_b hf).2.1).2
theorem nm_x (hfe : f ≤ e) (h : Nm L e f lo hi) : dr L e f ≤ e ∧ sk L e (dr L e f) = nx L e f := by
  have h1 := en_d h
  have h2 := (en_b (L := L) hfe).2.1
  unfold nx
  rw [h1] at h2 ⊢
  exact ⟨h2, rfl⟩
theorem tr_x (hfe : f ≤ e) (h : Tr L e f) : lr L e f ≤ e ∧ sk L e (lr L e f) = nx L e f := by
  have h1 := en_t h
  have h2 := (en_b (L := L) hfe).2.1
  unfold nx
  rw [h1] at h2 ⊢
  exact ⟨h2, rfl⟩
theorem m175 (hw : 43 ≤ w ∧ w < 58) (hww : gtx w = gtx w') (hM : Mp s L e) (hL : ∀ k, 0 ≤ L k ∧ L k ≤ 255) (ha : gI s 217 11 = (a : Int)) (hae : a ≤ e) (hz : gI s 217 12 = -1) (hf : sk L e a = f) : gT (f_175 217 w lo hi s) (fun r => r.1 = 1 ∧ MBv L e s (nb L e w' lo hi f) r.2.1 r.2.2.2) := by
  have hfe : f ≤ e := by rw [← hf]; exact (sk_b hae).2
  refine gT_mono (w_175 (gl_m w hw.1 hw.2) hM hL ha hae hz hf.symm) (fun r hr => ⟨hr.1, hr.2.1, ?_⟩)
  rw [← nb_e hww]
  rcases hr.2.2 with ⟨h1, h2, h3, h4, h5⟩ | ⟨h1, h3⟩ | ⟨h1, h2, h3⟩
  · obtain ⟨n1_l, n2_l⟩ := nm_x (nx_b hfe) h2
    exact Or.inr ⟨_, _, by unfold nb; rw [cif_p h1, cif_p h2], h3, h4, _, h5, n1_l, n2_l⟩
  · exact Or.inl ⟨_, by unfold nb; rw [cif_n h1], h3⟩
  · exact Or.inl ⟨_, by unfold nb; rw [cif_p h1, cif_n h2], h3⟩
theorem m176 (hw : 43 ≤ w ∧ w < 58) (hww : gtx w = gtx w') (hM : Mp s L e) (ha : gI s 217 11 = (a : Int)) (hae : a ≤ e) (hz : gI s 217 12 = -1) (hf : sk L e a = f) : gT (f_176 217 w s) (fun r => r.1 = 1 ∧ MBv L e s (tb L e w' f) r.2.1 r.2.2.2) := by
  have hfe : f ≤ e := by rw [← hf]; exact (sk_b hae).2
  refine gT_mono (w_176 (gl_m w hw.1 hw.2) hM ha hae hz hf.symm) (fun r hr => ⟨hr.1, hr.2.1, ?_⟩)
  rw [← tb_e hww]
  rcases hr.2.2 with ⟨h1, h2, h3, h4, h5⟩ | ⟨h1, h3⟩ | ⟨h1, h2, h3⟩
  · obtain ⟨n1_l, n2_l⟩ := tr_x (nx_b hfe) h2
    exact Or.inr ⟨_, _, by unfold tb; rw [cif_p h1, cif_p h2], h3, h4, _, h5, n1_l, n2_l⟩
  · exact Or.inl ⟨_, by unfold tb; rw [cif_n h1], h3⟩
  · exact Or.inl ⟨_, by unfold tb; rw [cif_p h1, cif_n h2], h3⟩
/-- where something is wrong already nothing is read -/
theorem z175 (hz : gI s 217 12 ≠ -1) : gT (f_175 217 w lo hi s) (fun r => r.1 = 1 ∧ r.2.2.2 = s) := by
  unfold f_175
  rw [if_neg hz]
  unfold fb_175_24
  refine gT_v1 (A := fun _ z_l => z_l = s) (w_174z hz) (fun v2 s1_l h1 => ?_)
  rw [h1]
  exact gT_ret ⟨rfl, rfl⟩
theorem z176 (hz : gI s 217 12 ≠ -1) : gT (f_176 217 w s) (fun r => r.1 = 1 ∧ r.2.2.2 = s) := by
  unfold f_176
  rw [if_neg hz]
  unfold fb_176_24
  rw [if_neg hz]
  exact gT_ret ⟨rfl, rfl⟩
end Mn
/-- what a line writes into the row -/
noncomputable def mw (w : gLW) (s : gS) : gS := match w.1 with
  | 0 => gw (gw (gw (gw s 218 (16 + 3 * (gI s 218 3).toNat + 0) w.2.1) 218 (16 + 3 * (gI s 218 3).toNat + 1) w.2.2.1) 218 (16 + 3 * (gI s 218 3).toNat + 2) w.2.2.2) 218 3 (gI s 218 3 + 1)
  | 1 => gw (gw (gw (gw (gw (gw (gw s 218 (40 + 6 * (gI s 218 4).toNat + 0) w.2.1) 218 (40 + 6 * (gI s 218 4).toNat + 1) w.2.2.1) 218 (40 + 6 * (gI s 218 4).toNat + 2) w.2.2.2) 218 (40 + 6 * (gI s 218 4).toNat + 3) 0) 218 (40 + 6 * (gI s 218 4).toNat + 4) 0) 218 (40 + 6 * (gI s 218 4).toNat + 5) 0) 218 4 (gI s 218 4 + 1)
  | 2 => gw (gw (gw s 218 (76 + 2 * (gI s 218 5).toNat + 0) w.2.1) 218 (76 + 2 * (gI s 218 5).toNat + 1) w.2.2.1) 218 5 (gI s 218 5 + 1)
  | 3 => gw (gw (gw s 218 (88 + 2 * (gI s 218 6).toNat + 0) w.2.1) 218 (88 + 2 * (gI s 218 6).toNat + 1) 0) 218 6 (gI s 218 6 + 1)
  | 4 => gw s 218 8 w.2.1
  | 5 => gw s 218 10 w.2.1
  | 6 => gw s 218 11 w.2.1
  | _ => gw s 218 12 w.2.1
noncomputable def mv (s : gS) (k : Nat) : Int := gI s 218 k
section Mw
variable {s s' : gS} {L : Nat → Int} {e f a k : Nat} {w : gLW}
theorem rd8 {j i : Nat} {v : Int} : gI (gw s 218 j v) 218 i = if i = j then v else gI s 218 i := by
  show (if 218 = 218 ∧ i = j then v else gI s 218 i) = _
  by_cases h : i = j
  · rw [if_pos ⟨rfl, h⟩, if_pos h]
  · rw [if_neg (fun z_l => h z_l.2), if_neg h]
theorem mv_mw : mv (mw w s) k = av w (mv s) k := by
  obtain ⟨t_l, v1_l, v2, v3⟩ := w
  unfold mv mw av
  dsimp only
  split <;> simp only [rd8]
theorem Fm_ww {b j : Nat} {v : Int} (h : Fm s s') : Fm (gw s b j v) (gw s' b j v) := by
  refine ⟨h.1, fun c_l i_l hb_l => ?_⟩
  show (if c_l = b ∧ i_l = j then v else gI s' c_l i_l) = (if c_l = b ∧ i_l = j then v else gI s c_l i_l)
  rw [h.2 c_l i_l hb_l]
theorem Fm_mw (h : Fm s s') : Fm (mw w s) (mw w s') := by
  have hn : ∀ j_l, gI s' 218 j_l = gI s 218 j_l := fun j_l => h.2 218 j_l (by omega)
  unfold mw
  split
  · rw [hn 3]
    exact Fm_ww (Fm_ww (Fm_ww (Fm_ww h)))
  · rw [hn 4]
    exact Fm_ww (Fm_ww (Fm_ww (Fm_ww (Fm_ww (Fm_ww (Fm_ww h))))))
  · rw [hn 5]
    exact Fm_ww (Fm_ww (Fm_ww h))
  · rw [hn 6]
    exact Fm_ww (Fm_ww (Fm_ww h))
  · exact Fm_ww h
  · exact Fm_ww h
  · exact Fm_ww h
  · exact Fm_ww h
/-- only the reader's place and the row's first cells changed -/
noncomputable def Mf (s s' : gS) : Prop := (gn s' = gn s ∧ (∀ a, gK s' a = gK s a) ∧ ∀ a k, gR s' a k = gR s a k) ∧ ∀ a k, ¬ (a = 217 ∧ (k = 11 ∨ k = 12)) → ¬ (a = 218 ∧ k < 100) → gI s' a k = gI s a k
theorem Mf_r (s : gS) : Mf s s := ⟨⟨rfl, fun _ => rfl, fun _ _ => rfl⟩, fun _ _ _ _ => rfl⟩
theorem Mf_t {s2 : gS} (h : Mf s s') (h2 : Mf s' s2) : Mf s s2 := ⟨⟨h2.1.1.trans h.1.1, fun a_l => (h2.1.2.1 a_l).trans (h.1.2.1 a_l), fun a_l k_l => (h2.1.2.2 a_l k_l).trans (h.1.2.2 a_l k_l)⟩, fun a_l k_l hc_l hd_l => (h2.2 a_l k_l hc_l hd_l).trans (h.2 a_l k_l hc_l hd_l)⟩
theorem Mf_fm (h : Fm s s') : Mf s s' := ⟨h.1, fun a_l k_l hc_l _ => h.2 a_l k_l hc_l⟩
theorem Mf_w {j : Nat} {v : Int} (h : Mf s s') (hj : j < 100) : Mf s (gw s' 218 j v) := by
  refine ⟨h.1, fun b_l i_l hc_l hd_l => ?_⟩
  show (if b_l = 218 ∧ i_l = j then v else gI s' b_l i_l) = _
  rw [if_neg (fun z_l => hd_l (by omega))]
  exact h.2 b_l i_l hc_l hd_l
theorem Mf_mw (hg : Rg (mv s)) (hw : Rw w (mv s)) : Mf s (mw w s) := by
  obtain ⟨t_l, v1_l, v2, v3⟩ := w
  obtain ⟨w1_l, w2_l, w3_l, w4_l⟩ := hw
  obtain ⟨⟨a3, b3⟩, ⟨a4, b4⟩, ⟨a5, b5⟩, ⟨a6, b6⟩⟩ := hg
  unfold mv at w1_l w2_l w3_l w4_l a3 b3 a4 b4 a5 b5 a6 b6
  unfold mw
  dsimp only at w1_l w2_l w3_l w4_l ⊢
  split
  · have := w1_l rfl
    exact Mf_w (Mf_w (Mf_w (Mf_w (Mf_r s) (by omega)) (by omega)) (by omega)) (by omega)
  · have := w2_l rfl
    exact Mf_w (Mf_w (Mf_w (Mf_w (Mf_w (Mf_w (Mf_w (Mf_r s) (by omega)) (by omega)) (by omega)) (by omega)) (by omega)) (by omega)) (by omega)
  · have := w3_l rfl
    exact Mf_w (Mf_w (Mf_w (Mf_r s) (by omega)) (by omega)) (by omega)
  · have := w4_l rfl
    exact Mf_w (Mf_w (Mf_w (Mf_r s) (by omega)) (by omega)) (by omega)
  · exact Mf_w (Mf_r s) (by omega)
  · exact Mf_w (Mf_r s) (by omega)
  · exact Mf_w (Mf_r s) (by omega)
  · exact Mf_w (Mf_r s) (by omega)
end Mw

end
section
/-! the model reads a text of the book -/
noncomputable def ML (x : Nat ⊕ (gLW × Nat)) (L : Nat → Int) (e : Nat) (s t : gS) : Prop := (∃ q : Nat, x = Sum.inl q ∧ gI t 217 12 = (q : Int) ∧ Fm s t) ∨ (∃ w g, x = Sum.inr (w, g) ∧ Fm (mw w s) t ∧ gI t 217 12 = -1 ∧ ∃ b : Nat, gI t 217 11 = (b : Int) ∧ b ≤ e ∧ sk L e b = g)
/-- where the reader stands: a, and f is the next thing -/
noncomputable def Mat (s : gS) (L : Nat → Int) (e f : Nat) : Prop := Mp s L e ∧ gI s 217 12 = -1 ∧ ∃ a : Nat, gI s 217 11 = (a : Int) ∧ a ≤ e ∧ sk L e a = f
section Mr
variable {s s' : gS} {L : Nat → Int} {e f g q w w' : Nat} {v1 v2 v3 lo hi c j : Int} {x : Nat ⊕ (gLW × Nat)}
theorem ix3 (h : 0 ≤ c ∧ c ≤ 8) (hj : 0 ≤ j ∧ j ≤ 2) : g32 (g32 (16 + g32 (3 * c)) + j) = 16 + 3 * c + j := by
  rw [g32_eq (v := 3 * c) (by omega) (by omega), g32_eq (v := 16 + 3 * c) (by omega) (by omega), g32_eq (by omega) (by omega)]
theorem x_177 (hR : gR s 217 1 = 218) (h0 : 0 ≤ gI s 218 3) (h8 : gI s 218 3 < 8) : gT (gchk (g32 ((g32 (16 + (g32 (3 * (gI s (gR s 217 1) 3))))) + 0)) 740 (gchk (g32 ((g32 (16 + (g32 (3 * (gI s (gR s 217 1) 3))))) + 1)) 740 (gchk (g32 ((g32 (16 + (g32 (3 * (gI s (gR s 217 1) 3))))) + 2)) 740 (some ((0, 0, 0, gw (gw (gw (gw s (gR s 217 1) (g32 ((g32 (16 + (g32 (3 * (gI s (gR s 217 1) 3))))) + 0)).toNat v1) (gR s 217 1) (g32 ((g32 (16 + (g32 (3 * (gI s (gR s 217 1) 3))))) + 1)).toNat v2) (gR s 217 1) (g32 ((g32 (16 + (g32 (3 * (gI s (gR s 217 1) 3))))) + 2)).toNat v3) (gR s 217 1) 3 (g32 (gI (gw (gw (gw s (gR s 217 1) (g32 ((g32 (16 + (g32 (3 * (gI s (gR s 217 1) 3))))) + 0)).toNat v1) (gR s 217 1) (g32 ((g32 (16 + (g32 (3 * (gI s (gR s 217 1) 3))))) + 1)).toNat v2) (gR s 217 1) (g32 ((g32 (16 + (g32 (3 * (gI s (gR s 217 1) 3))))) + 2)).toNat v3) (gR s 217 1) 3 + 1))) : gO))))) (fun r => r.1 = 0 ∧ r.2.2.2 = mw (0, v1, v2, v3) s) := by
  rw [hR]
  have i0_l := ix3 (c := gI s 218 3) (j := 0) (by omega) (by omega)
  have i1_l := ix3 (c := gI s 218 3) (j := 1) (by omega) (by omega)
  have i2_l := ix3 (c := gI s 218 3) (j := 2) (by omega) (by omega)
  have n0_l : (16 + 3 * gI s 218 3 + 0).toNat = 16 + 3 * (gI s 218 3).toNat + 0 := by omega
  have n1_l : (16 + 3 * gI s 218 3 + 1).toNat = 16 + 3 * (gI s 218 3).toNat + 1 := by omega
  have n2_l : (16 + 3 * gI s 218 3 + 2).toNat = 16 + 3 * (gI s 218 3).toNat + 2 := by omega
  rw [i0_l, i1_l, i2_l, n0_l, n1_l, n2_l]
  have hc_l : gI (gw (gw (gw s 218 (16 + 3 * (gI s 218 3).toNat + 0) v1) 218 (16 + 3 * (gI s 218 3).toNat + 1) v2) 218 (16 + 3 * (gI s 218 3).toNat + 2) v3) 218 3 = gI s 218 3 := by
    rw [rd8, if_neg (by omega), rd8, if_neg (by omega), rd8, if_neg (by omega)]
  rw [hc_l, g32_eq (v := gI s 218 3 + 1) (by omega) (by omega)]
  exact gT_chk (by omega) (by omega) (gT_chk (by omega) (by omega) (gT_chk (by omega) (by omega) (gT_ret ⟨rfl, rfl⟩)))
theorem x_157 (hR : gR s 217 1 = 218) (hx : 0 ≤ c ∧ c ≤ 6) (hj : 0 ≤ j ∧ j ≤ 5) : gT (f_157 217 c j v1 s) (fun r => r.1 = 0 ∧ r.2.2.2 = gw s 218 (40 + 6 * c.toNat + j.toNat) v1) := by
  have i0_l : g32 (g32 (40 + g32 (6 * c)) + j) = 40 + 6 * c + j := by
    rw [g32_eq (v := 6 * c) (by omega) (by omega), g32_eq (v := 40 + 6 * c) (by omega) (by omega), g32_eq (by omega) (by omega)]
  have n0_l : (40 + 6 * c + j).toNat = 40 + 6 * c.toNat + j.toNat := by omega
  unfold f_157
  rw [i0_l, hR, n0_l]
  exact gT_chk (by omega) (by omega) (gT_ret ⟨rfl, rfl⟩)
theorem ML_f (hx : x = Sum.inl q) (h1 : gI s' 217 12 = (q : Int)) (hf : Fm s s') : ML x L e s s' := Or.inl ⟨q, hx, h1, hf⟩
theorem ML_r {y : gLW} {t : gS} (hx : x = Sum.inr (y, g)) (hf : Fm s t) (hz : gI (mw y t) 217 12 = -1) (hb : ∃ b : Nat, gI (mw y t) 217 11 = (b : Int) ∧ b ≤ e ∧ sk L e b = g) : ML x L e s (mw y t) := Or.inr ⟨y, g, hx, Fm_mw hf, hz, hb⟩
theorem mw_7 {y : gLW} {k : Nat} : gI (mw y s) 217 k = gI s 217 k := by
  unfold mw
  split <;> simp only [rd_a rfl (show (217 : Nat) ≠ 218 by decide)]
/-- a word and a number, where nothing is wrong; where something is -/
theorem y175 (hw : 43 ≤ w ∧ w < 58) (hww : gtx w = gtx w') (hL : ∀ k, 0 ≤ L k ∧ L k ≤ 255) (h : Mat s L e f) : gT (f_175 217 w lo hi s) (fun r => r.1 = 1 ∧ MBv L e s (nb L e w' lo hi f) r.2.1 r.2.2.2) := by
  obtain ⟨hM_l, hz, a_l, ha_l, hae, hf⟩ := h
  exact m175 hw hww hM_l hL ha_l hae hz hf
theorem y176 (hw : 43 ≤ w ∧ w < 58) (hww : gtx w = gtx w') (h : Mat s L e f) : gT (f_176 217 w s) (fun r => r.1 = 1 ∧ MBv L e s (tb L e w' f) r.2.1 r.2.2.2) := by
  obtain ⟨hM_l, hz, a_l, ha_l, hae, hf⟩ := h
  exact m176 hw hww hM_l ha_l hae hz hf
theorem Mat_b (h : Mp s L e) (hf : Fm s s') (hz : gI s' 217 12 = -1) (hb : ∃ b : Nat, gI s' 217 11 = (b : Int) ∧ b ≤ e ∧ sk L e b = g) : Mat s' L e g := ⟨Mp_fr h hf, hz, hb⟩
theorem z177 (hz : gI s 217 12 ≠ -1) : gT (fb_177_16 217 s) (fun r => r.1 = 0 ∧ r.2.2.2 = s) := by
  unfold fb_177_16
  refine gT_v1 (A := fun _ z_l => z_l = s) (z175 hz) (fun v4_l s3_l h3 => ?_)
  rw [h3]
  refine gT_v1 (A := fun _ z_l => z_l = s) (z175 hz) (fun v6 s5 h5 => ?_)
  rw [h5]
  refine gT_v1 (A := fun _ z_l => z_l = s) (z175 hz) (fun v8 s7 h7 => ?_)
  rw [h7, if_neg hz]
  exact gT_ret ⟨rfl, rfl⟩
theorem z178 (hz : gI s 217 12 ≠ -1) : gT (fb_178_16 217 s) (fun r => r.1 = 0 ∧ r.2.2.2 = s) := by
  unfold fb_178_16
  refine gT_v1 (A := fun _ z_l => z_l = s) (z175 hz) (fun v4_l s3_l h3 => ?_)
  rw [h3]
  refine gT_v1 (A := fun _ z_l => z_l = s) (z175 hz) (fun v6 s5 h5 => ?_)
  rw [h5]
  refine gT_v1 (A := fun _ z_l => z_l = s) (z176 hz) (fun v8 s7 h7 => ?_)
  rw [h7, if_neg hz]
  exact gT_ret ⟨rfl, rfl⟩
theorem z179 (hz : gI s 217 12 ≠ -1) : gT (fb_179_16 217 s) (fun r => r.1 = 0 ∧ r.2.2.2 = s) := by
  unfold fb_179_16
  refine gT_v1 (A := fun _ z_l => z_l = s) (z175 hz) (fun v4_l s3_l h3 => ?_)
  rw [h3]
  refine gT_v1 (A := fun _ z_l => z_l = s) (z176 hz) (fun v6 s5 h5 => ?_)
  rw [h5, if_neg hz]
  exact gT_ret ⟨rfl, rfl⟩
theorem z180 (hz : gI s 217 12 ≠ -1) : gT (fb_180_17 217 s) (fun r => r.1 = 0 ∧ r.2.2.2 = s) := by
  unfold fb_180_17
  refine gT_v1 (A := fun _ z_l => z_l = s) (w_174z hz) (fun v4_l s3_l h3 => ?_)
  rw [h3, if_neg hz]
  exact gT_ret ⟨rfl, rfl⟩
theorem qz (h : gI s 217 12 = (q : Int)) : gI s 217 12 ≠ -1 := by omega
theorem m_177 (hL : ∀ k, 0 ≤ L k ∧ L k ≤ 255) (h : Mat s L e g) (h0 : 0 ≤ gI s 218 3) (h8 : gI s 218 3 ≤ 8) : gT (f_177 217 (f : Int) s) (fun r => r.1 = 0 ∧ ML (if gI s 218 3 < 8 then lnS L e g else Sum.inl f) L e s r.2.2.2) := by
  have hR := h.1.2.1.1
  unfold f_177
  rw [hR]
  refine gT_ite (fun c8_l => ?_) (fun c8_l => ?_)
  · refine gT_v0 (A := fun z_l => Fm s z_l ∧ gI z_l 217 11 = gI s 217 11 ∧ gI z_l 217 12 = if gI s 217 12 = -1 then (f : Int) else gI s 217 12) w_172 (fun s1_l h1 => ?_)
    have hz := h1.2.2
    rw [if_pos h.2.1] at hz
    refine gT_mono (z177 (qz hz)) (fun r hr => ⟨hr.1, ?_⟩)
    rw [hr.2, if_neg (by omega)]
    exact ML_f rfl hz h1.1
  rw [if_pos (show gI s 218 3 < 8 by omega)]
  unfold fb_177_16
  refine gT_v1 (A := MBv L e s (nb L e 18 1 30 g)) (y175 (by decide) ge_43.1 hL h) (fun v4_l s3_l h3 => ?_)
  rcases h3.2 with ⟨q_l, e1_l, e2_l⟩ | ⟨u1_l, g1, e1_l, e2_l, e3_l, e4_l⟩
  · have hz := qz e2_l
    refine gT_v1 (A := fun _ z_l => z_l = s3_l) (z175 hz) (fun v6 s5 h5 => ?_)
    rw [h5]
    refine gT_v1 (A := fun _ z_l => z_l = s3_l) (z175 hz) (fun v8 s7 h7 => ?_)
    rw [h7, if_neg hz]
    exact gT_ret ⟨rfl, ML_f (by unfold lnS; rw [e1_l, eb_l]) e2_l h3.1⟩
  refine gT_v1 (A := MBv L e s3_l (nb L e 19 0 99 g1)) (y175 (by decide) ge_43.2.1 hL (Mat_b h.1 h3.1 e3_l e4_l)) (fun v6 s5 h5 => ?_)
  have hf5 := Fm_t h3.1 h5.1
  rcases h5.2 with ⟨q_l, e5_l, e6_l⟩ | ⟨u2_l, g2, e5_l, e6_l, e7_l, e8⟩
  · have hz := qz e6_l
    refine gT_v1 (A := fun _ z_l => z_l = s5) (z175 hz) (fun v8 s7 h7 => ?_)
    rw [h7, if_neg hz]
    exact gT_ret ⟨rfl, ML_f (by unfold lnS; rw [e1_l, eb_r, e5_l, eb_l]) e6_l hf5⟩
  refine gT_v1 (A := MBv L e s5 (nb L e 20 0 50 g2)) (y175 (by decide) ge_43.2.2.1 hL (Mat_b h.1 hf5 e7_l e8)) (fun v8 s7 h7 => ?_)
  have hf7 := Fm_t hf5 h7.1
  rcases h7.2 with ⟨q_l, e9_l, e10_l⟩ | ⟨u3, g3_l, e9_l, e10_l, e11_l, e12_l⟩
  · rw [if_neg (qz e10_l)]
    exact gT_ret ⟨rfl, ML_f (by unfold lnS; rw [e1_l, eb_r, e5_l, eb_r, e9_l, eb_l]) e10_l hf7⟩
  rw [if_pos e11_l]
  have hc_l : gI s7 218 3 = gI s 218 3 := hf7.2 218 3 (by omega)
  have hR7 : gR s7 217 1 = 218 := (hf7.1.2.2 217 1).trans hR
  refine gT_mono (x_177 (s := s7) (v1 := v4_l) (v2 := v6) (v3 := v8) hR7 (by omega) (by omega)) (fun r hr => ⟨hr.1, ?_⟩)
  rw [hr.2]
  exact ML_r (by unfold lnS; rw [e1_l, eb_r, e5_l, eb_r, e9_l, eb_r, e2_l, e6_l, e10_l]) hf7 (mw_7.trans e11_l) (by rw [mw_7]; exact e12_l)
theorem m_178 (hL : ∀ k, 0 ≤ L k ∧ L k ≤ 255) (h : Mat s L e g) (h0 : 0 ≤ gI s 218 4) (h8 : gI s 218 4 ≤ 6) : gT (f_178 217 (f : Int) s) (fun r => r.1 = 0 ∧ ML (if gI s 218 4 < 6 then lnM L e g else Sum.inl f) L e s r.2.2.2) := by
  have hR := h.1.2.1.1
  unfold f_178
  rw [hR]
  refine gT_ite (fun c8_l => ?_) (fun c8_l => ?_)
  · refine gT_v0 (A := fun z_l => Fm s z_l ∧ gI z_l 217 11 = gI s 217 11 ∧ gI z_l 217 12 = if gI s 217 12 = -1 then (f : Int) else gI s 217 12) w_172 (fun s1_l h1 => ?_)
    have hz := h1.2.2
    rw [if_pos h.2.1] at hz
    refine gT_mono (z178 (qz hz)) (fun r hr => ⟨hr.1, ?_⟩)
    rw [hr.2, if_neg (by omega)]
    exact ML_f rfl hz h1.1
  rw [if_pos (show gI s 218 4 < 6 by omega)]
  unfold fb_178_16
  refine gT_v1 (A := MBv L e s (nb L e 21 0 99 g)) (y175 (by decide) ge_43.2.2.2.1 hL h) (fun v4_l s3_l h3 => ?_)
  rcases h3.2 with ⟨q_l, e1_l, e2_l⟩ | ⟨u1_l, g1, e1_l, e2_l, e3_l, e4_l⟩
  · have hz := qz e2_l
    refine gT_v1 (A := fun _ z_l => z_l = s3_l) (z175 hz) (fun v6 s5 h5 => ?_)
    rw [h5]
    refine gT_v1 (A := fun _ z_l => z_l = s3_l) (z176 hz) (fun v8 s7 h7 => ?_)
    rw [h7, if_neg hz]
    exact gT_ret ⟨rfl, ML_f (by unfold lnM; rw [e1_l, eb_l]) e2_l h3.1⟩
  refine gT_v1 (A := MBv L e s3_l (nb L e 22 0 9 g1)) (y175 (by decide) ge_43.2.2.2.2.1 hL (Mat_b h.1 h3.1 e3_l e4_l)) (fun v6 s5 h5 => ?_)
  have hf5 := Fm_t h3.1 h5.1
  rcases h5.2 with ⟨q_l, e5_l, e6_l⟩ | ⟨u2_l, g2, e5_l, e6_l, e7_l, e8⟩
  · have hz := qz e6_l
    refine gT_v1 (A := fun _ z_l => z_l = s5) (z176 hz) (fun v8 s7 h7 => ?_)
    rw [h7, if_neg hz]
    exact gT_ret ⟨rfl, ML_f (by unfold lnM; rw [e1_l, eb_r, e5_l, eb_l]) e6_l hf5⟩
  refine gT_v1 (A := MBv L e s5 (tb L e 23 g2)) (y176 (by decide) ge_43.2.2.2.2.2.1 (Mat_b h.1 hf5 e7_l e8)) (fun v8 s7 h7 => ?_)
  have hf7 := Fm_t hf5 h7.1
  rcases h7.2 with ⟨q_l, e9_l, e10_l⟩ | ⟨u3, g3_l, e9_l, e10_l, e11_l, e12_l⟩
  · rw [if_neg (qz e10_l)]
    exact gT_ret ⟨rfl, ML_f (by unfold lnM; rw [e1_l, eb_r, e5_l, eb_r, e9_l, eb_l]) e10_l hf7⟩
  rw [if_pos e11_l]
  have hc_l : gI s7 218 4 = gI s 218 4 := hf7.2 218 4 (by omega)
  have hR7 : gR s7 217 1 = 218 := (hf7.1.2.2 217 1).trans hR
  rw [hR7]
  have b7 : 0 ≤ gI s7 218 4 ∧ gI s7 218 4 ≤ 6 := by omega
  refine gT_v0 (A := fun z_l => z_l = gw s7 218 (40 + 6 * (gI s7 218 4).toNat + 0) v4_l) (x_157 hR7 b7 (by decide)) (fun s10 h10 => ?_)
  rw [h10]
  refine gT_v0 (A := fun z_l => z_l = gw (gw s7 218 (40 + 6 * (gI s7 218 4).toNat + 0) v4_l) 218 (40 + 6 * (gI s7 218 4).toNat + 1) v6) (x_157 hR7 b7 (by decide)) (fun s12 h12 => ?_)
  rw [h12]
  refine gT_v0 (A := fun z_l => z_l = gw (gw (gw s7 218 (40 + 6 * (gI s7 218 4).toNat + 0) v4_l) 218 (40 + 6 * (gI s7 218 4).toNat + 1) v6) 218 (40 + 6 * (gI s7 218 4).toNat + 2) v8) (x_157 hR7 b7 (by decide)) (fun s14 h14 => ?_)
  rw [h14]
  refine gT_v0 (A := fun z_l => z_l = gw (gw (gw (gw s7 218 (40 + 6 * (gI s7 218 4).toNat + 0) v4_l) 218 (40 + 6 * (gI s7 218 4).toNat + 1) v6) 218 (40 + 6 * (gI s7 218 4).toNat + 2) v8) 218 (40 + 6 * (gI s7 218 4).toNat + 3) 0) (x_157 hR7 b7 (by decide)) (fun s16 h16_l => ?_)
  rw [h16_l]
  refine gT_v0 (A := fun z_l => z_l = gw (gw (gw (gw (gw s7 218 (40 + 6 * (gI s7 218 4).toNat + 0) v4_l) 218 (40 + 6 * (gI s7 218 4).toNat + 1) v6) 218 (40 + 6 * (gI s7 218 4).toNat + 2) v8) 218 (40 + 6 * (gI s7 218 4).toNat + 3) 0) 218 (40 + 6 * (gI s7 218 4).toNat + 4) 0) (x_157 hR7 b7 (by decide)) (fun s18 h18 => ?_)
  rw [h18]
  refine gT_v0 (A := fun z_l => z_l = gw (gw (gw (gw (gw (gw s7 218 (40 + 6 * (gI s7 218 4).toNat + 0) v4_l) 218 (40 + 6 * (gI s7 218 4).toNat + 1) v6) 218 (40 + 6 * (gI s7 218 4).toNat + 2) v8) 218 (40 + 6 * (gI s7 218 4).toNat + 3) 0) 218 (40 + 6 * (gI s7 218 4).toNat + 4) 0) 218 (40 + 6 * (gI s7 218 4).toNat + 5) 0) (x_157 hR7 b7 (by decide)) (fun s20 h20 => ?_)
  have hR20 : gR s20 217 1 = 218 := by rw [h20]; exact hR7
  have h4 : gI s20 218 4 = gI s7 218 4 := by
    rw [h20, rd8, if_neg (by omega), rd8, if_neg (by omega), rd8, if_neg (by omega), rd8, if_neg (by omega), rd8, if_neg (by omega), rd8, if_neg (by omega)]
  rw [hR20, h4, g32_eq (v := gI s7 218 4 + 1) (by omega) (by omega), h20]
  exact gT_ret ⟨rfl, ML_r (y := (1, v4_l, v6, v8)) (t := s7) (by unfold lnM; rw [e1_l, eb_r, e5_l, eb_r, e9_l, eb_r, e2_l, e6_l, e10_l]) hf7 (mw_7.trans e11_l) (by rw [mw_7]; exact e12_l)⟩
end Mr

end
section
section Ms
variable {s s' : gS} {L : Nat → Int} {e f g q w w' : Nat} {v1 v2 v3 lo hi c j : Int} {x : Nat ⊕ (gLW × Nat)}
theorem ix2 {m : Int} (hm : 76 ≤ m ∧ m ≤ 88) (h : 0 ≤ c ∧ c ≤ 6) (hj : 0 ≤ j ∧ j ≤ 1) : g32 (m + g32 (2 * c)) = m + 2 * c ∧ g32 (g32 (m + g32 (2 * c)) + j) = m + 2 * c + j := by
  rw [g32_eq (v := 2 * c) (by omega) (by omega), g32_eq (v := m + 2 * c) (by omega) (by omega), g32_eq (by omega) (by omega)]
  exact ⟨rfl, rfl⟩
theorem m_179 (hL : ∀ k, 0 ≤ L k ∧ L k ≤ 255) (h : Mat s L e g) (h0 : 0 ≤ gI s 218 5) (h8 : gI s 218 5 ≤ 6) : gT (f_179 217 (f : Int) s) (fun r => r.1 = 0 ∧ ML (if gI s 218 5 < 6 then lnT L e g else Sum.inl f) L e s r.2.2.2) := by
  have hR := h.1.2.1.1
  unfold f_179
  rw [hR]
  refine gT_ite (fun c8_l => ?_) (fun c8_l => ?_)
  · refine gT_v0 (A := fun z_l => Fm s z_l ∧ gI z_l 217 11 = gI s 217 11 ∧ gI z_l 217 12 = if gI s 217 12 = -1 then (f : Int) else gI s 217 12) w_172 (fun s1_l h1 => ?_)
    have hz := h1.2.2
    rw [if_pos h.2.1] at hz
    refine gT_mono (z179 (qz hz)) (fun r hr => ⟨hr.1, ?_⟩)
    rw [hr.2, if_neg (by omega)]
    exact ML_f rfl hz h1.1
  rw [if_pos (show gI s 218 5 < 6 by omega)]
  unfold fb_179_16
  refine gT_v1 (A := MBv L e s (nb L e 19 0 99 g)) (y175 (by decide) ge_43.2.1 hL h) (fun v4_l s3_l h3 => ?_)
  rcases h3.2 with ⟨q_l, e1_l, e2_l⟩ | ⟨u1_l, g1, e1_l, e2_l, e3_l, e4_l⟩
  · have hz := qz e2_l
    refine gT_v1 (A := fun _ z_l => z_l = s3_l) (z176 hz) (fun v8 s7 h7 => ?_)
    rw [h7, if_neg hz]
    exact gT_ret ⟨rfl, ML_f (by unfold lnT; rw [e1_l, eb_l]) e2_l h3.1⟩
  refine gT_v1 (A := MBv L e s3_l (tb L e 24 g1)) (y176 (by decide) ge_43.2.2.2.2.2.2 (Mat_b h.1 h3.1 e3_l e4_l)) (fun v8 s7 h7 => ?_)
  have hf7 := Fm_t h3.1 h7.1
  rcases h7.2 with ⟨q_l, e9_l, e10_l⟩ | ⟨u3, g3_l, e9_l, e10_l, e11_l, e12_l⟩
  · rw [if_neg (qz e10_l)]
    exact gT_ret ⟨rfl, ML_f (by unfold lnT; rw [e1_l, eb_r, e9_l, eb_l]) e10_l hf7⟩
  rw [if_pos e11_l]
  have hc_l : gI s7 218 5 = gI s 218 5 := hf7.2 218 5 (by omega)
  have hR7 : gR s7 217 1 = 218 := (hf7.1.2.2 217 1).trans hR
  have i0_l := (ix2 (m := 76) (c := gI s7 218 5) (j := 0) (by omega) (by omega) (by omega)).1
  have i1_l := g32_eq (v := 76 + 2 * gI s7 218 5 + 1) (by omega) (by omega)
  have n0_l : (76 + 2 * gI s7 218 5).toNat = 76 + 2 * (gI s7 218 5).toNat + 0 := by omega
  have n1_l : (76 + 2 * gI s7 218 5 + 1).toNat = 76 + 2 * (gI s7 218 5).toNat + 1 := by omega
  have c1_l : gI (gw s7 218 (76 + 2 * (gI s7 218 5).toNat + 0) v4_l) 218 5 = gI s7 218 5 := by rw [rd8, if_neg (by omega)]
  have c2_l : gI (gw (gw s7 218 (76 + 2 * (gI s7 218 5).toNat + 0) v4_l) 218 (76 + 2 * (gI s7 218 5).toNat + 1) v8) 218 5 = gI s7 218 5 := by rw [rd8, if_neg (by omega), c1_l]
  simp only [gR_w, hR7, i0_l, n0_l, c1_l, i1_l, n1_l, c2_l, g32_eq (v := gI s7 218 5 + 1) (by omega) (by omega)]
  refine gT_chk (by omega) (by omega) (gT_chk (by omega) (by omega) (gT_ret ⟨rfl, ?_⟩))
  exact ML_r (x := lnT L e g) (y := (2, v4_l, v8, 0)) (t := s7) (by unfold lnT; rw [e1_l, eb_r, e9_l, eb_r, e2_l, e10_l]) hf7 (mw_7.trans e11_l) (by rw [mw_7]; exact e12_l)
/-- a number behind a word that was just read -/
theorem y174 (hL : ∀ k, 0 ≤ L k ∧ L k ≤ 255) (hw : Wd L e w f) (h : Mat s L e (nx L e f)) : gT (f_174 217 lo hi s) (fun r => r.1 = 1 ∧ MBv L e s (nb L e w lo hi f) r.2.1 r.2.2.2) := by
  obtain ⟨hM_l, hz, a_l, ha_l, hae, hf⟩ := h
  have hfe : nx L e f ≤ e := by rw [← hf]; exact (sk_b hae).2
  refine gT_mono (w_174 hM_l hL ha_l hae hz) (fun r hr => ⟨hr.1, hr.2.1, ?_⟩)
  have h2 := hr.2.2
  rw [hf] at h2
  rcases h2 with ⟨h2, h3, h4, h5⟩ | ⟨h2, h3⟩
  · obtain ⟨n1_l, n2_l⟩ := nm_x hfe h2
    exact Or.inr ⟨_, _, by unfold nb; rw [cif_p hw, cif_p h2], h3, h4, _, h5, n1_l, n2_l⟩
  · exact Or.inl ⟨_, by unfold nb; rw [cif_p hw, cif_n h2], h3⟩
theorem m_180 (hL : ∀ k, 0 ≤ L k ∧ L k ≤ 255) (hw : Wd L e 16 f) (h : Mat s L e (nx L e f)) (h0 : 0 ≤ gI s 218 6) (h8 : gI s 218 6 ≤ 6) : gT (f_180 217 (f : Int) s) (fun r => r.1 = 0 ∧ ML (if gI s 218 6 < 6 then ln1 L e 3 16 999 f else Sum.inl f) L e s r.2.2.2) := by
  have hR := h.1.2.1.1
  unfold f_180
  rw [hR]
  refine gT_ite (fun c8_l => ?_) (fun c8_l => ?_)
  · refine gT_v0 (A := fun z_l => Fm s z_l ∧ gI z_l 217 11 = gI s 217 11 ∧ gI z_l 217 12 = if gI s 217 12 = -1 then (f : Int) else gI s 217 12) w_172 (fun s1_l h1 => ?_)
    have hz := h1.2.2
    rw [if_pos h.2.1] at hz
    refine gT_mono (z180 (qz hz)) (fun r hr => ⟨hr.1, ?_⟩)
    rw [hr.2, if_neg (by omega)]
    exact ML_f rfl hz h1.1
  rw [if_pos (show gI s 218 6 < 6 by omega)]
  unfold fb_180_17
  refine gT_v1 (A := MBv L e s (nb L e 16 0 999 f)) (y174 hL hw h) (fun v4_l s7 h7 => ?_)
  have hf7 := h7.1
  rcases h7.2 with ⟨q_l, e9_l, e10_l⟩ | ⟨u3, g3_l, e9_l, e10_l, e11_l, e12_l⟩
  · rw [if_neg (qz e10_l)]
    exact gT_ret ⟨rfl, ML_f (by unfold ln1; rw [e9_l, eb_l]) e10_l hf7⟩
  rw [if_pos e11_l]
  have hc_l : gI s7 218 6 = gI s 218 6 := hf7.2 218 6 (by omega)
  have hR7 : gR s7 217 1 = 218 := (hf7.1.2.2 217 1).trans hR
  have i0_l := (ix2 (m := 88) (c := gI s7 218 6) (j := 0) (by omega) (by omega) (by omega)).2
  have i1_l := (ix2 (m := 88) (c := gI s7 218 6) (j := 1) (by omega) (by omega) (by omega)).2
  have n0_l : (88 + 2 * gI s7 218 6 + 0).toNat = 88 + 2 * (gI s7 218 6).toNat + 0 := by omega
  have n1_l : (88 + 2 * gI s7 218 6 + 1).toNat = 88 + 2 * (gI s7 218 6).toNat + 1 := by omega
  have c1_l : gI (gw s7 218 (88 + 2 * (gI s7 218 6).toNat + 0) v4_l) 218 6 = gI s7 218 6 := by rw [rd8, if_neg (by omega)]
  have c2_l : gI (gw (gw s7 218 (88 + 2 * (gI s7 218 6).toNat + 0) v4_l) 218 (88 + 2 * (gI s7 218 6).toNat + 1) 0) 218 6 = gI s7 218 6 := by rw [rd8, if_neg (by omega), c1_l]
  simp only [gR_w, hR7, i0_l, n0_l, c1_l, i1_l, n1_l, c2_l, g32_eq (v := gI s7 218 6 + 1) (by omega) (by omega)]
  refine gT_chk (by omega) (by omega) (gT_chk (by omega) (by omega) (gT_ret ⟨rfl, ?_⟩))
  exact ML_r (y := (3, v4_l, 0, 0)) (t := s7) (by unfold ln1; rw [e9_l, eb_r, e10_l]) hf7 (mw_7.trans e11_l) (by rw [mw_7]; exact e12_l)
theorem m_181 {t k : Nat} (ht : ∀ v z, mw (t, v, 0, 0) z = gw z 218 k v) (hk : k < 100) (hL : ∀ k, 0 ≤ L k ∧ L k ≤ 255) (hw : Wd L e w f) (h : Mat s L e (nx L e f)) : gT (f_181 217 (k : Int) hi s) (fun r => r.1 = 0 ∧ ML (ln1 L e t w hi f) L e s r.2.2.2) := by
  have hR := h.1.2.1.1
  unfold f_181
  refine gT_v1 (A := MBv L e s (nb L e w 0 hi f)) (y174 hL hw h) (fun v4_l s7 h7 => ?_)
  have hf7 := h7.1
  rcases h7.2 with ⟨q_l, e9_l, e10_l⟩ | ⟨u3, g3_l, e9_l, e10_l, e11_l, e12_l⟩
  · rw [if_neg (qz e10_l)]
    exact gT_ret ⟨rfl, ML_f (by unfold ln1; rw [e9_l, eb_l]) e10_l hf7⟩
  have hR7 : gR s7 217 1 = 218 := (hf7.1.2.2 217 1).trans hR
  rw [if_pos e11_l, hR7]
  refine gT_chk (by omega) (by omega) (gT_ret ⟨rfl, ?_⟩)
  show ML _ L e s (gw s7 218 ((k : Int)).toNat v4_l)
  rw [Int.toNat_natCast, ← ht]
  exact ML_r (y := (t, v4_l, 0, 0)) (t := s7) (by unfold ln1; rw [e9_l, eb_r, e10_l]) hf7 (mw_7.trans e11_l) (by rw [mw_7]; exact e12_l)
/-- a word is looked for -/
noncomputable def Hz (s : gS) (L : Nat → Int) (e w f : Nat) (v : Int) (t : gS) : Prop := Fm s t ∧ ((v = 1 ∧ Wd L e w f ∧ Mat t L e (nx L e f)) ∨ (v = 0 ∧ ¬ Wd L e w f ∧ Mat t L e f ∧ gI t 217 11 = (f : Int)))
theorem y171 (hw : 43 ≤ w ∧ w < 58) (hww : gtx w = gtx w') (h : Mat s L e f) : gT (f_171 217 w s) (fun r => r.1 = 1 ∧ Hz s L e w' f r.2.1 r.2.2.2) := by
  obtain ⟨hM_l, hz, a_l, ha_l, hae, hf⟩ := h
  refine gT_mono (w_171 (gl_m w hw.1 hw.2) hM_l ha_l hae) (fun r hr => ⟨hr.1, hr.2.1, ?_⟩)
  rw [← Wd_e hww]
  have h3 := hr.2.2
  rw [hf] at h3
  have hfe : f ≤ e := by rw [← hf]; exact (sk_b hae).2
  have hz' := h3.1.trans hz
  rcases h3.2 with ⟨b1, b2, b3⟩ | ⟨b1, b2, b3⟩
  · have hen := en_w (gl_m w hw.1 hw.2) b2
    have hee := (en_b (L := L) hfe).2.1
    refine Or.inl ⟨b1, b2, Mp_fr hM_l hr.2.1, hz', _, b3, by omega, ?_⟩
    unfold nx
    rw [hen.1]
  · exact Or.inr ⟨b1, b2, ⟨Mp_fr hM_l hr.2.1, hz', f, b3, hfe, by rw [← hf]; exact sk_i⟩, b3⟩
theorem ML_t {t : gS} (h : Fm s s') (hm : ML x L e s' t) : ML x L e s t := by
  rcases hm with ⟨q_l, h1, h2, h3⟩ | ⟨y_l, g_l, h1, h2, h3⟩
  · exact Or.inl ⟨q_l, h1, h2, Fm_t h h3⟩
  · exact Or.inr ⟨y_l, g_l, h1, Fm_t (Fm_mw h) h2, h3⟩
theorem ML_v {z : Option gO} (h : gT z (fun r => r.1 = 0 ∧ ML x L e s r.2.2.2)) : gT (z.bind (gv0 (fun s1 => some (((0, 0, 0, s1) : gO))))) (fun r => r.1 = 0 ∧ ML x L e s r.2.2.2) :=
  gT_v0 (A := ML x L e s) h (fun s1 h1 => gT_ret ⟨rfl, h1⟩)
end Ms

end
section
section Mt
variable {s s' : gS} {L : Nat → Int} {e f : Nat} {V : Nat → Int} {x : Nat ⊕ (gLW × Nat)}
theorem m_182 (hL : ∀ k, 0 ≤ L k ∧ L k ≤ 255) (h : Mat s L e f) (hg : Rg (mv s)) : gT (f_182 217 s) (fun r => r.1 = 0 ∧ ML (ln L e f (mv s)) L e s r.2.2.2) := by
  unfold f_182 ln
  refine gT_v1 (A := fun v_l z_l => v_l = (f : Int) ∧ Fm s z_l ∧ Mat z_l L e f) ?_ (fun v2 s1_l h1 => ?_)
  · obtain ⟨hM_l, hz, a_l, ha_l, hae, hf⟩ := h
    refine gT_mono (w_173 hM_l ha_l hae) (fun r hr => ?_)
    rw [hf] at hr
    exact ⟨hr.1, hr.2.1, hr.2.2.1, Mp_fr hM_l hr.2.2.1, hr.2.2.2.1.trans hz, f, hr.2.2.2.2, by rw [← hf]; exact (sk_b hae).2, by rw [← hf]; exact sk_i⟩
  obtain ⟨i1_l, hf1, hm1⟩ := h1
  rw [i1_l]
  have gg : ∀ {t : gS}, Fm s t → ∀ k, gI t 218 k = mv s k := fun ht k => ht.2 218 k (by omega)
  obtain ⟨g1, g2, g3_l, g4⟩ := hg
  refine gT_v1 (A := Hz s1_l L e 13 f) (y171 (by decide) ge_50.1 hm1) (fun v4_l s3_l h3 => ?_)
  have hf3 := Fm_t hf1 h3.1
  rcases h3.2 with ⟨b1, b2, b3⟩ | ⟨b1, b2, b3, -⟩
  · rw [if_neg (by omega), cif_p b2]
    refine ML_v (gT_mono (m_177 hL b3 (by rw [gg hf3]; omega) (by rw [gg hf3]; omega)) (fun r hr => ⟨hr.1, ML_t hf3 ?_⟩))
    rw [← gg hf3 3]
    exact hr.2
  rw [if_pos b1, cif_n b2]
  refine gT_v1 (A := Hz s3_l L e 14 f) (y171 (by decide) ge_50.2.1 b3) (fun v7 s6_l h6 => ?_)
  have hf6 := Fm_t hf3 h6.1
  rcases h6.2 with ⟨b1, b2, b3⟩ | ⟨b1, b2, b3, -⟩
  · rw [if_neg (by omega), cif_p b2]
    refine ML_v (gT_mono (m_178 hL b3 (by rw [gg hf6]; omega) (by rw [gg hf6]; omega)) (fun r hr => ⟨hr.1, ML_t hf6 ?_⟩))
    rw [← gg hf6 4]
    exact hr.2
  rw [if_pos b1, cif_n b2]
  refine gT_v1 (A := Hz s6_l L e 15 f) (y171 (by decide) ge_50.2.2.1 b3) (fun v10 s9 h9 => ?_)
  have hf9 := Fm_t hf6 h9.1
  rcases h9.2 with ⟨b1, b2, b3⟩ | ⟨b1, b2, b3, -⟩
  · rw [if_neg (by omega), cif_p b2]
    refine ML_v (gT_mono (m_179 hL b3 (by rw [gg hf9]; omega) (by rw [gg hf9]; omega)) (fun r hr => ⟨hr.1, ML_t hf9 ?_⟩))
    rw [← gg hf9 5]
    exact hr.2
  rw [if_pos b1, cif_n b2]
  refine gT_v1 (A := Hz s9 L e 16 f) (y171 (by decide) ge_50.2.2.2.1 b3) (fun v13 s12 h12 => ?_)
  have hf12 := Fm_t hf9 h12.1
  rcases h12.2 with ⟨b1, b2, b3⟩ | ⟨b1, b2, b3, -⟩
  · rw [if_neg (by omega), cif_p b2]
    refine ML_v (gT_mono (m_180 hL b2 b3 (by rw [gg hf12]; omega) (by rw [gg hf12]; omega)) (fun r hr => ⟨hr.1, ML_t hf12 ?_⟩))
    rw [← gg hf12 6]
    exact hr.2
  rw [if_pos b1, cif_n b2]
  refine gT_v1 (A := Hz s12 L e 17 f) (y171 (by decide) ge_50.2.2.2.2.1 b3) (fun v16 s15 h15 => ?_)
  have hf15 := Fm_t hf12 h15.1
  rcases h15.2 with ⟨b1, b2, b3⟩ | ⟨b1, b2, b3, -⟩
  · rw [if_neg (by omega), cif_p b2]
    exact ML_v (gT_mono (m_181 (k := 8) (fun _ _ => rfl) (by decide) hL b2 b3) (fun r hr => ⟨hr.1, ML_t hf15 hr.2⟩))
  rw [if_pos b1, cif_n b2]
  refine gT_v1 (A := Hz s15 L e 25 f) (y171 (by decide) ge_50.2.2.2.2.2.1 b3) (fun v19 s18 h18 => ?_)
  have hf18 := Fm_t hf15 h18.1
  rcases h18.2 with ⟨b1, b2, b3⟩ | ⟨b1, b2, b3, -⟩
  · rw [if_neg (by omega), cif_p b2]
    exact ML_v (gT_mono (m_181 (k := 10) (fun _ _ => rfl) (by decide) hL b2 b3) (fun r hr => ⟨hr.1, ML_t hf18 hr.2⟩))
  rw [if_pos b1, cif_n b2]
  refine gT_v1 (A := Hz s18 L e 26 f) (y171 (by decide) ge_50.2.2.2.2.2.2.1 b3) (fun v22 s21 h21 => ?_)
  have hf21 := Fm_t hf18 h21.1
  rcases h21.2 with ⟨b1, b2, b3⟩ | ⟨b1, b2, b3, -⟩
  · rw [if_neg (by omega), cif_p b2]
    exact ML_v (gT_mono (m_181 (k := 11) (fun _ _ => rfl) (by decide) hL b2 b3) (fun r hr => ⟨hr.1, ML_t hf21 hr.2⟩))
  rw [if_pos b1, cif_n b2]
  refine gT_v1 (A := Hz s21 L e 27 f) (y171 (by decide) ge_50.2.2.2.2.2.2.2 b3) (fun v25 s24 h24 => ?_)
  have hf24 := Fm_t hf21 h24.1
  rcases h24.2 with ⟨b1, b2, b3⟩ | ⟨b1, b2, b3, b4⟩
  · rw [if_neg (by omega), cif_p b2]
    exact ML_v (gT_mono (m_181 (k := 12) (fun _ _ => rfl) (by decide) hL b2 b3) (fun r hr => ⟨hr.1, ML_t hf24 hr.2⟩))
  rw [if_pos b1, cif_n b2, b4]
  refine gT_v0 (A := fun z_l => Fm s24 z_l ∧ gI z_l 217 11 = gI s24 217 11 ∧ gI z_l 217 12 = if gI s24 217 12 = -1 then (f : Int) else gI s24 217 12) w_172 (fun s27 h27 => ?_)
  have hz := h27.2.2
  rw [if_pos b3.2.1] at hz
  exact gT_ret ⟨rfl, ML_f rfl hz (Fm_t hf24 h27.1)⟩
/-- what the reading of a book says -/
noncomputable def MB (x : Nat ⊕ (Nat → Int)) (s : gS) (r : gO) : Prop := r.1 = 1 ∧ Mf s r.2.2.2 ∧ ((∃ q : Nat, x = Sum.inl q ∧ gI r.2.2.2 217 12 = (q : Int)) ∨ (∃ W : Nat → Int, x = Sum.inr W ∧ gI r.2.2.2 217 12 = -1 ∧ ∀ k, k < 100 → gI r.2.2.2 218 k = W k))
theorem MB_t {y : Nat ⊕ (Nat → Int)} {r : gO} (h : Mf s s') (hc : MB y s' r) : MB y s r := ⟨hc.1, Mf_t h hc.2.1, hc.2.2⟩
theorem Mp_mf (h : Mp s L e) (hb : gI s 217 9 = -1) (hf : Mf s s') : Mp s' L e := by
  have k0_l : ∀ k_l, k_l < e → gI s 222 k_l = L k_l ∧ k_l < 400 := by
    intro k_l hk
    have h1 := h.2.2 k_l hk
    unfold f_168 at h1
    rw [if_pos hb, h.2.1.2] at h1
    unfold gchk at h1
    by_cases c : (0 : Int) ≤ (k_l : Int) ∧ (k_l : Int) < 400
    · rw [if_pos c, Int.toNat_natCast] at h1
      injection h1 with h1
      injection h1 with h2 h3
      injection h3 with h4 h5
      exact ⟨h4, by omega⟩
    · rw [if_neg c] at h1; cases h1
  refine ⟨⟨(hf.2 217 10 (by omega) (by omega)).trans h.1.1, h.1.2⟩, ⟨(hf.1.2.2 217 1).trans h.2.1.1, (hf.1.2.2 217 7).trans h.2.1.2⟩, fun k_l hk => ?_⟩
  have h2 := k0_l k_l hk
  unfold f_168
  rw [hf.2 217 9 (by omega) (by omega), if_pos hb, hf.1.2.2 217 7, h.2.1.2]
  unfold gchk
  rw [if_pos (by omega), Int.toNat_natCast, hf.2 222 k_l (by omega) (by omega), h2.1]
/-- blanks leave what is wrong as it is -/
theorem nf_169 : gQ (f_169 217 s) (fun r => gI r.2.2.2 217 12 = gI s 217 12) := by
  unfold f_169
  refine gQ_loop (fun y_l => y_l.1 = 217 ∧ gI y_l.2 217 12 = gI s 217 12) (fun y_l hy => ?_) ⟨rfl, rfl⟩
  obtain ⟨x0_l, y1⟩ := y_l
  obtain ⟨e0_l, h1⟩ := hy
  dsimp only at e0_l h1
  subst e0_l
  show gQ (sb_169_0 217 y1) _
  unfold sb_169_0
  dsimp only
  have h168 : ∀ (k_l : Int) (t_l : gS), gQ (f_168 217 k_l t_l) (fun r => r.2.2.2 = t_l) := by
    intro k_l t_l
    unfold f_168
    exact gQ_ite (gQ_chk (gQ_ret rfl)) (gQ_chk (gQ_ret rfl))
  refine gQ_ite ?_ (gQ_map (gQ_ret h1))
  refine gQ_v1 (A := fun z_l => z_l = y1) (h168 _ _) (fun v2 s2_l h2 => ?_)
  rw [h2]
  refine gQ_ite ?_ (gQ_map (gQ_ret h1))
  exact gQ_ret ⟨rfl, (rd_k (a := 217) (k := 12) rfl (by decide)).trans h1⟩
theorem gT_b0 {z : Option gO} {A B : gS → Prop} (h : gT z (fun r => r.1 = 0 ∧ A r.2.2.2)) (h' : gT z (fun r => r.1 = 0 ∧ B r.2.2.2)) : gT z (fun r => r.1 = 0 ∧ (A r.2.2.2 ∧ B r.2.2.2)) :=
  gT_mono (gT_both h h') (fun _ hr => ⟨hr.1.1, hr.1.2, hr.2.2⟩)
theorem gT_b1 {z : Option gO} {A B : Int → gS → Prop} (h : gT z (fun r => r.1 = 1 ∧ A r.2.1 r.2.2.2)) (h' : gT z (fun r => r.1 = 1 ∧ B r.2.1 r.2.2.2)) : gT z (fun r => r.1 = 1 ∧ (A r.2.1 r.2.2.2 ∧ B r.2.1 r.2.2.2)) :=
  gT_mono (gT_both h h') (fun _ hr => ⟨hr.1.1, hr.1.2, hr.2.2⟩)
theorem t217 : T 12 217 := ⟨by decide, by decide +kernel⟩
theorem k_169z {p : gP} (h : J p s) : gT (f_169 217 s) (fun r => r.1 = 0 ∧ (Fm s r.2.2.2 ∧ gI r.2.2.2 217 12 = gI s 217 12)) := by
  obtain ⟨r, h1, h2, h3⟩ := k_169 h
  refine ⟨r, h1, h2, h3.2.1, ?_⟩
  exact nf_169 r h1
theorem m_lp {p : gP} (hL : ∀ k, 0 ≤ L k ∧ L k ≤ 255) (n : Nat) : ∀ (x3 : Int) (f : Nat) (s : gS) (V : Nat → Int), 0 ≤ x3 → x3 + n = 14 → Mat s L e f → J p s → gI s 217 9 = -1 → Rg V → (∀ k, k < 100 → gI s 218 k = V k) → gT (gloop st_184_23 (217, 0, 1, x3, s)) (MB (rdl L e n f V) s) := by
  induction n with
  | zero =>
    intro x3 f s V h0 hx h_l hJ hb_l hg hV
    obtain ⟨hM_l, hz, a_l, ha_l, hae, hf⟩ := h_l
    refine gT_step ?_
    show gT (sb_184_23 217 0 1 x3 s) _
    unfold sb_184_23
    rw [if_neg (by decide), if_pos hz]
    refine gT_v0 (A := fun z_l => Fm s z_l ∧ gI z_l 217 12 = gI s 217 12 ∧ gI z_l 217 11 = ((sk L e a_l : Nat) : Int)) (w_169 hM_l ha_l hae) (fun s3_l h3 => ?_)
    rw [if_pos rfl]
    unfold fb_184_51
    rw [if_pos (by omega)]
    refine gT_v0 (A := fun z_l => Fm s3_l z_l ∧ gI z_l 217 11 = gI s3_l 217 11 ∧ gI z_l 217 12 = if gI s3_l 217 12 = -1 then gI s3_l 217 11 else gI s3_l 217 12) w_172 (fun s5 h5 => ?_)
    have hz5 := h5.2.2
    rw [if_pos (h3.2.1.trans hz), h3.2.2, hf] at hz5
    have hf5 := Fm_t h3.1 h5.1
    have ha5 : gI s5 217 11 = (f : Int) := by rw [h5.2.1, h3.2.2, hf]
    unfold fb_184_80
    refine gT_v0 (A := fun z_l => Fm s5 z_l ∧ gI z_l 217 12 = gI s5 217 12 ∧ gI z_l 217 11 = ((sk L e f : Nat) : Int)) (w_169 (Mp_fr hM_l hf5) ha5 (by rw [← hf]; exact (sk_b hae).2)) (fun s7 h7 => ?_)
    have hz7 := h7.2.1.trans hz5
    rw [if_neg (qz hz7)]
    refine gT_ret ?_
    show gT (gloop st_184_23 (217, 0, 0, _, s7)) _
    refine gT_step ?_
    show gT (sb_184_23 217 0 0 _ s7) _
    unfold sb_184_23
    rw [if_pos rfl]
    exact gT_map (gT_ret ⟨rfl, Mf_fm (Fm_t hf5 h7.1), Or.inl ⟨f, rfl, hz7⟩⟩)
  | succ n ih_l =>
    intro x3 f s V h0 hx h_l hJ hb_l hg hV
    obtain ⟨hM_l, hz, a_l, ha_l, hae, hf⟩ := h_l
    have h400 := hM_l.1.2
    have hfe : f ≤ e := by rw [← hf]; exact (sk_b hae).2
    refine gT_step ?_
    show gT (sb_184_23 217 0 1 x3 s) _
    unfold sb_184_23
    rw [if_neg (by decide), if_pos hz]
    refine gT_v0 (A := fun z_l => (Fm s z_l ∧ gI z_l 217 12 = gI s 217 12 ∧ gI z_l 217 11 = ((sk L e a_l : Nat) : Int)) ∧ Bm p s z_l) (gT_b0 (A := fun z_l => Fm s z_l ∧ gI z_l 217 12 = gI s 217 12 ∧ gI z_l 217 11 = ((sk L e a_l : Nat) : Int)) (B := fun z_l => Bm p s z_l) (w_169 hM_l ha_l hae) (k_169 hJ)) (fun s3_l h3b => ?_)
    have h3 := h3b.1
    have hJ3 := h3b.2.1
    rw [if_pos rfl]
    unfold fb_184_51
    rw [if_neg (by omega), if_pos rfl]
    have h3m : Mat s3_l L e f := ⟨Mp_fr hM_l h3.1, h3.2.1.trans hz, f, by rw [h3.2.2, hf], hfe, by rw [← hf]; exact sk_i⟩
    have h3v : ∀ k, k < 100 → mv s3_l k = V k := fun k hk => (h3.1.2 218 k (by omega)).trans (hV k hk)
    have hg3 : Rg (mv s3_l) := rg_e hg (fun k hk => h3v k hk.1)
    have hln : ln L e f (mv s3_l) = ln L e f V := ln_S (h3v 3 (by decide)) (h3v 4 (by decide)) (h3v 5 (by decide)) (h3v 6 (by decide))
    refine gT_v0 (A := fun z_l => ML (ln L e f (mv s3_l)) L e s3_l z_l ∧ J p z_l) (gT_b0 (A := fun z_l => ML (ln L e f (mv s3_l)) L e s3_l z_l) (B := fun z_l => J p z_l) (m_182 hL h3m hg3) (c_182 hJ3)) (fun s15 h15b => ?_)
    obtain ⟨h15, hJ15⟩ := h15b
    have hr15 := J_f hJ15 t217 rfl (by decide) (i := 11) rfl
    unfold fb_184_80
    unfold rdl
    rcases h15 with ⟨q_l, e1_l, e2_l, e3_l⟩ | ⟨w_l, g_l, e1_l, e2_l, e3_l, b_l, e4_l, e5_l, e6_l⟩
    · rw [hln] at e1_l
      have hf15 := Fm_t h3.1 e3_l
      refine gT_v0 (A := fun z_l => Fm s15 z_l ∧ gI z_l 217 12 = gI s15 217 12) (k_169z hJ15) (fun s7 h7 => ?_)
      have hz7 := h7.2.trans e2_l
      rw [if_neg (qz hz7)]
      refine gT_ret ?_
      show gT (gloop st_184_23 (217, 0, 0, _, s7)) _
      refine gT_step ?_
      show gT (sb_184_23 217 0 0 _ s7) _
      unfold sb_184_23
      rw [if_pos rfl]
      exact gT_map (gT_ret ⟨rfl, Mf_fm (Fm_t hf15 h7.1), Or.inl ⟨q_l, by rw [e1_l, eb_l], hz7⟩⟩)
    have hw : Rw w_l (mv s3_l) := ln_w e1_l
    have hM15 : Mf s s15 := Mf_t (Mf_fm h3.1) (Mf_t (Mf_mw hg3 hw) (Mf_fm e2_l))
    have hb15 : gI s15 217 9 = -1 := (hM15.2 217 9 (by omega) (by omega)).trans hb_l
    have hV15 : ∀ k, k < 100 → gI s15 218 k = av w_l V k := fun k hk => (e2_l.2 218 k (by omega)).trans ((mv_mw (w := w_l) (s := s3_l) (k := k)).trans (av_S (S := fun k => k < 100) h3v (h3v 3 (by decide)) (h3v 4 (by decide)) (h3v 5 (by decide)) (h3v 6 (by decide)) hk))
    rw [hln] at e1_l
    have hg15 : Rg (av w_l V) := av_rg (ln_w e1_l) hg
    have hMp15 : Mp s15 L e := Mp_mf hM_l hb_l hM15
    refine gT_v0 (A := fun z_l => (Fm s15 z_l ∧ gI z_l 217 12 = gI s15 217 12 ∧ gI z_l 217 11 = ((sk L e b_l : Nat) : Int)) ∧ Bm p s15 z_l) (gT_b0 (A := fun z_l => Fm s15 z_l ∧ gI z_l 217 12 = gI s15 217 12 ∧ gI z_l 217 11 = ((sk L e b_l : Nat) : Int)) (B := fun z_l => Bm p s15 z_l) (w_169 hMp15 e4_l e5_l) (k_169 hJ15)) (fun s7 h7b => ?_)
    have h7 := h7b.1
    have hJ7 := h7b.2.1
    have hz7 := h7.2.1.trans e3_l
    have hM7 := Mf_t hM15 (Mf_fm h7.1)
    have hMp7 := Mp_fr hMp15 h7.1
    have hge : g_l ≤ e := by rw [← e6_l]; exact (sk_b e5_l).2
    have hV7 : ∀ k, k < 100 → gI s7 218 k = av w_l V k := fun k hk => (h7.1.2 218 k (by omega)).trans (hV15 k hk)
    have hb7 : gI s7 217 9 = -1 := (hM7.2 217 9 (by omega) (by omega)).trans hb_l
    have h7a := h7.2.2
    rw [e6_l] at h7a
    rw [if_pos hz7, h7a, hMp7.1.1, e1_l, eb_r]
    by_cases c1 : g_l = e
    · rw [if_pos (by omega), if_pos c1]
      refine gT_ret ?_
      show gT (gloop st_184_23 (217, 0, 0, _, s7)) _
      refine gT_step ?_
      show gT (sb_184_23 217 0 0 _ s7) _
      unfold sb_184_23
      rw [if_pos rfl]
      exact gT_map (gT_ret ⟨rfl, hM7, Or.inr ⟨av w_l V, rfl, hz7, hV7⟩⟩)
    rw [if_neg (by omega), if_neg c1]
    have hskg : sk L e g_l = g_l := by rw [← e6_l]; exact sk_i
    refine gT_v1 (A := fun v_l z_l => (Fm s7 z_l ∧ gI z_l 217 12 = gI s7 217 12 ∧ gI z_l 217 11 = ((sk L e g_l : Nat) : Int) ∧ ((v_l = 1 ∧ sk L e g_l < e ∧ L (sk L e g_l) = 59) ∨ (v_l = 0 ∧ ¬ (sk L e g_l < e ∧ L (sk L e g_l) = 59)))) ∧ ((0 ≤ v_l ∧ v_l ≤ 1) ∧ Bm p s7 z_l ∧ (v_l ≠ 0 → gI z_l 217 11 < gI z_l 217 10))) (gT_b1 (A := fun v_l z_l => Fm s7 z_l ∧ gI z_l 217 12 = gI s7 217 12 ∧ gI z_l 217 11 = ((sk L e g_l : Nat) : Int) ∧ ((v_l = 1 ∧ sk L e g_l < e ∧ L (sk L e g_l) = 59) ∨ (v_l = 0 ∧ ¬ (sk L e g_l < e ∧ L (sk L e g_l) = 59)))) (B := fun v_l z_l => (0 ≤ v_l ∧ v_l ≤ 1) ∧ Bm p s7 z_l ∧ (v_l ≠ 0 → gI z_l 217 11 < gI z_l 217 10)) (w_170 hMp7 h7a hge) (k_170 hJ7)) (fun v10 s9 h9b => ?_)
    obtain ⟨h9, -, hB9, -⟩ := h9b
    have hJ9 := hB9.1
    rw [hskg] at h9
    obtain ⟨hf9, hz9, ha9, h9⟩ := h9
    have hM9 := Mf_t hM7 (Mf_fm hf9)
    have hzz := hz9.trans hz7
    rcases h9 with ⟨e7_l, e8, e9_l⟩ | ⟨e7_l, e8⟩
    · rw [if_neg (by omega), if_pos e9_l, ha9, g32_eq (v := (g_l : Int) + 1) (by omega) (by omega), g32_eq (v := x3 + 1) (by omega) (by omega)]
      refine gT_ret ?_
      show gT (gloop st_184_23 (217, 0, 1, x3 + 1, gw s9 217 11 ((g_l : Int) + 1))) _
      have hfw : Fm s9 (gw s9 217 11 ((g_l : Int) + 1)) := Fm_w (Fm_r s9) (Or.inl rfl)
      have hMw := Mf_t hM9 (Mf_fm hfw)
      have hen : en L e g_l = g_l + 1 := by
        unfold en
        rw [if_pos e8, if_neg (by omega), if_neg (by omega)]
      refine gT_mono (ih_l (x3 + 1) (nx L e g_l) (gw s9 217 11 ((g_l : Int) + 1)) (av w_l V) (by omega) (by omega) ⟨Mp_fr (Mp_fr hMp7 hf9) hfw, (rd_k (a := 217) (k := 12) rfl (by decide)).trans hzz, g_l + 1, (rd_same rfl).trans (by omega), by omega, by unfold nx; rw [hen]⟩ (J_wf hJ9 t217 rfl (by decide) rfl (fun q_l hq => by cases hq; exact ⟨by omega, by have := hMp7.1.2; omega⟩)) ((hMw.2 217 9 (by omega) (by omega)).trans hb_l) hg15 (fun k hk => (hfw.2 218 k (by omega)).trans ((hf9.2 218 k (by omega)).trans (hV7 k hk)))) (fun r_l hc_l => MB_t hMw hc_l)
    · rw [if_pos e7_l, if_neg (fun z_l => e8 ⟨by omega, z_l⟩), ha9]
      refine gT_v0 (A := fun z_l => Fm s9 z_l ∧ gI z_l 217 11 = gI s9 217 11 ∧ gI z_l 217 12 = if gI s9 217 12 = -1 then (g_l : Int) else gI s9 217 12) w_172 (fun s12 h12 => ?_)
      have hz12 := h12.2.2
      rw [if_pos hzz] at hz12
      refine gT_ret ?_
      show gT (gloop st_184_23 (217, 0, 1, _, s12)) _
      refine gT_step ?_
      show gT (sb_184_23 217 0 1 _ s12) _
      unfold sb_184_23
      rw [if_neg (by decide), if_neg (qz hz12)]
      exact gT_map (gT_ret ⟨rfl, Mf_t hM9 (Mf_fm h12.1), Or.inl ⟨g_l, rfl, hz12⟩⟩)
end Mt

end
