section
/-! a text of the law as a pure function of its bytes: codes, and what they come to over facts -/
abbrev LX := List Int × ((Nat → Int) → Int)
noncomputable def lfa (L : Nat → Int) (e f : Nat) : Nat ⊕ (LX × Nat) :=
  cif (Wd L e 36 f) (Sum.inr (([1000], fun F => F 0), nx L e f))
  (cif (Wd L e 37 f) (Sum.inr (([1001], fun F => F 1), nx L e f))
  (cif (Wd L e 38 f) (Sum.inr (([1002], fun F => F 2), nx L e f))
  (cif (Wd L e 39 f) (Sum.inr (([1003], fun F => F 3), nx L e f))
  (cif (Wd L e 40 f) (Sum.inr (([1004], fun F => F 4), nx L e f))
  (cif (Wd L e 41 f) (Sum.inr (([1005], fun F => F 5), nx L e f))
  (cif (Wd L e 42 f) (Sum.inr (([1006], fun F => F 6), nx L e f)) (Sum.inl f)))))))
noncomputable def lpt (L : Nat → Int) (e f : Nat) : Nat ⊕ (LX × Nat) := cif (Nm L e f 0 999) (Sum.inr (([nv L f (dr L e f - f)], fun _ => nv L f (dr L e f - f)), nx L e f)) (lfa L e f)
noncomputable def lsl (L : Nat → Int) (e : Nat) : Nat → LX → Nat → Nat ⊕ (LX × Nat)
  | 0, x, f => Sum.inr (x, f)
  | n + 1, x, f => if f < e ∧ L f = 43 then eb (lpt L e (nx L e f)) (fun y => lsl L e n (x.1 ++ y.1.1 ++ [2000], fun F => g32 (x.2 F + y.1.2 F)) y.2) else Sum.inr (x, f)
noncomputable def lsm (L : Nat → Int) (e f : Nat) : Nat ⊕ (LX × Nat) := eb (lpt L e f) (fun y => lsl L e 400 y.1 y.2)
noncomputable def lcm (L : Nat → Int) (e f : Nat) : Nat ⊕ (LX × Nat) :=
  cif (Wd L e 34 f) (Sum.inr (([1007], fun F => F 7), nx L e f))
  (cif (Wd L e 35 f) (Sum.inr (([1008], fun F => F 8), nx L e f))
  (eb (lsm L e f) (fun y => if y.2 < e ∧ L y.2 = 60 then eb (lsm L e (nx L e y.2)) (fun z => Sum.inr ((y.1.1 ++ z.1.1 ++ [2001], fun F => if y.1.2 F < z.1.2 F then 1 else 0), z.2)) else if y.2 < e ∧ L y.2 = 62 then eb (lsm L e (nx L e y.2)) (fun z => Sum.inr ((y.1.1 ++ z.1.1 ++ [2002], fun F => if z.1.2 F < y.1.2 F then 1 else 0), z.2)) else Sum.inl y.2)))
/-- loops of and, of or -/
noncomputable def lal (L : Nat → Int) (e w : Nat) (c : Int) (op : Int → Int → Int) (A : Nat → Nat ⊕ (LX × Nat)) : Nat → LX → Nat → Nat ⊕ (LX × Nat)
  | 0, x, f => Sum.inr (x, f)
  | n + 1, x, f => cif (Wd L e w f) (eb (A (nx L e f)) (fun y => lal L e w c op A n (x.1 ++ y.1.1 ++ [c], fun F => op (x.2 F) (y.1.2 F)) y.2)) (Sum.inr (x, f))
noncomputable def opa (x y : Int) : Int := if x = 0 then 0 else if y = 0 then 0 else 1
noncomputable def opo (x y : Int) : Int := if x = 0 then (if y = 0 then 0 else 1) else 1
noncomputable def lall (L : Nat → Int) (e : Nat) (A : Nat → Nat ⊕ (LX × Nat)) (f : Nat) : Nat ⊕ (LX × Nat) := eb (A f) (fun y => lal L e 32 2004 opa A 400 y.1 y.2)
noncomputable def lany (L : Nat → Int) (e : Nat) (A : Nat → Nat ⊕ (LX × Nat)) (f : Nat) : Nat ⊕ (LX × Nat) := eb (lall L e A f) (fun y => lal L e 31 2005 opo (lall L e A) 400 y.1 y.2)
noncomputable def latm (L : Nat → Int) (e : Nat) : Nat → Nat → Nat ⊕ (LX × Nat)
  | 0, f => cif (Wd L e 33 f) (Sum.inl f) (if f < e ∧ L f = 40 then Sum.inl f else lcm L e f)
  | k + 1, f => cif (Wd L e 33 f) (eb (latm L e k (nx L e f)) (fun y => Sum.inr ((y.1.1 ++ [2003], fun F => if y.1.2 F = 0 then 1 else 0), y.2))) (if f < e ∧ L f = 40 then eb (lany L e (latm L e k) (nx L e f)) (fun y => if y.2 < e ∧ L y.2 = 41 then Sum.inr (y.1, nx L e y.2) else Sum.inl y.2) else lcm L e f)
noncomputable def lln (L : Nat → Int) (e : Nat) (b sg : Int) (f : Nat) : Nat ⊕ (LX × Nat) :=
  cif (Nm L e f 0 30) (cif (Wd L e 30 (nx L e f)) (eb (lany L e (latm L e 6) (nx L e (nx L e f))) (fun y => Sum.inr ((y.1.1 ++ [b + nv L f (dr L e f - f)], fun F => if y.1.2 F = 0 then 0 else sg * nv L f (dr L e f - f)), y.2))) (Sum.inr (([1, b + nv L f (dr L e f - f)], fun _ => sg * nv L f (dr L e f - f)), nx L e f))) (Sum.inl f)
noncomputable def lline (L : Nat → Int) (e f : Nat) : Nat ⊕ (LX × Nat) := cif (Wd L e 28 f) (lln L e 3000 1 (nx L e f)) (cif (Wd L e 29 f) (lln L e 4000 (-1) (nx L e f)) (Sum.inl f))
/-- the law, with n lines at most -/
noncomputable def lwl (L : Nat → Int) (e : Nat) : Nat → LX → Nat → Nat ⊕ (LX × Nat)
  | 0, _, f => Sum.inl f
  | n + 1, x, f => eb (lline L e f) (fun y => if y.2 = e then Sum.inr ((x.1 ++ y.1.1, fun F => g32 (x.2 F + y.1.2 F)), 12 - n) else if L y.2 = 59 then lwl L e n (x.1 ++ y.1.1, fun F => g32 (x.2 F + y.1.2 F)) (nx L e y.2) else Sum.inl y.2)
noncomputable def lwp (L : Nat → Int) (e : Nat) : Nat ⊕ (LX × Nat) := if sk L e 0 = e then Sum.inr (([], fun _ => 0), 0) else lwl L e 12 ([], fun _ => 0) (sk L e 0)
section Lp
variable {L : Nat → Int} {e f g n w : Nat} {x y : LX} {c : Int} {A : Nat → Nat ⊕ (LX × Nat)}
theorem nx_s (hf : f < e) : f < nx L e f ∧ nx L e f ≤ e := by
  have h1 := en_b (L := L) (e := e) (f := f) (Nat.le_of_lt hf)
  have h2 := sk_b (L := L) (e := e) (a := en L e f) h1.2.1
  have h3 := h1.2.2 hf
  unfold nx
  omega
theorem gl_l0 : ∀ w, w < 70 → 28 ≤ w → 1 ≤ (gtx w).length := by decide +kernel
theorem wd_s (hw : 28 ≤ w ∧ w < 70) (h : Wd L e w f) : f < nx L e f ∧ nx L e f ≤ e := nx_s (en_w (gl_l0 w hw.2 hw.1) h).2
theorem nm_s {lo hi : Int} (h : Nm L e f lo hi) : f < nx L e f ∧ nx L e f ≤ e := nx_s h.1.1
/-- a piece takes as many bytes as it has codes, and one at least -/
noncomputable def Ln (f : Nat) (e : Nat) (r : Nat ⊕ (LX × Nat)) : Prop := ∀ y g, r = Sum.inr (y, g) → f + y.1.length ≤ g ∧ g ≤ e ∧ f < g
theorem Ln_l {q : Nat} : Ln f e (Sum.inl q) := fun y_l g_l h_l => by cases h_l
theorem Ln_1 {c : Int} {F : (Nat → Int) → Int} (h : f < g ∧ g ≤ e) : Ln f e (Sum.inr (([c], F), g)) := fun y_l g' he => by
  cases he
  exact ⟨by dsimp only [List.length_cons, List.length_nil]; omega, h.2, h.1⟩
theorem Ln_c {P : Prop} {a b : Nat ⊕ (LX × Nat)} (h1 : P → Ln f e a) (h2 : ¬ P → Ln f e b) : Ln f e (cif P a b) := by
  by_cases h : P
  · rw [cif_p h]; exact h1 h
  · rw [cif_n h]; exact h2 h
theorem Ln_i {P : Prop} [Decidable P] {a b : Nat ⊕ (LX × Nat)} (h1 : P → Ln f e a) (h2 : ¬ P → Ln f e b) : Ln f e (if P then a else b) := by
  by_cases h : P
  · rw [if_pos h]; exact h1 h
  · rw [if_neg h]; exact h2 h
theorem lfa_n : Ln f e (lfa L e f) := by
  unfold lfa
  have q_l : ∀ w_l, 28 ≤ w_l ∧ w_l < 70 → Wd L e w_l f → ∀ c_l F_l, Ln f e (Sum.inr (([c_l], F_l), nx L e f)) := fun w_l hw h_l c_l F_l => Ln_1 (wd_s hw h_l)
  exact Ln_c (fun h_l => q_l 36 (by decide) h_l _ _) (fun _ => Ln_c (fun h_l => q_l 37 (by decide) h_l _ _) (fun _ => Ln_c (fun h_l => q_l 38 (by decide) h_l _ _) (fun _ => Ln_c (fun h_l => q_l 39 (by decide) h_l _ _) (fun _ => Ln_c (fun h_l => q_l 40 (by decide) h_l _ _) (fun _ => Ln_c (fun h_l => q_l 41 (by decide) h_l _ _) (fun _ => Ln_c (fun h_l => q_l 42 (by decide) h_l _ _) (fun _ => Ln_l)))))))
theorem lpt_n : Ln f e (lpt L e f) := by
  unfold lpt
  exact Ln_c (fun h_l => Ln_1 (nm_s h_l)) (fun _ => lfa_n)
theorem lsl_n (n : Nat) : ∀ (x : LX) (g : Nat), g ≤ e → ∀ f, f + x.1.length ≤ g → f < g → Ln f e (lsl L e n x g) := by
  induction n with
  | zero => intro x g he f h1 h2 y_l g' h_l; cases h_l; exact ⟨h1, he, h2⟩
  | succ n ih_l =>
    intro x g he f h1 h2
    unfold lsl
    refine Ln_i (fun hc_l => ?_) (fun _ y_l g' h_l => by cases h_l; exact ⟨h1, he, h2⟩)
    have hs := nx_s (L := L) hc_l.1
    cases hp : lpt L e (nx L e g) with
    | inl q_l => rw [eb_l]; exact Ln_l
    | inr y_l =>
      rw [eb_r]
      have hl := lpt_n (L := L) (e := e) (f := nx L e g) y_l.1 y_l.2 hp
      refine ih_l _ _ hl.2.1 f ?_ (by omega)
      simp only [List.length_append, List.length_cons, List.length_nil]
      omega
theorem lsm_n : Ln f e (lsm L e f) := by
  unfold lsm
  cases hp : lpt L e f with
  | inl q_l => rw [eb_l]; exact Ln_l
  | inr y_l =>
    rw [eb_r]
    have hl := lpt_n (L := L) (e := e) (f := f) y_l.1 y_l.2 hp
    exact lsl_n 400 y_l.1 y_l.2 hl.2.1 f hl.1 hl.2.2
theorem lcm_n : Ln f e (lcm L e f) := by
  unfold lcm
  refine Ln_c (fun h_l => Ln_1 (wd_s (w := 34) (by decide) h_l)) (fun _ => Ln_c (fun h_l => Ln_1 (wd_s (w := 35) (by decide) h_l)) (fun _ => ?_))
  cases hp : lsm L e f with
  | inl q_l => rw [eb_l]; exact Ln_l
  | inr y_l =>
    rw [eb_r]
    have hl := lsm_n (L := L) (e := e) (f := f) y_l.1 y_l.2 hp
    have key_l : ∀ (c_l : Int) (G_l : LX → (Nat → Int) → Int), y_l.2 < e → Ln f e (eb (lsm L e (nx L e y_l.2)) (fun z_l => Sum.inr ((y_l.1.1 ++ z_l.1.1 ++ [c_l], G_l z_l.1), z_l.2))) := fun c_l G_l hc_l => by
      have hs := nx_s (L := L) hc_l
      cases hq : lsm L e (nx L e y_l.2) with
      | inl q_l => rw [eb_l]; exact Ln_l
      | inr z_l =>
        rw [eb_r]
        have hm_l := lsm_n (L := L) (e := e) (f := nx L e y_l.2) z_l.1 z_l.2 hq
        intro y' g' he
        cases he
        refine ⟨?_, hm_l.2.1, by omega⟩
        simp only [List.length_append, List.length_cons, List.length_nil]
        omega
    exact Ln_i (fun hc_l => key_l 2001 (fun z_l F_l => if y_l.1.2 F_l < z_l.2 F_l then 1 else 0) hc_l.1) (fun _ => Ln_i (fun hc_l => key_l 2002 (fun z_l F_l => if z_l.2 F_l < y_l.1.2 F_l then 1 else 0) hc_l.1) (fun _ => Ln_l))
theorem lal_n {op : Int → Int → Int} (hw : 28 ≤ w ∧ w < 70) (hA : ∀ f, Ln f e (A f)) (n : Nat) : ∀ (x : LX) (g : Nat), g ≤ e → ∀ f, f + x.1.length ≤ g → f < g → Ln f e (lal L e w c op A n x g) := by
  induction n with
  | zero => intro x g he f h1 h2 y_l g' h_l; cases h_l; exact ⟨h1, he, h2⟩
  | succ n ih_l =>
    intro x g he f h1 h2
    unfold lal
    refine Ln_c (fun hc_l => ?_) (fun _ y_l g' h_l => by cases h_l; exact ⟨h1, he, h2⟩)
    have hs := wd_s hw hc_l
    cases hp : A (nx L e g) with
    | inl q_l => rw [eb_l]; exact Ln_l
    | inr y_l =>
      rw [eb_r]
      have hl := hA (nx L e g) y_l.1 y_l.2 hp
      refine ih_l _ _ hl.2.1 f ?_ (by omega)
      simp only [List.length_append, List.length_cons, List.length_nil]
      omega
theorem lall_n (hA : ∀ f, Ln f e (A f)) : ∀ f, Ln f e (lall L e A f) := fun f => by
  unfold lall
  cases hp : A f with
  | inl q_l => rw [eb_l]; exact Ln_l
  | inr y_l =>
    rw [eb_r]
    have hl := hA f y_l.1 y_l.2 hp
    exact lal_n (by decide) hA 400 y_l.1 y_l.2 hl.2.1 f hl.1 hl.2.2
theorem lany_n (hA : ∀ f, Ln f e (A f)) : ∀ f, Ln f e (lany L e A f) := fun f => by
  unfold lany
  cases hp : lall L e A f with
  | inl q_l => rw [eb_l]; exact Ln_l
  | inr y_l =>
    rw [eb_r]
    have hl := lall_n hA f y_l.1 y_l.2 hp
    exact lal_n (by decide) (lall_n hA) 400 y_l.1 y_l.2 hl.2.1 f hl.1 hl.2.2
theorem latm_n (k : Nat) : ∀ f, Ln f e (latm L e k f) := by
  induction k with
  | zero =>
    intro f
    unfold latm
    exact Ln_c (fun _ => Ln_l) (fun _ => Ln_i (fun _ => Ln_l) (fun _ => lcm_n))
  | succ k ih_l =>
    intro f
    unfold latm
    refine Ln_c (fun hc_l => ?_) (fun _ => Ln_i (fun hc_l => ?_) (fun _ => lcm_n))
    · have hs := wd_s (w := 33) (by decide) hc_l
      cases hp : latm L e k (nx L e f) with
      | inl q_l => rw [eb_l]; exact Ln_l
      | inr y_l =>
        rw [eb_r]
        have hl := ih_l (nx L e f) y_l.1 y_l.2 hp
        intro y' g' he
        cases he
        refine ⟨?_, hl.2.1, by omega⟩
        simp only [List.length_append, List.length_cons, List.length_nil]
        omega
    · have hs := nx_s (L := L) hc_l.1
      cases hp : lany L e (latm L e k) (nx L e f) with
      | inl q_l => rw [eb_l]; exact Ln_l
      | inr y_l =>
        rw [eb_r]
        have hl := lany_n ih_l (nx L e f) y_l.1 y_l.2 hp
        refine Ln_i (fun hd_l => ?_) (fun _ => Ln_l)
        have ht := nx_s (L := L) hd_l.1
        intro y' g' he
        cases he
        exact ⟨by omega, ht.2, by omega⟩
theorem lln_n {b sg : Int} : ∀ y g, lln L e b sg f = Sum.inr (y, g) → f + y.1.length ≤ g + 1 ∧ g ≤ e ∧ f < g := fun y g h_l => by
  unfold lln at h_l
  by_cases c1 : Nm L e f 0 30
  · rw [cif_p c1] at h_l
    have hs := nm_s c1
    by_cases c2 : Wd L e 30 (nx L e f)
    · rw [cif_p c2] at h_l
      have ht := wd_s (w := 30) (by decide) c2
      obtain ⟨z_l, h1, h2⟩ := eb_w h_l
      have hl := lany_n (latm_n 6) (nx L e (nx L e f)) z_l.1 z_l.2 h1
      cases h2
      refine ⟨?_, hl.2.1, by omega⟩
      simp only [List.length_append, List.length_cons, List.length_nil]
      omega
    · rw [cif_n c2] at h_l
      cases h_l
      refine ⟨?_, hs.2, hs.1⟩
      simp only [List.length_cons, List.length_nil]
      omega
  · rw [cif_n c1] at h_l
    cases h_l
theorem lline_n : Ln f e (lline L e f) := by
  unfold lline
  refine Ln_c (fun hc_l y_l g_l h_l => ?_) (fun _ => Ln_c (fun hc_l y_l g_l h_l => ?_) (fun _ => Ln_l))
  · have hs := wd_s (w := 28) (by decide) hc_l
    have hl := lln_n y_l g_l h_l
    exact ⟨by omega, hl.2.1, by omega⟩
  · have hs := wd_s (w := 29) (by decide) hc_l
    have hl := lln_n y_l g_l h_l
    exact ⟨by omega, hl.2.1, by omega⟩
end Lp

end
section
/-! the class reads the law -/
noncomputable def Dl (s t : gS) : Prop := (gn t = gn s ∧ (∀ a, gK t a = gK s a) ∧ ∀ a k, gR t a k = gR s a k) ∧ ∀ a k, ¬ (a = 1 ∧ (k = 2 ∨ k = 3 ∨ k = 4)) → ¬ (a = 7 ∧ k = 2) → a ≠ 8 → gI t a k = gI s a k
/-- the codes so far -/
noncomputable def cl (s : gS) : List Int := (List.range (gI s 7 2).toNat).map (gI s 8)
noncomputable def Emi (s t : gS) (cs : List Int) : Prop := Dl s t ∧ gI t 7 2 = gI s 7 2 + (cs.length : Int) ∧ cl t = cl s ++ cs
noncomputable def Lc (s : gS) (L : Nat → Int) (e f : Nat) : Prop := (At s L e f ∧ f ≤ e ∧ e ≤ 400) ∧ (gR s 7 0 = 1 ∧ gR s 7 1 = 8) ∧ 0 ≤ gI s 7 2 ∧ gI s 7 2 ≤ f
noncomputable def KC (L : Nat → Int) (e : Nat) (s : gS) (x : Nat ⊕ (LX × Nat)) (v : Int) (t : gS) : Prop := (∃ q, x = Sum.inl q ∧ v = 0 ∧ At t L e q ∧ Dl s t) ∨ (∃ y g, x = Sum.inr (y, g) ∧ v = 1 ∧ At t L e g ∧ Emi s t y.1)
section Lk
variable {s t u : gS} {L : Nat → Int} {e f g : Nat} {x : Nat ⊕ (LX × Nat)} {v : Int} {cs ds : List Int}
theorem gQ_1 {z : Option gO} {A : Int → gS → Prop} (h : gT z (fun r => r.1 = 1 ∧ A r.2.1 r.2.2.2)) : gQ z (fun r => A r.2.1 r.2.2.2) := fun r hr => (gQ_T h r hr).2
theorem Dl_r : Dl s s := ⟨⟨rfl, fun _ => rfl, fun _ _ => rfl⟩, fun _ _ _ _ _ => rfl⟩
theorem Dl_t (h : Dl s t) (h2 : Dl t u) : Dl s u := ⟨⟨h2.1.1.trans h.1.1, fun a_l => (h2.1.2.1 a_l).trans (h.1.2.1 a_l), fun a_l k_l => (h2.1.2.2 a_l k_l).trans (h.1.2.2 a_l k_l)⟩, fun a_l k_l c1_l c2_l c3_l => (h2.2 a_l k_l c1_l c2_l c3_l).trans (h.2 a_l k_l c1_l c2_l c3_l)⟩
theorem Dl_f (h : Fr s t) : Dl s t := ⟨h.1, fun a_l k_l c1_l _ _ => h.2 a_l k_l c1_l⟩
theorem cl_f (h : Fr s t) : cl t = cl s ∧ gI t 7 2 = gI s 7 2 := by
  have e1_l : gI t 7 2 = gI s 7 2 := h.2 7 2 (by omega)
  refine ⟨?_, e1_l⟩
  unfold cl
  rw [e1_l]
  exact List.map_congr_left (fun j_l _ => h.2 8 j_l (by omega))
theorem Emi_f (h : Fr s t) : Emi s t [] := ⟨Dl_f h, by rw [(cl_f h).2]; simp only [List.length_nil]; omega, by rw [(cl_f h).1, List.append_nil]⟩
theorem Emi_t (h : Emi s t cs) (h2 : Emi t u ds) : Emi s u (cs ++ ds) := ⟨Dl_t h.1 h2.1, by rw [h2.2.1, h.2.1, List.length_append]; omega, by rw [h2.2.2, h.2.2, List.append_assoc]⟩
theorem Emi_tf (h : Emi s t cs) (h2 : Fr t u) : Emi s u cs := by
  have h3 := Emi_t h (Emi_f h2)
  rw [List.append_nil] at h3
  exact h3
theorem Emi_ft (h : Fr s t) (h2 : Emi t u cs) : Emi s u cs := Emi_t (Emi_f h) h2
theorem Lc_e (h : Lc s L e f) (hm : Emi s t cs) (ha : At t L e g) (hg : f + cs.length ≤ g ∧ g ≤ e) : Lc t L e g := by
  obtain ⟨⟨h1, h2, h3⟩, ⟨h4, h5⟩, h6, h7⟩ := h
  refine ⟨⟨ha, hg.2, h3⟩, ⟨(hm.1.1.2.2 7 0).trans h4, (hm.1.1.2.2 7 1).trans h5⟩, ?_, ?_⟩
  · rw [hm.2.1]; omega
  · rw [hm.2.1]; omega
theorem Lc_f (h : Lc s L e f) (hm : Fr s t) (ha : At t L e g) (hg : f ≤ g ∧ g ≤ e) : Lc t L e g := Lc_e h (Emi_f hm) ha (by simp only [List.length_nil]; omega)
theorem At_le (h : At s L e f) : f ≤ e := h.2.1.1
/-- a code is noted -/
theorem e_45 {c : Int} (h : Lc s L e f) (hc : gI s 7 2 < 400) : gQ (f_45 7 c s) (fun r => r.2.1 = 1 ∧ At r.2.2.2 L e f ∧ Emi s r.2.2.2 [c]) := by
  obtain ⟨⟨h1, h2, h3⟩, ⟨h4, h5⟩, h6, h7⟩ := h
  unfold f_45
  dsimp only
  rw [if_pos hc, h5]
  have e1_l : gI (gw s 8 (gI s 7 2).toNat c) 7 2 = gI s 7 2 := rd_a rfl (by decide)
  rw [e1_l, g32_eq (v := gI s 7 2 + 1) (by omega) (by omega)]
  have i1_l : ∀ a_l k_l, ¬ (a_l = 7 ∧ k_l = 2) → a_l ≠ 8 → gI (gw (gw s 8 (gI s 7 2).toNat c) 7 2 (gI s 7 2 + 1)) a_l k_l = gI s a_l k_l := fun a_l k_l c1_l c2_l => by
    show (if a_l = 7 ∧ k_l = 2 then _ else if a_l = 8 ∧ k_l = (gI s 7 2).toNat then _ else gI s a_l k_l) = _
    rw [if_neg c1_l, if_neg (fun z_l => c2_l z_l.1)]
  have i2_l : ∀ k_l, gI (gw (gw s 8 (gI s 7 2).toNat c) 7 2 (gI s 7 2 + 1)) 8 k_l = if k_l = (gI s 7 2).toNat then c else gI s 8 k_l := fun k_l => by
    refine (rd_a rfl (by decide)).trans ?_
    show (if 8 = 8 ∧ k_l = (gI s 7 2).toNat then c else gI s 8 k_l) = _
    by_cases d : k_l = (gI s 7 2).toNat
    · rw [if_pos ⟨rfl, d⟩, if_pos d]
    · rw [if_neg (fun z_l => d z_l.2), if_neg d]
  have i3_l : gI (gw (gw s 8 (gI s 7 2).toNat c) 7 2 (gI s 7 2 + 1)) 7 2 = gI s 7 2 + 1 := rd_same rfl
  have iK : ∀ a_l, gK (gw (gw s 8 (gI s 7 2).toNat c) 7 2 (gI s 7 2 + 1)) a_l = gK s a_l := fun _ => rfl
  have iR : ∀ a_l k_l, gR (gw (gw s 8 (gI s 7 2).toNat c) 7 2 (gI s 7 2 + 1)) a_l k_l = gR s a_l k_l := fun _ _ => rfl
  have iN_l : gn (gw (gw s 8 (gI s 7 2).toNat c) 7 2 (gI s 7 2 + 1)) = gn s := rfl
  refine gQ_chk (gQ_ret ?_)
  dsimp only
  generalize gw (gw s 8 (gI s 7 2).toNat c) 7 2 (gI s 7 2 + 1) = t at *
  refine ⟨rfl, ?_, ⟨⟨iN_l, iK, iR⟩, fun a_l k_l _ c2_l c3_l => i1_l a_l k_l c2_l c3_l⟩, ?_, ?_⟩
  · obtain ⟨⟨t1_l, t2_l, t3_l, t4_l⟩, a1_l, a2, a3, a4⟩ := h1
    exact ⟨⟨(iR 1 0).trans t1_l, (i1_l 1 1 (by omega) (by decide)).trans t2_l, t3_l, fun j_l => (i1_l 2 j_l (by omega) (by decide)).trans (t4_l j_l)⟩, a1_l, (i1_l 1 3 (by omega) (by decide)).trans a2, (i1_l 1 2 (by omega) (by decide)).trans a3, (i1_l 1 4 (by omega) (by decide)).trans a4⟩
  · rw [i3_l]
    simp only [List.length_cons, List.length_nil]
    omega
  · unfold cl
    rw [i3_l, show (gI s 7 2 + 1).toNat = (gI s 7 2).toNat + 1 by omega, List.range_succ, List.map_append]
    congr 1
    · refine List.map_congr_left (fun j_l hj => ?_)
      rw [i2_l j_l, if_neg (by have := List.mem_range.mp hj; omega)]
    · simp only [List.map_cons, List.map_nil]
      rw [i2_l, if_pos rfl]
theorem n52 {w : Nat} (hw : 28 ≤ w ∧ w < 70) (h : At s L e f) {i : Int} {E : gS → Option gO} {P : gO → Prop} {X : gS} (hX : X = s) (k1 : Wd L e w f → P (1, i, 0, s)) (k0 : ¬ Wd L e w f → gQ (E s) P) : gQ ((f_80 1 w X).bind (gv1 (fun v2 s1 => if v2 = 0 then E s1 else some ((1, i, 0, s1) : gO)))) P := by
  subst hX
  refine gQ_w1 (A := fun v_l u_l => u_l = X ∧ ((v_l = 1 ∧ Wd L e w f) ∨ (v_l = 0 ∧ ¬ Wd L e w f))) (gQ_1 (A := fun v_l u_l => u_l = X ∧ ((v_l = 1 ∧ Wd L e w f) ∨ (v_l = 0 ∧ ¬ Wd L e w f))) (v_80 (gl_l0 w hw.2 hw.1) h)) (fun v_l u_l hu => ?_)
  obtain ⟨rfl, ⟨v1_l, hd_l⟩ | ⟨v0_l, hd_l⟩⟩ := hu
  · rw [if_neg (by omega)]
    exact gQ_ret (k1 hd_l)
  · rw [if_pos v0_l]
    exact k0 hd_l
theorem c_52 (h : Lc s L e f) : gQ (f_52 7 s) (fun r => r.2.2.2 = s ∧ ((r.2.1 = -1 ∧ lfa L e f = Sum.inl f) ∨ (∃ i : Nat, i < 7 ∧ r.2.1 = (i : Int) ∧ f < e ∧ lfa L e f = Sum.inr (([1000 + (i : Int)], fun F => F i), nx L e f)))) := by
  obtain ⟨⟨h1, h2, h3⟩, ⟨h4, h5⟩, h6, h7⟩ := h
  have fe : ∀ w_l, 28 ≤ w_l ∧ w_l < 70 → Wd L e w_l f → f < e := fun w_l hw hd_l => (en_w (gl_l0 w_l hw.2 hw.1) hd_l).2
  unfold f_52 lfa
  rw [h4]
  refine n52 (by decide) h1 rfl (fun c_l => ⟨rfl, Or.inr ⟨0, by decide, rfl, fe 36 (by decide) c_l, by rw [cif_p c_l]; rfl⟩⟩) (fun c0_l => ?_)
  rw [cif_n c0_l, h4]
  refine n52 (by decide) h1 rfl (fun c_l => ⟨rfl, Or.inr ⟨1, by decide, rfl, fe 37 (by decide) c_l, by rw [cif_p c_l]; rfl⟩⟩) (fun c1_l => ?_)
  rw [cif_n c1_l, h4]
  refine n52 (by decide) h1 rfl (fun c_l => ⟨rfl, Or.inr ⟨2, by decide, rfl, fe 38 (by decide) c_l, by rw [cif_p c_l]; rfl⟩⟩) (fun c2_l => ?_)
  rw [cif_n c2_l, h4]
  refine n52 (by decide) h1 rfl (fun c_l => ⟨rfl, Or.inr ⟨3, by decide, rfl, fe 39 (by decide) c_l, by rw [cif_p c_l]; rfl⟩⟩) (fun c3_l => ?_)
  rw [cif_n c3_l, h4]
  refine n52 (by decide) h1 rfl (fun c_l => ⟨rfl, Or.inr ⟨4, by decide, rfl, fe 40 (by decide) c_l, by rw [cif_p c_l]; rfl⟩⟩) (fun c4_l => ?_)
  rw [cif_n c4_l, h4]
  refine n52 (by decide) h1 rfl (fun c_l => ⟨rfl, Or.inr ⟨5, by decide, rfl, fe 41 (by decide) c_l, by rw [cif_p c_l]; rfl⟩⟩) (fun c5_l => ?_)
  rw [cif_n c5_l, h4]
  refine gQ_w1 (A := fun v_l u_l => u_l = s ∧ ((v_l = 1 ∧ Wd L e 42 f) ∨ (v_l = 0 ∧ ¬ Wd L e 42 f))) (gQ_1 (A := fun v_l u_l => u_l = s ∧ ((v_l = 1 ∧ Wd L e 42 f) ∨ (v_l = 0 ∧ ¬ Wd L e 42 f))) (v_80 (gl_l0 42 (by decide) (by decide)) h1)) (fun v_l u_l hu => ?_)
  obtain ⟨rfl, ⟨v1_l, hd_l⟩ | ⟨v0_l, hd_l⟩⟩ := hu
  · rw [if_neg (by omega)]
    exact gQ_ret ⟨rfl, Or.inr ⟨6, by decide, rfl, fe 42 (by decide) hd_l, by rw [cif_p hd_l]; rfl⟩⟩
  · rw [if_pos v0_l]
    exact gQ_ret ⟨rfl, Or.inl ⟨rfl, by rw [cif_n hd_l]⟩⟩
theorem c_51 (h : Lc s L e f) : gQ (f_51 7 s) (fun r => KC L e s (lpt L e f) r.2.1 r.2.2.2) := by
  have h0 := h
  obtain ⟨⟨h1, h2, h3⟩, ⟨h4, h5⟩, h6, h7⟩ := h
  unfold f_51 lpt
  rw [h4]
  refine gQ_w1 (A := fun v_l u_l => Fr s u_l ∧ ((Nm L e f 0 999 ∧ v_l = nv L f (dr L e f - f) ∧ At u_l L e (nx L e f)) ∨ (¬ Nm L e f 0 999 ∧ v_l = -1 ∧ At u_l L e f))) (gQ_1 (A := fun v_l u_l => Fr s u_l ∧ ((Nm L e f 0 999 ∧ v_l = nv L f (dr L e f - f) ∧ At u_l L e (nx L e f)) ∨ (¬ Nm L e f 0 999 ∧ v_l = -1 ∧ At u_l L e f))) (v_84 h1)) (fun v_l u_l hu => ?_)
  obtain ⟨hF, ⟨hn, hv, ha_l⟩ | ⟨hn, hv, ha_l⟩⟩ := hu
  · have hs := nm_s hn
    have hlo := hn.2.2.1
    rw [if_neg (by omega), cif_p hn]
    have hu := Lc_f h0 hF ha_l ⟨by omega, hs.2⟩
    refine gQ_w1 (A := fun v' z_l => v' = 1 ∧ At z_l L e (nx L e f) ∧ Emi u_l z_l [v_l]) (e_45 hu (by rw [(cl_f hF).2]; omega)) (fun v' z_l hz => ?_)
    obtain ⟨z1, z2, z3⟩ := hz
    refine gQ_ret (Or.inr ⟨_, _, rfl, z1, z2, ?_⟩)
    dsimp only
    rw [← hv]
    exact Emi_ft hF z3
  · rw [if_pos hv, cif_n hn]
    have hu := Lc_f h0 hF ha_l ⟨Nat.le_refl _, h2⟩
    refine gQ_w1 (A := fun v' z_l => z_l = u_l ∧ ((v' = -1 ∧ lfa L e f = Sum.inl f) ∨ (∃ i_l : Nat, i_l < 7 ∧ v' = (i_l : Int) ∧ f < e ∧ lfa L e f = Sum.inr (([1000 + (i_l : Int)], fun F_l => F_l i_l), nx L e f)))) (c_52 hu) (fun v' z_l hz => ?_)
    obtain ⟨rfl, ⟨hv', hl⟩ | ⟨i_l, hi_l, hv', hfe, hl⟩⟩ := hz
    · rw [if_pos hv', hl]
      exact gQ_ret (Or.inl ⟨f, rfl, rfl, ha_l, Dl_f hF⟩)
    · have hs := nx_s (L := L) hfe
      rw [if_neg (by omega), hl, hu.2.1.1]
      refine gQ_v0 (A := fun y_l => Fr z_l y_l ∧ At y_l L e (nx L e f)) (fun r hr => (gQ_T (v_adv ha_l) r hr).2) (fun y_l hy => ?_)
      have hy2 := Lc_f hu hy.1 hy.2 ⟨by omega, hs.2⟩
      have ec : g32 (1000 + v') = 1000 + (i_l : Int) := by
        rw [hv', g32_eq (by omega) (by omega)]
      rw [ec]
      refine gQ_w1 (A := fun v' z_l => v' = 1 ∧ At z_l L e (nx L e f) ∧ Emi y_l z_l [1000 + (i_l : Int)]) (e_45 hy2 ?_) (fun v2 z2 hz => ?_)
      · rw [(cl_f hy.1).2, (cl_f hF).2]
        omega
      · obtain ⟨q1_l, q2_l, q3_l⟩ := hz
        exact gQ_ret (Or.inr ⟨_, _, rfl, q1_l, q2_l, Emi_ft (Fr_t hF hy.1) q3_l⟩)
end Lk

end
section
/-! sums, comparisons, and their joining: the class -/
section Lr
variable {s t u : gS} {L : Nat → Int} {e f g : Nat} {x : Nat ⊕ (LX × Nat)} {v : Int} {cs ds : List Int}
theorem kx {A : Int → gS → Prop} {z : Option gO} (h : gQ z (fun r => A r.2.1 r.2.2.2)) : gQ z (fun r => A r.2.1 r.2.2.2) := h
theorem k83 {c : Int} (hc : ¬ (97 ≤ c ∧ c ≤ 122) ∧ ¬ (48 ≤ c ∧ c ≤ 57)) (h : At s L e f) : gQ (f_83 1 c s) (fun r => Fr s r.2.2.2 ∧ ((r.2.1 = 1 ∧ (f < e ∧ L f = c) ∧ At r.2.2.2 L e (nx L e f)) ∨ (r.2.1 = 0 ∧ ¬ (f < e ∧ L f = c) ∧ At r.2.2.2 L e f))) := fun r hr => (gQ_T (v_83 hc h) r hr).2
theorem k82 {w : Nat} (hw : 28 ≤ w ∧ w < 70) (h : At s L e f) : gQ (f_82 1 w s) (fun r => Fr s r.2.2.2 ∧ ((r.2.1 = 1 ∧ Wd L e w f ∧ At r.2.2.2 L e (nx L e f)) ∨ (r.2.1 = 0 ∧ ¬ Wd L e w f ∧ At r.2.2.2 L e f))) := fun r hr => (gQ_T (v_82 (gl_l0 w hw.2 hw.1) h) r hr).2
theorem k80 {w : Nat} (hw : 28 ≤ w ∧ w < 70) (h : At s L e f) : gQ (f_80 1 w s) (fun r => r.2.2.2 = s ∧ ((r.2.1 = 1 ∧ Wd L e w f) ∨ (r.2.1 = 0 ∧ ¬ Wd L e w f))) := fun r hr => (gQ_T (v_80 (gl_l0 w hw.2 hw.1) h) r hr).2
theorem k81 {c : Int} (hc : ¬ (97 ≤ c ∧ c ≤ 122) ∧ ¬ (48 ≤ c ∧ c ≤ 57)) (h : At s L e f) : gQ (f_81 1 c s) (fun r => r.2.2.2 = s ∧ ((r.2.1 = 1 ∧ f < e ∧ L f = c) ∨ (r.2.1 = 0 ∧ ¬ (f < e ∧ L f = c)))) := fun r hr => (gQ_T (v_81 hc h) r hr).2
theorem c_50 (h : Lc s L e f) : gQ (f_50 7 s) (fun r => KC L e s (lsm L e f) r.2.1 r.2.2.2) := by
  unfold f_50 lsm
  refine gQ_w1 (A := fun v_l u_l => KC L e s (lpt L e f) v_l u_l) (c_51 h) (fun v1_l s1_l h1 => ?_)
  have hT_l : ∃ T, T = eb (lpt L e f) (fun y_l => lsl L e 400 y_l.1 y_l.2) := ⟨_, rfl⟩
  obtain ⟨T, hT_l⟩ := hT_l
  rw [← hT_l]
  refine gQ_loop (fun y_l => y_l.1 = 7 ∧ (0 ≤ y_l.2.2.1 ∧ y_l.2.2.1 ≤ 400) ∧ ((y_l.2.1 = 0 ∧ ∃ q_l, T = Sum.inl q_l ∧ At y_l.2.2.2 L e q_l ∧ Dl s y_l.2.2.2) ∨ (y_l.2.1 = 1 ∧ ∃ x_l g_l, T = lsl L e (400 - y_l.2.2.1).toNat x_l g_l ∧ At y_l.2.2.2 L e g_l ∧ Emi s y_l.2.2.2 x_l.1 ∧ f + x_l.1.length ≤ g_l ∧ g_l ≤ e))) (fun y_l hy => ?_) ⟨rfl, by dsimp only; omega, ?_⟩
  · obtain ⟨y0, x1_l, x2_l, w_l⟩ := y_l
    obtain ⟨q0, q1_l, q2_l⟩ := hy
    dsimp only at q0 q1_l q2_l
    subst q0
    show gQ (sb_50_7 7 x1_l x2_l w_l) _
    unfold sb_50_7
    rcases q2_l with ⟨hx, q_l, hq, ha_l, hd_l⟩ | ⟨hx, x_l, g_l, hq, ha_l, hm_l, hl⟩
    · rw [if_pos hx]
      exact gQ_ite (gQ_map (gQ_bool (gQ_ret (Or.inl ⟨q_l, hq, hx, ha_l, hd_l⟩)))) (gQ_map (gQ_bool (gQ_ret (Or.inl ⟨q_l, hq, hx, ha_l, hd_l⟩))))
    · have hw := Lc_e h hm_l ha_l hl
      by_cases c : x2_l < 400
      · rw [if_pos c, if_neg (by omega), hw.2.1.1]
        rw [show (400 - x2_l).toNat = (400 - x2_l - 1).toNat + 1 by omega] at hq
        unfold lsl at hq
        refine gQ_w1 (A := fun v_l u_l => Fr w_l u_l ∧ ((v_l = 1 ∧ (g_l < e ∧ L g_l = 43) ∧ At u_l L e (nx L e g_l)) ∨ (v_l = 0 ∧ ¬ (g_l < e ∧ L g_l = 43) ∧ At u_l L e g_l))) (k83 (by decide) ha_l) (fun v5 s4_l h4 => ?_)
        obtain ⟨hF, ⟨z1, z2, z3⟩ | ⟨z1, z2, z3⟩⟩ := h4
        · rw [if_neg (by omega)]
          rw [if_pos z2] at hq
          have hs := nx_s (L := L) z2.1
          have h4 := Lc_f hw hF z3 ⟨by omega, hs.2⟩
          refine gQ_w1 (A := fun v_l u_l => KC L e s4_l (lpt L e (nx L e g_l)) v_l u_l) (c_51 h4) (fun v8 s7 h7 => ?_)
          have eg : g32 (x2_l + 1) = x2_l + 1 := g32_eq (by omega) (by omega)
          rcases h7 with ⟨q_l, p1_l, p2_l, p3_l, p4_l⟩ | ⟨y_l, g2, p1_l, p2_l, p3_l, p4_l⟩
          · rw [if_pos p2_l]
            rw [p1_l, eb_l] at hq
            unfold fb_50_51
            refine gQ_ret ⟨rfl, by dsimp only; omega, Or.inl ⟨rfl, q_l, hq, p3_l, Dl_t hm_l.1 (Dl_t (Dl_f hF) p4_l)⟩⟩
          · rw [if_neg (by omega)]
            rw [p1_l, eb_r] at hq
            have hn := lpt_n (L := L) (e := e) (f := nx L e g_l) y_l g2 p1_l
            have h7 := Lc_e h4 p4_l p3_l ⟨hn.1, hn.2.1⟩
            have hb_l : gI s7 7 2 < 400 := by
              have h9 := h7.2.2.2
              have h10 := h7.1.2.2
              have b1 := p4_l.2.1
              have b2 := (cl_f hF).2
              have b3 := hw.2.2.2
              omega
            refine gQ_w1 (A := fun v_l z_l => v_l = 1 ∧ At z_l L e g2 ∧ Emi s7 z_l [2000]) (e_45 h7 hb_l) (fun v11 s10 h10 => ?_)
            obtain ⟨w1_l, w2_l, w3_l⟩ := h10
            rw [if_neg (by omega)]
            refine gQ_ret ⟨rfl, by dsimp only; omega, Or.inr ⟨rfl, (x_l.1 ++ y_l.1 ++ [2000], fun F_l => g32 (x_l.2 F_l + y_l.2 F_l)), g2, ?_, w2_l, ?_, ?_, hn.2.1⟩⟩
            · dsimp only
              rw [eg, show (400 - (x2_l + 1)).toNat = (400 - x2_l - 1).toNat by omega]
              exact hq
            · exact Emi_t (Emi_t hm_l (Emi_ft hF p4_l)) w3_l
            · simp only [List.length_append, List.length_cons, List.length_nil]
              omega
        · rw [if_pos z1]
          rw [if_neg z2] at hq
          exact gQ_map (gQ_bool (gQ_ret (Or.inr ⟨x_l, g_l, hq, hx, z3, Emi_tf hm_l hF⟩)))
      · rw [if_neg c]
        rw [show (400 - x2_l).toNat = 0 by omega] at hq
        exact gQ_map (gQ_bool (gQ_ret (Or.inr ⟨x_l, g_l, hq, hx, ha_l, hm_l⟩)))
  · dsimp only
    rcases h1 with ⟨q_l, p1_l, p2_l, p3_l, p4_l⟩ | ⟨y_l, g2, p1_l, p2_l, p3_l, p4_l⟩
    · rw [p1_l, eb_l] at hT_l
      exact Or.inl ⟨p2_l, q_l, hT_l, p3_l, p4_l⟩
    · rw [p1_l, eb_r] at hT_l
      have hn := lpt_n (L := L) (e := e) (f := f) y_l g2 p1_l
      exact Or.inr ⟨p2_l, y_l, g2, hT_l, p3_l, p4_l, hn.1, hn.2.1⟩
/-- loops of and, of or -/
noncomputable def R8 (L : Nat → Int) (e : Nat) (d : Int) (R : Nat → Int → gS → Option gO) (A : Nat → Nat ⊕ (LX × Nat)) : Prop := ∀ s f, Lc s L e f → gQ (R 7 d s) (fun r => KC L e s (A f) r.2.1 r.2.2.2)
theorem c_l48 {d : Int} {R : Nat → Int → gS → Option gO} {A : Nat → Nat ⊕ (LX × Nat)} (hR : R8 L e d R A) (hA : ∀ f, Ln f e (A f)) (h : Lc s L e f) : gQ (fo_48 R 7 d s) (fun r => KC L e s (eb (A f) (fun y => lal L e 32 2004 opa A 400 y.1 y.2)) r.2.1 r.2.2.2) := by
  unfold fo_48
  refine gQ_w1 (A := fun v_l u_l => KC L e s (A f) v_l u_l) (hR s f h) (fun v1_l s1_l h1 => ?_)
  have hT_l : ∃ T, T = eb (A f) (fun y => lal L e 32 2004 opa A 400 y.1 y.2) := ⟨_, rfl⟩
  obtain ⟨T, hT_l⟩ := hT_l
  rw [← hT_l]
  refine gQ_loop (fun y => (y.1 = 7 ∧ y.2.1 = d) ∧ (0 ≤ y.2.2.2.1 ∧ y.2.2.2.1 ≤ 400) ∧ ((y.2.2.1 = 0 ∧ ∃ q_l, T = Sum.inl q_l ∧ At y.2.2.2.2 L e q_l ∧ Dl s y.2.2.2.2) ∨ (y.2.2.1 = 1 ∧ ∃ x_l g_l, T = lal L e 32 2004 opa A (400 - y.2.2.2.1).toNat x_l g_l ∧ At y.2.2.2.2 L e g_l ∧ Emi s y.2.2.2.2 x_l.1 ∧ f + x_l.1.length ≤ g_l ∧ g_l ≤ e))) (fun y hy => ?_) ⟨⟨rfl, rfl⟩, by dsimp only; omega, ?_⟩
  · obtain ⟨y0, y1, x2_l, x3, w_l⟩ := y
    obtain ⟨⟨q0, q0b⟩, q1_l, q2_l⟩ := hy
    dsimp only at q0 q0b q1_l q2_l
    subst q0 q0b
    show gQ (sb_48_8 R 7 y1 x2_l x3 w_l) _
    unfold sb_48_8
    rcases q2_l with ⟨hx, q_l, hq, ha_l, hd_l⟩ | ⟨hx, x_l, g_l, hq, ha_l, hm_l, hl⟩
    · rw [if_pos hx]
      exact gQ_ite (gQ_map (gQ_bool (gQ_ret (Or.inl ⟨q_l, hq, hx, ha_l, hd_l⟩)))) (gQ_map (gQ_bool (gQ_ret (Or.inl ⟨q_l, hq, hx, ha_l, hd_l⟩))))
    · have hw := Lc_e h hm_l ha_l hl
      by_cases c : x3 < 400
      · rw [if_pos c, if_neg (by omega), hw.2.1.1]
        rw [show (400 - x3).toNat = (400 - x3 - 1).toNat + 1 by omega] at hq
        unfold lal at hq
        refine gQ_w1 (A := fun v_l u_l => Fr w_l u_l ∧ ((v_l = 1 ∧ Wd L e 32 g_l ∧ At u_l L e (nx L e g_l)) ∨ (v_l = 0 ∧ ¬ Wd L e 32 g_l ∧ At u_l L e g_l))) (k82 (by decide) ha_l) (fun v5 s4_l h4 => ?_)
        obtain ⟨hF, ⟨z1, z2, z3⟩ | ⟨z1, z2, z3⟩⟩ := h4
        · rw [if_neg (by omega)]
          rw [cif_p z2] at hq
          have hs := wd_s (w := 32) (by decide) z2
          have h4 := Lc_f hw hF z3 ⟨by omega, hs.2⟩
          refine gQ_w1 (A := fun v_l u_l => KC L e s4_l (A (nx L e g_l)) v_l u_l) (hR s4_l _ h4) (fun v8 s7 h7 => ?_)
          have eg : g32 (x3 + 1) = x3 + 1 := g32_eq (by omega) (by omega)
          rcases h7 with ⟨q_l, p1_l, p2_l, p3_l, p4_l⟩ | ⟨y, g2, p1_l, p2_l, p3_l, p4_l⟩
          · rw [if_pos p2_l]
            rw [p1_l, eb_l] at hq
            unfold fb_48_53
            refine gQ_ret ⟨⟨rfl, rfl⟩, by dsimp only; omega, Or.inl ⟨rfl, q_l, hq, p3_l, Dl_t hm_l.1 (Dl_t (Dl_f hF) p4_l)⟩⟩
          · rw [if_neg (by omega)]
            rw [p1_l, eb_r] at hq
            have hn := hA (nx L e g_l) y g2 p1_l
            have h7 := Lc_e h4 p4_l p3_l ⟨hn.1, hn.2.1⟩
            have hb_l : gI s7 7 2 < 400 := by
              have h9 := h7.2.2.2
              have h10 := h7.1.2.2
              have b1 := p4_l.2.1
              have b2 := (cl_f hF).2
              have b3 := hw.2.2.2
              omega
            refine gQ_w1 (A := fun v_l z_l => v_l = 1 ∧ At z_l L e g2 ∧ Emi s7 z_l [2004]) (e_45 h7 hb_l) (fun v11 s10 h10 => ?_)
            obtain ⟨w1_l, w2_l, w3_l⟩ := h10
            rw [if_neg (by omega)]
            refine gQ_ret ⟨⟨rfl, rfl⟩, by dsimp only; omega, Or.inr ⟨rfl, (x_l.1 ++ y.1 ++ [2004], fun F_l => opa (x_l.2 F_l) (y.2 F_l)), g2, ?_, w2_l, ?_, ?_, hn.2.1⟩⟩
            · dsimp only
              rw [eg, show (400 - (x3 + 1)).toNat = (400 - x3 - 1).toNat by omega]
              exact hq
            · exact Emi_t (Emi_t hm_l (Emi_ft hF p4_l)) w3_l
            · simp only [List.length_append, List.length_cons, List.length_nil]
              omega
        · rw [if_pos z1]
          rw [cif_n z2] at hq
          exact gQ_map (gQ_bool (gQ_ret (Or.inr ⟨x_l, g_l, hq, hx, z3, Emi_tf hm_l hF⟩)))
      · rw [if_neg c]
        rw [show (400 - x3).toNat = 0 by omega] at hq
        exact gQ_map (gQ_bool (gQ_ret (Or.inr ⟨x_l, g_l, hq, hx, ha_l, hm_l⟩)))
  · dsimp only
    rcases h1 with ⟨q_l, p1_l, p2_l, p3_l, p4_l⟩ | ⟨y, g2, p1_l, p2_l, p3_l, p4_l⟩
    · rw [p1_l, eb_l] at hT_l
      exact Or.inl ⟨p2_l, q_l, hT_l, p3_l, p4_l⟩
    · rw [p1_l, eb_r] at hT_l
      have hn := hA f y g2 p1_l
      exact Or.inr ⟨p2_l, y, g2, hT_l, p3_l, p4_l, hn.1, hn.2.1⟩
theorem c_l47 {d : Int} {R : Nat → Int → gS → Option gO} {A : Nat → Nat ⊕ (LX × Nat)} (hR : R8 L e d R A) (hA : ∀ f, Ln f e (A f)) (h : Lc s L e f) : gQ (fo_47 R 7 d s) (fun r => KC L e s (eb (A f) (fun y => lal L e 31 2005 opo A 400 y.1 y.2)) r.2.1 r.2.2.2) := by
  unfold fo_47
  refine gQ_w1 (A := fun v_l u_l => KC L e s (A f) v_l u_l) (hR s f h) (fun v1_l s1_l h1 => ?_)
  have hT_l : ∃ T, T = eb (A f) (fun y => lal L e 31 2005 opo A 400 y.1 y.2) := ⟨_, rfl⟩
  obtain ⟨T, hT_l⟩ := hT_l
  rw [← hT_l]
  refine gQ_loop (fun y => (y.1 = 7 ∧ y.2.1 = d) ∧ (0 ≤ y.2.2.2.1 ∧ y.2.2.2.1 ≤ 400) ∧ ((y.2.2.1 = 0 ∧ ∃ q_l, T = Sum.inl q_l ∧ At y.2.2.2.2 L e q_l ∧ Dl s y.2.2.2.2) ∨ (y.2.2.1 = 1 ∧ ∃ x_l g_l, T = lal L e 31 2005 opo A (400 - y.2.2.2.1).toNat x_l g_l ∧ At y.2.2.2.2 L e g_l ∧ Emi s y.2.2.2.2 x_l.1 ∧ f + x_l.1.length ≤ g_l ∧ g_l ≤ e))) (fun y hy => ?_) ⟨⟨rfl, rfl⟩, by dsimp only; omega, ?_⟩
  · obtain ⟨y0, y1, x2_l, x3, w_l⟩ := y
    obtain ⟨⟨q0, q0b⟩, q1_l, q2_l⟩ := hy
    dsimp only at q0 q0b q1_l q2_l
    subst q0 q0b
    show gQ (sb_47_8 R 7 y1 x2_l x3 w_l) _
    unfold sb_47_8
    rcases q2_l with ⟨hx, q_l, hq, ha_l, hd_l⟩ | ⟨hx, x_l, g_l, hq, ha_l, hm_l, hl⟩
    · rw [if_pos hx]
      exact gQ_ite (gQ_map (gQ_bool (gQ_ret (Or.inl ⟨q_l, hq, hx, ha_l, hd_l⟩)))) (gQ_map (gQ_bool (gQ_ret (Or.inl ⟨q_l, hq, hx, ha_l, hd_l⟩))))
    · have hw := Lc_e h hm_l ha_l hl
      by_cases c : x3 < 400
      · rw [if_pos c, if_neg (by omega), hw.2.1.1]
        rw [show (400 - x3).toNat = (400 - x3 - 1).toNat + 1 by omega] at hq
        unfold lal at hq
        refine gQ_w1 (A := fun v_l u_l => Fr w_l u_l ∧ ((v_l = 1 ∧ Wd L e 31 g_l ∧ At u_l L e (nx L e g_l)) ∨ (v_l = 0 ∧ ¬ Wd L e 31 g_l ∧ At u_l L e g_l))) (k82 (by decide) ha_l) (fun v5 s4_l h4 => ?_)
        obtain ⟨hF, ⟨z1, z2, z3⟩ | ⟨z1, z2, z3⟩⟩ := h4
        · rw [if_neg (by omega)]
          rw [cif_p z2] at hq
          have hs := wd_s (w := 31) (by decide) z2
          have h4 := Lc_f hw hF z3 ⟨by omega, hs.2⟩
          refine gQ_w1 (A := fun v_l u_l => KC L e s4_l (A (nx L e g_l)) v_l u_l) (hR s4_l _ h4) (fun v8 s7 h7 => ?_)
          have eg : g32 (x3 + 1) = x3 + 1 := g32_eq (by omega) (by omega)
          rcases h7 with ⟨q_l, p1_l, p2_l, p3_l, p4_l⟩ | ⟨y, g2, p1_l, p2_l, p3_l, p4_l⟩
          · rw [if_pos p2_l]
            rw [p1_l, eb_l] at hq
            unfold fb_47_53
            refine gQ_ret ⟨⟨rfl, rfl⟩, by dsimp only; omega, Or.inl ⟨rfl, q_l, hq, p3_l, Dl_t hm_l.1 (Dl_t (Dl_f hF) p4_l)⟩⟩
          · rw [if_neg (by omega)]
            rw [p1_l, eb_r] at hq
            have hn := hA (nx L e g_l) y g2 p1_l
            have h7 := Lc_e h4 p4_l p3_l ⟨hn.1, hn.2.1⟩
            have hb_l : gI s7 7 2 < 400 := by
              have h9 := h7.2.2.2
              have h10 := h7.1.2.2
              have b1 := p4_l.2.1
              have b2 := (cl_f hF).2
              have b3 := hw.2.2.2
              omega
            refine gQ_w1 (A := fun v_l z_l => v_l = 1 ∧ At z_l L e g2 ∧ Emi s7 z_l [2005]) (e_45 h7 hb_l) (fun v11 s10 h10 => ?_)
            obtain ⟨w1_l, w2_l, w3_l⟩ := h10
            rw [if_neg (by omega)]
            refine gQ_ret ⟨⟨rfl, rfl⟩, by dsimp only; omega, Or.inr ⟨rfl, (x_l.1 ++ y.1 ++ [2005], fun F_l => opo (x_l.2 F_l) (y.2 F_l)), g2, ?_, w2_l, ?_, ?_, hn.2.1⟩⟩
            · dsimp only
              rw [eg, show (400 - (x3 + 1)).toNat = (400 - x3 - 1).toNat by omega]
              exact hq
            · exact Emi_t (Emi_t hm_l (Emi_ft hF p4_l)) w3_l
            · simp only [List.length_append, List.length_cons, List.length_nil]
              omega
        · rw [if_pos z1]
          rw [cif_n z2] at hq
          exact gQ_map (gQ_bool (gQ_ret (Or.inr ⟨x_l, g_l, hq, hx, z3, Emi_tf hm_l hF⟩)))
      · rw [if_neg c]
        rw [show (400 - x3).toNat = 0 by omega] at hq
        exact gQ_map (gQ_bool (gQ_ret (Or.inr ⟨x_l, g_l, hq, hx, ha_l, hm_l⟩)))
  · dsimp only
    rcases h1 with ⟨q_l, p1_l, p2_l, p3_l, p4_l⟩ | ⟨y, g2, p1_l, p2_l, p3_l, p4_l⟩
    · rw [p1_l, eb_l] at hT_l
      exact Or.inl ⟨p2_l, q_l, hT_l, p3_l, p4_l⟩
    · rw [p1_l, eb_r] at hT_l
      have hn := hA f y g2 p1_l
      exact Or.inr ⟨p2_l, y, g2, hT_l, p3_l, p4_l, hn.1, hn.2.1⟩
end Lr

end
section
/-! atoms, lines: the class -/
section La
variable {s t u : gS} {L : Nat → Int} {e f g : Nat} {x : Nat ⊕ (LX × Nat)} {v : Int} {cs ds : List Int}
/-- a comparison -/
theorem c_cmp {R1 R2 : Nat → Int → gS → Option gO} (h : Lc s L e f) : gQ ((f_82 (gR s 7 0) 34 s).bind (gv1 (fun v8 s7 => if v8 = 0 then (f_82 (gR s7 7 0) 35 s7).bind (gv1 (fun v11 s10 => if v11 = 0 then (f_50 7 s10).bind (gv1 (fun v14 s13 => if v14 = 0 then some ((1, 0, 0, s13) : gO) else (f_83 (gR s13 7 0) 60 s13).bind (gv1 (fun v17 s16 => if v17 = 0 then (f_83 (gR s16 7 0) 62 s16).bind (gv1 (fun v20 s19 => if v20 = 0 then fb_49_207 R1 R2 s19 else fb_49_176 R1 R2 7 v17 s19)) else fb_49_176 R1 R2 7 v17 s16)))) else (f_45 7 1008 s10).bind (gv1 (fun v29 s28 => some ((1, v29, 0, s28) : gO))))) else (f_45 7 1007 s7).bind (gv1 (fun v32 s31 => some ((1, v32, 0, s31) : gO)))))) (fun r => KC L e s (lcm L e f) r.2.1 r.2.2.2) := by
  have h0 := h
  obtain ⟨⟨h1, h2, h3⟩, ⟨h4, h5⟩, h6, h7⟩ := h
  have em : ∀ (c_l : Int) (F_l : (Nat → Int) → Int) (w_l : Nat) (z_l : gS), 28 ≤ w_l ∧ w_l < 70 → Wd L e w_l f → Fr s z_l → At z_l L e (nx L e f) → gQ ((f_45 7 c_l z_l).bind (gv1 (fun v29 s28 => some ((1, v29, 0, s28) : gO)))) (fun r => KC L e s (Sum.inr (([c_l], F_l), nx L e f)) r.2.1 r.2.2.2) := fun c_l F_l w_l z_l hw hd_l hF ha_l => by
    have hs := wd_s hw hd_l
    refine gQ_w1 (A := fun v' y_l => v' = 1 ∧ At y_l L e (nx L e f) ∧ Emi z_l y_l [c_l]) (e_45 (Lc_f h0 hF ha_l ⟨by omega, hs.2⟩) (by rw [(cl_f hF).2]; omega)) (fun v' y_l hy => ?_)
    exact gQ_ret (Or.inr ⟨_, _, rfl, hy.1, hy.2.1, Emi_ft hF hy.2.2⟩)
  unfold lcm
  rw [h4]
  refine gQ_w1 (A := fun v_l u_l => Fr s u_l ∧ ((v_l = 1 ∧ Wd L e 34 f ∧ At u_l L e (nx L e f)) ∨ (v_l = 0 ∧ ¬ Wd L e 34 f ∧ At u_l L e f))) (k82 (by decide) h1) (fun v8 s7 h7' => ?_)
  obtain ⟨hF, ⟨z1, z2, z3⟩ | ⟨z1, z2, z3⟩⟩ := h7'
  · rw [if_neg (by omega), cif_p z2]
    exact em 1007 _ 34 s7 (by decide) z2 hF z3
  rw [if_pos z1, cif_n z2]
  have l7 := Lc_f h0 hF z3 ⟨Nat.le_refl _, h2⟩
  rw [l7.2.1.1]
  refine gQ_w1 (A := fun v_l u_l => Fr s7 u_l ∧ ((v_l = 1 ∧ Wd L e 35 f ∧ At u_l L e (nx L e f)) ∨ (v_l = 0 ∧ ¬ Wd L e 35 f ∧ At u_l L e f))) (k82 (by decide) z3) (fun v11 s10 h10 => ?_)
  obtain ⟨hG, ⟨y1, y2, y3⟩ | ⟨y1, y2, y3⟩⟩ := h10
  · rw [if_neg (by omega), cif_p y2]
    exact em 1008 _ 35 s10 (by decide) y2 (Fr_t hF hG) y3
  rw [if_pos y1, cif_n y2]
  have hFG := Fr_t hF hG
  have l10 := Lc_f h0 hFG y3 ⟨Nat.le_refl _, h2⟩
  refine gQ_w1 (A := fun v_l u_l => KC L e s10 (lsm L e f) v_l u_l) (c_50 l10) (fun v14 s13 h13 => ?_)
  rcases h13 with ⟨q_l, p1_l, p2_l, p3_l, p4_l⟩ | ⟨y_l, g2, p1_l, p2_l, p3_l, p4_l⟩
  · rw [if_pos p2_l, p1_l, eb_l]
    exact gQ_ret (Or.inl ⟨q_l, rfl, rfl, p3_l, Dl_t (Dl_f hFG) p4_l⟩)
  rw [if_neg (by omega), p1_l, eb_r]
  dsimp only
  have hn := lsm_n (L := L) (e := e) (f := f) y_l g2 p1_l
  have l13 := Lc_e l10 p4_l p3_l ⟨hn.1, hn.2.1⟩
  have m13 : Emi s s13 y_l.1 := Emi_ft hFG p4_l
  -- the second sum
  have key_l : ∀ (x3 c_l : Int) (G_l : LX → (Nat → Int) → Int) (z_l : gS), Fr s13 z_l → At z_l L e (nx L e g2) → g2 < e → (x3 = 0 → c_l = 2002) → (x3 ≠ 0 → c_l = 2001) → gQ (fb_49_176 R1 R2 7 x3 z_l) (fun r => KC L e s (eb (lsm L e (nx L e g2)) (fun w_l => Sum.inr ((y_l.1 ++ w_l.1.1 ++ [c_l], G_l w_l.1), w_l.2))) r.2.1 r.2.2.2) := fun x3 c_l G_l z_l hz haz hge c1_l c2_l => by
    have hs := nx_s (L := L) hge
    have lz := Lc_f l13 hz haz ⟨by omega, hs.2⟩
    unfold fb_49_176 fb_49_197 fb_49_207
    refine gQ_w1 (A := fun v_l u_l => KC L e z_l (lsm L e (nx L e g2)) v_l u_l) (c_50 lz) (fun v23 s22 h22 => ?_)
    rcases h22 with ⟨q_l, r1_l, r2, r3, r4⟩ | ⟨w_l, g3_l, r1_l, r2, r3, r4⟩
    · rw [if_pos r2, r1_l, eb_l]
      exact gQ_ret (Or.inl ⟨q_l, rfl, rfl, r3, Dl_t m13.1 (Dl_t (Dl_f hz) r4)⟩)
    rw [if_neg (by omega), r1_l, eb_r]
    have hn3 := lsm_n (L := L) (e := e) (f := nx L e g2) w_l g3_l r1_l
    have l22 := Lc_e lz r4 r3 ⟨hn3.1, hn3.2.1⟩
    have hb_l : gI s22 7 2 < 400 := by
      have h9 := l22.1.2.2
      have b1 := r4.2.1
      have b2 := (cl_f hz).2
      have b3 := l13.2.2.2
      omega
    have em2 : ∀ c', c' = c_l → gQ ((f_45 7 c' s22).bind (gv1 (fun v26 s25 => if v26 = 0 then some ((1, 0, 0, s25) : gO) else some ((1, 1, 0, s25))))) (fun r => KC L e s (Sum.inr ((y_l.1 ++ w_l.1 ++ [c_l], G_l w_l), g3_l)) r.2.1 r.2.2.2) := fun c' hc' => by
      refine gQ_w1 (A := fun v' t_l => v' = 1 ∧ At t_l L e g3_l ∧ Emi s22 t_l [c']) (e_45 l22 hb_l) (fun v' t_l ht => ?_)
      rw [if_neg (by omega)]
      refine gQ_ret (Or.inr ⟨_, _, rfl, rfl, ht.2.1, ?_⟩)
      dsimp only
      rw [← hc']
      exact Emi_t (Emi_t m13 (Emi_ft hz r4)) ht.2.2
    by_cases d : x3 = 0
    · rw [if_pos d]
      exact em2 2002 (c1_l d).symm
    · rw [if_neg d]
      exact em2 2001 (c2_l d).symm
  rw [l13.2.1.1]
  refine gQ_w1 (A := fun v_l u_l => Fr s13 u_l ∧ ((v_l = 1 ∧ (g2 < e ∧ L g2 = 60) ∧ At u_l L e (nx L e g2)) ∨ (v_l = 0 ∧ ¬ (g2 < e ∧ L g2 = 60) ∧ At u_l L e g2))) (k83 (by decide) p3_l) (fun v17 s16 h16_l => ?_)
  obtain ⟨hH, ⟨w1_l, w2_l, w3_l⟩ | ⟨w1_l, w2_l, w3_l⟩⟩ := h16_l
  · rw [if_neg (by omega), if_pos w2_l]
    exact key_l v17 2001 (fun z_l F_l => if y_l.2 F_l < z_l.2 F_l then 1 else 0) s16 hH w3_l w2_l.1 (fun z_l => by omega) (fun _ => rfl)
  rw [if_pos w1_l, if_neg w2_l]
  have l16 := Lc_f l13 hH w3_l ⟨Nat.le_refl _, hn.2.1⟩
  rw [l16.2.1.1]
  refine gQ_w1 (A := fun v_l u_l => Fr s16 u_l ∧ ((v_l = 1 ∧ (g2 < e ∧ L g2 = 62) ∧ At u_l L e (nx L e g2)) ∨ (v_l = 0 ∧ ¬ (g2 < e ∧ L g2 = 62) ∧ At u_l L e g2))) (k83 (by decide) w3_l) (fun v20 s19 h19 => ?_)
  obtain ⟨hI, ⟨u1_l, u2_l, u3⟩ | ⟨u1_l, u2_l, u3⟩⟩ := h19
  · rw [if_neg (by omega), if_pos u2_l]
    exact key_l v17 2002 (fun z_l F_l => if z_l.2 F_l < y_l.2 F_l then 1 else 0) s19 (Fr_t hH hI) u3 u2_l.1 (fun _ => rfl) (fun z_l => absurd w1_l z_l)
  · rw [if_pos u1_l, if_neg u2_l]
    unfold fb_49_207
    exact gQ_ret (Or.inl ⟨g2, rfl, rfl, u3, Dl_t m13.1 (Dl_f (Fr_t hH hI))⟩)
theorem c_49n (n : Nat) : (∀ d : Int, 0 ≤ d ∧ d ≤ 6 → R8 L e d (fn_47 n) (lany L e (latm L e (6 - d).toNat))) ∧ (∀ d : Int, 0 ≤ d ∧ d ≤ 6 → R8 L e d (fn_48 n) (lall L e (latm L e (6 - d).toNat))) ∧ (∀ d : Int, 0 ≤ d ∧ d ≤ 6 → R8 L e d (fn_49 n) (latm L e (6 - d).toNat)) := by
  induction n with
  | zero => exact ⟨fun _ _ _ _ _ => gQ_none, fun _ _ _ _ _ => gQ_none, fun _ _ _ _ _ => gQ_none⟩
  | succ n ih_l =>
    refine ⟨fun d hd_l s_l f_l h_l => ?_, fun d hd_l s_l f_l h_l => ?_, fun d hd_l s_l f_l h_l => ?_⟩
    · exact c_l47 (ih_l.2.1 d hd_l) (lall_n (latm_n _)) h_l
    · exact c_l48 (ih_l.2.2 d hd_l) (latm_n _) h_l
    · show gQ (fo_49 (fn_47 n) (fn_49 n) 7 d s_l) _
      have h0 := h_l
      obtain ⟨⟨h1, h2, h3⟩, ⟨h4, h5⟩, h6, h7⟩ := h_l
      unfold fo_49
      rw [h4]
      refine gQ_w1 (A := fun v_l u_l => u_l = s_l ∧ ((v_l = 1 ∧ Wd L e 33 f_l) ∨ (v_l = 0 ∧ ¬ Wd L e 33 f_l))) (k80 (by decide) h1) (fun v2 s1_l hs1 => ?_)
      obtain ⟨rfl, hv2⟩ := hs1
      have nest : ∀ x2_l : Int, (x2_l = 0 → f_l < e ∧ L f_l = 40 ∧ ¬ Wd L e 33 f_l) → (x2_l ≠ 0 → Wd L e 33 f_l) → gQ (fb_49_26 (fn_47 n) (fn_49 n) 7 d x2_l s1_l) (fun r_l => KC L e s1_l (latm L e (6 - d).toNat f_l) r_l.2.1 r_l.2.2.2) := fun x2_l k0_l k1_l => by
        unfold fb_49_26 fb_49_99
        by_cases c6 : d < 6
        · rw [if_pos c6, h4]
          rw [show (6 - d).toNat = (6 - (d + 1)).toNat + 1 by omega]
          have eg : g32 (d + 1) = d + 1 := g32_eq (by omega) (by omega)
          have hfe : f_l < e := by
            by_cases c : x2_l = 0
            · exact (k0_l c).1
            · exact (en_w (gl_l0 33 (by decide) (by decide)) (k1_l c)).2
          have hs := nx_s (L := L) hfe
          refine gQ_v0 (A := fun y_l => Fr s1_l y_l ∧ At y_l L e (nx L e f_l)) (fun r_l hr => (gQ_T (v_adv h1) r_l hr).2) (fun s34 h34 => ?_)
          have l34 := Lc_f h0 h34.1 h34.2 ⟨by omega, hs.2⟩
          rw [eg]
          unfold latm
          by_cases c : x2_l = 0
          · obtain ⟨k2_l, k3_l, k4_l⟩ := k0_l c
            rw [if_pos c, cif_n k4_l, if_pos ⟨k2_l, k3_l⟩]
            refine gQ_w1 (A := fun v_l u_l => KC L e s34 (lany L e (latm L e (6 - (d + 1)).toNat) (nx L e f_l)) v_l u_l) (ih_l.1 (d + 1) (by omega) s34 _ l34) (fun v37 s36 h36 => ?_)
            rcases h36 with ⟨q_l, p1_l, p2_l, p3_l, p4_l⟩ | ⟨y_l, g2, p1_l, p2_l, p3_l, p4_l⟩
            · rw [if_pos p2_l, p1_l, eb_l]
              exact gQ_ret (Or.inl ⟨q_l, rfl, rfl, p3_l, Dl_t (Dl_f h34.1) p4_l⟩)
            · rw [if_neg (by omega), p1_l, eb_r]
              dsimp only
              have hn := lany_n (latm_n _) (nx L e f_l) y_l g2 p1_l
              have l36 := Lc_e l34 p4_l p3_l ⟨hn.1, hn.2.1⟩
              rw [l36.2.1.1]
              refine gQ_w1 (A := fun v_l u_l => Fr s36 u_l ∧ ((v_l = 1 ∧ (g2 < e ∧ L g2 = 41) ∧ At u_l L e (nx L e g2)) ∨ (v_l = 0 ∧ ¬ (g2 < e ∧ L g2 = 41) ∧ At u_l L e g2))) (k83 (by decide) p3_l) (fun v40 s39 h39 => ?_)
              obtain ⟨hF, ⟨z1, z2, z3⟩ | ⟨z1, z2, z3⟩⟩ := h39
              · rw [if_neg (by omega), if_pos z2]
                exact gQ_ret (Or.inr ⟨_, _, rfl, rfl, z3, Emi_ft h34.1 (Emi_tf p4_l hF)⟩)
              · rw [if_pos z1, if_neg z2]
                exact gQ_ret (Or.inl ⟨g2, rfl, rfl, z3, Dl_t (Dl_f h34.1) (Dl_t p4_l.1 (Dl_f hF))⟩)
          · rw [if_neg c, cif_p (k1_l c)]
            refine gQ_w1 (A := fun v_l u_l => KC L e s34 (latm L e (6 - (d + 1)).toNat (nx L e f_l)) v_l u_l) (ih_l.2.2 (d + 1) (by omega) s34 _ l34) (fun v43 s42 h42 => ?_)
            rcases h42 with ⟨q_l, p1_l, p2_l, p3_l, p4_l⟩ | ⟨y_l, g2, p1_l, p2_l, p3_l, p4_l⟩
            · rw [if_pos p2_l, p1_l, eb_l]
              exact gQ_ret (Or.inl ⟨q_l, rfl, rfl, p3_l, Dl_t (Dl_f h34.1) p4_l⟩)
            · rw [if_neg (by omega), p1_l, eb_r]
              have hn := latm_n (L := L) (e := e) _ (nx L e f_l) y_l g2 p1_l
              have l42 := Lc_e l34 p4_l p3_l ⟨hn.1, hn.2.1⟩
              have hb_l : gI s42 7 2 < 400 := by
                have h9 := l42.1.2.2
                have b1 := p4_l.2.1
                have b2 := (cl_f h34.1).2
                omega
              refine gQ_w1 (A := fun v' t_l => v' = 1 ∧ At t_l L e g2 ∧ Emi s42 t_l [2003]) (e_45 l42 hb_l) (fun v' t_l ht => ?_)
              rw [if_neg (by omega)]
              exact gQ_ret (Or.inr ⟨_, _, rfl, rfl, ht.2.1, Emi_ft h34.1 (Emi_t p4_l ht.2.2)⟩)
        · rw [if_neg c6]
          rw [show (6 - d).toNat = 0 by omega]
          unfold latm
          by_cases c : x2_l = 0
          · obtain ⟨k2_l, k3_l, k4_l⟩ := k0_l c
            rw [cif_n k4_l, if_pos ⟨k2_l, k3_l⟩]
            exact gQ_ret (Or.inl ⟨f_l, rfl, rfl, h1, Dl_r⟩)
          · rw [cif_p (k1_l c)]
            exact gQ_ret (Or.inl ⟨f_l, rfl, rfl, h1, Dl_r⟩)
      rcases hv2 with ⟨v1_l, hd1⟩ | ⟨v0_l, hd0⟩
      · rw [if_neg (by omega)]
        exact nest v2 (fun z_l => by omega) (fun _ => hd1)
      · rw [if_pos v0_l, h4]
        refine gQ_w1 (A := fun v_l u_l => u_l = s1_l ∧ ((v_l = 1 ∧ f_l < e ∧ L f_l = 40) ∨ (v_l = 0 ∧ ¬ (f_l < e ∧ L f_l = 40)))) (k81 (by decide) h1) (fun v5 s4_l hs4 => ?_)
        obtain ⟨rfl, ⟨v1_l, hc1, hc2⟩ | ⟨v5, hc_l⟩⟩ := hs4
        · rw [if_neg (by omega)]
          exact nest v2 (fun _ => ⟨hc1, hc2, hd0⟩) (fun z_l => absurd v0_l z_l)
        · rw [if_pos v5]
          have el : latm L e (6 - d).toNat f_l = lcm L e f_l := by
            cases (6 - d).toNat with
            | zero => unfold latm; rw [cif_n hd0, if_neg hc_l]
            | succ k_l => unfold latm; rw [cif_n hd0, if_neg hc_l]
          rw [el]
          exact c_cmp h0
end La

end
section
/-! lines and the law: the class -/
section Ll
variable {s t u : gS} {L : Nat → Int} {e f g : Nat} {v : Int}
theorem c_46 (h : Lc s L e f) : gQ (f_46 7 s) (fun r => KC L e s (lline L e f) r.2.1 r.2.2.2) := by
  have h0 := h
  obtain ⟨⟨h1, h2, h3⟩, ⟨h4, h5⟩, h6, h7⟩ := h
  have key_l : ∀ (x1_l b_l sg : Int) (w_l : Nat), 28 ≤ w_l ∧ w_l < 70 → Wd L e w_l f → (x1_l = 0 → b_l = 4000) → (x1_l ≠ 0 → b_l = 3000) → gQ (fb_46_28 7 x1_l s) (fun r => KC L e s (lln L e b_l sg (nx L e f)) r.2.1 r.2.2.2) := fun x1_l b_l sg w_l hw hd_l c1_l c2_l => by
    have hs := wd_s hw hd_l
    unfold fb_46_28 lln
    rw [h4]
    refine gQ_v0 (A := fun y_l => Fr s y_l ∧ At y_l L e (nx L e f)) (fun r hr => (gQ_T (v_adv h1) r hr).2) (fun s7 h7' => ?_)
    have l7 := Lc_f h0 h7'.1 h7'.2 ⟨by omega, hs.2⟩
    rw [l7.2.1.1]
    refine gQ_w1 (A := fun v_l u_l => Fr s7 u_l ∧ ((Nm L e (nx L e f) 0 30 ∧ v_l = nv L (nx L e f) (dr L e (nx L e f) - nx L e f) ∧ At u_l L e (nx L e (nx L e f))) ∨ (¬ Nm L e (nx L e f) 0 30 ∧ v_l = -1 ∧ At u_l L e (nx L e f)))) (fun r hr => (gQ_T (v_84 h7'.2) r hr).2) (fun v10 s9 h9 => ?_)
    obtain ⟨hF, ⟨hn, hv, ha_l⟩ | ⟨hn, hv, ha_l⟩⟩ := h9
    · have hlo := hn.2.2.1
      have hhi := hn.2.2.2
      have ht := nm_s hn
      rw [if_neg (by omega), cif_p hn]
      have l9 := Lc_f l7 hF ha_l ⟨by omega, ht.2⟩
      have f9_l := Fr_t h7'.1 hF
      -- the last_l code
      have last_l : ∀ (z_l : gS) (g3_l : Nat) (cs : List Int) (G_l : (Nat → Int) → Int), Lc z_l L e g3_l → At z_l L e g3_l → Emi s z_l cs → gI z_l 7 2 < 400 → gQ (fb_46_78 7 x1_l v10 1 z_l) (fun r => KC L e s (Sum.inr ((cs ++ [b_l + nv L (nx L e f) (dr L e (nx L e f) - nx L e f)], G_l), g3_l)) r.2.1 r.2.2.2) := fun z_l g3_l cs G_l lz az mz hb_l => by
        unfold fb_46_78 fb_46_97 fb_46_109
        have em : ∀ c', c' = b_l + v10 → gQ ((f_45 7 c' z_l).bind (gv1 (fun v18 s17 => if v18 = 0 then some ((1, 0, 0, s17) : gO) else some ((1, 1, 0, s17))))) (fun r => KC L e s (Sum.inr ((cs ++ [b_l + nv L (nx L e f) (dr L e (nx L e f) - nx L e f)], G_l), g3_l)) r.2.1 r.2.2.2) := fun c' hc_l => by
          refine gQ_w1 (A := fun v' t_l => v' = 1 ∧ At t_l L e g3_l ∧ Emi z_l t_l [c']) (e_45 lz hb_l) (fun v' t_l ht => ?_)
          rw [if_neg (by omega)]
          refine gQ_ret (Or.inr ⟨_, _, rfl, rfl, ht.2.1, ?_⟩)
          dsimp only
          rw [← hv, ← hc_l]
          exact Emi_t mz ht.2.2
        rw [if_neg (by decide)]
        by_cases d : x1_l = 0
        · rw [if_pos d]
          exact em _ (by rw [c1_l d]; exact g32_eq (by omega) (by omega))
        · rw [if_neg d]
          exact em _ (by rw [c2_l d]; exact g32_eq (by omega) (by omega))
      rw [l9.2.1.1]
      refine gQ_w1 (A := fun v_l u_l => Fr s9 u_l ∧ ((v_l = 1 ∧ Wd L e 30 (nx L e (nx L e f)) ∧ At u_l L e (nx L e (nx L e (nx L e f)))) ∨ (v_l = 0 ∧ ¬ Wd L e 30 (nx L e (nx L e f)) ∧ At u_l L e (nx L e (nx L e f))))) (k82 (by decide) ha_l) (fun v12 s11 h11 => ?_)
      obtain ⟨hG, ⟨z1, z2, z3⟩ | ⟨z1, z2, z3⟩⟩ := h11
      · rw [if_neg (by omega), cif_p z2]
        have hx := wd_s (w := 30) (by decide) z2
        have l11 := Lc_f l9 hG z3 ⟨by omega, hx.2⟩
        have hk := (c_49n (L := L) (e := e) 24).1 0 (by decide) s11 _ l11
        refine gQ_w1 (A := fun v_l u_l => KC L e s11 (lany L e (latm L e 6) (nx L e (nx L e (nx L e f)))) v_l u_l) hk (fun v21 s20 h20 => ?_)
        rcases h20 with ⟨q_l, p1_l, p2_l, p3_l, p4_l⟩ | ⟨y_l, g2, p1_l, p2_l, p3_l, p4_l⟩
        · rw [p1_l, eb_l, p2_l]
          unfold fb_46_78 fb_46_109
          rw [if_pos rfl]
          exact gQ_ret (Or.inl ⟨q_l, rfl, rfl, p3_l, Dl_t (Dl_f (Fr_t f9_l hG)) p4_l⟩)
        · rw [p1_l, eb_r, p2_l]
          have hn2 := lany_n (latm_n 6) _ y_l g2 p1_l
          have l20 := Lc_e l11 p4_l p3_l ⟨hn2.1, hn2.2.1⟩
          refine last_l s20 g2 y_l.1 _ l20 p3_l (Emi_ft (Fr_t f9_l hG) p4_l) ?_
          have h9 := l20.1.2.2
          have b1 := p4_l.2.1
          have b2 := (cl_f (Fr_t f9_l hG)).2
          omega
      · rw [if_pos z1, cif_n z2]
        have l11 := Lc_f l9 hG z3 ⟨Nat.le_refl _, ht.2⟩
        have b2 := (cl_f (Fr_t f9_l hG)).2
        refine gQ_w1 (A := fun v' t_l => v' = 1 ∧ At t_l L e (nx L e (nx L e f)) ∧ Emi s11 t_l [1]) (e_45 l11 (by omega)) (fun v15 s14 h14 => ?_)
        obtain ⟨r1_l, r2, r3⟩ := h14
        rw [r1_l]
        have b3 : gI s14 7 2 = gI s11 7 2 + 1 := by
          rw [r3.2.1]
          rfl
        have l14 : Lc s14 L e (nx L e (nx L e f)) := ⟨⟨r2, ht.2, h3⟩, ⟨(r3.1.1.2.2 7 0).trans l11.2.1.1, (r3.1.1.2.2 7 1).trans l11.2.1.2⟩, by omega, by omega⟩
        exact last_l s14 _ [1] _ l14 r2 (Emi_ft (Fr_t f9_l hG) r3) (by omega)
    · rw [if_pos hv, cif_n hn]
      exact gQ_ret (Or.inl ⟨_, rfl, rfl, ha_l, Dl_f (Fr_t h7'.1 hF)⟩)
  unfold f_46 lline
  rw [h4]
  refine gQ_w1 (A := fun v_l u_l => u_l = s ∧ ((v_l = 1 ∧ Wd L e 28 f) ∨ (v_l = 0 ∧ ¬ Wd L e 28 f))) (k80 (by decide) h1) (fun v2 s1_l hs1 => ?_)
  obtain ⟨rfl, ⟨v1_l, hd_l⟩ | ⟨v0_l, hd_l⟩⟩ := hs1
  · rw [if_neg (by omega), cif_p hd_l]
    exact key_l v2 3000 1 28 (by decide) hd_l (fun z_l => by omega) (fun _ => rfl)
  · rw [if_pos v0_l, cif_n hd_l, h4]
    refine gQ_w1 (A := fun v_l u_l => u_l = s1_l ∧ ((v_l = 1 ∧ Wd L e 29 f) ∨ (v_l = 0 ∧ ¬ Wd L e 29 f))) (k80 (by decide) h1) (fun v5 s4_l hs4 => ?_)
    obtain ⟨rfl, ⟨v1_l, hd2⟩ | ⟨v5, hd2⟩⟩ := hs4
    · rw [if_neg (by omega), cif_p hd2]
      exact key_l v2 4000 (-1) 29 (by decide) hd2 (fun _ => rfl) (fun z_l => absurd v0_l z_l)
    · rw [if_pos v5, cif_n hd2]
      exact gQ_ret (Or.inl ⟨f, rfl, rfl, h1, Dl_r⟩)
/-- a law that was read: its object -/
noncomputable def Lob (r : gS) (A : Nat) (cs : List Int) (k : Nat) : Prop := gI r A 0 = (k : Int) ∧ (List.range cs.length).map (gI r (gR r A 1)) = cs ∧ gK r (gR r A 1) = 100 + 8 * cs.length ∧ A ≠ gR r A 1
/-- behind the reading: what is as it was -/
noncomputable def Dz (s t : gS) : Prop := ∀ a k, a < gn s → ¬ (a = 1 ∧ (k = 2 ∨ k = 3 ∨ k = 4)) → ¬ (a = 7 ∧ k = 2) → a ≠ 8 → gI t a k = gI s a k
noncomputable def LR (L : Nat → Int) (e : Nat) (s : gS) (r : gO) : Prop := Dz s r.2.2.2 ∧ ((r.2.2.1 = 0 ∧ ∃ q : Nat, lwp L e = Sum.inl q ∧ gI r.2.2.2 1 3 = (q : Int)) ∨ (r.2.2.1 ≠ 0 ∧ gn s ≤ r.2.2.1 ∧ ∃ y k, lwp L e = Sum.inr (y, k) ∧ Lob r.2.2.2 r.2.2.1 y.1 k))
theorem gQ_wr {Q : Type} {P : Q → Prop} {z : Option gO} {A : Nat → gS → Prop} {E : Nat → gS → Option Q} (h : gQ z (fun r => A r.2.2.1 r.2.2.2)) (k : ∀ v s, A v s → gQ (E v s) P) : gQ (z.bind (gvr E)) P := by
  cases z with
  | none => exact gQ_none
  | some r =>
    have hA := h r rfl
    show gQ (gvr E r) P
    unfold gvr
    exact gQ_ite (k _ _ hA) gQ_none
theorem e_law {s0 z : gS} {cs : List Int} {k : Nat} {y : LX} (hz : Dl s0 z) (hc : cl z = cs) (h2 : gI z 7 2 = (cs.length : Int)) (hr : gR z 7 1 = 8) (hn : 232 ≤ gn s0) (hw : lwp L e = Sum.inr (y, k)) (hy : y.1 = cs) {i : Int} (hi : i = (cs.length : Int)) : gQ ((f_274 8 i (gnw z 4)).bind (gvr (fun v18 s17 => (f_42 (gn z) (k : Int) v18 s17).bind (gv0 (fun s19 => if gn z = 0 then none else some ((1, 0, gn z, s19) : gO)))))) (LR L e s0) := by
  have hnz : 232 ≤ gn z := by rw [hz.1.1]; exact hn
  have hnz1 : 232 ≤ z.1 := hnz
  refine gQ_wr (A := fun v_l t_l => v_l = gn z + 1 ∧ t_l = gcpy (gnw (gnw z 4) (100 + 8 * cs.length)) 8 0 (gn z + 1) 0 cs.length) ?_ (fun v_l t_l ht => ?_)
  · unfold f_274
    rw [hi, Int.toNat_natCast]
    exact gQ_ite gQ_none (gQ_chk (gQ_ite gQ_none (gQ_ret ⟨rfl, rfl⟩)))
  · obtain ⟨rfl, rfl⟩ := ht
    unfold f_42
    dsimp only
    refine gQ_v0 (A := fun t_l => t_l = gwr (gw (gcpy (gnw (gnw z 4) (100 + 8 * cs.length)) 8 0 (gn z + 1) 0 cs.length) (gn z) 0 (k : Int)) (gn z) 1 (gn z + 1)) (gQ_ret rfl) (fun t_l ht => ?_)
    refine gQ_ite gQ_none (gQ_ret ?_)
    have hI : ∀ a_l j_l, gI t_l a_l j_l = if a_l = gn z ∧ j_l = 0 then (k : Int) else if a_l = gn z + 1 ∧ 0 ≤ j_l ∧ j_l < 0 + cs.length then (if 8 = gn z + 1 then 0 else if 8 = gn z then 0 else gI z 8 (0 + (j_l - 0))) else if a_l = gn z + 1 then 0 else if a_l = gn z then 0 else gI z a_l j_l := fun a_l j_l => by rw [ht]; rfl
    have hR : ∀ a_l j_l, gR t_l a_l j_l = if a_l = gn z ∧ j_l = 1 then gn z + 1 else if a_l = gn z + 1 then 0 else if a_l = gn z then 0 else gR z a_l j_l := fun a_l j_l => by rw [ht]; rfl
    have hK_l : ∀ a_l, gK t_l a_l = if a_l = gn z + 1 then 100 + 8 * cs.length else if a_l = gn z then 4 else gK z a_l := fun a_l => by rw [ht]; rfl
    clear ht
    have r1_l : gR t_l (gn z) 1 = gn z + 1 := by rw [hR, if_pos ⟨rfl, rfl⟩]
    refine ⟨fun a_l j_l ha_l c1_l c2_l c3_l => ?_, Or.inr ⟨?_, ?_, y, k, hw, ?_, ?_, ?_, ?_⟩⟩
    · dsimp only
      have ha' : a_l < gn z := by rw [hz.1.1]; exact ha_l
      rw [hI, if_neg (by omega), if_neg (by omega), if_neg (by omega), if_neg (by omega)]
      exact hz.2 a_l j_l c1_l c2_l c3_l
    · dsimp only
      omega
    · dsimp only
      rw [hz.1.1]
      exact Nat.le_refl _
    · dsimp only
      rw [hI, if_pos ⟨rfl, rfl⟩]
    · dsimp only
      rw [r1_l, hy]
      refine Eq.trans ?_ hc
      unfold cl
      rw [h2, Int.toNat_natCast]
      refine List.map_congr_left (fun j_l hj => ?_)
      have hj' := List.mem_range.mp hj
      rw [hI, if_neg (by omega), if_pos (by omega), if_neg (by omega), if_neg (by omega), show 0 + (j_l - 0) = j_l by omega]
    · dsimp only
      rw [r1_l, hK_l, if_pos rfl, hy]
    · dsimp only
      rw [r1_l]
      omega
theorem c_44 (hT : Tp s L e) (hg : gR s 7 0 = 1 ∧ gR s 7 1 = 8) (hn : 232 ≤ gn s) : gQ (f_44 7 s) (LR L e s) := by
  have he : e ≤ 400 := hT.2.2.1
  unfold f_44
  dsimp only
  have hD : Dl s (gw s 7 2 0) := ⟨⟨rfl, fun _ => rfl, fun _ _ => rfl⟩, fun a_l k_l _ c2_l _ => by
    show (if a_l = 7 ∧ k_l = 2 then _ else gI s a_l k_l) = _
    rw [if_neg c2_l]⟩
  have hT1 : Tp (gw s 7 2 0) L e := ⟨hT.1, (rd_a (a := 1) rfl (by decide)).trans hT.2.1, he, fun j_l => (rd_a (a := 2) rfl (by decide)).trans (hT.2.2.2 j_l)⟩
  have h20 : gI (gw s 7 2 0) 7 2 = 0 := rd_same rfl
  have g0 : gR (gw s 7 2 0) 7 0 = 1 := hg.1
  rw [g0]
  have k77 : gQ (f_77 1 (gw s 7 2 0)) (fun r_l => Fr (gw s 7 2 0) r_l.2.2.2 ∧ At r_l.2.2.2 L e (sk L e 0)) := by
    unfold f_77
    dsimp only
    have e4_l : gI (gw (gw s 7 2 0) 1 4 0) 1 4 = ((0 : Nat) : Int) := rd_same rfl
    have hF4 : Fr (gw s 7 2 0) (gw (gw s 7 2 0) 1 4 0) := Fr_w (Fr_r _) t10 (by decide)
    refine gQ_v0 (A := fun z_l => Fr (gw s 7 2 0) z_l ∧ At z_l L e (sk L e 0)) (fun r_l hr => ?_) (fun z_l hz => gQ_ret hz)
    obtain ⟨-, q1_l, q2_l, q3_l, q4_l⟩ := gQ_T (v_78 (Tp_fr hT1 hF4) (a := 0) e4_l (Nat.zero_le e)) r_l hr
    have hb_l := sk_b (L := L) (e := e) (a := 0) (Nat.zero_le e)
    exact ⟨Fr_t hF4 q1_l, Tp_fr hT1 (Fr_t hF4 q1_l), ⟨hb_l.2, sk_i⟩, q2_l, q3_l, q4_l⟩
  refine gQ_v0 (A := fun z_l => Fr (gw s 7 2 0) z_l ∧ At z_l L e (sk L e 0)) k77 (fun s2_l h2 => ?_)
  obtain ⟨hF2, ha2⟩ := h2
  have hD2 : Dl s s2_l := Dl_t hD (Dl_f hF2)
  have hc2 : gI s2_l 7 2 = 0 := (cl_f hF2).2.trans h20
  have hl2 : Lc s2_l L e (sk L e 0) := ⟨⟨ha2, At_le ha2, he⟩, ⟨(hD2.1.2.2 7 0).trans hg.1, (hD2.1.2.2 7 1).trans hg.2⟩, by omega, by omega⟩
  have hcl : cl s2_l = [] := by
    unfold cl
    rw [hc2]
    rfl
  rw [hl2.2.1.1]
  refine gQ_w1 (A := fun v_l u_l => u_l = s2_l ∧ ((v_l = 1 ∧ sk L e 0 = e) ∨ (v_l = 0 ∧ sk L e 0 < e))) (fun r_l hr => (gQ_T (v_79 ha2) r_l hr).2) (fun v5 s4_l h4 => ?_)
  obtain ⟨rfl, ⟨v1_l, hend⟩ | ⟨v0_l, hend⟩⟩ := h4
  · rw [if_neg (by omega), show gR (gnw s4_l 4) 7 1 = 8 from ?_]
    · exact e_law (y := ([], fun _ => 0)) (k := 0) hD2 hcl (by rw [hc2]; rfl) hl2.2.1.2 hn (by unfold lwp; rw [if_pos hend]) rfl rfl
    · show (if 7 = s4_l.1 then 0 else s4_l.2.2.2 7 1) = 8
      have h9 : 232 ≤ s4_l.1 := by
        show 232 ≤ gn s4_l
        rw [hD2.1.1]
        exact hn
      rw [if_neg (by omega)]
      exact hl2.2.1.2
  rw [if_pos v0_l]
  have hT' : ∃ T, T = lwl L e 12 ([], fun _ => 0) (sk L e 0) := ⟨_, rfl⟩
  obtain ⟨T, hTT⟩ := hT'
  have hw : lwp L e = T := by
    unfold lwp
    rw [if_neg (by omega)]
    exact hTT.symm
  refine gQ_loop (fun y_l => y_l.1 = 7 ∧ (1 ≤ y_l.2.1 ∧ y_l.2.1 ≤ 13) ∧ ∃ x_l g_l, T = lwl L e (13 - y_l.2.1).toNat x_l g_l ∧ At y_l.2.2 L e g_l ∧ Dl s y_l.2.2 ∧ cl y_l.2.2 = x_l.1 ∧ gI y_l.2.2 7 2 = (x_l.1.length : Int) ∧ x_l.1.length ≤ g_l ∧ g_l ≤ e) (fun y_l hy => ?_) ⟨rfl, by dsimp only; omega, ([], fun _ => 0), sk L e 0, hTT, ha2, hD2, hcl, hc2, Nat.zero_le _, At_le ha2⟩
  obtain ⟨y0, x1_l, w_l⟩ := y_l
  obtain ⟨q0, q1_l, x_l, g_l, q2_l, q3_l, q4_l, q5_l, q6_l, q7_l, q8_l⟩ := hy
  dsimp only at q0 q1_l q2_l q3_l q4_l q5_l q6_l q7_l q8_l
  subst q0
  have hlw : Lc w_l L e g_l := ⟨⟨q3_l, q8_l, he⟩, ⟨(q4_l.1.2.2 7 0).trans hg.1, (q4_l.1.2.2 7 1).trans hg.2⟩, by omega, by omega⟩
  have hDz : ∀ {z_l : gS}, Dl s z_l → Dz s z_l := fun hz a_l k_l _ c1_l c2_l c3_l => hz.2 a_l k_l c1_l c2_l c3_l
  show gQ (sb_44_41 7 x1_l w_l) _
  unfold sb_44_41
  dsimp only
  by_cases c12 : 12 < x1_l
  · rw [if_pos c12]
    rw [show (13 - x1_l).toNat = 0 by omega] at q2_l
    exact gQ_map (gQ_ret ⟨hDz q4_l, Or.inl ⟨rfl, g_l, hw.trans q2_l, q3_l.2.2.1⟩⟩)
  rw [if_neg c12]
  rw [show (13 - x1_l).toNat = (12 - x1_l).toNat + 1 by omega] at q2_l
  unfold lwl at q2_l
  refine gQ_w1 (A := fun v_l u_l => KC L e w_l (lline L e g_l) v_l u_l) (c_46 hlw) (fun v8 s7 h7 => ?_)
  rcases h7 with ⟨q_l, p1_l, p2_l, p3_l, p4_l⟩ | ⟨y_l, g2, p1_l, p2_l, p3_l, p4_l⟩
  · rw [if_pos p2_l]
    rw [p1_l, eb_l] at q2_l
    exact gQ_map (gQ_ret ⟨hDz (Dl_t q4_l p4_l), Or.inl ⟨rfl, q_l, hw.trans q2_l, p3_l.2.2.1⟩⟩)
  rw [if_neg (by omega)]
  rw [p1_l, eb_r] at q2_l
  dsimp only at q2_l
  have hn2 := lline_n (L := L) (e := e) (f := g_l) y_l g2 p1_l
  have hD7 := Dl_t q4_l p4_l.1
  have l7 := Lc_e hlw p4_l p3_l ⟨hn2.1, hn2.2.1⟩
  have c7_l : cl s7 = x_l.1 ++ y_l.1 := by rw [p4_l.2.2, q5_l]
  have n7 : gI s7 7 2 = ((x_l.1 ++ y_l.1).length : Int) := by
    rw [p4_l.2.1, q6_l, List.length_append]
    omega
  rw [l7.2.1.1]
  refine gQ_w1 (A := fun v_l u_l => u_l = s7 ∧ ((v_l = 1 ∧ g2 = e) ∨ (v_l = 0 ∧ g2 < e))) (fun r_l hr => (gQ_T (v_79 p3_l) r_l hr).2) (fun v11 s10 h10 => ?_)
  obtain ⟨rfl, ⟨r1_l, r2⟩ | ⟨r0, r2⟩⟩ := h10
  · rw [if_neg (by omega)]
    rw [if_pos r2] at q2_l
    have g7 : gR (gnw s10 4) 7 1 = 8 ∧ gI (gnw s10 4) 7 2 = gI s10 7 2 := by
      have h9 : 232 ≤ s10.1 := by
        show 232 ≤ gn s10
        rw [hD7.1.1]
        exact hn
      constructor
      · show (if 7 = s10.1 then 0 else s10.2.2.2 7 1) = 8
        rw [if_neg (by omega)]
        exact l7.2.1.2
      · show (if 7 = s10.1 then 0 else s10.2.2.1 7 2) = _
        rw [if_neg (by omega)]
        rfl
    rw [g7.1, g7.2]
    refine gQ_map ?_
    have ex_l : x1_l = ((12 - (12 - x1_l).toNat : Nat) : Int) := by omega
    rw [ex_l]
    exact e_law (y := (x_l.1 ++ y_l.1, fun F_l => g32 (x_l.2 F_l + y_l.2 F_l))) hD7 c7_l n7 l7.2.1.2 hn (by rw [hw, q2_l]) rfl n7
  · rw [if_pos r0]
    rw [if_neg (by omega)] at q2_l
    rw [l7.2.1.1]
    refine gQ_w1 (A := fun v_l u_l => Fr s10 u_l ∧ ((v_l = 1 ∧ (g2 < e ∧ L g2 = 59) ∧ At u_l L e (nx L e g2)) ∨ (v_l = 0 ∧ ¬ (g2 < e ∧ L g2 = 59) ∧ At u_l L e g2))) (k83 (by decide) p3_l) (fun v14 s13 h13 => ?_)
    obtain ⟨hF, ⟨z1, z2, z3⟩ | ⟨z1, z2, z3⟩⟩ := h13
    · rw [if_neg (by omega)]
      rw [if_pos z2.2] at q2_l
      have hs := nx_s (L := L) r2
      have eg : g32 (x1_l + 1) = x1_l + 1 := g32_eq (by omega) (by omega)
      refine gQ_ret ⟨rfl, by dsimp only; omega, (x_l.1 ++ y_l.1, fun F_l => g32 (x_l.2 F_l + y_l.2 F_l)), nx L e g2, ?_, z3, Dl_t hD7 (Dl_f hF), ?_, ?_, ?_, hs.2⟩
      · dsimp only
        rw [eg, show (13 - (x1_l + 1)).toNat = (12 - x1_l).toNat by omega]
        exact q2_l
      · dsimp only
        rw [(cl_f hF).1, c7_l]
      · dsimp only
        rw [(cl_f hF).2, n7]
      · dsimp only
        rw [List.length_append]
        omega
    · rw [if_pos z1]
      rw [if_neg (fun z_l => z2 ⟨r2, z_l⟩)] at q2_l
      exact gQ_map (gQ_ret ⟨hDz (Dl_t hD7 (Dl_f hF)), Or.inl ⟨rfl, g2, hw.trans q2_l, z3.2.2.1⟩⟩)
end Ll

end
section
/-! the model reads the law -/
noncomputable def Fl (s t : gS) : Prop := (gn t = gn s ∧ (∀ a, gK t a = gK s a) ∧ ∀ a k, gR t a k = gR s a k) ∧ ∀ a k, ¬ (a = 217 ∧ (k = 11 ∨ k = 12 ∨ k = 13)) → gI t a k = gI s a k
/-- the model stands at f; its facts -/
noncomputable def Mk (s : gS) (L : Nat → Int) (e f : Nat) (F : Nat → Int) : Prop := (Mat s L e f ∧ f ≤ e ∧ e ≤ 400 ∧ ∀ k, 0 ≤ L k ∧ L k ≤ 255) ∧ gR s 217 14 = 223 ∧ (∀ i, i < 7 → gI s 223 i = F i) ∧ gI s 217 15 = F 7 ∧ gI s 217 16 = F 8
noncomputable def KM (L : Nat → Int) (e : Nat) (F : Nat → Int) (s : gS) (x : Nat ⊕ (LX × Nat)) (v : Int) (t : gS) : Prop := (∃ q : Nat, x = Sum.inl q ∧ gI t 217 12 = (q : Int) ∧ Fl s t) ∨ (∃ y g, x = Sum.inr (y, g) ∧ v = y.2 F ∧ Mk t L e g F ∧ gI t 217 13 = gI s 217 13 ∧ Fl s t)
section Lm
variable {s t u : gS} {L : Nat → Int} {e f g w w' : Nat} {F : Nat → Int} {x : Nat ⊕ (LX × Nat)} {v : Int}
theorem Fl_t (h : Fl s t) (h2 : Fl t u) : Fl s u := ⟨⟨h2.1.1.trans h.1.1, fun a_l => (h2.1.2.1 a_l).trans (h.1.2.1 a_l), fun a_l k_l => (h2.1.2.2 a_l k_l).trans (h.1.2.2 a_l k_l)⟩, fun a_l k_l c_l => (h2.2 a_l k_l c_l).trans (h.2 a_l k_l c_l)⟩
theorem Fl_m (h : Fm s t) : Fl s t := ⟨h.1, fun a_l k_l c_l => h.2 a_l k_l (fun z_l => c_l ⟨z_l.1, by omega⟩)⟩
theorem Fl_w {k : Nat} {v : Int} (hk : k = 11 ∨ k = 12 ∨ k = 13) : Fl s (gw s 217 k v) := ⟨⟨rfl, fun _ => rfl, fun _ _ => rfl⟩, fun a_l j_l c_l => by
  show (if a_l = 217 ∧ j_l = k then _ else gI s a_l j_l) = _
  rw [if_neg (fun z_l => c_l ⟨z_l.1, by omega⟩)]⟩
theorem Mp_fl (h : Mp s L e) (hf : Fl s t) : Mp t L e := by
  obtain ⟨⟨h1, h2⟩, ⟨h3, h4⟩, h5⟩ := h
  have r1_l : gR t 217 1 = 218 := (hf.1.2.2 217 1).trans h3
  have r7 : gR t 217 7 = 222 := (hf.1.2.2 217 7).trans h4
  refine ⟨⟨(hf.2 217 10 (by omega)).trans h1, h2⟩, ⟨r1_l, r7⟩, fun k_l hk => ?_⟩
  have q_l := h5 k_l hk
  unfold f_168 at q_l ⊢
  rw [h3, h4] at q_l
  rw [r1_l, r7, hf.2 217 9 (by omega), hf.2 222 _ (by omega), hf.2 218 _ (by omega)]
  unfold gchk at q_l ⊢
  by_cases c1 : gI s 217 9 = -1
  · rw [if_pos c1] at q_l ⊢
    by_cases c2 : 0 ≤ (k_l : Int) ∧ (k_l : Int) < 400
    · rw [if_pos c2] at q_l ⊢
      have e1_l : gI s 222 (k_l : Int).toNat = L k_l := by
        injection q_l with q_l
        injection q_l with _ q_l
        injection q_l
      rw [e1_l]
    · rw [if_neg c2] at q_l
      cases q_l
  · rw [if_neg c1] at q_l ⊢
    by_cases c2 : 0 ≤ g32 (gI s 217 9 + (k_l : Int)) ∧ g32 (gI s 217 9 + (k_l : Int)) < 740
    · rw [if_pos c2] at q_l ⊢
      have e1_l : gI s 218 (g32 (gI s 217 9 + (k_l : Int))).toNat = L k_l := by
        injection q_l with q_l
        injection q_l with _ q_l
        injection q_l
      rw [e1_l]
    · rw [if_neg c2] at q_l
      cases q_l
theorem Mk_l (h : Mk s L e f F) (hf : Fl s t) (hm : Mat t L e g) (hg : g ≤ e) : Mk t L e g F := by
  obtain ⟨⟨h1, h2, h3, h4⟩, h5, h6, h7, h8⟩ := h
  exact ⟨⟨hm, hg, h3, h4⟩, (hf.1.2.2 217 14).trans h5, fun i_l hi_l => (hf.2 223 i_l (by omega)).trans (h6 i_l hi_l), (hf.2 217 15 (by omega)).trans h7, (hf.2 217 16 (by omega)).trans h8⟩
/-- tokens -/
theorem j171 (hw : 28 ≤ w ∧ w < 70) (hww : gtx w = gtx w') (h : Mk s L e f F) : gQ (f_171 217 w s) (fun r => Fm s r.2.2.2 ∧ ((r.2.1 = 1 ∧ Wd L e w' f ∧ f < e ∧ Mk r.2.2.2 L e (nx L e f) F) ∨ (r.2.1 = 0 ∧ ¬ Wd L e w' f ∧ Mk r.2.2.2 L e f F ∧ gI r.2.2.2 217 11 = (f : Int)))) := fun r hr => by
  have h0 := h
  obtain ⟨⟨⟨hM_l, hz, a_l, ha_l, hae, hf⟩, hfe, he, hL⟩, -⟩ := h
  obtain ⟨-, h2, h3⟩ := gQ_T (w_171 (gl_l0 w hw.2 hw.1) hM_l ha_l hae) r hr
  rw [hf] at h3
  refine ⟨h2, ?_⟩
  rw [← Wd_e hww]
  have hz' := h3.1.trans hz
  rcases h3.2 with ⟨b1, b2, b3⟩ | ⟨b1, b2, b3⟩
  · have hen := en_w (gl_l0 w hw.2 hw.1) b2
    have hee := (en_b (L := L) hfe).2.1
    have hs := nx_s (L := L) hen.2
    refine Or.inl ⟨b1, b2, hen.2, Mk_l h0 (Fl_m h2) ⟨Mp_fr hM_l h2, hz', _, b3, by omega, ?_⟩ hs.2⟩
    unfold nx
    rw [hen.1]
  · exact Or.inr ⟨b1, b2, Mk_l h0 (Fl_m h2) ⟨Mp_fr hM_l h2, hz', f, b3, hfe, by rw [← hf]; exact sk_i⟩ hfe, b3⟩
theorem j170 {c : Int} (h : Mk s L e f F) : gQ (f_170 217 c s) (fun r => Fm s r.2.2.2 ∧ gI r.2.2.2 217 11 = (f : Int) ∧ Mk r.2.2.2 L e f F ∧ ((r.2.1 = 1 ∧ f < e ∧ L f = c) ∨ (r.2.1 = 0 ∧ ¬ (f < e ∧ L f = c)))) := fun r hr => by
  have h0 := h
  obtain ⟨⟨⟨hM_l, hz, a_l, ha_l, hae, hf⟩, hfe, he, hL⟩, -⟩ := h
  obtain ⟨-, h2, h3, h4, h5⟩ := gQ_T (w_170 (c := c) hM_l ha_l hae) r hr
  rw [hf] at h4 h5
  exact ⟨h2, h4, Mk_l h0 (Fl_m h2) ⟨Mp_fr hM_l h2, h3.trans hz, f, h4, hfe, by rw [← hf]; exact sk_i⟩ hfe, h5⟩
theorem en_c {c : Int} (hc : ¬ (97 ≤ c ∧ c ≤ 122) ∧ ¬ (48 ≤ c ∧ c ≤ 57)) (h : f < e ∧ L f = c) : en L e f = f + 1 := by
  unfold en
  rw [if_pos h.1, if_neg (by rw [h.2]; exact hc.1), if_neg (by rw [h.2]; exact hc.2)]
/-- a char is passed over -/
theorem jskp {c : Int} (hc : ¬ (97 ≤ c ∧ c ≤ 122) ∧ ¬ (48 ≤ c ∧ c ≤ 57)) (h : Mk s L e f F) (h11 : gI s 217 11 = (f : Int)) (hf : f < e ∧ L f = c) : Mk (gw s 217 11 (g32 (gI s 217 11 + 1))) L e (nx L e f) F := by
  have h0 := h
  obtain ⟨⟨⟨hM_l, hz, a_l, ha_l, hae, hfa⟩, hfe, he, hL⟩, -⟩ := h
  have hs := nx_s (L := L) hf.1
  rw [h11, g32_eq (v := (f : Int) + 1) (by omega) (by omega)]
  have hw : Fl s (gw s 217 11 ((f : Int) + 1)) := Fl_w (Or.inl rfl)
  have e12_l : gI (gw s 217 11 ((f : Int) + 1)) 217 12 = gI s 217 12 := rd_k (a := 217) (k := 12) rfl (by decide)
  have e11_l : gI (gw s 217 11 ((f : Int) + 1)) 217 11 = ((f + 1 : Nat) : Int) := (rd_same rfl).trans (by omega)
  refine Mk_l h0 hw ⟨Mp_fl hM_l hw, e12_l.trans hz, f + 1, e11_l, by omega, ?_⟩ hs.2
  unfold nx
  rw [en_c hc hf]
theorem j174 {lo hi : Int} (h : Mk s L e f F) : gQ (f_174 217 lo hi s) (fun r => Fm s r.2.2.2 ∧ ((Nm L e f lo hi ∧ r.2.1 = nv L f (dr L e f - f) ∧ Mk r.2.2.2 L e (nx L e f) F) ∨ (¬ Nm L e f lo hi ∧ gI r.2.2.2 217 12 = (f : Int)))) := fun r hr => by
  have h0 := h
  obtain ⟨⟨⟨hM_l, hz, a_l, ha_l, hae, hf⟩, hfe, he, hL⟩, -⟩ := h
  obtain ⟨-, h2, h3⟩ := gQ_T (w_174 (lo := lo) (hi := hi) hM_l hL ha_l hae hz) r hr
  rw [hf] at h3
  refine ⟨h2, ?_⟩
  rcases h3 with ⟨b1, b2, b3, b4⟩ | ⟨b1, b2⟩
  · obtain ⟨n1_l, n2_l⟩ := nm_x hfe b1
    exact Or.inl ⟨b1, b2, Mk_l h0 (Fl_m h2) ⟨Mp_fr hM_l h2, b3, _, b4, n1_l, n2_l⟩ (nm_s b1).2⟩
  · exact Or.inr ⟨b1, b2⟩
theorem j172 {q : Nat} (h : gI s 217 12 = -1) : gQ (f_172 217 (q : Int) s) (fun r => Fm s r.2.2.2 ∧ gI r.2.2.2 217 12 = (q : Int)) := fun r hr => by
  obtain ⟨-, h2, -, h4⟩ := gQ_T (w_172 (s := s) (x := (q : Int))) r hr
  rw [if_pos h] at h4
  exact ⟨h2, h4⟩
theorem j169 (h : Mk s L e f F) : gQ (f_169 217 s) (fun r => Fm s r.2.2.2 ∧ gI r.2.2.2 217 11 = (f : Int) ∧ Mk r.2.2.2 L e f F) := fun r hr => by
  have h0 := h
  obtain ⟨⟨⟨hM_l, hz, a_l, ha_l, hae, hf⟩, hfe, he, hL⟩, -⟩ := h
  obtain ⟨-, h2, h3, h4⟩ := gQ_T (w_169 hM_l ha_l hae) r hr
  rw [hf] at h4
  exact ⟨h2, h4, Mk_l h0 (Fl_m h2) ⟨Mp_fr hM_l h2, h3.trans hz, f, h4, hfe, by rw [← hf]; exact sk_i⟩ hfe⟩
theorem KM_l (hF : Fl s t) (h13 : gI t 217 13 = gI s 217 13) (h : KM L e F t x v u) : KM L e F s x v u := by
  rcases h with ⟨q_l, h1, h2, h3⟩ | ⟨y_l, g_l, h1, h2, h3, h4, h5⟩
  · exact Or.inl ⟨q_l, h1, h2, Fl_t hF h3⟩
  · exact Or.inr ⟨y_l, g_l, h1, h2, h3, h4.trans h13, Fl_t hF h5⟩
theorem m13 (h : Fm s t) : gI t 217 13 = gI s 217 13 := h.2 217 13 (by omega)
theorem gtx_l : gtx 51 = gtx 36 ∧ gtx 46 = gtx 37 ∧ gtx 47 = gtx 38 ∧ gtx 58 = gtx 39 ∧ gtx 59 = gtx 40 ∧ gtx 60 = gtx 41 ∧ gtx 61 = gtx 42 ∧ gtx 62 = gtx 34 ∧ gtx 63 = gtx 35 ∧ gtx 64 = gtx 33 ∧ gtx 65 = gtx 32 ∧ gtx 66 = gtx 31 ∧ gtx 67 = gtx 28 ∧ gtx 68 = gtx 29 ∧ gtx 69 = gtx 30 := by decide +kernel
/-- a fact -/
theorem j188e {i : Nat} (h : Mk s L e g F) (hi : i < 7) : gQ (fb_188_145 217 (i : Int) s) (fun r => r.2.2.2 = s ∧ r.2.1 = F i) := by
  unfold fb_188_145
  rw [if_neg (by omega), h.2.1, Int.toNat_natCast]
  exact gQ_chk (gQ_ret ⟨rfl, h.2.2.1 i hi⟩)
theorem n188 (hw : 28 ≤ w ∧ w < 70) (hww : gtx w = gtx w') {i : Nat} (hi : i < 7) {s0 : gS} (hF0 : Fm s0 s) (h : Mk s L e f F) {E : gS → Option gO} {B : Nat ⊕ (LX × Nat)} (k0 : ∀ t, Fm s0 t → Mk t L e f F → ¬ Wd L e w' f → gQ (E t) (fun r => KM L e F s0 B r.2.1 r.2.2.2)) : gQ ((f_171 217 w s).bind (gv1 (fun v9 s8 => if v9 = 0 then E s8 else fb_188_145 217 (i : Int) s8))) (fun r => KM L e F s0 (cif (Wd L e w' f) (Sum.inr (([1000 + (i : Int)], fun F => F i), nx L e f)) B) r.2.1 r.2.2.2) := by
  refine gQ_w1 (A := fun v_l t => Fm s t ∧ ((v_l = 1 ∧ Wd L e w' f ∧ f < e ∧ Mk t L e (nx L e f) F) ∨ (v_l = 0 ∧ ¬ Wd L e w' f ∧ Mk t L e f F ∧ gI t 217 11 = (f : Int)))) (j171 hw hww h) (fun v_l t ht => ?_)
  obtain ⟨hF, ⟨v1_l, hd_l, hfe, hk⟩ | ⟨v0_l, hd_l, hk, -⟩⟩ := ht
  · rw [if_neg (by omega), cif_p hd_l]
    refine fun r hr => ?_
    obtain ⟨q1_l, q2_l⟩ := j188e hk hi r hr
    rw [q1_l]
    exact Or.inr ⟨_, _, rfl, q2_l, hk, (m13 hF).trans (m13 hF0), Fl_t (Fl_m hF0) (Fl_m hF)⟩
  · rw [if_pos v0_l, cif_n hd_l]
    exact k0 t ⟨⟨hF.1.1.trans hF0.1.1, fun a_l => (hF.1.2.1 a_l).trans (hF0.1.2.1 a_l), fun a_l k_l => (hF.1.2.2 a_l k_l).trans (hF0.1.2.2 a_l k_l)⟩, fun a_l k_l c_l => (hF.2 a_l k_l c_l).trans (hF0.2 a_l k_l c_l)⟩ hk hd_l
theorem j188f {s0 : gS} (hF0 : Fm s0 s) (h : Mk s L e f F) : gQ (fb_188_52 217 s) (fun r => KM L e F s0 (lfa L e f) r.2.1 r.2.2.2) := by
  obtain ⟨t1_l, t2_l, t3_l, t4_l, t5_l, t6, t7, -⟩ := gtx_l
  unfold fb_188_52 lfa
  refine n188 (i := 0) (by decide) t1_l (by decide) hF0 h (fun a1_l f1_l h1 d1_l => ?_)
  refine n188 (i := 1) (by decide) t2_l (by decide) f1_l h1 (fun a2 f2_l h2 d2_l => ?_)
  refine n188 (i := 2) (by decide) t3_l (by decide) f2_l h2 (fun a3 f3_l h3 d3_l => ?_)
  refine n188 (i := 3) (by decide) t4_l (by decide) f3_l h3 (fun a4 f4_l h4 d4_l => ?_)
  refine n188 (i := 4) (by decide) t5_l (by decide) f4_l h4 (fun a5 f5_l h5 d5_l => ?_)
  refine n188 (i := 5) (by decide) t6 (by decide) f5_l h5 (fun a6 f6_l h6 d6_l => ?_)
  refine gQ_w1 (A := fun v_l t_l => Fm a6 t_l ∧ ((v_l = 1 ∧ Wd L e 42 f ∧ f < e ∧ Mk t_l L e (nx L e f) F) ∨ (v_l = 0 ∧ ¬ Wd L e 42 f ∧ Mk t_l L e f F ∧ gI t_l 217 11 = (f : Int)))) (j171 (by decide) t7 h6) (fun v_l t_l ht => ?_)
  obtain ⟨hF, ⟨v1_l, hd_l, hfe, hk⟩ | ⟨v0_l, hd_l, hk, h11⟩⟩ := ht
  · rw [if_neg (by omega), cif_p hd_l]
    refine fun r hr => ?_
    obtain ⟨q1_l, q2_l⟩ := j188e (i := 6) hk (by decide) r hr
    rw [q1_l]
    exact Or.inr ⟨_, _, rfl, q2_l, hk, (m13 hF).trans (m13 f6_l), Fl_t (Fl_m f6_l) (Fl_m hF)⟩
  · rw [if_pos v0_l, cif_n hd_l]
    unfold fb_188_145
    rw [if_pos rfl, h11]
    refine gQ_v0 (A := fun z_l => Fm t_l z_l ∧ gI z_l 217 12 = (f : Int)) (j172 hk.1.1.2.1) (fun z_l hz => ?_)
    exact gQ_ret (Or.inl ⟨f, rfl, hz.2, Fl_t (Fl_t (Fl_m f6_l) (Fl_m hF)) (Fl_m hz.1)⟩)
theorem j188 (h : Mk s L e f F) : gQ (f_188 217 s) (fun r => KM L e F s (lpt L e f) r.2.1 r.2.2.2) := by
  unfold f_188 lpt
  rw [if_pos h.1.1.2.1]
  refine gQ_v0 (A := fun z_l => Fm s z_l ∧ gI z_l 217 11 = (f : Int) ∧ Mk z_l L e f F) (j169 h) (fun s1_l h1 => ?_)
  obtain ⟨hF, h11, hk⟩ := h1
  have e10_l : gI s1_l 217 10 = (e : Int) := hk.1.1.1.1.1
  rw [h11, e10_l]
  by_cases c : (f : Int) < (e : Int)
  · rw [if_pos c]
    have hfe : f < e := by omega
    refine gQ_w1 (A := fun v_l z_l => v_l = L f ∧ z_l = s1_l) (fun r hr => (gQ_T (w_168 hk.1.1.1 hfe) r hr).2) (fun v_l z_l hz => ?_)
    obtain ⟨z1, z2⟩ := hz
    rw [z1, z2]
    refine gQ_w1 (A := fun v_l z_l => v_l = (if 48 ≤ L f ∧ L f ≤ 57 then 1 else 0) ∧ z_l = s1_l) m_150 (fun v_l z_l hz => ?_)
    obtain ⟨z1, z2⟩ := hz
    rw [z1, z2]
    by_cases d : 48 ≤ L f ∧ L f ≤ 57
    · rw [if_pos d, if_neg (show ¬ (1 : Int) = 0 by decide)]
      refine gQ_w1 (A := fun v_l t_l => Fm s1_l t_l ∧ ((Nm L e f 0 999 ∧ v_l = nv L f (dr L e f - f) ∧ Mk t_l L e (nx L e f) F) ∨ (¬ Nm L e f 0 999 ∧ gI t_l 217 12 = (f : Int)))) (j174 hk) (fun v_l t_l ht => ?_)
      obtain ⟨hG, ⟨b1, b2, b3⟩ | ⟨b1, b2⟩⟩ := ht
      · rw [cif_p b1]
        exact gQ_ret (Or.inr ⟨_, _, rfl, b2, b3, (m13 hG).trans (m13 hF), Fl_t (Fl_m hF) (Fl_m hG)⟩)
      · rw [cif_n b1]
        have nw : ∀ w_l, 28 ≤ w_l ∧ w_l < 70 → ¬ Wd L e w_l f := fun w_l hw hd_l => by
          have hl := lr_n (L := L) (e := e) (a := f) (by omega)
          have := hd_l.1
          have h9 := gl_l0 w_l hw.2 hw.1
          omega
        have el : lfa L e f = Sum.inl f := by
          unfold lfa
          rw [cif_n (nw 36 (by decide)), cif_n (nw 37 (by decide)), cif_n (nw 38 (by decide)), cif_n (nw 39 (by decide)), cif_n (nw 40 (by decide)), cif_n (nw 41 (by decide)), cif_n (nw 42 (by decide))]
        rw [el]
        exact gQ_ret (Or.inl ⟨f, rfl, b2, Fl_t (Fl_m hF) (Fl_m hG)⟩)
    · rw [if_neg d, if_pos (show (0 : Int) = 0 from rfl), cif_n (fun z_l => d z_l.1.2)]
      exact j188f hF hk
  · rw [if_neg c, cif_n (fun z_l => c (by have := z_l.1.1; omega))]
    exact j188f hF hk
/-- a sum -/
theorem j189 (h : Mk s L e f F) : gQ (f_189 217 s) (fun r => KM L e F s (lsm L e f) r.2.1 r.2.2.2) := by
  unfold f_189 lsm
  refine gQ_w1 (A := fun v_l u_l => KM L e F s (lpt L e f) v_l u_l) (j188 h) (fun v1_l s1_l h1 => ?_)
  have hT_l : ∃ T, T = eb (lpt L e f) (fun y_l => lsl L e 400 y_l.1 y_l.2) := ⟨_, rfl⟩
  obtain ⟨T, hT_l⟩ := hT_l
  rw [← hT_l]
  refine gQ_loop (fun y_l => y_l.1 = 217 ∧ ((∃ q_l : Nat, T = Sum.inl q_l ∧ gI y_l.2.2 217 12 = (q_l : Int) ∧ Fl s y_l.2.2) ∨ (∃ (n_l : Nat) (x_l : LX) (g_l : Nat), T = lsl L e n_l x_l g_l ∧ e ≤ g_l + n_l ∧ y_l.2.1 = x_l.2 F ∧ Mk y_l.2.2 L e g_l F ∧ gI y_l.2.2 217 13 = gI s 217 13 ∧ Fl s y_l.2.2))) (fun y_l hy => ?_) ⟨rfl, ?_⟩
  · obtain ⟨y0, x1_l, w_l⟩ := y_l
    obtain ⟨q0, q2_l⟩ := hy
    dsimp only at q0 q2_l
    subst q0
    show gQ (sb_189_5 217 x1_l w_l) _
    unfold sb_189_5
    dsimp only
    rcases q2_l with ⟨q_l, hq, h12, hd_l⟩ | ⟨n_l, x_l, g_l, hq, hn, hx, hk, h13, hd_l⟩
    · rw [if_neg (by omega)]
      exact gQ_map (gQ_ret (Or.inl ⟨q_l, hq, h12, hd_l⟩))
    · rw [if_pos hk.1.1.2.1]
      have hge := hk.1.2.1
      refine gQ_w1 (A := fun v_l t_l => Fm w_l t_l ∧ gI t_l 217 11 = (g_l : Int) ∧ Mk t_l L e g_l F ∧ ((v_l = 1 ∧ g_l < e ∧ L g_l = 43) ∨ (v_l = 0 ∧ ¬ (g_l < e ∧ L g_l = 43)))) (j170 hk) (fun v4_l s3_l h3 => ?_)
      obtain ⟨hF3, e11_l, hk3, ⟨z1, z2⟩ | ⟨z1, z2⟩⟩ := h3
      · rw [if_neg (by omega)]
        obtain ⟨n', rfl⟩ : ∃ n', n_l = n' + 1 := ⟨n_l - 1, by omega⟩
        unfold lsl at hq
        rw [if_pos z2] at hq
        have hs := nx_s (L := L) z2.1
        have hk6 := jskp (c := 43) (by decide) hk3 e11_l z2
        have hf6 : Fl s3_l (gw s3_l 217 11 (g32 (gI s3_l 217 11 + 1))) := Fl_w (Or.inl rfl)
        have h136 : gI (gw s3_l 217 11 (g32 (gI s3_l 217 11 + 1))) 217 13 = gI s3_l 217 13 := rd_k (a := 217) (k := 13) rfl (by decide)
        refine gQ_w1 (A := fun v_l u_l => KM L e F (gw s3_l 217 11 (g32 (gI s3_l 217 11 + 1))) (lpt L e (nx L e g_l)) v_l u_l) (j188 hk6) (fun v8 s7 h7 => ?_)
        have hfl := Fl_t hd_l (Fl_t (Fl_m hF3) hf6)
        rcases h7 with ⟨q_l, p1_l, p2_l, p3_l⟩ | ⟨y_l, g2, p1_l, p2_l, p3_l, p4_l, p5_l⟩
        · rw [p1_l, eb_l] at hq
          exact gQ_ret ⟨rfl, Or.inl ⟨q_l, hq, p2_l, Fl_t hfl p3_l⟩⟩
        · rw [p1_l, eb_r] at hq
          have hn2 := lpt_n (L := L) (e := e) (f := nx L e g_l) y_l g2 p1_l
          refine gQ_ret ⟨rfl, Or.inr ⟨n', _, g2, hq, by omega, ?_, p3_l, ?_, Fl_t hfl p5_l⟩⟩
          · dsimp only
            rw [hx, p2_l]
          · dsimp only
            rw [p4_l, h136, m13 hF3, h13]
      · rw [if_pos z1]
        have hq2 : T = Sum.inr (x_l, g_l) := by
          rw [hq]
          cases n_l with
          | zero => rfl
          | succ n_l => unfold lsl; rw [if_neg z2]
        exact gQ_map (gQ_ret (Or.inr ⟨x_l, g_l, hq2, hx, hk3, (m13 hF3).trans h13, Fl_t hd_l (Fl_m hF3)⟩))
  · dsimp only
    rcases h1 with ⟨q_l, p1_l, p2_l, p3_l⟩ | ⟨y_l, g2, p1_l, p2_l, p3_l, p4_l, p5_l⟩
    · rw [p1_l, eb_l] at hT_l
      exact Or.inl ⟨q_l, hT_l, p2_l, p3_l⟩
    · rw [p1_l, eb_r] at hT_l
      have h400 := p3_l.1.2.2.1
      exact Or.inr ⟨400, y_l, g2, hT_l, by omega, p2_l, p3_l, p4_l, p5_l⟩
end Lm

end
section
/-! comparisons, atoms and their joining: the model -/
section Lo
variable {s t u : gS} {L : Nat → Int} {e f g w w' : Nat} {F : Nat → Int} {x : Nat ⊕ (LX × Nat)} {v : Int}
theorem j190 (h : Mk s L e f F) : gQ (f_190 217 s) (fun r => KM L e F s (lcm L e f) r.2.1 r.2.2.2) := by
  obtain ⟨-, -, -, -, -, -, -, t8, t9, -⟩ := gtx_l
  unfold f_190 lcm
  refine gQ_w1 (A := fun v_l t_l => Fm s t_l ∧ ((v_l = 1 ∧ Wd L e 34 f ∧ f < e ∧ Mk t_l L e (nx L e f) F) ∨ (v_l = 0 ∧ ¬ Wd L e 34 f ∧ Mk t_l L e f F ∧ gI t_l 217 11 = (f : Int)))) (j171 (by decide) t8 h) (fun v2 s1_l h1 => ?_)
  obtain ⟨hF1, ⟨v1_l, hd_l, hfe, hk⟩ | ⟨v0_l, hd_l, hk, -⟩⟩ := h1
  · rw [if_neg (by omega), cif_p hd_l]
    exact gQ_bool (gQ_ret (Or.inr ⟨_, _, rfl, hk.2.2.2.1, hk, m13 hF1, Fl_m hF1⟩))
  rw [if_pos v0_l, cif_n hd_l]
  refine gQ_w1 (A := fun v_l t_l => Fm s1_l t_l ∧ ((v_l = 1 ∧ Wd L e 35 f ∧ f < e ∧ Mk t_l L e (nx L e f) F) ∨ (v_l = 0 ∧ ¬ Wd L e 35 f ∧ Mk t_l L e f F ∧ gI t_l 217 11 = (f : Int)))) (j171 (by decide) t9 hk) (fun v5 s4_l h4 => ?_)
  obtain ⟨hF4, ⟨v1_l, hd4, hfe, hk4⟩ | ⟨v4_l, hd4, hk4, -⟩⟩ := h4
  · rw [if_neg (by omega), cif_p hd4]
    exact gQ_bool (gQ_ret (Or.inr ⟨_, _, rfl, hk4.2.2.2.2, hk4, (m13 hF4).trans (m13 hF1), Fl_t (Fl_m hF1) (Fl_m hF4)⟩))
  rw [if_pos v4_l, cif_n hd4]
  have fl4 := Fl_t (Fl_m hF1) (Fl_m hF4)
  have d4_l := (m13 hF4).trans (m13 hF1)
  refine gQ_w1 (A := fun v_l u_l => KM L e F s4_l (lsm L e f) v_l u_l) (j189 hk4) (fun v8 s7 h7 => ?_)
  rcases h7 with ⟨q_l, p1_l, p2_l, p3_l⟩ | ⟨y_l, g2, p1_l, p2_l, p3_l, p4_l, p5_l⟩
  · rw [p1_l, eb_l, if_neg (by omega)]
    exact gQ_ret (Or.inl ⟨q_l, rfl, p2_l, Fl_t fl4 p3_l⟩)
  rw [p1_l, eb_r, if_pos p3_l.1.1.2.1]
  dsimp only
  have fl7 := Fl_t fl4 p5_l
  have d7_l := p4_l.trans d4_l
  have key_l : ∀ (x2_l c_l : Int) (G_l : LX → (Nat → Int) → Int) (z_l : gS) (ch_l : Int), (¬ (97 ≤ ch_l ∧ ch_l ≤ 122) ∧ ¬ (48 ≤ ch_l ∧ ch_l ≤ 57)) → Fl s z_l → gI z_l 217 13 = gI s 217 13 → Mk z_l L e g2 F → gI z_l 217 11 = (g2 : Int) → (g2 < e ∧ L g2 = ch_l) → (∀ w_l : LX, G_l w_l F = if x2_l = 0 then (if w_l.2 F < v8 then 1 else 0) else (if v8 < w_l.2 F then 1 else 0)) → gQ (fb_190_73 217 v8 x2_l z_l) (fun r => KM L e F s (eb (lsm L e (nx L e g2)) (fun w_l => Sum.inr ((y_l.1 ++ w_l.1.1 ++ [c_l], G_l w_l.1), w_l.2))) r.2.1 r.2.2.2) := fun x2_l c_l G_l z_l ch_l hch fz dz kz z11 hc_l hG => by
    unfold fb_190_73
    dsimp only
    have k17 := jskp hch kz z11 hc_l
    have f17_l : Fl z_l (gw z_l 217 11 (g32 (gI z_l 217 11 + 1))) := Fl_w (Or.inl rfl)
    have d17_l : gI (gw z_l 217 11 (g32 (gI z_l 217 11 + 1))) 217 13 = gI z_l 217 13 := rd_k (a := 217) (k := 13) rfl (by decide)
    refine gQ_w1 (A := fun v_l u_l => KM L e F (gw z_l 217 11 (g32 (gI z_l 217 11 + 1))) (lsm L e (nx L e g2)) v_l u_l) (j189 k17) (fun v19 s18 h18 => ?_)
    have done_l : ∀ b_l : Int, (b_l = if x2_l = 0 then (if v19 < v8 then 1 else 0) else (if v8 < v19 then 1 else 0)) → KM L e F s (eb (lsm L e (nx L e g2)) (fun w_l => Sum.inr ((y_l.1 ++ w_l.1.1 ++ [c_l], G_l w_l.1), w_l.2))) b_l s18 := fun b_l hb_l => by
      rcases h18 with ⟨q_l, r1_l, r2, r3⟩ | ⟨w_l, g3_l, r1_l, r2, r3, r4, r5_l⟩
      · rw [r1_l, eb_l]
        exact Or.inl ⟨q_l, rfl, r2, Fl_t fz (Fl_t f17_l r3)⟩
      · rw [r1_l, eb_r]
        refine Or.inr ⟨_, _, rfl, ?_, r3, r4.trans (d17_l.trans dz), Fl_t fz (Fl_t f17_l r5_l)⟩
        dsimp only
        rw [hG, hb_l, r2]
    by_cases c0 : x2_l = 0
    · rw [if_pos c0]
      by_cases c1 : v19 < v8
      · rw [if_pos c1]
        exact gQ_ret (done_l 1 (by rw [if_pos c0, if_pos c1]))
      · rw [if_neg c1]
        exact gQ_ret (done_l 0 (by rw [if_pos c0, if_neg c1]))
    · rw [if_neg c0]
      by_cases c1 : v8 < v19
      · rw [if_pos c1]
        exact gQ_ret (done_l 1 (by rw [if_neg c0, if_pos c1]))
      · rw [if_neg c1]
        exact gQ_ret (done_l 0 (by rw [if_neg c0, if_neg c1]))
  refine gQ_w1 (A := fun v_l t_l => Fm s7 t_l ∧ gI t_l 217 11 = (g2 : Int) ∧ Mk t_l L e g2 F ∧ ((v_l = 1 ∧ g2 < e ∧ L g2 = 60) ∨ (v_l = 0 ∧ ¬ (g2 < e ∧ L g2 = 60)))) (j170 p3_l) (fun v10 s9 h9 => ?_)
  obtain ⟨hF9, e9_l, k9, ⟨w1_l, w2_l⟩ | ⟨w1_l, w2_l⟩⟩ := h9
  · rw [if_neg (by omega), if_pos w2_l]
    refine key_l v10 2001 (fun z_l F => if y_l.2 F < z_l.2 F then 1 else 0) s9 60 (by decide) (Fl_t fl7 (Fl_m hF9)) ((m13 hF9).trans d7_l) k9 e9_l w2_l (fun w_l => ?_)
    rw [p2_l]
    exact (if_neg (show ¬ v10 = 0 by omega)).symm
  rw [if_pos w1_l, if_neg w2_l]
  refine gQ_w1 (A := fun v_l t_l => Fm s9 t_l ∧ gI t_l 217 11 = (g2 : Int) ∧ Mk t_l L e g2 F ∧ ((v_l = 1 ∧ g2 < e ∧ L g2 = 62) ∨ (v_l = 0 ∧ ¬ (g2 < e ∧ L g2 = 62)))) (j170 k9) (fun v13 s12 h12 => ?_)
  obtain ⟨hF12, e12_l, k12, ⟨u1_l, u2_l⟩ | ⟨u1_l, u2_l⟩⟩ := h12
  · rw [if_neg (by omega), if_pos u2_l]
    refine key_l v10 2002 (fun z_l F => if z_l.2 F < y_l.2 F then 1 else 0) s12 62 (by decide) (Fl_t fl7 (Fl_t (Fl_m hF9) (Fl_m hF12))) ((m13 hF12).trans ((m13 hF9).trans d7_l)) k12 e12_l u2_l (fun w_l => ?_)
    rw [if_pos w1_l, p2_l]
  · rw [if_pos u1_l, if_neg u2_l, e12_l]
    refine gQ_v0 (A := fun z_l => Fm s12 z_l ∧ gI z_l 217 12 = (g2 : Int)) (j172 k12.1.1.2.1) (fun z_l hz => ?_)
    exact gQ_ret (Or.inl ⟨g2, rfl, hz.2, Fl_t fl7 (Fl_t (Fl_m hF9) (Fl_t (Fl_m hF12) (Fl_m hz.1)))⟩)
noncomputable def R9 (L : Nat → Int) (e : Nat) (F : Nat → Int) (d : Int) (R : Nat → gS → Option gO) (A : Nat → Nat ⊕ (LX × Nat)) : Prop := ∀ s f, Mk s L e f F → gI s 217 13 = d → gQ (R 217 s) (fun r => KM L e F s (A f) r.2.1 r.2.2.2)
theorem j_l192 {d : Int} {R : Nat → gS → Option gO} {A : Nat → Nat ⊕ (LX × Nat)} (hR : R9 L e F d R A) (hA : ∀ f, Ln f e (A f)) (h : Mk s L e f F) (hd13 : gI s 217 13 = d) : gQ (fo_192 R 217 s) (fun r => KM L e F s (eb (A f) (fun y => lal L e 32 2004 opa A 400 y.1 y.2)) r.2.1 r.2.2.2) := by
  have tw : gtx 65 = gtx 32 := by decide +kernel
  unfold fo_192
  refine gQ_w1 (A := fun v_l u_l => KM L e F s (A f) v_l u_l) (hR s f h hd13) (fun v1_l s1_l h1 => ?_)
  have hT_l : ∃ T, T = eb (A f) (fun y => lal L e 32 2004 opa A 400 y.1 y.2) := ⟨_, rfl⟩
  obtain ⟨T, hT_l⟩ := hT_l
  rw [← hT_l]
  refine gQ_loop (fun y => y.1 = 217 ∧ ((∃ q_l : Nat, T = Sum.inl q_l ∧ gI y.2.2 217 12 = (q_l : Int) ∧ Fl s y.2.2) ∨ (∃ (n_l : Nat) (x_l : LX) (g_l : Nat), T = lal L e 32 2004 opa A n_l x_l g_l ∧ e ≤ g_l + n_l ∧ y.2.1 = x_l.2 F ∧ Mk y.2.2 L e g_l F ∧ gI y.2.2 217 13 = gI s 217 13 ∧ Fl s y.2.2))) (fun y hy => ?_) ⟨rfl, ?_⟩
  · obtain ⟨y0, x1_l, w_l⟩ := y
    obtain ⟨q0, q2_l⟩ := hy
    dsimp only at q0 q2_l
    subst q0
    show gQ (sb_192_5 R 217 x1_l w_l) _
    unfold sb_192_5
    rcases q2_l with ⟨q_l, hq, h12, hd_l⟩ | ⟨n_l, x_l, g_l, hq, hn, hx, hk, h13, hd_l⟩
    · rw [if_neg (by omega)]
      exact gQ_map (gQ_bool (gQ_ret (Or.inl ⟨q_l, hq, h12, hd_l⟩)))
    · rw [if_pos hk.1.1.2.1]
      have hge := hk.1.2.1
      refine gQ_w1 (A := fun v_l t_l => Fm w_l t_l ∧ ((v_l = 1 ∧ Wd L e 32 g_l ∧ g_l < e ∧ Mk t_l L e (nx L e g_l) F) ∨ (v_l = 0 ∧ ¬ Wd L e 32 g_l ∧ Mk t_l L e g_l F ∧ gI t_l 217 11 = (g_l : Int)))) (j171 (by decide) tw hk) (fun v4_l s3_l h3 => ?_)
      obtain ⟨hF3, ⟨z1, z2, zfe, hk3⟩ | ⟨z1, z2, hk3, -⟩⟩ := h3
      · rw [if_neg (by omega)]
        obtain ⟨n', rfl⟩ : ∃ n', n_l = n' + 1 := ⟨n_l - 1, by omega⟩
        unfold lal at hq
        rw [cif_p z2] at hq
        have hs := nx_s (L := L) zfe
        refine gQ_w1 (A := fun v_l u_l => KM L e F s3_l (A (nx L e g_l)) v_l u_l) (hR s3_l _ hk3 ((m13 hF3).trans (h13.trans hd13))) (fun v8 s7 h7 => ?_)
        have hfl := Fl_t hd_l (Fl_m hF3)
        have fin_l : ∀ b_l : Int, b_l = opa x1_l v8 → gQ (some (Sum.inl (217, b_l, s7)) : Option ((Nat × Int × gS) ⊕ gO)) (Sum.elim (fun y => y.1 = 217 ∧ ((∃ q_l : Nat, T = Sum.inl q_l ∧ gI y.2.2 217 12 = (q_l : Int) ∧ Fl s y.2.2) ∨ (∃ (n_l : Nat) (x_l : LX) (g_l : Nat), T = lal L e 32 2004 opa A n_l x_l g_l ∧ e ≤ g_l + n_l ∧ y.2.1 = x_l.2 F ∧ Mk y.2.2 L e g_l F ∧ gI y.2.2 217 13 = gI s 217 13 ∧ Fl s y.2.2))) (fun r => KM L e F s T r.2.1 r.2.2.2)) := fun b_l hb_l => by
          rcases h7 with ⟨q_l, p1_l, p2_l, p3_l⟩ | ⟨y, g2, p1_l, p2_l, p3_l, p4_l, p5_l⟩
          · rw [p1_l, eb_l] at hq
            exact gQ_ret ⟨rfl, Or.inl ⟨q_l, hq, p2_l, Fl_t hfl p3_l⟩⟩
          · rw [p1_l, eb_r] at hq
            have hn2 := hA (nx L e g_l) y g2 p1_l
            refine gQ_ret ⟨rfl, Or.inr ⟨n', _, g2, hq, by omega, ?_, p3_l, ?_, Fl_t hfl p5_l⟩⟩
            · dsimp only
              rw [hb_l, hx, p2_l]
            · dsimp only
              rw [p4_l, m13 hF3, h13]
        unfold fb_192_39
        by_cases c1 : x1_l = 0
        · rw [if_pos c1]
          exact fin_l 0 (by unfold opa; rw [if_pos c1])
        rw [if_neg c1]
        by_cases c2 : v8 = 0
        · rw [if_pos c2]
          exact fin_l 0 (by unfold opa; rw [if_neg c1, if_pos c2])
        · rw [if_neg c2]
          exact fin_l 1 (by unfold opa; rw [if_neg c1, if_neg c2])
      · rw [if_pos z1]
        have hq2 : T = Sum.inr (x_l, g_l) := by
          rw [hq]
          cases n_l with
          | zero => rfl
          | succ n_l => unfold lal; rw [cif_n z2]
        exact gQ_map (gQ_bool (gQ_ret (Or.inr ⟨x_l, g_l, hq2, hx, hk3, (m13 hF3).trans h13, Fl_t hd_l (Fl_m hF3)⟩)))
  · dsimp only
    rcases h1 with ⟨q_l, p1_l, p2_l, p3_l⟩ | ⟨y, g2, p1_l, p2_l, p3_l, p4_l, p5_l⟩
    · rw [p1_l, eb_l] at hT_l
      exact Or.inl ⟨q_l, hT_l, p2_l, p3_l⟩
    · rw [p1_l, eb_r] at hT_l
      have h400 := p3_l.1.2.2.1
      exact Or.inr ⟨400, y, g2, hT_l, by omega, p2_l, p3_l, p4_l, p5_l⟩
theorem j_l193 {d : Int} {R : Nat → gS → Option gO} {A : Nat → Nat ⊕ (LX × Nat)} (hR : R9 L e F d R A) (hA : ∀ f, Ln f e (A f)) (h : Mk s L e f F) (hd13 : gI s 217 13 = d) : gQ (fo_193 R 217 s) (fun r => KM L e F s (eb (A f) (fun y => lal L e 31 2005 opo A 400 y.1 y.2)) r.2.1 r.2.2.2) := by
  have tw : gtx 66 = gtx 31 := by decide +kernel
  unfold fo_193
  refine gQ_w1 (A := fun v_l u_l => KM L e F s (A f) v_l u_l) (hR s f h hd13) (fun v1_l s1_l h1 => ?_)
  have hT_l : ∃ T, T = eb (A f) (fun y => lal L e 31 2005 opo A 400 y.1 y.2) := ⟨_, rfl⟩
  obtain ⟨T, hT_l⟩ := hT_l
  rw [← hT_l]
  refine gQ_loop (fun y => y.1 = 217 ∧ ((∃ q_l : Nat, T = Sum.inl q_l ∧ gI y.2.2 217 12 = (q_l : Int) ∧ Fl s y.2.2) ∨ (∃ (n_l : Nat) (x_l : LX) (g_l : Nat), T = lal L e 31 2005 opo A n_l x_l g_l ∧ e ≤ g_l + n_l ∧ y.2.1 = x_l.2 F ∧ Mk y.2.2 L e g_l F ∧ gI y.2.2 217 13 = gI s 217 13 ∧ Fl s y.2.2))) (fun y hy => ?_) ⟨rfl, ?_⟩
  · obtain ⟨y0, x1_l, w_l⟩ := y
    obtain ⟨q0, q2_l⟩ := hy
    dsimp only at q0 q2_l
    subst q0
    show gQ (sb_193_5 R 217 x1_l w_l) _
    unfold sb_193_5
    rcases q2_l with ⟨q_l, hq, h12, hd_l⟩ | ⟨n_l, x_l, g_l, hq, hn, hx, hk, h13, hd_l⟩
    · rw [if_neg (by omega)]
      exact gQ_map (gQ_bool (gQ_ret (Or.inl ⟨q_l, hq, h12, hd_l⟩)))
    · rw [if_pos hk.1.1.2.1]
      have hge := hk.1.2.1
      refine gQ_w1 (A := fun v_l t_l => Fm w_l t_l ∧ ((v_l = 1 ∧ Wd L e 31 g_l ∧ g_l < e ∧ Mk t_l L e (nx L e g_l) F) ∨ (v_l = 0 ∧ ¬ Wd L e 31 g_l ∧ Mk t_l L e g_l F ∧ gI t_l 217 11 = (g_l : Int)))) (j171 (by decide) tw hk) (fun v4_l s3_l h3 => ?_)
      obtain ⟨hF3, ⟨z1, z2, zfe, hk3⟩ | ⟨z1, z2, hk3, -⟩⟩ := h3
      · rw [if_neg (by omega)]
        obtain ⟨n', rfl⟩ : ∃ n', n_l = n' + 1 := ⟨n_l - 1, by omega⟩
        unfold lal at hq
        rw [cif_p z2] at hq
        have hs := nx_s (L := L) zfe
        refine gQ_w1 (A := fun v_l u_l => KM L e F s3_l (A (nx L e g_l)) v_l u_l) (hR s3_l _ hk3 ((m13 hF3).trans (h13.trans hd13))) (fun v8 s7 h7 => ?_)
        have hfl := Fl_t hd_l (Fl_m hF3)
        have fin_l : ∀ b_l : Int, b_l = opo x1_l v8 → gQ (some (Sum.inl (217, b_l, s7)) : Option ((Nat × Int × gS) ⊕ gO)) (Sum.elim (fun y => y.1 = 217 ∧ ((∃ q_l : Nat, T = Sum.inl q_l ∧ gI y.2.2 217 12 = (q_l : Int) ∧ Fl s y.2.2) ∨ (∃ (n_l : Nat) (x_l : LX) (g_l : Nat), T = lal L e 31 2005 opo A n_l x_l g_l ∧ e ≤ g_l + n_l ∧ y.2.1 = x_l.2 F ∧ Mk y.2.2 L e g_l F ∧ gI y.2.2 217 13 = gI s 217 13 ∧ Fl s y.2.2))) (fun r => KM L e F s T r.2.1 r.2.2.2)) := fun b_l hb_l => by
          rcases h7 with ⟨q_l, p1_l, p2_l, p3_l⟩ | ⟨y, g2, p1_l, p2_l, p3_l, p4_l, p5_l⟩
          · rw [p1_l, eb_l] at hq
            exact gQ_ret ⟨rfl, Or.inl ⟨q_l, hq, p2_l, Fl_t hfl p3_l⟩⟩
          · rw [p1_l, eb_r] at hq
            have hn2 := hA (nx L e g_l) y g2 p1_l
            refine gQ_ret ⟨rfl, Or.inr ⟨n', _, g2, hq, by omega, ?_, p3_l, ?_, Fl_t hfl p5_l⟩⟩
            · dsimp only
              rw [hb_l, hx, p2_l]
            · dsimp only
              rw [p4_l, m13 hF3, h13]
        by_cases c1 : x1_l = 0
        · rw [if_pos c1]
          by_cases c2 : v8 = 0
          · rw [if_pos c2]
            exact fin_l 0 (by unfold opo; rw [if_pos c1, if_pos c2])
          · rw [if_neg c2]
            exact fin_l 1 (by unfold opo; rw [if_pos c1, if_neg c2])
        · rw [if_neg c1]
          exact fin_l 1 (by unfold opo; rw [if_neg c1])
      · rw [if_pos z1]
        have hq2 : T = Sum.inr (x_l, g_l) := by
          rw [hq]
          cases n_l with
          | zero => rfl
          | succ n_l => unfold lal; rw [cif_n z2]
        exact gQ_map (gQ_bool (gQ_ret (Or.inr ⟨x_l, g_l, hq2, hx, hk3, (m13 hF3).trans h13, Fl_t hd_l (Fl_m hF3)⟩)))
  · dsimp only
    rcases h1 with ⟨q_l, p1_l, p2_l, p3_l⟩ | ⟨y, g2, p1_l, p2_l, p3_l, p4_l, p5_l⟩
    · rw [p1_l, eb_l] at hT_l
      exact Or.inl ⟨q_l, hT_l, p2_l, p3_l⟩
    · rw [p1_l, eb_r] at hT_l
      have h400 := p3_l.1.2.2.1
      exact Or.inr ⟨400, y, g2, hT_l, by omega, p2_l, p3_l, p4_l, p5_l⟩
end Lo

end
section
/-! atoms, lines, the law: the model -/
noncomputable def Fl7 (s t : gS) : Prop := (gn t = gn s ∧ (∀ a, gK t a = gK s a) ∧ ∀ a k, gR t a k = gR s a k) ∧ ∀ a k, ¬ (a = 217 ∧ (k = 11 ∨ k = 12 ∨ k = 13 ∨ k = 17)) → gI t a k = gI s a k
section Lq
variable {s t u : gS} {L : Nat → Int} {e f g w w' : Nat} {F : Nat → Int} {x : Nat ⊕ (LX × Nat)} {v : Int}
theorem Fl7_l (h : Fl s t) : Fl7 s t := ⟨h.1, fun a_l k_l c_l => h.2 a_l k_l (fun z_l => c_l ⟨z_l.1, by omega⟩)⟩
theorem Fl7_t (h : Fl7 s t) (h2 : Fl7 t u) : Fl7 s u := ⟨⟨h2.1.1.trans h.1.1, fun a_l => (h2.1.2.1 a_l).trans (h.1.2.1 a_l), fun a_l k_l => (h2.1.2.2 a_l k_l).trans (h.1.2.2 a_l k_l)⟩, fun a_l k_l c_l => (h2.2 a_l k_l c_l).trans (h.2 a_l k_l c_l)⟩
theorem Fl_12 {k : Nat} {v : Int} (hk : k ≠ 12) : gI (gw s 217 k v) 217 12 = gI s 217 12 := rd_k (a := 217) (k := 12) rfl (fun z_l => hk z_l.symm)
theorem j191n (n : Nat) : (∀ d : Int, 0 ≤ d ∧ d ≤ 6 → R9 L e F d (fn_191 n) (latm L e (6 - d).toNat)) ∧ (∀ d : Int, 0 ≤ d ∧ d ≤ 6 → R9 L e F d (fn_192 n) (lall L e (latm L e (6 - d).toNat))) ∧ (∀ d : Int, 0 ≤ d ∧ d ≤ 6 → R9 L e F d (fn_193 n) (lany L e (latm L e (6 - d).toNat))) := by
  have tn_l : gtx 64 = gtx 33 := by decide +kernel
  induction n with
  | zero => exact ⟨fun _ _ _ _ _ _ => gQ_none, fun _ _ _ _ _ _ => gQ_none, fun _ _ _ _ _ _ => gQ_none⟩
  | succ n ih_l =>
    refine ⟨fun d hd_l s_l f_l h_l h13 => ?_, fun d hd_l s_l f_l h_l h13 => ?_, fun d hd_l s_l f_l h_l h13 => ?_⟩
    · show gQ (fo_191 (fn_191 n) (fn_193 n) 217 s_l) _
      unfold fo_191
      rw [if_pos h_l.1.1.2.1]
      refine gQ_w1 (A := fun v_l z_l => v_l = (f_l : Int) ∧ Fm s_l z_l ∧ Mk z_l L e f_l F) ?_ (fun v2 s1_l h1 => ?_)
      · unfold f_173
        exact gQ_v0 (A := fun z_l => Fm s_l z_l ∧ gI z_l 217 11 = (f_l : Int) ∧ Mk z_l L e f_l F) (j169 h_l) (fun z_l hz => gQ_ret ⟨hz.2.1, hz.1, hz.2.2⟩)
      obtain ⟨e2_l, hF1, hk1⟩ := h1
      rw [e2_l]
      have nest : ∀ (x2_l : Int) (z_l : gS), (x2_l = 0 → (f_l < e ∧ L f_l = 40) ∧ ¬ Wd L e 33 f_l ∧ Mk z_l L e f_l F ∧ gI z_l 217 11 = (f_l : Int)) → (x2_l ≠ 0 → Wd L e 33 f_l ∧ Mk z_l L e (nx L e f_l) F) → Fl s_l z_l → gI z_l 217 13 = d → gI z_l 217 12 = -1 → gQ (fb_191_40 (fn_191 n) (fn_193 n) 217 (f_l : Int) x2_l z_l) (fun r_l => KM L e F s_l (latm L e (6 - d).toNat f_l) r_l.2.1 r_l.2.2.2) := fun x2_l z_l k0_l k1_l fz d13_l e12_l => by
        unfold fb_191_40
        dsimp only
        by_cases c6 : d = 6
        · rw [if_pos (by omega)]
          have el : latm L e (6 - d).toNat f_l = Sum.inl f_l := by
            rw [show (6 - d).toNat = 0 by omega]
            unfold latm
            by_cases c : x2_l = 0
            · obtain ⟨a1_l, a2, -⟩ := k0_l c
              rw [cif_n a2, if_pos a1_l]
            · rw [cif_p (k1_l c).1]
          rw [el]
          refine gQ_v0 (A := fun y_l => Fm z_l y_l ∧ gI y_l 217 12 = (f_l : Int)) (j172 e12_l) (fun y_l hy => ?_)
          exact gQ_ret (Or.inl ⟨f_l, rfl, hy.2, Fl_t fz (Fl_m hy.1)⟩)
        rw [if_neg (by omega), d13_l, g32_eq (v := d + 1) (by omega) (by omega)]
        have f14_l : Fl z_l (gw z_l 217 13 (d + 1)) := Fl_w (Or.inr (Or.inr rfl))
        have d14_l : gI (gw z_l 217 13 (d + 1)) 217 13 = d + 1 := rd_same rfl
        have k14 : ∀ g_l, Mk z_l L e g_l F → Mk (gw z_l 217 13 (d + 1)) L e g_l F := fun g_l hg => by
          obtain ⟨hM_l, hz, a_l, ha_l, hae, hfa⟩ := hg.1.1
          exact Mk_l hg f14_l ⟨Mp_fl hM_l f14_l, (Fl_12 (by decide)).trans hz, a_l, (rd_k (a := 217) (k := 11) rfl (by decide)).trans ha_l, hae, hfa⟩ hg.1.2.1
        rw [show (6 - d).toNat = (6 - (d + 1)).toNat + 1 by omega]
        unfold latm
        -- the end: depth as it was
        have fin_l : ∀ (b_l : Int) (y_l : gS) (B_l : Nat ⊕ (LX × Nat)), (∃ q_l : Nat, B_l = Sum.inl q_l ∧ gI y_l 217 12 = (q_l : Int) ∧ Fl s_l y_l) ∨ (∃ w_l g_l, B_l = Sum.inr (w_l, g_l) ∧ b_l = w_l.2 F ∧ Mk y_l L e g_l F ∧ gI y_l 217 13 = d + 1 ∧ Fl s_l y_l) → gQ (fb_191_138 (fn_191 n) (fn_193 n) 217 b_l y_l) (fun r_l => KM L e F s_l B_l r_l.2.1 r_l.2.2.2) := fun b_l y_l B_l hB_l => by
          unfold fb_191_138
          dsimp only
          have fy : ∀ v_l, Fl y_l (gw y_l 217 13 v_l) := fun v_l => Fl_w (Or.inr (Or.inr rfl))
          refine gQ_bool (gQ_ret ?_)
          rcases hB_l with ⟨q_l, h1, h2, h3⟩ | ⟨w_l, g_l, h1, h2, h3, h4, h5⟩
          · exact Or.inl ⟨q_l, h1, (Fl_12 (by decide)).trans h2, Fl_t h3 (fy _)⟩
          · obtain ⟨hM_l, hz, a_l, ha_l, hae, hfa⟩ := h3.1.1
            refine Or.inr ⟨w_l, g_l, h1, h2, Mk_l h3 (fy _) ⟨Mp_fl hM_l (fy _), (Fl_12 (by decide)).trans hz, a_l, (rd_k (a := 217) (k := 11) rfl (by decide)).trans ha_l, hae, hfa⟩ h3.1.2.1, ?_, Fl_t h5 (fy _)⟩
            refine (rd_same rfl).trans ?_
            rw [h4, g32_eq (v := d + 1 - 1) (by omega) (by omega), h13]
            omega
        by_cases c : x2_l = 0
        · obtain ⟨a1_l, a2, a3, a4⟩ := k0_l c
          rw [if_pos c, cif_n a2, if_pos a1_l]
          have e11_l : gI (gw z_l 217 13 (d + 1)) 217 11 = (f_l : Int) := (rd_k (a := 217) (k := 11) rfl (by decide)).trans a4
          have k15 := jskp (c := 40) (by decide) (k14 f_l a3) e11_l a1_l
          have f15 : Fl (gw z_l 217 13 (d + 1)) (gw (gw z_l 217 13 (d + 1)) 217 11 (g32 (gI (gw z_l 217 13 (d + 1)) 217 11 + 1))) := Fl_w (Or.inl rfl)
          have d15_l : gI (gw (gw z_l 217 13 (d + 1)) 217 11 (g32 (gI (gw z_l 217 13 (d + 1)) 217 11 + 1))) 217 13 = d + 1 := (rd_k (a := 217) (k := 13) rfl (by decide)).trans d14_l
          generalize gw (gw z_l 217 13 (d + 1)) 217 11 (g32 (gI (gw z_l 217 13 (d + 1)) 217 11 + 1)) = s15 at *
          have fs15 := Fl_t fz (Fl_t f14_l f15)
          refine gQ_w1 (A := fun v_l u_l => KM L e F s15 (lany L e (latm L e (6 - (d + 1)).toNat) (nx L e f_l)) v_l u_l) (ih_l.2.2 (d + 1) (by omega) s15 _ k15 d15_l) (fun v17 s16 h16_l => ?_)
          rcases h16_l with ⟨q_l, p1_l, p2_l, p3_l⟩ | ⟨y_l, g2, p1_l, p2_l, p3_l, p4_l, p5_l⟩
          · rw [if_neg (by omega), p1_l, eb_l]
            unfold fb_191_128
            dsimp only
            exact fin_l _ _ _ (Or.inl ⟨q_l, rfl, (Fl_12 (by decide)).trans p2_l, Fl_t (Fl_t fs15 p3_l) (Fl_w (Or.inl rfl))⟩)
          · rw [if_pos p3_l.1.1.2.1, p1_l, eb_r]
            dsimp only
            refine gQ_w1 (A := fun v_l t_l => Fm s16 t_l ∧ gI t_l 217 11 = (g2 : Int) ∧ Mk t_l L e g2 F ∧ ((v_l = 1 ∧ g2 < e ∧ L g2 = 41) ∨ (v_l = 0 ∧ ¬ (g2 < e ∧ L g2 = 41)))) (j170 p3_l) (fun v20 s19 h19 => ?_)
            obtain ⟨hF19, e19_l, k19, ⟨w1_l, w2_l⟩ | ⟨w1_l, w2_l⟩⟩ := h19
            · rw [if_neg (by omega), if_pos w2_l]
              unfold fb_191_128
              dsimp only
              refine fin_l _ _ _ (Or.inr ⟨y_l, _, rfl, p2_l, jskp (c := 41) (by decide) k19 e19_l w2_l, ?_, Fl_t (Fl_t fs15 p5_l) (Fl_t (Fl_m hF19) (Fl_w (Or.inl rfl)))⟩)
              exact (rd_k (a := 217) (k := 13) rfl (by decide)).trans ((m13 hF19).trans (p4_l.trans d15_l))
            · rw [if_pos w1_l, if_neg w2_l, e19_l]
              refine gQ_v0 (A := fun y_l => Fm s19 y_l ∧ gI y_l 217 12 = (g2 : Int)) (j172 k19.1.1.2.1) (fun y_l hy => ?_)
              unfold fb_191_128
              dsimp only
              exact fin_l _ _ _ (Or.inl ⟨g2, rfl, (Fl_12 (by decide)).trans hy.2, Fl_t (Fl_t fs15 p5_l) (Fl_t (Fl_m hF19) (Fl_t (Fl_m hy.1) (Fl_w (Or.inl rfl))))⟩)
        · obtain ⟨a1_l, a2⟩ := k1_l c
          rw [if_neg c, cif_p a1_l]
          have fs14 := Fl_t fz f14_l
          refine gQ_w1 (A := fun v_l u_l => KM L e F (gw z_l 217 13 (d + 1)) (latm L e (6 - (d + 1)).toNat (nx L e f_l)) v_l u_l) (ih_l.1 (d + 1) (by omega) _ _ (k14 _ a2) d14_l) (fun v27 s26 h26 => ?_)
          have both_l : ∀ b_l : Int, (b_l = if v27 = 0 then 1 else 0) → gQ (fb_191_138 (fn_191 n) (fn_193 n) 217 b_l s26) (fun r_l => KM L e F s_l (eb (latm L e (6 - (d + 1)).toNat (nx L e f_l)) (fun y_l => Sum.inr ((y_l.1.1 ++ [2003], fun F => if y_l.1.2 F = 0 then 1 else 0), y_l.2))) r_l.2.1 r_l.2.2.2) := fun b_l hb_l => by
            rcases h26 with ⟨q_l, p1_l, p2_l, p3_l⟩ | ⟨y_l, g2, p1_l, p2_l, p3_l, p4_l, p5_l⟩
            · rw [p1_l, eb_l]
              exact fin_l _ _ _ (Or.inl ⟨q_l, rfl, p2_l, Fl_t fs14 p3_l⟩)
            · rw [p1_l, eb_r]
              refine fin_l _ _ _ (Or.inr ⟨_, _, rfl, ?_, p3_l, p4_l.trans d14_l, Fl_t fs14 p5_l⟩)
              dsimp only
              rw [hb_l, p2_l]
          by_cases c2 : v27 = 0
          · rw [if_pos c2]
            exact both_l 1 (by rw [if_pos c2])
          · rw [if_neg c2]
            exact both_l 0 (by rw [if_neg c2])
      have d1_l : gI s1_l 217 13 = d := (m13 hF1).trans h13
      refine gQ_w1 (A := fun v_l t_l => Fm s1_l t_l ∧ ((v_l = 1 ∧ Wd L e 33 f_l ∧ f_l < e ∧ Mk t_l L e (nx L e f_l) F) ∨ (v_l = 0 ∧ ¬ Wd L e 33 f_l ∧ Mk t_l L e f_l F ∧ gI t_l 217 11 = (f_l : Int)))) (j171 (by decide) tn_l hk1) (fun v4_l s3_l h3 => ?_)
      obtain ⟨hF3, ⟨v1_l, hd3, hfe, hk3⟩ | ⟨v0_l, hd3, hk3, -⟩⟩ := h3
      · rw [if_neg (by omega)]
        exact nest v4_l s3_l (fun z_l => by omega) (fun _ => ⟨hd3, hk3⟩) (Fl_t (Fl_m hF1) (Fl_m hF3)) ((m13 hF3).trans d1_l) hk3.1.1.2.1
      · rw [if_pos v0_l]
        refine gQ_w1 (A := fun v_l t_l => Fm s3_l t_l ∧ gI t_l 217 11 = (f_l : Int) ∧ Mk t_l L e f_l F ∧ ((v_l = 1 ∧ f_l < e ∧ L f_l = 40) ∨ (v_l = 0 ∧ ¬ (f_l < e ∧ L f_l = 40)))) (j170 hk3) (fun v7 s6_l h6 => ?_)
        obtain ⟨hF6, e6_l, k6_l, ⟨w1_l, w2_l⟩ | ⟨w1_l, w2_l⟩⟩ := h6
        · rw [if_neg (by omega)]
          exact nest v4_l s6_l (fun _ => ⟨w2_l, hd3, k6_l, e6_l⟩) (fun z_l => absurd v0_l z_l) (Fl_t (Fl_m hF1) (Fl_t (Fl_m hF3) (Fl_m hF6))) ((m13 hF6).trans ((m13 hF3).trans d1_l)) k6_l.1.1.2.1
        · rw [if_pos w1_l]
          have el : latm L e (6 - d).toNat f_l = lcm L e f_l := by
            cases (6 - d).toNat with
            | zero => unfold latm; rw [cif_n hd3, if_neg w2_l]
            | succ k_l => unfold latm; rw [cif_n hd3, if_neg w2_l]
          rw [el]
          refine gQ_w1 (A := fun v_l u_l => KM L e F s6_l (lcm L e f_l) v_l u_l) (j190 k6_l) (fun v10 s9 h9 => gQ_ret ?_)
          exact KM_l (Fl_t (Fl_m hF1) (Fl_t (Fl_m hF3) (Fl_m hF6))) ((m13 hF6).trans ((m13 hF3).trans (m13 hF1))) h9
    · exact j_l192 (ih_l.1 d hd_l) (latm_n _) h_l h13
    · exact j_l193 (ih_l.2.1 d hd_l) (lall_n (latm_n _)) h_l h13
/-- a line -/
noncomputable def KL (L : Nat → Int) (e : Nat) (F : Nat → Int) (s : gS) (x : Nat ⊕ (LX × Nat)) (t : gS) : Prop := Fl7 s t ∧ ((∃ q : Nat, x = Sum.inl q ∧ gI t 217 12 = (q : Int)) ∨ (∃ y g, x = Sum.inr (y, g) ∧ Mk t L e g F ∧ gI t 217 13 = gI s 217 13 ∧ (-2147483648 ≤ gI s 217 17 ∧ gI s 217 17 < 2147483648 → gI t 217 17 = g32 (gI s 217 17 + y.2 F))))
theorem j194 (h : Mk s L e f F) (h13 : gI s 217 13 = 0) : gQ (f_194 217 s) (fun r => KL L e F s (lline L e f) r.2.2.2) := by
  obtain ⟨-, -, -, -, -, -, -, -, -, -, -, -, t13, t14, t15⟩ := gtx_l
  have f17_l : ∀ {a_l b_l : gS}, Fl a_l b_l → gI b_l 217 17 = gI a_l 217 17 := fun hab => hab.2 217 17 (by omega)
  have key_l : ∀ (x1_l b_l sg : Int) (z_l : gS), Fl s z_l → gI z_l 217 13 = 0 → Mk z_l L e (nx L e f) F → (x1_l = 0 → sg = -1) → (x1_l ≠ 0 → sg = 1) → gQ (fb_194_29 217 x1_l z_l) (fun r => KL L e F s (lln L e b_l sg (nx L e f)) r.2.2.2) := fun x1_l b_l sg z_l fz dz kz c1_l c2_l => by
    unfold fb_194_29 lln
    refine gQ_w1 (A := fun v_l t_l => Fm z_l t_l ∧ ((Nm L e (nx L e f) 0 30 ∧ v_l = nv L (nx L e f) (dr L e (nx L e f) - nx L e f) ∧ Mk t_l L e (nx L e (nx L e f)) F) ∨ (¬ Nm L e (nx L e f) 0 30 ∧ gI t_l 217 12 = ((nx L e f : Nat) : Int)))) (j174 kz) (fun v10 s9 h9 => ?_)
    obtain ⟨hF9, ⟨b1, b2, b3⟩ | ⟨b1, b2⟩⟩ := h9
    · rw [if_pos b3.1.1.2.1, cif_p b1]
      have hlo := b1.2.2.1
      have hhi := b1.2.2.2
      have f9_l := Fl_t fz (Fl_m hF9)
      have d9_l := (m13 hF9).trans dz
      rw [← b2] at hlo hhi
      -- the end of a_l line
      have fin_l : ∀ (w0_l : Int) (y_l : gS) (B_l : Nat ⊕ (LX × Nat)), Fl s y_l → (∃ q_l : Nat, B_l = Sum.inl q_l ∧ gI y_l 217 12 = (q_l : Int)) ∨ (∃ (w_l : LX) (g_l : Nat), B_l = Sum.inr (w_l, g_l) ∧ Mk y_l L e g_l F ∧ gI y_l 217 13 = 0 ∧ w_l.2 F = if w0_l = 0 then 0 else sg * v10) → gQ (fb_194_67 217 x1_l v10 w0_l y_l) (fun r => KL L e F s B_l r.2.2.2) := fun w0_l y_l B_l fy hB_l => by
        unfold fb_194_67 fb_194_95
        dsimp only
        rcases hB_l with ⟨q_l, h1, h2⟩ | ⟨w_l, g_l, h1, h2, h3, h4⟩
        · rw [if_neg (by omega)]
          exact gQ_ret ⟨Fl7_l fy, Or.inl ⟨q_l, h1, h2⟩⟩
        · rw [if_pos h2.1.1.2.1]
          by_cases c0 : w0_l = 0
          · rw [if_pos c0]
            rw [if_pos c0] at h4
            refine gQ_ret ⟨Fl7_l fy, Or.inr ⟨w_l, g_l, h1, h2, h3.trans h13.symm, fun hr => ?_⟩⟩
            dsimp only
            rw [f17_l fy, h4, Int.add_zero, g32_eq hr.1 hr.2]
          · rw [if_neg c0]
            rw [if_neg c0] at h4
            have wr_l : ∀ b_l, Mk (gw y_l 217 17 b_l) L e g_l F := fun b_l => by
              obtain ⟨⟨⟨hM_l, hz, a_l, ha_l, hae, hfa⟩, g2, g3_l, g4⟩, g5_l, g6, g7, g8⟩ := h2
              have i17 : ∀ k_l, k_l ≠ 17 → gI (gw y_l 217 17 b_l) 217 k_l = gI y_l 217 k_l := fun k_l hk => rd_k (a := 217) rfl hk
              have iA : ∀ a_l k_l, a_l ≠ 217 → gI (gw y_l 217 17 b_l) a_l k_l = gI y_l a_l k_l := fun a_l k_l hk => rd_a rfl hk
              refine ⟨⟨⟨⟨⟨(i17 10 (by decide)).trans hM_l.1.1, hM_l.1.2⟩, hM_l.2.1, fun k_l hk => ?_⟩, (i17 12 (by decide)).trans hz, a_l, (i17 11 (by decide)).trans ha_l, hae, hfa⟩, g2, g3_l, g4⟩, g5_l, fun i_l hi_l => (iA 223 i_l (by decide)).trans (g6 i_l hi_l), (i17 15 (by decide)).trans g7, (i17 16 (by decide)).trans g8⟩
              have q_l := hM_l.2.2 k_l hk
              unfold f_168 at q_l ⊢
              have r1_l : gR (gw y_l 217 17 b_l) 217 1 = 218 := hM_l.2.1.1
              have r7 : gR (gw y_l 217 17 b_l) 217 7 = 222 := hM_l.2.1.2
              rw [hM_l.2.1.1, hM_l.2.1.2] at q_l
              rw [r1_l, r7, i17 9 (by decide), iA 222 _ (by decide), iA 218 _ (by decide)]
              unfold gchk at q_l ⊢
              by_cases c1_l : gI y_l 217 9 = -1
              · rw [if_pos c1_l] at q_l ⊢
                by_cases c2_l : 0 ≤ (k_l : Int) ∧ (k_l : Int) < 400
                · rw [if_pos c2_l] at q_l ⊢
                  have e1_l : gI y_l 222 (k_l : Int).toNat = L k_l := by
                    injection q_l with q_l
                    injection q_l with _ q_l
                    injection q_l
                  rw [e1_l]
                · rw [if_neg c2_l] at q_l
                  cases q_l
              · rw [if_neg c1_l] at q_l ⊢
                by_cases c2_l : 0 ≤ g32 (gI y_l 217 9 + (k_l : Int)) ∧ g32 (gI y_l 217 9 + (k_l : Int)) < 740
                · rw [if_pos c2_l] at q_l ⊢
                  have e1_l : gI y_l 218 (g32 (gI y_l 217 9 + (k_l : Int))).toNat = L k_l := by
                    injection q_l with q_l
                    injection q_l with _ q_l
                    injection q_l
                  rw [e1_l]
                · rw [if_neg c2_l] at q_l
                  cases q_l
            have dn : ∀ b_l, b_l = sg * v10 → KL L e F s B_l (gw y_l 217 17 (g32 (gI y_l 217 17 + b_l))) := fun b_l hb_l => by
              refine ⟨Fl7_t (Fl7_l fy) ⟨⟨rfl, fun _ => rfl, fun _ _ => rfl⟩, fun a_l k_l c_l => ?_⟩, Or.inr ⟨w_l, g_l, h1, wr_l _, ?_, fun _ => ?_⟩⟩
              · show (if a_l = 217 ∧ k_l = 17 then _ else gI y_l a_l k_l) = _
                rw [if_neg (fun z_l => c_l ⟨z_l.1, by omega⟩)]
              · exact (rd_k (a := 217) (k := 13) rfl (by decide)).trans (h3.trans h13.symm)
              · refine (rd_same rfl).trans ?_
                rw [f17_l fy, hb_l, h4]
            by_cases c1' : x1_l = 0
            · rw [if_pos c1']
              exact gQ_ret (dn _ (by rw [c1_l c1', g32_eq (v := -v10) (by omega) (by omega)]; omega))
            · rw [if_neg c1']
              exact gQ_ret (dn _ (by rw [c2_l c1']; omega))
      refine gQ_w1 (A := fun v_l t_l => Fm s9 t_l ∧ ((v_l = 1 ∧ Wd L e 30 (nx L e (nx L e f)) ∧ nx L e (nx L e f) < e ∧ Mk t_l L e (nx L e (nx L e (nx L e f))) F) ∨ (v_l = 0 ∧ ¬ Wd L e 30 (nx L e (nx L e f)) ∧ Mk t_l L e (nx L e (nx L e f)) F ∧ gI t_l 217 11 = ((nx L e (nx L e f) : Nat) : Int)))) (j171 (by decide) t15 b3) (fun v12 s11 h11 => ?_)
      obtain ⟨hF11, ⟨z1, z2, z3, z4⟩ | ⟨z1, z2, z3, -⟩⟩ := h11
      · rw [if_neg (by omega), cif_p z2]
        have f11_l := Fl_t f9_l (Fl_m hF11)
        have d11_l := (m13 hF11).trans d9_l
        have hk := (j191n (L := L) (e := e) (F := F) 24).2.2 0 (by decide) s11 _ z4 d11_l
        refine gQ_w1 (A := fun v_l u_l => KM L e F s11 (lany L e (latm L e 6) (nx L e (nx L e (nx L e f)))) v_l u_l) hk (fun v16 s15 h15 => ?_)
        have both_l : ∀ w0_l : Int, (w0_l = 0 ↔ v16 = 0) → gQ (fb_194_67 217 x1_l v10 w0_l s15) (fun r => KL L e F s (eb (lany L e (latm L e 6) (nx L e (nx L e (nx L e f)))) (fun y_l => Sum.inr ((y_l.1.1 ++ [b_l + nv L (nx L e f) (dr L e (nx L e f) - nx L e f)], fun F => if y_l.1.2 F = 0 then 0 else sg * nv L (nx L e f) (dr L e (nx L e f) - nx L e f)), y_l.2))) r.2.2.2) := fun w0_l hw0 => by
          rcases h15 with ⟨q_l, p1_l, p2_l, p3_l⟩ | ⟨y_l, g2, p1_l, p2_l, p3_l, p4_l, p5_l⟩
          · rw [p1_l, eb_l]
            exact fin_l _ _ _ (Fl_t f11_l p3_l) (Or.inl ⟨q_l, rfl, p2_l⟩)
          · rw [p1_l, eb_r]
            refine fin_l _ _ _ (Fl_t f11_l p5_l) (Or.inr ⟨_, _, rfl, p3_l, p4_l.trans d11_l, ?_⟩)
            dsimp only
            rw [← p2_l, ← b2]
            by_cases c_l : v16 = 0
            · rw [if_pos c_l, if_pos (hw0.mpr c_l)]
            · rw [if_neg c_l, if_neg (fun z_l => c_l (hw0.mp z_l))]
        by_cases c_l : v16 = 0
        · rw [if_pos c_l]
          exact both_l 0 ⟨fun _ => c_l, fun _ => rfl⟩
        · rw [if_neg c_l]
          exact both_l 1 ⟨fun z_l => absurd z_l (by decide), fun z_l => absurd z_l c_l⟩
      · rw [if_pos z1, cif_n z2]
        refine fin_l 1 s11 _ (Fl_t f9_l (Fl_m hF11)) (Or.inr ⟨_, _, rfl, z3, (m13 hF11).trans d9_l, ?_⟩)
        dsimp only
        rw [if_neg (by decide), b2]
    · rw [if_neg (by omega), cif_n b1]
      exact gQ_ret ⟨Fl7_l (Fl_t fz (Fl_m hF9)), Or.inl ⟨_, rfl, b2⟩⟩
  unfold f_194 lline
  refine gQ_w1 (A := fun v_l t_l => Fm s t_l ∧ ((v_l = 1 ∧ Wd L e 28 f ∧ f < e ∧ Mk t_l L e (nx L e f) F) ∨ (v_l = 0 ∧ ¬ Wd L e 28 f ∧ Mk t_l L e f F ∧ gI t_l 217 11 = (f : Int)))) (j171 (by decide) t13 h) (fun v2 s1_l h1 => ?_)
  obtain ⟨hF1, ⟨v1_l, hd_l, hfe, hk⟩ | ⟨v0_l, hd_l, hk, -⟩⟩ := h1
  · rw [if_neg (by omega), cif_p hd_l]
    exact key_l v2 3000 1 s1_l (Fl_m hF1) ((m13 hF1).trans h13) hk (fun z_l => by omega) (fun _ => rfl)
  rw [if_pos v0_l, cif_n hd_l]
  refine gQ_w1 (A := fun v_l t_l => Fm s1_l t_l ∧ ((v_l = 1 ∧ Wd L e 29 f ∧ f < e ∧ Mk t_l L e (nx L e f) F) ∨ (v_l = 0 ∧ ¬ Wd L e 29 f ∧ Mk t_l L e f F ∧ gI t_l 217 11 = (f : Int)))) (j171 (by decide) t14 hk) (fun v5 s4_l h4 => ?_)
  obtain ⟨hF4, ⟨v1_l, hd4, hfe, hk4⟩ | ⟨v4_l, hd4, hk4, e11_l⟩⟩ := h4
  · rw [if_neg (by omega), cif_p hd4]
    exact key_l v2 4000 (-1) s4_l (Fl_t (Fl_m hF1) (Fl_m hF4)) ((m13 hF4).trans ((m13 hF1).trans h13)) hk4 (fun _ => rfl) (fun z_l => absurd v0_l z_l)
  · rw [if_pos v4_l, cif_n hd4, e11_l]
    refine gQ_v0 (A := fun z_l => Fm s4_l z_l ∧ gI z_l 217 12 = (f : Int)) (j172 hk4.1.1.2.1) (fun z_l hz => ?_)
    exact gQ_ret ⟨Fl7_l (Fl_t (Fl_t (Fl_m hF1) (Fl_m hF4)) (Fl_m hz.1)), Or.inl ⟨f, rfl, hz.2⟩⟩
end Lq

end
section
/-! the law: the model -/
section Lt
variable {s t u : gS} {L : Nat → Int} {e f g : Nat} {F : Nat → Int} {v : Int}
theorem g32_b (v : Int) : -2147483648 ≤ g32 v ∧ g32 v < 2147483648 := by
  have h1 := Int.le_bmod (x := v) (m := 4294967296) (by decide)
  have h2 := Int.bmod_lt (x := v) (m := 4294967296) (by decide)
  unfold g32
  omega
theorem j169f : gQ (f_169 217 s) (fun r => Fm s r.2.2.2 ∧ gI r.2.2.2 217 12 = gI s 217 12) := by
  unfold f_169
  refine gQ_loop (fun y_l => y_l.1 = 217 ∧ Fm s y_l.2 ∧ gI y_l.2 217 12 = gI s 217 12) (fun y_l hy => ?_) ⟨rfl, ⟨⟨rfl, fun _ => rfl, fun _ _ => rfl⟩, fun _ _ _ => rfl⟩, rfl⟩
  obtain ⟨x0_l, y1⟩ := y_l
  obtain ⟨e0_l, h1, h2⟩ := hy
  dsimp only at e0_l h1 h2
  subst e0_l
  show gQ (sb_169_0 217 y1) _
  unfold sb_169_0
  dsimp only
  have h168 : ∀ (k_l : Int) (t_l : gS), gQ (f_168 217 k_l t_l) (fun r => r.2.2.2 = t_l) := by
    intro k_l t_l
    unfold f_168
    exact gQ_ite (gQ_chk (gQ_ret rfl)) (gQ_chk (gQ_ret rfl))
  refine gQ_ite ?_ (gQ_map (gQ_ret ⟨h1, h2⟩))
  refine gQ_v1 (A := fun z_l => z_l = y1) (h168 _ _) (fun v2 s2_l h3 => ?_)
  rw [h3]
  refine gQ_ite ?_ (gQ_map (gQ_ret ⟨h1, h2⟩))
  refine gQ_ret ⟨rfl, ⟨h1.1, fun a_l k_l c_l => ?_⟩, (rd_k (a := 217) (k := 12) rfl (by decide)).trans h2⟩
  show (if a_l = 217 ∧ k_l = 11 then _ else gI y1 a_l k_l) = _
  rw [if_neg (by omega)]
  exact h1.2 a_l k_l c_l
theorem j184 (h : Mk s L e (sk L e 0) F) (h13 : gI s 217 13 = 0) : gQ (f_184 217 1 s) (fun r => Fl7 s r.2.2.2 ∧ ((∃ q : Nat, lwp L e = Sum.inl q ∧ gI r.2.2.2 217 12 = (q : Int)) ∨ (∃ y k, lwp L e = Sum.inr (y, k) ∧ gI r.2.2.2 217 12 = -1 ∧ r.2.1 = (k : Int) ∧ (gI s 217 17 = 0 → gI r.2.2.2 217 17 = y.2 F)))) := by
  unfold f_184
  refine gQ_v0 (A := fun z_l => Fm s z_l ∧ gI z_l 217 11 = ((sk L e 0 : Nat) : Int) ∧ Mk z_l L e (sk L e 0) F) (j169 h) (fun s1_l h1 => ?_)
  obtain ⟨hF1, e11_l, hk1⟩ := h1
  have e10_l : gI s1_l 217 10 = (e : Int) := hk1.1.1.1.1.1
  have hb_l := hk1.1.2.1
  have e17_l : gI s1_l 217 17 = gI s 217 17 := hF1.2 217 17 (by omega)
  have d1_l : gI s1_l 217 13 = 0 := (m13 hF1).trans h13
  rw [e11_l, e10_l]
  have fl1_l : Fl7 s s1_l := Fl7_l (Fl_m hF1)
  have hT_l : ∃ T, T = lwp L e := ⟨_, rfl⟩
  obtain ⟨T, hT_l⟩ := hT_l
  rw [← hT_l]
  have key_l : ∀ w0_l : Int, ((w0_l = 1 ∧ T = lwl L e 12 ([], fun _ => 0) (sk L e 0)) ∨ (w0_l = 0 ∧ T = Sum.inr (([], fun _ => 0), 0))) → gQ (fb_184_20 217 1 w0_l s1_l) (fun r => Fl7 s r.2.2.2 ∧ ((∃ q : Nat, T = Sum.inl q ∧ gI r.2.2.2 217 12 = (q : Int)) ∨ (∃ y k, T = Sum.inr (y, k) ∧ gI r.2.2.2 217 12 = -1 ∧ r.2.1 = (k : Int) ∧ (gI s 217 17 = 0 → gI r.2.2.2 217 17 = y.2 F)))) := fun w0_l hw0 => by
    unfold fb_184_20
    refine gQ_loop (fun y => (y.1 = 217 ∧ y.2.1 = 1) ∧ Fl7 s y.2.2.2.2 ∧ ((∃ q : Nat, T = Sum.inl q ∧ gI y.2.2.2.2 217 12 = (q : Int)) ∨ (y.2.2.1 = 0 ∧ ∃ x_l k, T = Sum.inr (x_l, k) ∧ y.2.2.2.1 = (k : Int) ∧ gI y.2.2.2.2 217 12 = -1 ∧ (gI s 217 17 = 0 → gI y.2.2.2.2 217 17 = x_l.2 F)) ∨ (y.2.2.1 = 1 ∧ (0 ≤ y.2.2.2.1 ∧ y.2.2.2.1 ≤ 12) ∧ ∃ x_l g_l, T = lwl L e (12 - y.2.2.2.1).toNat x_l g_l ∧ Mk y.2.2.2.2 L e g_l F ∧ gI y.2.2.2.2 217 13 = 0 ∧ (gI s 217 17 = 0 → gI y.2.2.2.2 217 17 = x_l.2 F ∧ (-2147483648 ≤ x_l.2 F ∧ x_l.2 F < 2147483648))))) (fun y hy => ?_) ⟨⟨rfl, rfl⟩, fl1_l, ?_⟩
    · obtain ⟨y0, y1, x2_l, x3, w_l⟩ := y
      obtain ⟨⟨q0, q0b⟩, qf, q2_l⟩ := hy
      dsimp only at q0 q0b qf q2_l
      subst q0 q0b
      show gQ (sb_184_23 217 1 x2_l x3 w_l) _
      unfold sb_184_23
      -- behind a wrong line
      have bad_l : ∀ (z_l : gS) (q : Nat) (x2' : Int), T = Sum.inl q → gI z_l 217 12 = (q : Int) → Fl7 s z_l → gQ (fb_184_80 217 1 x2' x3 z_l) (Sum.elim (fun y => (y.1 = 217 ∧ y.2.1 = 1) ∧ Fl7 s y.2.2.2.2 ∧ ((∃ q : Nat, T = Sum.inl q ∧ gI y.2.2.2.2 217 12 = (q : Int)) ∨ (y.2.2.1 = 0 ∧ ∃ x_l k, T = Sum.inr (x_l, k) ∧ y.2.2.2.1 = (k : Int) ∧ gI y.2.2.2.2 217 12 = -1 ∧ (gI s 217 17 = 0 → gI y.2.2.2.2 217 17 = x_l.2 F)) ∨ (y.2.2.1 = 1 ∧ (0 ≤ y.2.2.2.1 ∧ y.2.2.2.1 ≤ 12) ∧ ∃ x_l g_l, T = lwl L e (12 - y.2.2.2.1).toNat x_l g_l ∧ Mk y.2.2.2.2 L e g_l F ∧ gI y.2.2.2.2 217 13 = 0 ∧ (gI s 217 17 = 0 → gI y.2.2.2.2 217 17 = x_l.2 F ∧ (-2147483648 ≤ x_l.2 F ∧ x_l.2 F < 2147483648))))) (fun r => Fl7 s r.2.2.2 ∧ ((∃ q : Nat, T = Sum.inl q ∧ gI r.2.2.2 217 12 = (q : Int)) ∨ (∃ y k, T = Sum.inr (y, k) ∧ gI r.2.2.2 217 12 = -1 ∧ r.2.1 = (k : Int) ∧ (gI s 217 17 = 0 → gI r.2.2.2 217 17 = y.2 F))))) := fun z_l q x2' hq hz hfz => by
        unfold fb_184_80
        refine gQ_v0 (A := fun y => Fm z_l y ∧ gI y 217 12 = gI z_l 217 12) j169f (fun y hy => ?_)
        rw [if_neg (by omega)]
        exact gQ_ret ⟨⟨rfl, rfl⟩, Fl7_t hfz (Fl7_l (Fl_m hy.1)), Or.inl ⟨q, hq, hy.2.trans hz⟩⟩
      rcases q2_l with ⟨q, hq, h12⟩ | ⟨hx, x_l, k, hq, h3, h12, h17⟩ | ⟨hx, hx3, x_l, g_l, hq, hk, hd_l, h17⟩
      · by_cases c0 : x2_l = 0
        · rw [if_pos c0]
          exact gQ_map (gQ_ret ⟨qf, Or.inl ⟨q, hq, h12⟩⟩)
        · rw [if_neg c0, if_neg (by omega)]
          exact gQ_map (gQ_ret ⟨qf, Or.inl ⟨q, hq, h12⟩⟩)
      · rw [if_pos hx]
        exact gQ_map (gQ_ret ⟨qf, Or.inr ⟨x_l, k, hq, h12, h3, h17⟩⟩)
      · rw [if_neg (by omega), if_pos hk.1.1.2.1]
        refine gQ_v0 (A := fun z_l => Fm w_l z_l ∧ gI z_l 217 11 = (g_l : Int) ∧ Mk z_l L e g_l F) (j169 hk) (fun s3_l h3 => ?_)
        obtain ⟨hF3, e3_l, hk3⟩ := h3
        rw [if_neg (by decide)]
        have fl3 := Fl7_t qf (Fl7_l (Fl_m hF3))
        have d3_l : gI s3_l 217 13 = 0 := (m13 hF3).trans hd_l
        have e173 : gI s3_l 217 17 = gI w_l 217 17 := hF3.2 217 17 (by omega)
        unfold fb_184_51
        by_cases c12 : x3 = 12
        · rw [if_pos c12]
          rw [show (12 - x3).toNat = 0 by omega] at hq
          rw [e3_l]
          refine gQ_v0 (A := fun z_l => Fm s3_l z_l ∧ gI z_l 217 12 = (g_l : Int)) (j172 hk3.1.1.2.1) (fun z_l hz => ?_)
          exact bad_l z_l g_l x2_l hq hz.2 (Fl7_t fl3 (Fl7_l (Fl_m hz.1)))
        rw [if_neg c12, if_neg (by decide)]
        rw [show (12 - x3).toNat = (11 - x3).toNat + 1 by omega] at hq
        unfold lwl at hq
        refine gQ_v0 (A := fun z_l => KL L e F s3_l (lline L e g_l) z_l) (j194 hk3 d3_l) (fun s17 h17' => ?_)
        obtain ⟨hf17, ⟨q, p1_l, p2_l⟩ | ⟨y, g2, p1_l, p2_l, p3_l, p4_l⟩⟩ := h17'
        · rw [p1_l, eb_l] at hq
          exact bad_l s17 q x2_l hq p2_l (Fl7_t fl3 hf17)
        · rw [p1_l, eb_r] at hq
          dsimp only at hq
          have fl17 := Fl7_t fl3 hf17
          have d17_l := p3_l.trans d3_l
          have v17 : gI s 217 17 = 0 → gI s17 217 17 = g32 (x_l.2 F + y.2 F) := fun hz => by
            obtain ⟨a1_l, a2⟩ := h17 hz
            rw [← e173] at a1_l
            rw [p4_l (by rw [a1_l]; exact a2), a1_l]
          unfold fb_184_80
          refine gQ_v0 (A := fun z_l => Fm s17 z_l ∧ gI z_l 217 11 = (g2 : Int) ∧ Mk z_l L e g2 F) (j169 p2_l) (fun s7 h7 => ?_)
          obtain ⟨hF7, e7_l, hk7⟩ := h7
          have fl7 := Fl7_t fl17 (Fl7_l (Fl_m hF7))
          have e177 : gI s7 217 17 = gI s17 217 17 := hF7.2 217 17 (by omega)
          have e107_l : gI s7 217 10 = (e : Int) := hk7.1.1.1.1.1
          have eg : g32 (x3 + 1) = x3 + 1 := g32_eq (by omega) (by omega)
          rw [if_pos hk7.1.1.2.1, e7_l, e107_l]
          by_cases ce : g2 = e
          · rw [if_pos (by omega)]
            rw [if_pos ce] at hq
            refine gQ_ret ⟨⟨rfl, rfl⟩, fl7, Or.inr (Or.inl ⟨rfl, _, _, hq, ?_, hk7.1.1.2.1, fun hz => e177.trans (v17 hz)⟩)⟩
            dsimp only
            rw [eg]
            omega
          · rw [if_neg (by omega)]
            rw [if_neg ce] at hq
            have hge := hk7.1.2.1
            refine gQ_w1 (A := fun v_l t_l => Fm s7 t_l ∧ gI t_l 217 11 = (g2 : Int) ∧ Mk t_l L e g2 F ∧ ((v_l = 1 ∧ g2 < e ∧ L g2 = 59) ∨ (v_l = 0 ∧ ¬ (g2 < e ∧ L g2 = 59)))) (j170 hk7) (fun v10 s9 h9 => ?_)
            obtain ⟨hF9, e9_l, hk9, ⟨w1_l, w2_l⟩ | ⟨w1_l, w2_l⟩⟩ := h9
            · rw [if_neg (by omega)]
              rw [if_pos w2_l.2] at hq
              dsimp only
              have hk14 := jskp (c := 59) (by decide) hk9 e9_l w2_l
              refine gQ_ret ⟨⟨rfl, rfl⟩, Fl7_t fl7 (Fl7_t (Fl7_l (Fl_m hF9)) (Fl7_l (Fl_w (Or.inl rfl)))), Or.inr (Or.inr ⟨hx, ?_, (x_l.1 ++ y.1, fun F => g32 (x_l.2 F + y.2 F)), nx L e g2, ?_, hk14, ?_, fun hz => ⟨?_, ?_⟩⟩)⟩
              · dsimp only
                omega
              · dsimp only
                rw [eg, show (12 - (x3 + 1)).toNat = (11 - x3).toNat by omega]
                exact hq
              · exact (rd_k (a := 217) (k := 13) rfl (by decide)).trans ((m13 hF9).trans ((m13 hF7).trans d17_l))
              · refine (rd_k (a := 217) (k := 17) rfl (by decide)).trans ?_
                rw [hF9.2 217 17 (by omega), e177]
                exact v17 hz
              · exact g32_b _
            · rw [if_pos w1_l, e9_l]
              rw [if_neg (fun z_l => w2_l ⟨by omega, z_l⟩)] at hq
              refine gQ_v0 (A := fun z_l => Fm s9 z_l ∧ gI z_l 217 12 = (g2 : Int)) (j172 hk9.1.1.2.1) (fun z_l hz => ?_)
              exact gQ_ret ⟨⟨rfl, rfl⟩, Fl7_t fl7 (Fl7_t (Fl7_l (Fl_m hF9)) (Fl7_l (Fl_m hz.1))), Or.inl ⟨g2, hq, hz.2⟩⟩
    · dsimp only
      rcases hw0 with ⟨w1_l, hq⟩ | ⟨w1_l, hq⟩
      · exact Or.inr (Or.inr ⟨w1_l, by omega, _, _, hq, hk1, d1_l, fun hz => ⟨e17_l.trans hz, (by decide : (-2147483648 : Int) ≤ 0), (by decide : (0 : Int) < 2147483648)⟩⟩)
      · exact Or.inr (Or.inl ⟨w1_l, _, _, hq, rfl, hk1.1.1.2.1, fun hz => e17_l.trans hz⟩)
  unfold lwp at hT_l
  by_cases c : sk L e 0 = e
  · rw [if_neg (by omega)]
    rw [if_pos c] at hT_l
    exact key_l 0 (Or.inr ⟨rfl, hT_l⟩)
  · rw [if_pos (by omega)]
    rw [if_neg c] at hT_l
    exact key_l 1 (Or.inl ⟨rfl, hT_l⟩)
end Lt

end
