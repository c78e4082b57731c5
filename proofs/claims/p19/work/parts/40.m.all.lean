section
/-! what the codes of a law come to: a machine with a stack of 32 -/
noncomputable def pu (v : Int) (st : List Int) : List Int := if st.length < 32 then v :: st else st
noncomputable def po (st : List Int) : Int × List Int := match st with
  | [] => (0, [])
  | v :: t => (v, t)
noncomputable def xop (c : Int) (st : List Int) : List Int :=
  if c = 2003 then pu (g32 (1 - (po st).1)) (po st).2 else
  if c < 2000 then pu (gor (po (po st).2).1 (po st).1) (po (po st).2).2 else
  if c < 2001 then pu (g32 ((po (po st).2).1 + (po st).1)) (po (po st).2).2 else
  if c < 2002 then pu (if (po (po st).2).1 < (po st).1 then 1 else 0) (po (po st).2).2 else
  if c < 2003 then pu (if (po st).1 < (po (po st).2).1 then 1 else 0) (po (po st).2).2 else
  if c < 2004 then pu (gor (po (po st).2).1 (po st).1) (po (po st).2).2 else
  if c < 2005 then pu (gand (po (po st).2).1 (po st).1) (po (po st).2).2 else pu (gor (po (po st).2).1 (po st).1) (po (po st).2).2
noncomputable def xst (F : Nat → Int) (c : Int) (z : List Int × Int) : List Int × Int :=
  if c < 4000 then (if c < 3000 then (if c < 2000 then (if c < 1000 then (pu c z.1, z.2) else (pu (if g32 (c - 1000) < 0 then 0 else if g32 (c - 1000) < 9 then F (g32 (c - 1000)).toNat else 0) z.1, z.2)) else (xop c z.1, z.2)) else ((po z.1).2, g32 (z.2 + g32 ((po z.1).1 * g32 (c - 3000))))) else ((po z.1).2, g32 (z.2 - g32 ((po z.1).1 * g32 (c - 4000))))
noncomputable def xrn (F : Nat → Int) : List Int → List Int × Int → List Int × Int
  | [], z => z
  | c :: cs, z => xrn F cs (xst F c z)
/-- a piece leaves its value on the stack; it needs room for n -/
noncomputable def Xv (F : Nat → Int) (n : Nat) (x : LX) : Prop := ∀ st a, st.length + n ≤ 32 → xrn F x.1 (st, a) = (x.2 F :: st, a)
noncomputable def B01 (v : Int) : Prop := v = 0 ∨ v = 1
section Xs
variable {L : Nat → Int} {e f g n w : Nat} {F : Nat → Int} {x y : LX} {A : Nat → Nat ⊕ (LX × Nat)}
theorem xrn_a {a b : List Int} {z : List Int × Int} : xrn F (a ++ b) z = xrn F b (xrn F a z) := by
  induction a generalizing z with
  | nil => rfl
  | cons c_l cs ih_l => exact ih_l
theorem pu_p {v : Int} {st : List Int} (h : st.length < 32) : pu v st = v :: st := if_pos h
theorem Xv_m {m : Nat} (h : Xv F n x) (hm : n ≤ m) : Xv F m x := fun st_l a_l hs => h st_l a_l (by omega)
theorem xs_n {v : Int} (hv : v < 1000) : Xv F 1 ([v], fun _ => v) := fun st_l a_l hs => by
  show xst F v (st_l, a_l) = _
  unfold xst
  rw [if_pos (by omega), if_pos (by omega), if_pos (by omega), if_pos (by omega), pu_p (by dsimp only; omega)]
theorem xs_f {i : Nat} (hi : i < 9) : Xv F 1 ([1000 + (i : Int)], fun F => F i) := fun st_l a_l hs => by
  show xst F (1000 + (i : Int)) (st_l, a_l) = _
  unfold xst
  have e_l : g32 (1000 + (i : Int) - 1000) = (i : Int) := (g32_eq (v := 1000 + (i : Int) - 1000) (by omega) (by omega)).trans (by omega)
  rw [if_pos (by omega), if_pos (by omega), if_pos (by omega), if_neg (by omega), e_l, if_neg (by omega), if_pos (by omega), pu_p (by dsimp only; omega), Int.toNat_natCast]
/-- what a fact's code may be -/
noncomputable def Rp (P : LX → Prop) (r : Nat ⊕ (LX × Nat)) : Prop := ∀ y g, r = Sum.inr (y, g) → P y
theorem Rp_l {P : LX → Prop} {q : Nat} : Rp P (Sum.inl q) := fun y_l g_l h_l => by cases h_l
theorem Rp_r {P : LX → Prop} {g : Nat} (h : P x) : Rp P (Sum.inr (x, g)) := fun y_l g' he => by cases he; exact h
theorem Rp_c {P : LX → Prop} {C : Prop} {a b : Nat ⊕ (LX × Nat)} (h1 : C → Rp P a) (h2 : ¬ C → Rp P b) : Rp P (cif C a b) := by
  by_cases h : C
  · rw [cif_p h]; exact h1 h
  · rw [cif_n h]; exact h2 h
theorem Rp_i {P : LX → Prop} {C : Prop} [Decidable C] {a b : Nat ⊕ (LX × Nat)} (h1 : C → Rp P a) (h2 : ¬ C → Rp P b) : Rp P (if C then a else b) := by
  by_cases h : C
  · rw [if_pos h]; exact h1 h
  · rw [if_neg h]; exact h2 h
theorem Rp_e {P : LX → Prop} {z : Nat ⊕ (LX × Nat)} {k : LX × Nat → Nat ⊕ (LX × Nat)} {Q : LX → Prop} (hz : Rp Q z) (hk : ∀ y, Q y.1 → Rp P (k y)) : Rp P (eb z k) := by
  cases z with
  | inl q_l => exact Rp_l
  | inr y => exact hk y (hz y.1 y.2 rfl)
theorem x_fa : Rp (Xv F 1) (lfa L e f) := by
  unfold lfa
  exact Rp_c (fun _ => Rp_r (xs_f (i := 0) (by decide))) (fun _ => Rp_c (fun _ => Rp_r (xs_f (i := 1) (by decide))) (fun _ => Rp_c (fun _ => Rp_r (xs_f (i := 2) (by decide))) (fun _ => Rp_c (fun _ => Rp_r (xs_f (i := 3) (by decide))) (fun _ => Rp_c (fun _ => Rp_r (xs_f (i := 4) (by decide))) (fun _ => Rp_c (fun _ => Rp_r (xs_f (i := 5) (by decide))) (fun _ => Rp_c (fun _ => Rp_r (xs_f (i := 6) (by decide))) (fun _ => Rp_l)))))))
theorem x_pt : Rp (Xv F 1) (lpt L e f) := by
  unfold lpt
  exact Rp_c (fun h_l => Rp_r (xs_n (by have := h_l.2.2.2; omega))) (fun _ => x_fa)
/-- two values and a code for both -/
theorem xs_2 {c : Int} {G : LX → LX → (Nat → Int) → Int} {m : Nat} (hx : Xv F n x) (hy : Xv F m y) (hc : 2000 ≤ c ∧ c < 3000 ∧ c ≠ 2003) (hop : ∀ st, st.length + 1 ≤ 32 → xop c (y.2 F :: x.2 F :: st) = G x y F :: st) : Xv F (max n (m + 1)) (x.1 ++ y.1 ++ [c], G x y) := fun st a_l hs => by
  show xrn F (x.1 ++ y.1 ++ [c]) (st, a_l) = _
  rw [xrn_a, xrn_a, hx st a_l (by omega), hy (x.2 F :: st) a_l (by simp only [List.length_cons]; omega)]
  show xst F c (y.2 F :: x.2 F :: st, a_l) = _
  unfold xst
  rw [if_pos (by omega), if_pos (by omega), if_neg (by omega), hop st (by omega)]
theorem x_sl (n : Nat) : ∀ (x : LX) (g : Nat), Xv F 2 x → Rp (Xv F 2) (lsl L e n x g) := by
  induction n with
  | zero => intro x g hx; exact Rp_r hx
  | succ n ih_l =>
    intro x g hx
    unfold lsl
    refine Rp_i (fun _ => Rp_e (x_pt (F := F)) (fun y_l hy => ih_l _ _ ?_)) (fun _ => Rp_r hx)
    refine Xv_m (xs_2 (c := 2000) (G := fun x y_l F => g32 (x.2 F + y_l.2 F)) hx hy (by decide) (fun st_l hs => ?_)) (by decide)
    show pu (g32 (x.2 F + y_l.1.2 F)) st_l = _
    exact pu_p (by omega)
theorem x_sm : Rp (Xv F 2) (lsm L e f) := by
  unfold lsm
  exact Rp_e (x_pt (F := F)) (fun y_l hy => x_sl 400 _ _ (Xv_m hy (by decide)))
noncomputable def Xb (F : Nat → Int) (n : Nat) (x : LX) : Prop := Xv F n x ∧ B01 (x.2 F)
theorem x_cm (h7 : B01 (F 7)) (h8 : B01 (F 8)) : Rp (Xb F 3) (lcm L e f) := by
  unfold lcm
  refine Rp_c (fun _ => Rp_r ⟨Xv_m (xs_f (i := 7) (by decide)) (by decide), h7⟩) (fun _ => Rp_c (fun _ => Rp_r ⟨Xv_m (xs_f (i := 8) (by decide)) (by decide), h8⟩) (fun _ => Rp_e (x_sm (F := F)) (fun y_l hy => ?_)))
  refine Rp_i (fun _ => Rp_e (x_sm (F := F)) (fun z_l hz => Rp_r ⟨?_, ?_⟩)) (fun _ => Rp_i (fun _ => Rp_e (x_sm (F := F)) (fun z_l hz => Rp_r ⟨?_, ?_⟩)) (fun _ => Rp_l))
  · refine Xv_m (xs_2 (c := 2001) (G := fun x_l y_l F => if x_l.2 F < y_l.2 F then 1 else 0) hy hz (by decide) (fun st_l hs => ?_)) (by decide)
    show pu (if y_l.1.2 F < z_l.1.2 F then 1 else 0) st_l = _
    exact pu_p (by omega)
  · dsimp only
    unfold B01
    split
    · exact Or.inr rfl
    · exact Or.inl rfl
  · refine Xv_m (xs_2 (c := 2002) (G := fun x_l y_l F => if y_l.2 F < x_l.2 F then 1 else 0) hy hz (by decide) (fun st_l hs => ?_)) (by decide)
    show pu (if z_l.1.2 F < y_l.1.2 F then 1 else 0) st_l = _
    exact pu_p (by omega)
  · dsimp only
    unfold B01
    split
    · exact Or.inr rfl
    · exact Or.inl rfl
theorem opa_b {a b : Int} (ha : B01 a) (hb : B01 b) : gand a b = opa a b ∧ B01 (opa a b) := by
  rcases ha with rfl | rfl <;> rcases hb with rfl | rfl <;> exact ⟨by decide, by unfold B01; decide⟩
theorem opo_b {a b : Int} (ha : B01 a) (hb : B01 b) : gor a b = opo a b ∧ B01 (opo a b) := by
  rcases ha with rfl | rfl <;> rcases hb with rfl | rfl <;> exact ⟨by decide, by unfold B01; decide⟩
theorem x_al {c : Int} {op : Int → Int → Int} {m : Nat} (hc : 2000 ≤ c ∧ c < 3000 ∧ c ≠ 2003) (hop : ∀ a b st, B01 a → B01 b → st.length + 1 ≤ 32 → xop c (b :: a :: st) = op a b :: st ∧ B01 (op a b)) (hA : ∀ f, Rp (Xb F m) (A f)) (n : Nat) : ∀ (x : LX) (g : Nat), Xb F (m + 1) x → Rp (Xb F (m + 1)) (lal L e w c op A n x g) := by
  induction n with
  | zero => intro x g hx; exact Rp_r hx
  | succ n ih_l =>
    intro x g hx
    unfold lal
    refine Rp_c (fun _ => Rp_e (hA _) (fun y_l hy => ih_l _ _ ⟨?_, ?_⟩)) (fun _ => Rp_r hx)
    · exact Xv_m (xs_2 (c := c) (G := fun x y_l F => op (x.2 F) (y_l.2 F)) hx.1 hy.1 hc (fun st hs => (hop _ _ st hx.2 hy.2 hs).1)) (by omega)
    · exact (hop _ _ [] hx.2 hy.2 (by decide)).2
theorem x_all {m : Nat} (hA : ∀ f, Rp (Xb F m) (A f)) : ∀ f, Rp (Xb F (m + 1)) (lall L e A f) := fun f => by
  unfold lall
  refine Rp_e (hA f) (fun y_l hy => x_al (by decide) (fun a_l b_l st_l ha_l hb_l hs => ?_) hA 400 _ _ ⟨Xv_m hy.1 (by omega), hy.2⟩)
  obtain ⟨h1, h2⟩ := opa_b ha_l hb_l
  refine ⟨?_, h2⟩
  rw [← h1]
  show pu (gand a_l b_l) st_l = _
  exact pu_p (by omega)
theorem x_any {m : Nat} (hA : ∀ f, Rp (Xb F m) (A f)) : ∀ f, Rp (Xb F (m + 2)) (lany L e A f) := fun f => by
  unfold lany
  refine Rp_e (x_all hA f) (fun y_l hy => x_al (by decide) (fun a_l b_l st_l ha_l hb_l hs => ?_) (x_all hA) 400 _ _ ⟨Xv_m hy.1 (by omega), hy.2⟩)
  obtain ⟨h1, h2⟩ := opo_b ha_l hb_l
  refine ⟨?_, h2⟩
  rw [← h1]
  show pu (gor a_l b_l) st_l = _
  exact pu_p (by omega)
theorem x_atm (h7 : B01 (F 7)) (h8 : B01 (F 8)) (k : Nat) : ∀ f, Rp (Xb F (3 + 2 * k)) (latm L e k f) := by
  induction k with
  | zero =>
    intro f
    unfold latm
    exact Rp_c (fun _ => Rp_l) (fun _ => Rp_i (fun _ => Rp_l) (fun _ => x_cm (F := F) h7 h8))
  | succ k ih_l =>
    intro f
    unfold latm
    refine Rp_c (fun _ => Rp_e (ih_l _) (fun y_l hy => Rp_r ⟨fun st_l a_l hs => ?_, ?_⟩)) (fun _ => Rp_i (fun _ => Rp_e (x_any ih_l _) (fun y_l hy => Rp_i (fun _ => Rp_r ⟨Xv_m hy.1 (by omega), hy.2⟩) (fun _ => Rp_l))) (fun _ => fun y_l g_l he => ?_))
    · show xrn F (y_l.1.1 ++ [2003]) (st_l, a_l) = _
      rw [xrn_a, hy.1 st_l a_l (by omega)]
      show (pu (g32 (1 - y_l.1.2 F)) st_l, a_l) = _
      rw [pu_p (by omega)]
      dsimp only
      rcases hy.2 with e0_l | e1_l
      · rw [e0_l]; rfl
      · rw [e1_l]; rfl
    · dsimp only
      rcases hy.2 with e0_l | e1_l
      · rw [e0_l]; exact Or.inr rfl
      · rw [e1_l]; exact Or.inl rfl
    · have h9 := x_cm (F := F) h7 h8 y_l g_l he
      exact ⟨Xv_m h9.1 (by omega), h9.2⟩
/-- a line adds its value -/
noncomputable def Xl (F : Nat → Int) (x : LX) : Prop := ∀ a, xrn F x.1 ([], a) = ([], g32 (a + x.2 F))
theorem xl_end {b sg v n : Int} (hb : (b = 3000 ∧ sg = 1) ∨ (b = 4000 ∧ sg = -1)) (hn : 0 ≤ n ∧ n ≤ 30) (hv : B01 v) (a : Int) : xst F (b + n) ([v], a) = ([], g32 (a + if v = 0 then 0 else sg * n)) := by
  unfold xst
  rcases hb with ⟨rfl, rfl⟩ | ⟨rfl, rfl⟩
  · rw [if_pos (by omega), if_neg (by omega)]
    show ([], g32 (a + g32 (v * g32 (3000 + n - 3000)))) = _
    rw [show 3000 + n - 3000 = n by omega, g32_eq (v := n) (by omega) (by omega)]
    rcases hv with rfl | rfl
    · rw [if_pos rfl, Int.zero_mul]
      rfl
    · rw [if_neg (by decide), Int.one_mul, g32_eq (v := n) (by omega) (by omega)]
  · rw [if_neg (by omega)]
    show ([], g32 (a - g32 (v * g32 (4000 + n - 4000)))) = _
    rw [show 4000 + n - 4000 = n by omega, g32_eq (v := n) (by omega) (by omega)]
    rcases hv with rfl | rfl
    · rw [if_pos rfl, Int.zero_mul, show g32 0 = 0 from rfl, Int.sub_zero, Int.add_zero]
    · rw [if_neg (by decide), Int.one_mul, g32_eq (v := n) (by omega) (by omega), show a - n = a + -1 * n by omega]
theorem x_ln (h7 : B01 (F 7)) (h8 : B01 (F 8)) {b sg : Int} (hb : (b = 3000 ∧ sg = 1) ∨ (b = 4000 ∧ sg = -1)) : Rp (Xl F) (lln L e b sg f) := by
  unfold lln
  refine Rp_c (fun hn => ?_) (fun _ => Rp_l)
  have h1 := hn.2.2.1
  have h2 := hn.2.2.2
  refine Rp_c (fun _ => Rp_e (x_any (x_atm (F := F) h7 h8 6) _) (fun y_l hy => Rp_r (fun a_l => ?_))) (fun _ => Rp_r (fun a_l => ?_))
  · show xrn F (y_l.1.1 ++ [b + nv L f (dr L e f - f)]) ([], a_l) = _
    rw [xrn_a, hy.1 [] a_l (by decide)]
    exact xl_end hb ⟨h1, h2⟩ hy.2 a_l
  · show xst F (b + nv L f (dr L e f - f)) (xst F 1 ([], a_l)) = _
    have e1_l : xst F 1 ([], a_l) = ([1], a_l) := rfl
    rw [e1_l, xl_end hb ⟨h1, h2⟩ (Or.inr rfl) a_l, if_neg (by decide)]
theorem x_line (h7 : B01 (F 7)) (h8 : B01 (F 8)) : Rp (Xl F) (lline L e f) := by
  unfold lline
  exact Rp_c (fun _ => x_ln (F := F) h7 h8 (Or.inl ⟨rfl, rfl⟩)) (fun _ => Rp_c (fun _ => x_ln (F := F) h7 h8 (Or.inr ⟨rfl, rfl⟩)) (fun _ => Rp_l))
theorem x_wl (h7 : B01 (F 7)) (h8 : B01 (F 8)) (n : Nat) : ∀ (x : LX) (g : Nat), xrn F x.1 ([], 0) = ([], x.2 F) → Rp (fun y => xrn F y.1 ([], 0) = ([], y.2 F)) (lwl L e n x g) := by
  induction n with
  | zero => intro x g hx; exact Rp_l
  | succ n ih_l =>
    intro x g hx
    unfold lwl
    refine Rp_e (x_line (F := F) h7 h8) (fun y hy => ?_)
    have hxy : xrn F (x.1 ++ y.1.1) ([], 0) = ([], g32 (x.2 F + y.1.2 F)) := by rw [xrn_a, hx, hy]
    exact Rp_i (fun _ => Rp_r hxy) (fun _ => Rp_i (fun _ => ih_l _ _ hxy) (fun _ => Rp_l))
theorem x_wp (h7 : B01 (F 7)) (h8 : B01 (F 8)) : Rp (fun y => xrn F y.1 ([], 0) = ([], y.2 F)) (lwp L e) := by
  unfold lwp
  exact Rp_i (fun _ => Rp_r rfl) (fun _ => x_wl (F := F) h7 h8 12 _ _ rfl)
end Xs

end
section
/-! the class's machine is that one -/
noncomputable def Fq (s t : gS) : Prop := (gn t = gn s ∧ (∀ a, gK t a = gK s a) ∧ ∀ a k, gR t a k = gR s a k) ∧ ∀ a k, a ≠ 5 → ¬ (a = 3 ∧ k = 2) → gI t a k = gI s a k
/-- the stack's numbers, the last first -/
noncomputable def Sk (s : gS) : List Int → Prop
  | [] => True
  | v :: st => gI s 5 st.length = v ∧ Sk s st
noncomputable def Qs (s : gS) (st : List Int) : Prop := (gR s 3 0 = 4 ∧ gR s 3 1 = 5) ∧ Sk s st ∧ gI s 3 2 = (st.length : Int) ∧ st.length ≤ 32
section Tq
variable {s t u : gS} {st : List Int} {v : Int} {F : Nat → Int}
theorem Fq_r : Fq s s := ⟨⟨rfl, fun _ => rfl, fun _ _ => rfl⟩, fun _ _ _ _ => rfl⟩
theorem Fq_t (h : Fq s t) (h2 : Fq t u) : Fq s u := ⟨⟨h2.1.1.trans h.1.1, fun a_l => (h2.1.2.1 a_l).trans (h.1.2.1 a_l), fun a_l k_l => (h2.1.2.2 a_l k_l).trans (h.1.2.2 a_l k_l)⟩, fun a_l k_l c1_l c2_l => (h2.2 a_l k_l c1_l c2_l).trans (h.2 a_l k_l c1_l c2_l)⟩
theorem Sk_w (h : Sk s st) (hs : ∀ j, j < st.length → gI t 5 j = gI s 5 j) : Sk t st := by
  induction st with
  | nil => trivial
  | cons w_l st ih_l => exact ⟨(hs st.length (by simp only [List.length_cons]; omega)).trans h.1, ih_l h.2 (fun j hj => hs j (by simp only [List.length_cons]; omega))⟩
theorem q_push (h : Qs s st) : gQ (f_40 3 v s) (fun r => Fq s r.2.2.2 ∧ Qs r.2.2.2 (pu v st)) := by
  obtain ⟨⟨h1, h2⟩, h3, h4, h5⟩ := h
  unfold f_40
  dsimp only
  by_cases c : gI s 3 2 < 32
  · rw [if_pos c, h2, h4, Int.toNat_natCast]
    have e1_l : gI (gw s 5 st.length v) 3 2 = (st.length : Int) := (rd_a rfl (by decide)).trans h4
    rw [e1_l, g32_eq (v := (st.length : Int) + 1) (by omega) (by omega), pu_p (by omega)]
    have i5_l : ∀ j_l, gI (gw (gw s 5 st.length v) 3 2 ((st.length : Int) + 1)) 5 j_l = if j_l = st.length then v else gI s 5 j_l := fun j_l => by
      refine (rd_a rfl (by decide)).trans ?_
      show (if 5 = 5 ∧ j_l = st.length then v else gI s 5 j_l) = _
      by_cases d : j_l = st.length
      · rw [if_pos ⟨rfl, d⟩, if_pos d]
      · rw [if_neg (fun z_l => d z_l.2), if_neg d]
    refine gQ_chk (gQ_ret ⟨⟨⟨rfl, fun _ => rfl, fun _ _ => rfl⟩, fun a_l k_l c1_l c2_l => ?_⟩, ⟨h1, h2⟩, ⟨?_, Sk_w h3 (fun j_l hj => ?_)⟩, ?_, ?_⟩)
    · show (if a_l = 3 ∧ k_l = 2 then _ else if a_l = 5 ∧ k_l = st.length then _ else gI s a_l k_l) = _
      rw [if_neg c2_l, if_neg (fun z_l => c1_l z_l.1)]
    · dsimp only
      rw [i5_l, if_pos rfl]
    · dsimp only
      rw [i5_l, if_neg (by omega)]
    · refine (rd_same rfl).trans ?_
      simp only [List.length_cons]
      omega
    · simp only [List.length_cons]
      omega
  · rw [if_neg c]
    have e_l : pu v st = st := if_neg (by omega)
    rw [e_l]
    exact gQ_ret ⟨Fq_r, ⟨h1, h2⟩, h3, h4, h5⟩
theorem q_pop (h : Qs s st) : gQ (f_41 3 s) (fun r => Fq s r.2.2.2 ∧ r.2.1 = (po st).1 ∧ Qs r.2.2.2 (po st).2) := by
  obtain ⟨⟨h1, h2⟩, h3, h4, h5⟩ := h
  unfold f_41
  dsimp only
  cases st with
  | nil =>
    rw [if_pos (by rw [h4]; decide)]
    exact gQ_ret ⟨Fq_r, rfl, ⟨h1, h2⟩, h3, h4, h5⟩
  | cons w_l st =>
    simp only [List.length_cons] at h4 h5
    rw [if_neg (by omega), h4, g32_eq (v := ((st.length + 1 : Nat) : Int) - 1) (by omega) (by omega), show ((st.length + 1 : Nat) : Int) - 1 = (st.length : Int) by omega]
    have e1_l : gI (gw s 3 2 (st.length : Int)) 3 2 = (st.length : Int) := rd_same rfl
    have r1_l : gR (gw s 3 2 (st.length : Int)) 3 1 = 5 := h2
    have e5_l : ∀ j_l, gI (gw s 3 2 (st.length : Int)) 5 j_l = gI s 5 j_l := fun j_l => rd_a rfl (by decide)
    rw [e1_l, r1_l, Int.toNat_natCast]
    refine gQ_chk (gQ_ret ⟨⟨⟨rfl, fun _ => rfl, fun _ _ => rfl⟩, fun a_l k_l c1_l c2_l => ?_⟩, (e5_l _).trans h3.1, ⟨h1, h2⟩, Sk_w h3.2 (fun j_l _ => e5_l j_l), e1_l, ?_⟩)
    · show (if a_l = 3 ∧ k_l = 2 then _ else gI s a_l k_l) = _
      rw [if_neg c2_l]
    · show st.length ≤ 32
      omega
theorem qx_38 {c : Int} (h : Qs s st) : gQ (f_38 3 c s) (fun r => Fq s r.2.2.2 ∧ Qs r.2.2.2 (xop c st)) := by
  have pw : ∀ (x_l : Int) (z_l : gS) (w_l : List Int), Fq s z_l → Qs z_l w_l → gQ ((f_40 3 x_l z_l).bind (gv0 (fun s3_l => some ((0, 0, 0, s3_l) : gO)))) (fun r => Fq s r.2.2.2 ∧ Qs r.2.2.2 (pu x_l w_l)) := fun x_l z_l w_l hf hq => by
    refine gQ_v0 (A := fun t_l => Fq z_l t_l ∧ Qs t_l (pu x_l w_l)) (q_push hq) (fun t_l ht => gQ_ret ⟨Fq_t hf ht.1, ht.2⟩)
  unfold f_38 xop fb_38_114 fb_38_81 fb_38_98
  refine gQ_w1 (A := fun v_l t_l => Fq s t_l ∧ v_l = (po st).1 ∧ Qs t_l (po st).2) (q_pop h) (fun v2 s1_l h1 => ?_)
  obtain ⟨f1_l, e2_l, q1_l⟩ := h1
  rw [e2_l]
  by_cases c3 : c = 2003
  · rw [if_pos c3, if_pos c3]
    exact pw _ _ _ f1_l q1_l
  rw [if_neg c3, if_neg c3]
  refine gQ_w1 (A := fun v_l t_l => Fq s1_l t_l ∧ v_l = (po (po st).2).1 ∧ Qs t_l (po (po st).2).2) (q_pop q1_l) (fun v6 s5 h5 => ?_)
  obtain ⟨f5_l, e6_l, q5_l⟩ := h5
  rw [e6_l]
  have f15 := Fq_t f1_l f5_l
  by_cases k0 : c < 2000
  · rw [if_pos k0, if_pos k0]
    exact pw _ _ _ f15 q5_l
  rw [if_neg k0, if_neg k0]
  by_cases k1 : c < 2001
  · rw [if_pos k1, if_pos k1]
    exact pw _ _ _ f15 q5_l
  rw [if_neg k1, if_neg k1]
  by_cases k2 : c < 2002
  · rw [if_pos k2, if_pos k2]
    by_cases d : (po (po st).2).1 < (po st).1
    · rw [if_pos d, if_pos d]
      exact pw _ _ _ f15 q5_l
    · rw [if_neg d, if_neg d]
      exact pw _ _ _ f15 q5_l
  rw [if_neg k2, if_neg k2]
  by_cases k3 : c < 2003
  · rw [if_pos k3, if_pos k3]
    by_cases d : (po st).1 < (po (po st).2).1
    · rw [if_pos d, if_pos d]
      exact pw _ _ _ f15 q5_l
    · rw [if_neg d, if_neg d]
      exact pw _ _ _ f15 q5_l
  rw [if_neg k3, if_neg k3]
  by_cases k4 : c < 2004
  · rw [if_pos k4, if_pos k4]
    exact pw _ _ _ f15 q5_l
  rw [if_neg k4, if_neg k4]
  by_cases k5 : c < 2005
  · rw [if_pos k5, if_pos k5]
    exact pw _ _ _ f15 q5_l
  · rw [if_neg k5, if_neg k5]
    exact pw _ _ _ f15 q5_l
theorem qx_39 {i : Int} (h4 : gR s 3 0 = 4) (hF : ∀ j, j < 9 → gI s 4 j = F j) : gQ (f_39 3 i s) (fun r => r.2.2.2 = s ∧ r.2.1 = (if i < 0 then 0 else if i < 9 then F i.toNat else 0)) := by
  unfold f_39 fb_39_19
  rw [h4]
  by_cases c1 : i < 0
  · rw [if_pos c1, if_pos c1]
    exact gQ_ret ⟨rfl, rfl⟩
  rw [if_neg c1, if_neg c1]
  by_cases c2 : i < 9
  · rw [if_pos c2, if_pos c2]
    exact gQ_chk (gQ_ret ⟨rfl, hF i.toNat (by omega)⟩)
  · rw [if_neg c2, if_neg c2]
    exact gQ_ret ⟨rfl, rfl⟩
/-- the machine over a law's codes -/
theorem qx_37 {A B : Nat} {cs : List Int} (hA : A ≠ 0) (hB : gR s A 1 = B) (hB0 : B ≠ 0 ∧ B ≠ 5 ∧ B ≠ 3) (hg : gR s 3 0 = 4 ∧ gR s 3 1 = 5) (hl : glen s B = (cs.length : Int)) (hn : cs.length ≤ 400) (hc : ∀ j, j < cs.length → cs[j]? = some (gI s B j)) (hF : ∀ j, j < 9 → gI s 4 j = F j) : gQ (f_37 3 A s) (fun r => Fq s r.2.2.2 ∧ r.2.1 = (xrn F cs ([], 0)).2) := by
  unfold f_37
  dsimp only
  rw [if_neg hA]
  have f1_l : Fq s (gw s 3 2 0) := ⟨⟨rfl, fun _ => rfl, fun _ _ => rfl⟩, fun a_l k_l _ c2_l => by
    show (if a_l = 3 ∧ k_l = 2 then _ else gI s a_l k_l) = _
    rw [if_neg c2_l]⟩
  refine gQ_loop (fun y_l => ∃ (n_l : Nat) (st_l : List Int) (a_l : Int) (w_l : gS), y_l = (3, A, a_l, (n_l : Int), w_l) ∧ n_l ≤ cs.length ∧ Fq s w_l ∧ Qs w_l st_l ∧ (st_l, a_l) = xrn F (cs.take n_l) ([], 0)) (fun y_l hy => ?_) ⟨0, [], 0, gw s 3 2 0, rfl, Nat.zero_le _, f1_l, ⟨hg, trivial, rd_same rfl, Nat.zero_le _⟩, rfl⟩
  obtain ⟨n_l, st_l, a_l, w_l, rfl, hn2, fw, qw, hx⟩ := hy
  show gQ (sb_37_15 3 A a_l (n_l : Int) w_l) _
  unfold sb_37_15
  dsimp only
  have bw : gR w_l A 1 = B := (fw.1.2.2 A 1).trans hB
  have lw : glen w_l B = (cs.length : Int) := by
    unfold glen at hl ⊢
    rw [fw.1.2.1 B]
    exact hl
  rw [if_neg hA, bw, if_neg hB0.1, lw]
  by_cases c : (n_l : Int) < (cs.length : Int)
  · rw [if_pos c, if_neg hA, if_neg hB0.1]
    refine gQ_chk ?_
    have hnl : n_l < cs.length := by omega
    have ec : gI w_l B (n_l : Int).toNat = gI s B n_l := by
      rw [Int.toNat_natCast]
      exact fw.2 B n_l hB0.2.1 (fun z_l => hB0.2.2 z_l.1)
    rw [ec]
    have hcn := hc n_l hnl
    generalize gI s B n_l = v2 at *
    have tk : cs.take (n_l + 1) = cs.take n_l ++ [v2] := by
      rw [List.take_add_one, hcn]
      rfl
    have hx2 : xrn F (cs.take (n_l + 1)) ([], 0) = xst F v2 (st_l, a_l) := by
      rw [tk, xrn_a, ← hx]
      rfl
    have eg : g32 ((n_l : Int) + 1) = ((n_l + 1 : Nat) : Int) := (g32_eq (v := (n_l : Int) + 1) (by omega) (by omega)).trans (by omega)
    rw [eg]
    have gw4 : gR w_l 3 0 = 4 := (fw.1.2.2 3 0).trans hg.1
    have hFw : ∀ j, j < 9 → gI w_l 4 j = F j := fun j hj => (fw.2 4 j (by decide) (by omega)).trans (hF j hj)
    unfold xst at hx2
    by_cases k4 : v2 < 4000
    · rw [if_pos k4]
      rw [if_pos k4] at hx2
      by_cases k3 : v2 < 3000
      · rw [if_pos k3]
        rw [if_pos k3] at hx2
        by_cases k2 : v2 < 2000
        · rw [if_pos k2]
          rw [if_pos k2] at hx2
          by_cases k1 : v2 < 1000
          · rw [if_pos k1]
            rw [if_pos k1] at hx2
            refine gQ_v0 (A := fun t_l => Fq w_l t_l ∧ Qs t_l (pu v2 st_l)) (q_push qw) (fun t_l ht => ?_)
            exact gQ_ret ⟨n_l + 1, _, a_l, t_l, rfl, hnl, Fq_t fw ht.1, ht.2, hx2.symm⟩
          · rw [if_neg k1]
            rw [if_neg k1] at hx2
            refine gQ_w1 (A := fun x_l t_l => t_l = w_l ∧ x_l = (if g32 (v2 - 1000) < 0 then 0 else if g32 (v2 - 1000) < 9 then F (g32 (v2 - 1000)).toNat else 0)) (qx_39 gw4 hFw) (fun x_l t_l ht => ?_)
            obtain ⟨t1_l, t2_l⟩ := ht
            rw [t1_l, t2_l]
            refine gQ_v0 (A := fun t_l => Fq w_l t_l ∧ Qs t_l (pu (if g32 (v2 - 1000) < 0 then 0 else if g32 (v2 - 1000) < 9 then F (g32 (v2 - 1000)).toNat else 0) st_l)) (q_push qw) (fun t_l ht => ?_)
            exact gQ_ret ⟨n_l + 1, _, a_l, t_l, rfl, hnl, Fq_t fw ht.1, ht.2, hx2.symm⟩
        · rw [if_neg k2]
          rw [if_neg k2] at hx2
          refine gQ_v0 (A := fun t_l => Fq w_l t_l ∧ Qs t_l (xop v2 st_l)) (qx_38 qw) (fun t_l ht => ?_)
          exact gQ_ret ⟨n_l + 1, _, a_l, t_l, rfl, hnl, Fq_t fw ht.1, ht.2, hx2.symm⟩
      · rw [if_neg k3]
        rw [if_neg k3] at hx2
        refine gQ_w1 (A := fun x_l t_l => Fq w_l t_l ∧ x_l = (po st_l).1 ∧ Qs t_l (po st_l).2) (q_pop qw) (fun x_l t_l ht => ?_)
        obtain ⟨t1_l, t2_l, t3_l⟩ := ht
        rw [t2_l]
        exact gQ_ret ⟨n_l + 1, _, _, t_l, rfl, hnl, Fq_t fw t1_l, t3_l, hx2.symm⟩
    · rw [if_neg k4]
      rw [if_neg k4] at hx2
      refine gQ_w1 (A := fun x_l t_l => Fq w_l t_l ∧ x_l = (po st_l).1 ∧ Qs t_l (po st_l).2) (q_pop qw) (fun x_l t_l ht => ?_)
      obtain ⟨t1_l, t2_l, t3_l⟩ := ht
      rw [t2_l]
      exact gQ_ret ⟨n_l + 1, _, _, t_l, rfl, hnl, Fq_t fw t1_l, t3_l, hx2.symm⟩
  · rw [if_neg c]
    have en : n_l = cs.length := by omega
    refine gQ_map (gQ_ret ⟨fw, ?_⟩)
    dsimp only
    rw [en, List.take_length] at hx
    rw [← hx]
end Tq

end
section
/-! the law's value on both sides -/
noncomputable def Lrw (s : gS) (R : Nat) (y : LX) (k : Nat) : Prop := ∃ (L : Nat → Int) (e : Nat), (gI s R 1 = (k : Int) ∧ gI s R 2 = (e : Int) ∧ e ≤ 400) ∧ (∀ j, 0 ≤ L j ∧ L j ≤ 255) ∧ (∀ j, j < e → gI s R (340 + j) = L j) ∧ lwp L e = Sum.inr (y, k)
/-- the law that stands in the row R and the book B; what it says of facts -/
noncomputable def Tlw (s : gS) (R B : Nat) (T : (Nat → Int) → Int) : Prop := (T = (fun _ => -1) ∧ gI s R 1 = -1 ∧ gR s B 11 = 0) ∨ (∃ y k, T = y.2 ∧ Lrw s R y k ∧ (232 ≤ gR s B 11 ∧ 232 ≤ gR s (gR s B 11) 1) ∧ Lob s (gR s B 11) y.1 k ∧ y.1.length ≤ 400)
/-- the facts of a man -/
noncomputable def fF (V : Nat → Int) (i : Nat) (j : Nat) : Int := if j = 0 then (i : Int) else if j = 1 then V (40 + 6 * i) else if j = 2 then V (41 + 6 * i) else if j = 3 then V (43 + 6 * i) else if j = 4 then V (44 + 6 * i) else if j = 5 then gdiv (V 9) 10 else if j = 6 then V 7 else if j = 7 then (if 0 < V (44 + 6 * i) then 1 else 0) else (if V (43 + 6 * i) < V 3 then 0 else 1)
noncomputable def Ft (s t : gS) : Prop := (gn t = gn s ∧ (∀ a, gK t a = gK s a) ∧ ∀ a k, gR t a k = gR s a k) ∧ ∀ a k, a ≠ 4 → a ≠ 5 → ¬ (a = 3 ∧ k = 2) → gI t a k = gI s a k
section Vl
variable {s t u : gS} {p : gP} {T : (Nat → Int) → Int} {C i : Nat}
theorem fF_b {V : Nat → Int} : B01 (fF V i 7) ∧ B01 (fF V i 8) := by
  constructor
  · show B01 (if 0 < V (44 + 6 * i) then 1 else 0)
    split
    · exact Or.inr rfl
    · exact Or.inl rfl
  · show B01 (if V (43 + 6 * i) < V 3 then 0 else 1)
    split
    · exact Or.inl rfl
    · exact Or.inr rfl
theorem Lob_c {A k : Nat} {cs : List Int} (h : Lob s A cs k) : ∀ j, j < cs.length → cs[j]? = some (gI s (gR s A 1) j) := fun j hj => by
  have h1 := h.2.1
  have h2 : ((List.range cs.length).map (gI s (gR s A 1)))[j]? = some (gI s (gR s A 1) j) := by
    rw [List.getElem?_map, List.getElem?_range hj]
    rfl
  rw [h1] at h2
  exact h2
theorem q_35 {m : Nat} {n : Int} (hg : gR s 3 0 = 4) (hm : m ≠ 4) : gQ (f_35 3 (i : Int) m n s) (fun r => Ft s r.2.2.2 ∧ (gI r.2.2.2 4 0 = (i : Int) ∧ gI r.2.2.2 4 1 = gI s m 0 ∧ gI r.2.2.2 4 2 = gI s m 1 ∧ gI r.2.2.2 4 3 = gI s m 3 ∧ gI r.2.2.2 4 4 = gI s m 4) ∧ gI r.2.2.2 4 7 = (if 0 < gI s m 4 then 1 else 0) ∧ gI r.2.2.2 4 8 = (if gI s m 3 < n then 0 else 1)) := by
  unfold f_35
  dsimp only
  simp only [gR_w, hg]
  have e1_l : ∀ (k_l j_l : Nat) (v_l : Int) (z_l : gS), gI (gw z_l 4 k_l v_l) m j_l = gI z_l m j_l := fun k_l j_l v_l z_l => rd_a rfl hm
  simp only [e1_l]
  have fin_l : ∀ w0_l : Int, (w0_l = if 0 < gI s m 4 then 1 else 0) → gQ (fb_35_65 3 m n w0_l 7 4 (gw (gw (gw (gw (gw s 4 0 (i : Int)) 4 1 (gI s m 0)) 4 2 (gI s m 1)) 4 3 (gI s m 3)) 4 4 (gI s m 4))) (fun r => Ft s r.2.2.2 ∧ (gI r.2.2.2 4 0 = (i : Int) ∧ gI r.2.2.2 4 1 = gI s m 0 ∧ gI r.2.2.2 4 2 = gI s m 1 ∧ gI r.2.2.2 4 3 = gI s m 3 ∧ gI r.2.2.2 4 4 = gI s m 4) ∧ gI r.2.2.2 4 7 = (if 0 < gI s m 4 then 1 else 0) ∧ gI r.2.2.2 4 8 = (if gI s m 3 < n then 0 else 1)) := fun w0_l hw => by
    unfold fb_35_65
    dsimp only
    simp only [gR_w, hg, e1_l]
    have done_l : ∀ b_l : Int, (b_l = if gI s m 3 < n then 0 else 1) → Ft s (gw (gw (gw (gw (gw (gw (gw s 4 0 (i : Int)) 4 1 (gI s m 0)) 4 2 (gI s m 1)) 4 3 (gI s m 3)) 4 4 (gI s m 4)) 4 (7 : Int).toNat w0_l) 4 8 b_l) ∧ (gI (gw (gw (gw (gw (gw (gw (gw s 4 0 (i : Int)) 4 1 (gI s m 0)) 4 2 (gI s m 1)) 4 3 (gI s m 3)) 4 4 (gI s m 4)) 4 (7 : Int).toNat w0_l) 4 8 b_l) 4 0 = (i : Int) ∧ gI (gw (gw (gw (gw (gw (gw (gw s 4 0 (i : Int)) 4 1 (gI s m 0)) 4 2 (gI s m 1)) 4 3 (gI s m 3)) 4 4 (gI s m 4)) 4 (7 : Int).toNat w0_l) 4 8 b_l) 4 1 = gI s m 0 ∧ gI (gw (gw (gw (gw (gw (gw (gw s 4 0 (i : Int)) 4 1 (gI s m 0)) 4 2 (gI s m 1)) 4 3 (gI s m 3)) 4 4 (gI s m 4)) 4 (7 : Int).toNat w0_l) 4 8 b_l) 4 2 = gI s m 1 ∧ gI (gw (gw (gw (gw (gw (gw (gw s 4 0 (i : Int)) 4 1 (gI s m 0)) 4 2 (gI s m 1)) 4 3 (gI s m 3)) 4 4 (gI s m 4)) 4 (7 : Int).toNat w0_l) 4 8 b_l) 4 3 = gI s m 3 ∧ gI (gw (gw (gw (gw (gw (gw (gw s 4 0 (i : Int)) 4 1 (gI s m 0)) 4 2 (gI s m 1)) 4 3 (gI s m 3)) 4 4 (gI s m 4)) 4 (7 : Int).toNat w0_l) 4 8 b_l) 4 4 = gI s m 4) ∧ gI (gw (gw (gw (gw (gw (gw (gw s 4 0 (i : Int)) 4 1 (gI s m 0)) 4 2 (gI s m 1)) 4 3 (gI s m 3)) 4 4 (gI s m 4)) 4 (7 : Int).toNat w0_l) 4 8 b_l) 4 7 = (if 0 < gI s m 4 then 1 else 0) ∧ gI (gw (gw (gw (gw (gw (gw (gw s 4 0 (i : Int)) 4 1 (gI s m 0)) 4 2 (gI s m 1)) 4 3 (gI s m 3)) 4 4 (gI s m 4)) 4 (7 : Int).toNat w0_l) 4 8 b_l) 4 8 = (if gI s m 3 < n then 0 else 1) := fun b_l hb_l => by
      refine ⟨⟨⟨rfl, fun _ => rfl, fun _ _ => rfl⟩, fun a_l k_l c1_l c2_l c3_l => ?_⟩, ⟨rfl, rfl, rfl, rfl, rfl⟩, hw, hb_l⟩
      simp only [rdw]
      rw [if_neg (fun z_l => c1_l z_l.1), if_neg (fun z_l => c1_l z_l.1), if_neg (fun z_l => c1_l z_l.1), if_neg (fun z_l => c1_l z_l.1), if_neg (fun z_l => c1_l z_l.1), if_neg (fun z_l => c1_l z_l.1), if_neg (fun z_l => c1_l z_l.1)]
    refine gQ_chk ?_
    by_cases c : gI s m 3 < n
    · rw [if_pos c]
      exact gQ_ret (done_l 0 (by rw [if_pos c]))
    · rw [if_neg c]
      exact gQ_ret (done_l 1 (by rw [if_neg c]))
  by_cases c : 0 < gI s m 4
  · rw [if_pos c]
    exact fin_l 1 (by rw [if_pos c])
  · rw [if_neg c]
    exact fin_l 0 (by rw [if_neg c])
theorem Ft_t (h : Ft s t) (h2 : Ft t u) : Ft s u := ⟨⟨h2.1.1.trans h.1.1, fun a_l => (h2.1.2.1 a_l).trans (h.1.2.1 a_l), fun a_l k_l => (h2.1.2.2 a_l k_l).trans (h.1.2.2 a_l k_l)⟩, fun a_l k_l c1_l c2_l c3_l => (h2.2 a_l k_l c1_l c2_l c3_l).trans (h.2 a_l k_l c1_l c2_l c3_l)⟩
theorem Ft_q (h : Fq s t) : Ft s t := ⟨h.1, fun a_l k_l _ c2_l c3_l => h.2 a_l k_l c2_l c3_l⟩
theorem gL4_k {n : Nat} (hn : n ≤ 400) : gL4 (100 + 8 * n) = n := by
  have h_l : ∀ n, n < 401 → gL4 (100 + 8 * n) = n := by decide +kernel
  exact h_l n (by omega)
/-- the class's value of the law -/
theorem q_34 (hT : Tlw s 218 9 T) (hg : gR s 3 0 = 4 ∧ gR s 3 1 = 5) (hm : gR s (gR s C 0) i = C + 6 + i) (hC : 15 ≤ C ∧ C ≤ 60) (hi : i < 6) (hv : cv s 9 C (40 + 6 * i) = gI s (C + 6 + i) 0 ∧ cv s 9 C (41 + 6 * i) = gI s (C + 6 + i) 1 ∧ cv s 9 C (43 + 6 * i) = gI s (C + 6 + i) 3 ∧ cv s 9 C (44 + 6 * i) = gI s (C + 6 + i) 4) (h7 : cv s 9 C 9 = gI s C 7 ∧ cv s 9 C 7 = gI s C 8 ∧ cv s 9 C 3 = gI s 9 5) : gQ (f_34 3 (i : Int) 9 C s) (fun r => Ft s r.2.2.2 ∧ r.2.1 = T (fF (cv s 9 C) i)) := by
  unfold f_34
  rw [Int.toNat_natCast, hm]
  refine gQ_chk ?_
  refine gQ_v0 (A := fun z_l => Ft s z_l ∧ (gI z_l 4 0 = (i : Int) ∧ gI z_l 4 1 = gI s (C + 6 + i) 0 ∧ gI z_l 4 2 = gI s (C + 6 + i) 1 ∧ gI z_l 4 3 = gI s (C + 6 + i) 3 ∧ gI z_l 4 4 = gI s (C + 6 + i) 4) ∧ gI z_l 4 7 = (if 0 < gI s (C + 6 + i) 4 then 1 else 0) ∧ gI z_l 4 8 = (if gI s (C + 6 + i) 3 < gI s 9 5 then 0 else 1)) (q_35 hg.1 (by omega)) (fun s1_l h1 => ?_)
  obtain ⟨f1_l, ⟨a0_l, a1_l, a2, a3, a4⟩, a7, a8⟩ := h1
  have g1 : gR s1_l 3 0 = 4 := (f1_l.1.2.2 3 0).trans hg.1
  have b7 : gI s1_l C 7 = gI s C 7 := f1_l.2 C 7 (by omega) (by omega) (by omega)
  have b8 : gI s1_l C 8 = gI s C 8 := f1_l.2 C 8 (by omega) (by omega) (by omega)
  rw [b7, b8]
  refine gQ_v0 (A := fun z_l => z_l = gw (gw s1_l 4 5 (gdiv (gI s C 7) 10)) 4 6 (gI s C 8)) ?_ (fun s3_l h3 => ?_)
  · unfold f_36
    dsimp only
    simp only [gR_w, g1]
    exact gQ_ret rfl
  have f3_l : Ft s1_l s3_l := by
    rw [h3]
    refine ⟨⟨rfl, fun _ => rfl, fun _ _ => rfl⟩, fun a_l k_l c1_l c2_l c3_l => ?_⟩
    simp only [rdw]
    rw [if_neg (fun z_l => c1_l z_l.1), if_neg (fun z_l => c1_l z_l.1)]
  have f13 := Ft_t f1_l f3_l
  have hF : ∀ j_l, j_l < 9 → gI s3_l 4 j_l = fF (cv s 9 C) i j_l := fun j_l hj => by
    rw [h3]
    simp only [rdw]
    unfold fF
    rw [hv.1, hv.2.1, hv.2.2.1, hv.2.2.2, h7.1, h7.2.1, h7.2.2]
    have hj9 : j_l = 0 ∨ j_l = 1 ∨ j_l = 2 ∨ j_l = 3 ∨ j_l = 4 ∨ j_l = 5 ∨ j_l = 6 ∨ j_l = 7 ∨ j_l = 8 := by omega
    rcases hj9 with rfl | rfl | rfl | rfl | rfl | rfl | rfl | rfl | rfl
    · exact a0_l
    · exact a1_l
    · exact a2
    · exact a3
    · exact a4
    · rfl
    · rfl
    · exact a7
    · exact a8
  clear h3
  have rr : gR s3_l 9 11 = gR s 9 11 := f13.1.2.2 9 11
  rw [rr]
  refine gQ_w1 (A := fun v_l z_l => Ft s3_l z_l ∧ v_l = T (fF (cv s 9 C) i)) ?_ (fun v_l z_l hz => gQ_ret ⟨Ft_t f13 hz.1, hz.2⟩)
  rcases hT with ⟨t1_l, t2_l, t3_l⟩ | ⟨y_l, k_l, t1_l, t2_l, ⟨t3_l, t4_l⟩, t5_l, t6⟩
  · rw [t3_l, t1_l]
    unfold f_37
    rw [if_pos rfl]
    exact gQ_ret ⟨⟨⟨rfl, fun _ => rfl, fun _ _ => rfl⟩, fun _ _ _ _ _ => rfl⟩, rfl⟩
  · obtain ⟨L_l, e_l, -, -, -, hw⟩ := t2_l
    have hx := x_wp (L := L_l) (e := e_l) (F := fF (cv s 9 C) i) fF_b.1 fF_b.2 y_l k_l hw
    have rB_l : gR s3_l (gR s 9 11) 1 = gR s (gR s 9 11) 1 := f13.1.2.2 _ _
    have hc_l := Lob_c t5_l
    refine fun r hr => ?_
    obtain ⟨x1_l, x2_l⟩ := qx_37 (s := s3_l) (A := gR s 9 11) (B := gR s (gR s 9 11) 1) (cs := y_l.1) (F := fF (cv s 9 C) i) (by omega) rB_l ⟨by omega, by omega, by omega⟩ ⟨(f13.1.2.2 3 0).trans hg.1, (f13.1.2.2 3 1).trans hg.2⟩ (by unfold glen; rw [f13.1.2.1, t5_l.2.2.1, gL4_k t6]) t6 (fun j_l hj => by rw [hc_l j_l hj, f13.2 _ j_l (by omega) (by omega) (by omega)]) hF r hr
    refine ⟨Ft_q x1_l, ?_⟩
    rw [x2_l, hx, t1_l]
end Vl

end
section
/-! the model's value of the law -/
noncomputable def gFa (a1 a2 a3 a4 a5 a6 a7 n : Int) (j : Nat) : Int := if j = 0 then a1 else if j = 1 then a2 else if j = 2 then a3 else if j = 3 then a4 else if j = 4 then a5 else if j = 5 then gdiv a6 10 else if j = 6 then a7 else if j = 7 then (if 0 < a5 then 1 else 0) else (if a4 < n then 0 else 1)
noncomputable def Fz (s t : gS) : Prop := (gn t = gn s ∧ (∀ a, gK t a = gK s a) ∧ ∀ a k, gR t a k = gR s a k) ∧ ∀ a k, a ≠ 223 → ¬ (a = 217 ∧ (9 ≤ k ∧ k ≤ 17 ∧ k ≠ 12 ∧ k ≠ 14)) → gI t a k = gI s a k
section Vm
variable {s t u : gS} {T : (Nat → Int) → Int} {i : Nat} {B : Nat}
theorem Fz_r : Fz s s := ⟨⟨rfl, fun _ => rfl, fun _ _ => rfl⟩, fun _ _ _ _ => rfl⟩
theorem j_100 {F : Nat → Int} {w0 : Int} {y : LX} {k : Nat} (hL : Lrw s 218 y k) (hr : gR s 217 1 = 218 ∧ gR s 217 7 = 222 ∧ gR s 217 14 = 223) (hF : ∀ j, j < 7 → gI s 223 j = F j) (h15 : gI s 217 15 = F 7) (h16 : w0 = F 8) : gQ (fb_197_100 217 w0 217 s) (fun r => Fz s r.2.2.2 ∧ r.2.1 = y.2 F) := by
  obtain ⟨L_l, e_l, ⟨l1, l2, l3⟩, l4, l5, l6⟩ := hL
  unfold fb_197_100
  dsimp only
  refine gQ_bool ?_
  simp only [gR_w, hr.1]
  have e2_l : gI (gw (gw (gw (gw s 217 16 w0) 217 17 0) 217 12 (-1)) 217 9 340) 218 2 = (e_l : Int) := by
    simp only [rdw]
    exact l2
  rw [e2_l]
  have e12_l : gI (gw (gw s 217 16 w0) 217 17 0) 217 12 = gI s 217 12 := by
    simp only [rdw]
    rfl
  rw [e12_l]
  have hs : ∃ z_l, z_l = gw (gw (gw (gw (gw (gw (gw s 217 16 w0) 217 17 0) 217 12 (-1)) 217 9 340) 217 10 (e_l : Int)) 217 11 0) 217 13 0 := ⟨_, rfl⟩
  obtain ⟨z_l, hz⟩ := hs
  rw [← hz]
  have zA : ∀ a_l k, a_l ≠ 217 → gI z_l a_l k = gI s a_l k := fun a_l k c_l => by
    rw [hz]
    simp only [rdw]
    rw [if_neg (fun q_l => c_l q_l.1), if_neg (fun q_l => c_l q_l.1), if_neg (fun q_l => c_l q_l.1), if_neg (fun q_l => c_l q_l.1), if_neg (fun q_l => c_l q_l.1), if_neg (fun q_l => c_l q_l.1), if_neg (fun q_l => c_l q_l.1)]
  have z7 : ∀ k, k ≠ 16 → k ≠ 17 → k ≠ 12 → k ≠ 9 → k ≠ 10 → k ≠ 11 → k ≠ 13 → gI z_l 217 k = gI s 217 k := fun k c1_l c2_l c3_l c4_l c5_l c6_l c7_l => by
    rw [hz]
    simp only [rdw]
    rw [if_neg (fun q_l => c7_l q_l.2), if_neg (fun q_l => c6_l q_l.2), if_neg (fun q_l => c5_l q_l.2), if_neg (fun q_l => c4_l q_l.2), if_neg (fun q_l => c3_l q_l.2), if_neg (fun q_l => c2_l q_l.2), if_neg (fun q_l => c1_l q_l.2)]
  have zR : ∀ a_l k, gR z_l a_l k = gR s a_l k := fun a_l k => by rw [hz]; rfl
  have zK : ∀ a_l, gK z_l a_l = gK s a_l := fun a_l => by rw [hz]; rfl
  have zN : gn z_l = gn s := by rw [hz]; rfl
  have z9 : gI z_l 217 9 = 340 := by rw [hz]; simp only [rdw]; rfl
  have z10 : gI z_l 217 10 = (e_l : Int) := by rw [hz]; simp only [rdw]; rfl
  have z11 : gI z_l 217 11 = ((0 : Nat) : Int) := by rw [hz]; simp only [rdw]; rfl
  have z12 : gI z_l 217 12 = -1 := by rw [hz]; simp only [rdw]; rfl
  have z13_l : gI z_l 217 13 = 0 := by rw [hz]; simp only [rdw]; rfl
  have z16 : gI z_l 217 16 = w0 := by rw [hz]; simp only [rdw]; rfl
  have z17 : gI z_l 217 17 = 0 := by rw [hz]; simp only [rdw]; rfl
  clear hz
  have hb_l := sk_b (L := L_l) (e := e_l) (a := 0) (Nat.zero_le e_l)
  have hM_l : Mp z_l L_l e_l := by
    refine ⟨⟨z10, l3⟩, ⟨(zR 217 1).trans hr.1, (zR 217 7).trans hr.2.1⟩, fun j hj => ?_⟩
    unfold f_168
    rw [if_neg (by omega), zR 217 1, hr.1, z9, g32_eq (v := 340 + (j : Int)) (by omega) (by omega), show (340 + (j : Int)).toNat = 340 + j by omega]
    unfold gchk
    rw [if_pos (by omega), zA 218 _ (by decide), l5 j hj]
  have hk : Mk z_l L_l e_l (sk L_l e_l 0) F := ⟨⟨⟨hM_l, z12, 0, z11, Nat.zero_le e_l, rfl⟩, hb_l.2, l3, l4⟩, (zR 217 14).trans hr.2.2, fun j hj => (zA 223 j (by decide)).trans (hF j hj), (z7 15 (by decide) (by decide) (by decide) (by decide) (by decide) (by decide) (by decide)).trans h15, z16.trans h16⟩
  refine gQ_w1 (A := fun _ t_l => Fl7 z_l t_l ∧ gI t_l 217 17 = y.2 F) (fun r hr2 => ?_) (fun v_l t_l ht => ?_)
  · obtain ⟨x1_l, x2_l⟩ := j184 hk z13_l r hr2
    refine ⟨x1_l, ?_⟩
    rcases x2_l with ⟨q_l, q1_l, -⟩ | ⟨y', k', q1_l, -, -, q4_l⟩
    · rw [l6] at q1_l
      cases q1_l
    · rw [l6] at q1_l
      cases q1_l
      exact q4_l z17
  · obtain ⟨f1_l, v1_l⟩ := ht
    have i12_l : ∀ a_l k, ¬ (a_l = 217 ∧ k = 12) → gI (gw t_l 217 12 (gI s 217 12)) a_l k = gI t_l a_l k := fun a_l k c_l => by
      show (if a_l = 217 ∧ k = 12 then _ else gI t_l a_l k) = _
      rw [if_neg c_l]
    refine gQ_ret ⟨⟨⟨f1_l.1.1.trans zN, fun a_l => (f1_l.1.2.1 a_l).trans (zK a_l), fun a_l k => (f1_l.1.2.2 a_l k).trans (zR a_l k)⟩, fun a_l k c1_l c2_l => ?_⟩, ?_⟩
    · dsimp only
      by_cases c_l : a_l = 217 ∧ k = 12
      · rw [c_l.1, c_l.2]
        exact rd_same rfl
      · rw [i12_l a_l k c_l, f1_l.2 a_l k (by omega)]
        by_cases c3_l : a_l = 217
        · rw [c3_l]
          exact z7 k (by omega) (by omega) (by omega) (by omega) (by omega) (by omega) (by omega)
        · exact zA a_l k c3_l
    · dsimp only
      rw [i12_l 217 17 (by omega)]
      exact v1_l
theorem j_197 {a1 a2 a3 a4 a5 a6 a7 : Int} (hT : Tlw s 218 B T) (hr : gR s 217 1 = 218 ∧ gR s 217 7 = 222 ∧ gR s 217 14 = 223) : gQ (f_197 217 a1 a2 a3 a4 a5 a6 a7 s) (fun r => Fz s r.2.2.2 ∧ r.2.1 = T (gFa a1 a2 a3 a4 a5 a6 a7 (gI s 218 3))) := by
  unfold f_197
  dsimp only
  simp only [gR_w, hr.1, hr.2.2]
  rcases hT with ⟨t1_l, t2_l, -⟩ | ⟨y_l, k_l, t1_l, t2_l, -⟩
  · rw [if_pos t2_l, t1_l]
    exact gQ_ret ⟨Fz_r, rfl⟩
  · have h1 : gI s 218 1 ≠ -1 := by
      obtain ⟨L_l, e_l, ⟨l1, -⟩, -⟩ := t2_l
      omega
    rw [if_neg h1, t1_l]
    have hs : ∃ z_l, z_l = gw (gw (gw (gw (gw (gw (gw s 223 0 a1) 223 1 a2) 223 2 a3) 223 3 a4) 223 4 a5) 223 5 (gdiv a6 10)) 223 6 a7 := ⟨_, rfl⟩
    obtain ⟨z_l, hz⟩ := hs
    rw [← hz]
    have zA : ∀ a_l k_l, a_l ≠ 223 → gI z_l a_l k_l = gI s a_l k_l := fun a_l k_l c_l => by
      rw [hz]
      simp only [rdw]
      rw [if_neg (fun q_l => c_l q_l.1), if_neg (fun q_l => c_l q_l.1), if_neg (fun q_l => c_l q_l.1), if_neg (fun q_l => c_l q_l.1), if_neg (fun q_l => c_l q_l.1), if_neg (fun q_l => c_l q_l.1), if_neg (fun q_l => c_l q_l.1)]
    have zR : ∀ a_l k_l, gR z_l a_l k_l = gR s a_l k_l := fun a_l k_l => by rw [hz]; rfl
    have zK : ∀ a_l, gK z_l a_l = gK s a_l := fun a_l => by rw [hz]; rfl
    have zN : gn z_l = gn s := by rw [hz]; rfl
    have zF : ∀ j_l, j_l < 7 → gI z_l 223 j_l = gFa a1 a2 a3 a4 a5 a6 a7 (gI s 218 3) j_l := fun j_l hj => by
      rw [hz]
      simp only [rdw]
      have h7 : j_l = 0 ∨ j_l = 1 ∨ j_l = 2 ∨ j_l = 3 ∨ j_l = 4 ∨ j_l = 5 ∨ j_l = 6 := by omega
      rcases h7 with rfl | rfl | rfl | rfl | rfl | rfl | rfl <;> rfl
    clear hz
    have key_l : ∀ w0_l : Int, (w0_l = if 0 < a5 then 1 else 0) → gQ (fb_197_80 217 a4 w0_l 217 z_l) (fun r => Fz s r.2.2.2 ∧ r.2.1 = y_l.2 (gFa a1 a2 a3 a4 a5 a6 a7 (gI s 218 3))) := fun w0_l hw => by
      unfold fb_197_80
      dsimp only
      refine gQ_bool ?_
      have r8 : gR (gw z_l 217 15 w0_l) 217 1 = 218 := (zR 217 1).trans hr.1
      have e3_l : gI (gw z_l 217 15 w0_l) 218 3 = gI s 218 3 := (rd_a rfl (by decide)).trans (zA 218 3 (by decide))
      rw [r8, e3_l]
      have hA : ∀ a_l k_l, a_l ≠ 223 → ¬ (a_l = 217 ∧ k_l = 15) → gI (gw z_l 217 15 w0_l) a_l k_l = gI s a_l k_l := fun a_l k_l c1_l c2_l => by
        show (if a_l = 217 ∧ k_l = 15 then _ else gI z_l a_l k_l) = _
        rw [if_neg c2_l]
        exact zA a_l k_l c1_l
      have hL8 : Lrw (gw z_l 217 15 w0_l) 218 y_l k_l := by
        obtain ⟨L_l, e_l, ⟨l1, l2, l3⟩, l4, l5, l6⟩ := t2_l
        exact ⟨L_l, e_l, ⟨(hA 218 1 (by decide) (by omega)).trans l1, (hA 218 2 (by decide) (by omega)).trans l2, l3⟩, l4, fun j_l hj => (hA 218 _ (by decide) (by omega)).trans (l5 j_l hj), l6⟩
      have fin_l : ∀ b_l : Int, (b_l = if a4 < gI s 218 3 then 0 else 1) → gQ (fb_197_100 217 b_l 217 (gw z_l 217 15 w0_l)) (fun r => Fz s r.2.2.2 ∧ r.2.1 = y_l.2 (gFa a1 a2 a3 a4 a5 a6 a7 (gI s 218 3))) := fun b_l hb_l r hr2 => by
        obtain ⟨x1_l, x2_l⟩ := j_100 (s := gw z_l 217 15 w0_l) (F := gFa a1 a2 a3 a4 a5 a6 a7 (gI s 218 3)) hL8 ⟨r8, (zR 217 7).trans hr.2.1, (zR 217 14).trans hr.2.2⟩ (fun j_l hj => (rd_a rfl (by decide)).trans (zF j_l hj)) ((rd_same rfl).trans hw) hb_l r hr2
        refine ⟨⟨⟨x1_l.1.1.trans zN, fun a_l => (x1_l.1.2.1 a_l).trans (zK a_l), fun a_l k_l => (x1_l.1.2.2 a_l k_l).trans (zR a_l k_l)⟩, fun a_l k_l c1_l c2_l => ?_⟩, x2_l⟩
        rw [x1_l.2 a_l k_l c1_l c2_l]
        exact hA a_l k_l c1_l (by omega)
      by_cases c_l : a4 < gI s 218 3
      · rw [if_pos c_l]
        exact fin_l 0 (by rw [if_pos c_l])
      · rw [if_neg c_l]
        exact fin_l 1 (by rw [if_neg c_l])
    by_cases c_l : 0 < a5
    · rw [if_pos c_l]
      exact key_l 1 (by rw [if_pos c_l])
    · rw [if_neg c_l]
      exact key_l 0 (by rw [if_neg c_l])
theorem j_198 (hT : Tlw s 218 B T) (hr : gR s 217 1 = 218 ∧ gR s 217 7 = 222 ∧ gR s 217 14 = 223) (hi : i < 6) : gQ (f_198 217 (i : Int) s) (fun r => Fz s r.2.2.2 ∧ r.2.1 = T (fF (gI s 218) i)) := by
  have g_l : ∀ j_l : Nat, j_l < 6 → gQ (f_156 217 (i : Int) (j_l : Int) s) (fun r => r.2.1 = gI s 218 (40 + 6 * i + j_l) ∧ r.2.2.2 = s) := fun j_l hj => by
    have h1 := m_156 (s := s) (x := (i : Int)) (j := (j_l : Int)) hr.1 (by omega) (by omega)
    rw [Int.toNat_natCast, Int.toNat_natCast] at h1
    exact h1
  unfold f_198
  refine gQ_w1 (A := fun v_l z_l => v_l = gI s 218 (40 + 6 * i + 0) ∧ z_l = s) (g_l 0 (by decide)) (fun v_l z_l hz => ?_)
  obtain ⟨z1, z2⟩ := hz
  rw [z1, z2]
  refine gQ_w1 (A := fun v_l z_l => v_l = gI s 218 (40 + 6 * i + 1) ∧ z_l = s) (g_l 1 (by decide)) (fun v_l z_l hz => ?_)
  obtain ⟨z1, z2⟩ := hz
  rw [z1, z2]
  refine gQ_w1 (A := fun v_l z_l => v_l = gI s 218 (40 + 6 * i + 3) ∧ z_l = s) (g_l 3 (by decide)) (fun v_l z_l hz => ?_)
  obtain ⟨z1, z2⟩ := hz
  rw [z1, z2]
  refine gQ_w1 (A := fun v_l z_l => v_l = gI s 218 (40 + 6 * i + 4) ∧ z_l = s) (g_l 4 (by decide)) (fun v_l z_l hz => ?_)
  obtain ⟨z1, z2⟩ := hz
  rw [z1, z2, hr.1]
  refine gQ_w1 (A := fun v_l z_l => Fz s z_l ∧ v_l = T (gFa (i : Int) (gI s 218 (40 + 6 * i + 0)) (gI s 218 (40 + 6 * i + 1)) (gI s 218 (40 + 6 * i + 3)) (gI s 218 (40 + 6 * i + 4)) (gI s 218 9) (gI s 218 7) (gI s 218 3))) (j_197 hT hr) (fun v_l z_l hz => gQ_ret ⟨hz.1, ?_⟩)
  dsimp only
  rw [hz.2]
  congr 1
  funext j_l
  unfold gFa fF
  rw [show 40 + 6 * i + 0 = 40 + 6 * i by omega, show 40 + 6 * i + 1 = 41 + 6 * i by omega, show 40 + 6 * i + 3 = 43 + 6 * i by omega, show 40 + 6 * i + 4 = 44 + 6 * i by omega]
end Vm

end
