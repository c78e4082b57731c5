section
/-! things of a text, as both sides see them -/
theorem gloop_inl {σ Q : Type} {step : σ → Option (σ ⊕ Q)} {y z : σ} (h : step y = some (Sum.inl z)) : gloop step y = gloop step z := by
  have e_l : ∀ r_l, gloop step y = some r_l ↔ gloop step z = some r_l := by
    intro r_l
    constructor
    · intro q_l
      obtain ⟨n_l, hn⟩ := gloop_out q_l
      cases n_l with
      | zero => cases hn
      | succ n_l =>
        have hn : (step y).bind (Sum.elim (giter step n_l) some) = some r_l := hn
        rw [h] at hn
        exact gloop_of hn
    · intro q_l
      obtain ⟨n_l, hn⟩ := gloop_out q_l
      refine gloop_of (n := n_l + 1) ?_
      show (step y).bind (Sum.elim (giter step n_l) some) = some r_l
      rw [h]
      exact hn
  cases h1 : gloop step z with
  | some r_l => exact (e_l r_l).mpr h1
  | none =>
    cases h2 : gloop step y with
    | none => rfl
    | some r_l => rw [(e_l r_l).mp h2] at h1; cases h1
theorem gloop_inr {σ Q : Type} {step : σ → Option (σ ⊕ Q)} {y : σ} {q : Q} (h : step y = some (Sum.inr q)) : gloop step y = some q := by
  refine gloop_of (n := 1) ?_
  show (step y).bind (Sum.elim (giter step 0) some) = some q
  rw [h]
  rfl
/-- behind the blanks, behind the letters, behind the figures: with n steps at most -/
noncomputable def skp (L : Nat → Int) (e : Nat) : Nat → Nat → Nat
  | 0, a => a
  | n + 1, a => if a < e ∧ L a = 32 then skp L e n (a + 1) else a
noncomputable def lrn (L : Nat → Int) (e : Nat) : Nat → Nat → Nat
  | 0, a => a
  | n + 1, a => if a < e ∧ 97 ≤ L a ∧ L a ≤ 122 then lrn L e n (a + 1) else a
noncomputable def drn (L : Nat → Int) (e : Nat) : Nat → Nat → Nat
  | 0, a => a
  | n + 1, a => if a < e ∧ 48 ≤ L a ∧ L a ≤ 57 then drn L e n (a + 1) else a
section Tok
variable {L : Nat → Int} {e : Nat}
theorem skp_f (n : Nat) : ∀ {m a : Nat}, e ≤ a + n → e ≤ a + m → skp L e n a = skp L e m a := by
  induction n with
  | zero =>
    intro m a h1 h2
    cases m with
    | zero => rfl
    | succ m =>
      show a = if a < e ∧ L a = 32 then skp L e m (a + 1) else a
      rw [if_neg (by omega)]
  | succ n ih_l =>
    intro m a h1 h2
    cases m with
    | zero =>
      show (if a < e ∧ L a = 32 then skp L e n (a + 1) else a) = a
      rw [if_neg (by omega)]
    | succ m =>
      show (if a < e ∧ L a = 32 then skp L e n (a + 1) else a) = (if a < e ∧ L a = 32 then skp L e m (a + 1) else a)
      by_cases h : a < e ∧ L a = 32
      · rw [if_pos h, if_pos h]
        exact ih_l (by omega) (by omega)
      · rw [if_neg h, if_neg h]
/-- the first place that is no blank -/
noncomputable def sk (L : Nat → Int) (e a : Nat) : Nat := skp L e e a
theorem sk_s {a : Nat} (h : a < e ∧ L a = 32) : sk L e a = sk L e (a + 1) := by
  unfold sk
  cases e with
  | zero => omega
  | succ e =>
    show (if a < e + 1 ∧ L a = 32 then skp L (e + 1) e (a + 1) else a) = _
    rw [if_pos h]
    exact skp_f e (by omega) (by omega)
theorem sk_n {a : Nat} (h : ¬ (a < e ∧ L a = 32)) : sk L e a = a := by
  unfold sk
  cases e with
  | zero => rfl
  | succ e =>
    show (if a < e + 1 ∧ L a = 32 then skp L (e + 1) e (a + 1) else a) = _
    rw [if_neg h]
theorem sk_ge (n : Nat) : ∀ {a : Nat}, a ≤ skp L e n a ∧ (skp L e n a ≤ a ∨ skp L e n a ≤ e) := by
  induction n with
  | zero => intro a; exact ⟨Nat.le_refl _, Or.inl (Nat.le_refl _)⟩
  | succ n ih_l =>
    intro a
    show a ≤ (if a < e ∧ L a = 32 then skp L e n (a + 1) else a) ∧ _
    by_cases h : a < e ∧ L a = 32
    · have := ih_l (a := a + 1)
      show a ≤ (if a < e ∧ L a = 32 then skp L e n (a + 1) else a) ∧ ((if a < e ∧ L a = 32 then skp L e n (a + 1) else a) ≤ a ∨ (if a < e ∧ L a = 32 then skp L e n (a + 1) else a) ≤ e)
      rw [if_pos h]
      omega
    · show a ≤ (if a < e ∧ L a = 32 then skp L e n (a + 1) else a) ∧ ((if a < e ∧ L a = 32 then skp L e n (a + 1) else a) ≤ a ∨ (if a < e ∧ L a = 32 then skp L e n (a + 1) else a) ≤ e)
      rw [if_neg h]
      omega
end Tok

end
section
/-- the kind of the thing that begins at a, and its end -/
noncomputable def kd (L : Nat → Int) (e a : Nat) : Int := if a < e then (if 97 ≤ L a ∧ L a ≤ 122 then 1 else if 48 ≤ L a ∧ L a ≤ 57 then 2 else 3) else 0
noncomputable def lr (L : Nat → Int) (e a : Nat) : Nat := lrn L e e a
noncomputable def dr (L : Nat → Int) (e a : Nat) : Nat := drn L e e a
noncomputable def en (L : Nat → Int) (e a : Nat) : Nat := if a < e then (if 97 ≤ L a ∧ L a ≤ 122 then lr L e (a + 1) else if 48 ≤ L a ∧ L a ≤ 57 then dr L e (a + 1) else a + 1) else a
section Tk
variable {p : gP} {s s' : gS} {L : Nat → Int} {e : Nat}
theorem gT_both {Q : Type} {x : Option Q} {P P' : Q → Prop} (h : gT x P) (h' : gT x P') : gT x (fun r => P r ∧ P' r) := by
  obtain ⟨r, h1, h2⟩ := h
  obtain ⟨r', h3, h4⟩ := h'
  rw [h1] at h3
  cases h3
  exact ⟨r, h1, h2, h4⟩
theorem lrn_f (n : Nat) : ∀ {m a : Nat}, e ≤ a + n → e ≤ a + m → lrn L e n a = lrn L e m a := by
  induction n with
  | zero =>
    intro m a h1 h2
    cases m with
    | zero => rfl
    | succ m =>
      show a = if a < e ∧ 97 ≤ L a ∧ L a ≤ 122 then lrn L e m (a + 1) else a
      rw [if_neg (by omega)]
  | succ n ih_l =>
    intro m a h1 h2
    cases m with
    | zero =>
      show (if a < e ∧ 97 ≤ L a ∧ L a ≤ 122 then lrn L e n (a + 1) else a) = a
      rw [if_neg (by omega)]
    | succ m =>
      show (if a < e ∧ 97 ≤ L a ∧ L a ≤ 122 then lrn L e n (a + 1) else a) = (if a < e ∧ 97 ≤ L a ∧ L a ≤ 122 then lrn L e m (a + 1) else a)
      by_cases h : a < e ∧ 97 ≤ L a ∧ L a ≤ 122
      · rw [if_pos h, if_pos h]
        exact ih_l (by omega) (by omega)
      · rw [if_neg h, if_neg h]
theorem drn_f (n : Nat) : ∀ {m a : Nat}, e ≤ a + n → e ≤ a + m → drn L e n a = drn L e m a := by
  induction n with
  | zero =>
    intro m a h1 h2
    cases m with
    | zero => rfl
    | succ m =>
      show a = if a < e ∧ 48 ≤ L a ∧ L a ≤ 57 then drn L e m (a + 1) else a
      rw [if_neg (by omega)]
  | succ n ih_l =>
    intro m a h1 h2
    cases m with
    | zero =>
      show (if a < e ∧ 48 ≤ L a ∧ L a ≤ 57 then drn L e n (a + 1) else a) = a
      rw [if_neg (by omega)]
    | succ m =>
      show (if a < e ∧ 48 ≤ L a ∧ L a ≤ 57 then drn L e n (a + 1) else a) = (if a < e ∧ 48 ≤ L a ∧ L a ≤ 57 then drn L e m (a + 1) else a)
      by_cases h : a < e ∧ 48 ≤ L a ∧ L a ≤ 57
      · rw [if_pos h, if_pos h]
        exact ih_l (by omega) (by omega)
      · rw [if_neg h, if_neg h]
theorem lr_s {a : Nat} (h : a < e ∧ 97 ≤ L a ∧ L a ≤ 122) : lr L e a = lr L e (a + 1) := by
  unfold lr
  cases e with
  | zero => omega
  | succ e =>
    show (if a < e + 1 ∧ 97 ≤ L a ∧ L a ≤ 122 then lrn L (e + 1) e (a + 1) else a) = _
    rw [if_pos h]
    exact lrn_f e (by omega) (by omega)
theorem lr_n {a : Nat} (h : ¬ (a < e ∧ 97 ≤ L a ∧ L a ≤ 122)) : lr L e a = a := by
  unfold lr
  cases e with
  | zero => rfl
  | succ e =>
    show (if a < e + 1 ∧ 97 ≤ L a ∧ L a ≤ 122 then lrn L (e + 1) e (a + 1) else a) = _
    rw [if_neg h]
theorem dr_s {a : Nat} (h : a < e ∧ 48 ≤ L a ∧ L a ≤ 57) : dr L e a = dr L e (a + 1) := by
  unfold dr
  cases e with
  | zero => omega
  | succ e =>
    show (if a < e + 1 ∧ 48 ≤ L a ∧ L a ≤ 57 then drn L (e + 1) e (a + 1) else a) = _
    rw [if_pos h]
    exact drn_f e (by omega) (by omega)
theorem dr_n {a : Nat} (h : ¬ (a < e ∧ 48 ≤ L a ∧ L a ≤ 57)) : dr L e a = a := by
  unfold dr
  cases e with
  | zero => rfl
  | succ e =>
    show (if a < e + 1 ∧ 48 ≤ L a ∧ L a ≤ 57 then drn L (e + 1) e (a + 1) else a) = _
    rw [if_neg h]
/-- what is known of the tape -/
noncomputable def Tp (s : gS) (L : Nat → Int) (e : Nat) : Prop := gR s 1 0 = 2 ∧ gI s 1 1 = (e : Int) ∧ e ≤ 400 ∧ ∀ j, gI s 2 j = L j
theorem Tp_fr (h : Tp s L e) (hf : Fr s s') : Tp s' L e := ⟨(hf.1.2.2 1 0).trans h.1, (hf.2 1 1 (by decide)).trans h.2.1, h.2.2.1, fun j_l => (hf.2 2 j_l (by omega)).trans (h.2.2.2 j_l)⟩
theorem t10 : T 10 1 := ⟨by decide, by decide +kernel⟩
/-- the run behind the first letter or figure -/
theorem v78_r {x4 x5 : Int} {K : Int} {F R : Int} (rn : Nat → Nat) (hs : ∀ a : Nat, a < e ∧ x4 ≤ L a ∧ L a ≤ x5 → rn a = rn (a + 1)) (hn : ∀ a : Nat, ¬ (a < e ∧ x4 ≤ L a ∧ L a ≤ x5) → rn a = a) (hT : Tp s L e) {u : gS} {a : Nat} (hf : Fr s u) (h2 : gI u 1 2 = K) (hK : K ≠ 3) (h3 : gI u 1 3 = F) (h4 : gI u 1 4 = (a : Int)) (ha : a ≤ e) (hr : ((rn a : Nat) : Int) = R) : gT (gloop st_78_174 (1, x4, x5, u)) (fun r => r.1 = 0 ∧ Fr s r.2.2.2 ∧ gI r.2.2.2 1 2 = K ∧ gI r.2.2.2 1 3 = F ∧ gI r.2.2.2 1 4 = R) := by
  refine gT_loop (fun y_l => (y_l.1 = 1 ∧ y_l.2.1 = x4 ∧ y_l.2.2.1 = x5) ∧ Fr s y_l.2.2.2 ∧ gI y_l.2.2.2 1 2 = K ∧ gI y_l.2.2.2 1 3 = F ∧ ∃ a : Nat, gI y_l.2.2.2 1 4 = (a : Int) ∧ a ≤ e ∧ ((rn a : Nat) : Int) = R) (fun y_l => (e - gI y_l.2.2.2 1 4).toNat) (fun y_l hy => ?_) ⟨⟨rfl, rfl, rfl⟩, hf, h2, h3, a, h4, ha, hr⟩
  obtain ⟨y0, y4, y5, w_l⟩ := y_l
  obtain ⟨⟨q0, q4_l, q5_l⟩, hf, h2, h3, b_l, h4, hb_l, hr⟩ := hy
  dsimp only at q0 q4_l q5_l hf h2 h3 h4
  subst q0 q4_l q5_l
  obtain ⟨t1_l, t2_l, t3_l, t4_l⟩ := Tp_fr hT hf
  show gT (sb_78_174 1 y4 y5 w_l) _
  unfold sb_78_174
  rw [h2, if_neg hK, h4, t1_l, t2_l, t4_l]
  have hex_l : ¬ (b_l < e ∧ y4 ≤ L b_l ∧ L b_l ≤ y5) → gI w_l 1 4 = R := fun hc_l => by rw [h4, ← hr, hn b_l hc_l]
  refine gT_ite (fun hl => ?_) (fun hl => gT_map (gT_ret ⟨rfl, hf, h2, h3, hex_l (by omega)⟩))
  rw [Int.toNat_natCast]
  have hb1 : b_l < e := by omega
  have hm_l : ((e : Int) - ((b_l : Int) + 1)).toNat < ((e : Int) - (b_l : Int)).toNat := by omega
  refine gT_chk (by omega) (by omega) ?_
  refine gT_ite (fun c1_l => gT_map (gT_ret ⟨rfl, hf, h2, h3, hex_l (by omega)⟩)) (fun c1_l => ?_)
  refine gT_chk (by omega) (by omega) ?_
  refine gT_ite (fun c2_l => gT_map (gT_ret ⟨rfl, hf, h2, h3, hex_l (by omega)⟩)) (fun c2_l => ?_)
  have g_l := g32_eq (v := (b_l : Int) + 1) (by omega) (by omega)
  extract_lets s7
  have k4_l : gI s7 1 4 = ((b_l + 1 : Nat) : Int) := by
    rw [rd_same (show s7 = gw w_l 1 4 (g32 ((b_l : Int) + 1)) from rfl), g_l]
    rfl
  have k2_l : gI s7 1 2 = gI w_l 1 2 := rd_k (a := 1) (k := 2) (show s7 = gw w_l 1 4 (g32 ((b_l : Int) + 1)) from rfl) (by decide)
  have k3_l : gI s7 1 3 = gI w_l 1 3 := rd_k (a := 1) (k := 3) (show s7 = gw w_l 1 4 (g32 ((b_l : Int) + 1)) from rfl) (by decide)
  have f7_l : Fr s s7 := Fr_w hf t10 (by decide)
  clear_value s7
  refine gT_ret ⟨⟨⟨rfl, rfl, rfl⟩, f7_l, k2_l.trans h2, k3_l.trans h3, b_l + 1, k4_l, hb1, ?_⟩, ?_⟩
  · rw [← hr, hs b_l ⟨hb1, by omega, by omega⟩]
  · dsimp only
    rw [k4_l]
    exact hm_l
theorem v78_k {w : gS} {b : Nat} {x2 K : Int} (hT : Tp s L e) (hf : Fr s w) (h3 : gI w 1 3 = (b : Int)) (h4 : gI w 1 4 = (b : Int)) (hb : b < e) (hK : (x2 = 0 → (K = 2 ∧ 48 ≤ L b ∧ L b ≤ 57) ∨ (K = 3 ∧ ¬ (97 ≤ L b ∧ L b ≤ 122) ∧ ¬ (48 ≤ L b ∧ L b ≤ 57))) ∧ (x2 ≠ 0 → K = 1 ∧ 97 ≤ L b ∧ L b ≤ 122)) : gT (fb_78_135 1 x2 K 1 w) (fun r => r.1 = 0 ∧ Fr s r.2.2.2 ∧ gI r.2.2.2 1 3 = (b : Int) ∧ gI r.2.2.2 1 2 = kd L e b ∧ gI r.2.2.2 1 4 = ((en L e b : Nat) : Int)) := by
  have h400 := hT.2.2.1
  unfold fb_78_135
  extract_lets s5 s6
  have a4 : gI s5 1 4 = gI w 1 4 := rd_k (a := 1) (k := 4) (show s5 = gw w 1 2 K from rfl) (by decide)
  have g_l := g32_eq (v := gI s5 1 4 + 1) (by omega) (by omega)
  have b2 : gI s6 1 2 = K := (rd_k (a := 1) (k := 2) (show s6 = gw s5 1 4 (g32 (gI s5 1 4 + 1)) from rfl) (by decide)).trans (rd_same (show s5 = gw w 1 2 K from rfl))
  have b3 : gI s6 1 3 = (b : Int) := ((rd_k (a := 1) (k := 3) (show s6 = gw s5 1 4 (g32 (gI s5 1 4 + 1)) from rfl) (by decide)).trans (rd_k (a := 1) (k := 3) (show s5 = gw w 1 2 K from rfl) (by decide))).trans h3
  have b4 : gI s6 1 4 = ((b + 1 : Nat) : Int) := by
    rw [rd_same (show s6 = gw s5 1 4 (g32 (gI s5 1 4 + 1)) from rfl), g_l, a4, h4]
    rfl
  have f6_l : Fr s s6 := Fr_w (Fr_w hf t10 (by decide)) t10 (by decide)
  clear_value s5 s6
  have hl : x2 ≠ 0 → gT (gloop st_78_174 (1, 97, 122, s6)) (fun r => r.1 = 0 ∧ Fr s r.2.2.2 ∧ gI r.2.2.2 1 3 = (b : Int) ∧ gI r.2.2.2 1 2 = kd L e b ∧ gI r.2.2.2 1 4 = ((en L e b : Nat) : Int)) := fun hx => by
    obtain ⟨k1_l, k2_l⟩ := hK.2 hx
    refine gT_mono (v78_r (lr L e) (fun a_l h_l => lr_s h_l) (fun a_l h_l => lr_n h_l) hT f6_l b2 (by omega) b3 b4 (by omega) (R := ((en L e b : Nat) : Int)) (by unfold en; rw [if_pos hb, if_pos k2_l])) (fun r hr => ⟨hr.1, hr.2.1, hr.2.2.2.1, ?_, hr.2.2.2.2⟩)
    rw [hr.2.2.1, k1_l]
    unfold kd
    rw [if_pos hb, if_pos k2_l]
  have hd_l : x2 = 0 → gT (gloop st_78_174 (1, 48, 57, s6)) (fun r => r.1 = 0 ∧ Fr s r.2.2.2 ∧ gI r.2.2.2 1 3 = (b : Int) ∧ gI r.2.2.2 1 2 = kd L e b ∧ gI r.2.2.2 1 4 = ((en L e b : Nat) : Int)) := fun hx => by
    rcases hK.1 hx with ⟨k1_l, k2_l⟩ | ⟨k1_l, k2_l, k3_l⟩
    · refine gT_mono (v78_r (dr L e) (fun a_l h_l => dr_s h_l) (fun a_l h_l => dr_n h_l) hT f6_l b2 (by omega) b3 b4 (by omega) (R := ((en L e b : Nat) : Int)) (by unfold en; rw [if_pos hb, if_neg (by omega), if_pos k2_l])) (fun r hr => ⟨hr.1, hr.2.1, hr.2.2.2.1, ?_, hr.2.2.2.2⟩)
      rw [hr.2.2.1, k1_l]
      unfold kd
      rw [if_pos hb, if_neg (by omega), if_pos k2_l]
    · refine gT_loop (fun y_l => y_l = (1, 48, 57, s6)) (fun _ => 0) (fun y_l hy => ?_) rfl
      subst hy
      show gT (sb_78_174 1 48 57 s6) _
      unfold sb_78_174
      rw [b2, if_pos k1_l]
      refine gT_map (gT_ret ⟨rfl, f6_l, b3, ?_, ?_⟩)
      · dsimp only
        unfold kd
        rw [if_pos hb, if_neg k2_l, if_neg k3_l, b2, k1_l]
      · dsimp only
        unfold en
        rw [if_pos hb, if_neg k2_l, if_neg k3_l, b4]
  refine gT_ite (fun hx => ?_) (fun hx => ?_)
  · unfold fb_78_159
    exact gT_ite (fun _ => hd_l hx) (fun h_l => absurd hx h_l)
  · unfold fb_78_159
    exact gT_ite (fun h_l => absurd h_l hx) (fun _ => hl hx)
theorem v_78 (hT : Tp s L e) {a : Nat} (h4 : gI s 1 4 = (a : Int)) (ha : a ≤ e) : gT (f_78 1 s) (fun r => r.1 = 0 ∧ Fr s r.2.2.2 ∧ gI r.2.2.2 1 3 = ((sk L e a : Nat) : Int) ∧ gI r.2.2.2 1 2 = kd L e (sk L e a) ∧ gI r.2.2.2 1 4 = ((en L e (sk L e a) : Nat) : Int)) := by
  have h400 := hT.2.2.1
  unfold f_78
  extract_lets s1
  have f1_l : Fr s s1 := Fr_w (Fr_r s) t10 (by decide)
  have b3 : gI s1 1 3 = (a : Int) := (rd_same (show s1 = gw s 1 3 (gI s 1 4) from rfl)).trans h4
  clear_value s1
  refine gT_loop (fun y_l => y_l.1 = 1 ∧ Fr s y_l.2 ∧ ∃ b_l : Nat, gI y_l.2 1 3 = (b_l : Int) ∧ b_l ≤ e ∧ sk L e b_l = sk L e a) (fun y_l => (e - gI y_l.2 1 3).toNat) (fun y_l hy => ?_) ⟨rfl, f1_l, a, b3, ha, rfl⟩
  obtain ⟨x0_l, w_l⟩ := y_l
  obtain ⟨q0, hf, b_l, h3, hb_l, hs⟩ := hy
  dsimp only at q0 hf h3
  subst q0
  obtain ⟨t1_l, t2_l, t3_l, t4_l⟩ := Tp_fr hT hf
  have hend : ¬ (b_l < e ∧ L b_l = 32) → gT (fb_78_46 1 w_l) (fun r => r.1 = 0 ∧ Fr s r.2.2.2 ∧ gI r.2.2.2 1 3 = ((sk L e a : Nat) : Int) ∧ gI r.2.2.2 1 2 = kd L e (sk L e a) ∧ gI r.2.2.2 1 4 = ((en L e (sk L e a) : Nat) : Int)) := by
    intro hc_l
    rw [← hs, sk_n hc_l]
    unfold fb_78_46
    extract_lets s3 v4 s8
    have f3_l : Fr s s3 := Fr_w hf t10 (by decide)
    have c3_l : gI s3 1 3 = (b_l : Int) := (rd_k (a := 1) (k := 3) (show s3 = gw w_l 1 4 (gI w_l 1 3) from rfl) (by decide)).trans h3
    have c4_l : gI s3 1 4 = (b_l : Int) := (rd_same (show s3 = gw w_l 1 4 (gI w_l 1 3) from rfl)).trans h3
    obtain ⟨u1_l, u2_l, u3, u4_l⟩ := Tp_fr hT f3_l
    have hv4 : v4 = L b_l := by
      show gI s3 (gR s3 1 0) (gI s3 1 3).toNat = _
      rw [u1_l, c3_l, u4_l, Int.toNat_natCast]
    rw [c3_l, u2_l]
    refine gT_ite (fun hl => ?_) (fun hl => ?_)
    · have hl : b_l < e := by omega
      refine gT_chk (by omega) (by omega) ?_
      rw [hv4]
      have h98 : ∀ x2_l : Int, (x2_l = 0 ∨ x2_l = 1) → (x2_l = 0 → ¬ (97 ≤ L b_l ∧ L b_l ≤ 122)) → (x2_l ≠ 0 → 97 ≤ L b_l ∧ L b_l ≤ 122) → gT (fb_78_98 1 (L b_l) x2_l s3) (fun r => r.1 = 0 ∧ Fr s r.2.2.2 ∧ gI r.2.2.2 1 3 = (b_l : Int) ∧ gI r.2.2.2 1 2 = kd L e b_l ∧ gI r.2.2.2 1 4 = ((en L e b_l : Nat) : Int)) := by
        intro x2_l hx h0 h1
        have h116 : ∀ w0_l : Int, (w0_l = 0 → ¬ (48 ≤ L b_l ∧ L b_l ≤ 57)) → (w0_l ≠ 0 → 48 ≤ L b_l ∧ L b_l ≤ 57) → gT (fb_78_116 1 x2_l w0_l s3) (fun r => r.1 = 0 ∧ Fr s r.2.2.2 ∧ gI r.2.2.2 1 3 = (b_l : Int) ∧ gI r.2.2.2 1 2 = kd L e b_l ∧ gI r.2.2.2 1 4 = ((en L e b_l : Nat) : Int)) := by
          intro w0_l w00 w01
          unfold fb_78_116
          refine gT_ite (fun hx0 => ?_) (fun hx0 => ?_)
          · refine gT_ite (fun hw0 => ?_) (fun hw0 => ?_)
            · exact v78_k hT f3_l c3_l c4_l hl ⟨fun _ => Or.inr ⟨rfl, h0 hx0, w00 hw0⟩, fun z_l => absurd hx0 z_l⟩
            · exact v78_k hT f3_l c3_l c4_l hl ⟨fun _ => Or.inl ⟨rfl, w01 hw0⟩, fun z_l => absurd hx0 z_l⟩
          · exact v78_k hT f3_l c3_l c4_l hl ⟨fun z_l => absurd z_l hx0, fun _ => ⟨rfl, h1 hx0⟩⟩
        unfold fb_78_98
        refine gT_ite (fun c_l => h116 0 (fun _ => by omega) (fun z_l => absurd rfl z_l)) (fun c_l => ?_)
        exact gT_ite (fun c2_l => h116 0 (fun _ => by omega) (fun z_l => absurd rfl z_l)) (fun c2_l => h116 1 (fun z_l => by omega) (fun _ => by omega))
      refine gT_ite (fun c_l => h98 0 (Or.inl rfl) (fun _ => by omega) (fun z_l => absurd rfl z_l)) (fun c_l => ?_)
      exact gT_ite (fun c2_l => h98 0 (Or.inl rfl) (fun _ => by omega) (fun z_l => absurd rfl z_l)) (fun c2_l => h98 1 (Or.inr rfl) (fun z_l => by omega) (fun _ => by omega))
    · have e8 : gI s8 1 2 = 0 := rd_same (show s8 = gw s3 1 2 0 from rfl)
      have e3_l : gI s8 1 3 = gI s3 1 3 := rd_k (a := 1) (k := 3) (show s8 = gw s3 1 2 0 from rfl) (by decide)
      have e4_l : gI s8 1 4 = gI s3 1 4 := rd_k (a := 1) (k := 4) (show s8 = gw s3 1 2 0 from rfl) (by decide)
      refine gT_ret ⟨rfl, Fr_w f3_l t10 (by decide), e3_l.trans c3_l, ?_, ?_⟩
      · dsimp only
        unfold kd
        rw [if_neg (by omega), e8]
      · dsimp only
        unfold en
        rw [if_neg (by omega)]
        exact e4_l.trans c4_l
  show gT (sb_78_8 1 w_l) _
  unfold sb_78_8
  rw [h3, t2_l, t1_l, t4_l]
  refine gT_ite (fun hl => ?_) (fun hl => gT_map (hend (by omega)))
  rw [Int.toNat_natCast]
  have hb1 : b_l < e := by omega
  have hm_l : ((e : Int) - ((b_l : Int) + 1)).toNat < ((e : Int) - (b_l : Int)).toNat := by omega
  refine gT_chk (by omega) (by omega) ?_
  refine gT_ite (fun hc_l => ?_) (fun hc_l => gT_map (hend (fun z_l => hc_l z_l.2)))
  have g_l := g32_eq (v := (b_l : Int) + 1) (by omega) (by omega)
  extract_lets s2
  have k3_l : gI s2 1 3 = ((b_l + 1 : Nat) : Int) := by
    rw [rd_same (show s2 = gw w_l 1 3 (g32 ((b_l : Int) + 1)) from rfl), g_l]
    rfl
  have f2_l : Fr s s2 := Fr_w hf t10 (by decide)
  clear_value s2
  clear hend
  refine gT_ret ⟨⟨rfl, f2_l, b_l + 1, k3_l, hb1, ?_⟩, ?_⟩
  · rw [← hs, sk_s (a := b_l) ⟨hb1, hc_l⟩]
  · dsimp only
    rw [k3_l]
    exact hm_l
end Tk

end
section
section Th
variable {s s' : gS} {L : Nat → Int} {e f : Nat}
theorem lrn_b (n : Nat) : ∀ {a : Nat}, a ≤ lrn L e n a ∧ (lrn L e n a ≤ a ∨ lrn L e n a ≤ e) := by
  induction n with
  | zero => intro a; exact ⟨Nat.le_refl _, Or.inl (Nat.le_refl _)⟩
  | succ n ih_l =>
    intro a
    show a ≤ (if a < e ∧ 97 ≤ L a ∧ L a ≤ 122 then lrn L e n (a + 1) else a) ∧ ((if a < e ∧ 97 ≤ L a ∧ L a ≤ 122 then lrn L e n (a + 1) else a) ≤ a ∨ (if a < e ∧ 97 ≤ L a ∧ L a ≤ 122 then lrn L e n (a + 1) else a) ≤ e)
    by_cases h : a < e ∧ 97 ≤ L a ∧ L a ≤ 122
    · have := ih_l (a := a + 1)
      rw [if_pos h]
      omega
    · rw [if_neg h]
      omega
theorem drn_b (n : Nat) : ∀ {a : Nat}, a ≤ drn L e n a ∧ (drn L e n a ≤ a ∨ drn L e n a ≤ e) ∧ ∀ i, a ≤ i → i < drn L e n a → 48 ≤ L i ∧ L i ≤ 57 := by
  induction n with
  | zero => intro a; exact ⟨Nat.le_refl _, Or.inl (Nat.le_refl _), fun i h1 h2 => by have : drn L e 0 a = a := rfl; omega⟩
  | succ n ih_l =>
    intro a
    show a ≤ (if a < e ∧ 48 ≤ L a ∧ L a ≤ 57 then drn L e n (a + 1) else a) ∧ ((if a < e ∧ 48 ≤ L a ∧ L a ≤ 57 then drn L e n (a + 1) else a) ≤ a ∨ (if a < e ∧ 48 ≤ L a ∧ L a ≤ 57 then drn L e n (a + 1) else a) ≤ e) ∧ ∀ i, a ≤ i → i < (if a < e ∧ 48 ≤ L a ∧ L a ≤ 57 then drn L e n (a + 1) else a) → 48 ≤ L i ∧ L i ≤ 57
    by_cases h : a < e ∧ 48 ≤ L a ∧ L a ≤ 57
    · have q_l := ih_l (a := a + 1)
      rw [if_pos h]
      refine ⟨by omega, by omega, fun i h1 h2 => ?_⟩
      by_cases e1 : i = a
      · rw [e1]; exact h.2
      · exact q_l.2.2 i (by omega) h2
    · rw [if_neg h]
      exact ⟨Nat.le_refl _, Or.inl (Nat.le_refl _), fun i h1 h2 => by omega⟩
theorem en_b (hf : f ≤ e) : f ≤ en L e f ∧ en L e f ≤ e ∧ (f < e → f + 1 ≤ en L e f) := by
  have q1_l := lrn_b (L := L) (e := e) e (a := f + 1)
  have q2_l := drn_b (L := L) (e := e) e (a := f + 1)
  unfold en lr dr
  by_cases h : f < e
  · rw [if_pos h]
    by_cases h1 : 97 ≤ L f ∧ L f ≤ 122
    · rw [if_pos h1]; omega
    · rw [if_neg h1]
      by_cases h2 : 48 ≤ L f ∧ L f ≤ 57
      · rw [if_pos h2]; omega
      · rw [if_neg h2]; omega
  · rw [if_neg h]; omega
theorem sk_b {a : Nat} (ha : a ≤ e) : a ≤ sk L e a ∧ sk L e a ≤ e := by
  have := sk_ge (L := L) (e := e) e (a := a)
  unfold sk
  omega
theorem skp_i (n : Nat) : ∀ {a : Nat}, e ≤ a + n → ¬ (skp L e n a < e ∧ L (skp L e n a) = 32) := by
  induction n with
  | zero =>
    intro a h_l
    show ¬ (a < e ∧ L a = 32)
    omega
  | succ n ih_l =>
    intro a h_l
    show ¬ ((if a < e ∧ L a = 32 then skp L e n (a + 1) else a) < e ∧ L (if a < e ∧ L a = 32 then skp L e n (a + 1) else a) = 32)
    by_cases hc : a < e ∧ L a = 32
    · rw [if_pos hc]
      exact ih_l (by omega)
    · rw [if_neg hc]
      exact hc
theorem sk_i {a : Nat} : sk L e (sk L e a) = sk L e a := sk_n (by unfold sk; exact skp_i e (by omega))
/-- the tape stands at the thing that begins at f -/
noncomputable def At (s : gS) (L : Nat → Int) (e f : Nat) : Prop := Tp s L e ∧ (f ≤ e ∧ sk L e f = f) ∧ gI s 1 3 = (f : Int) ∧ gI s 1 2 = kd L e f ∧ gI s 1 4 = ((en L e f : Nat) : Int)
/-- the next thing -/
noncomputable def nx (L : Nat → Int) (e f : Nat) : Nat := sk L e (en L e f)
theorem v_adv (h : At s L e f) : gT (f_78 1 s) (fun r => r.1 = 0 ∧ Fr s r.2.2.2 ∧ At r.2.2.2 L e (nx L e f)) := by
  obtain ⟨hT_l, hf, h3, h2, h4⟩ := h
  have b_l := en_b (L := L) hf.1
  have q_l := sk_b (L := L) (e := e) (a := en L e f) b_l.2.1
  exact gT_mono (v_78 hT_l h4 b_l.2.1) (fun r hr => ⟨hr.1, hr.2.1, Tp_fr hT_l hr.2.1, ⟨q_l.2, sk_i⟩, hr.2.2.1, hr.2.2.2.1, hr.2.2.2.2⟩)
/-- the sign i of word w -/
noncomputable def ch (w i : Nat) : Int := gi2c (gand (gsc w i) 255)
/-- word w stands at f -/
noncomputable def Wd (L : Nat → Int) (e w f : Nat) : Prop := lr L e f = f + (gtx w).length ∧ ∀ i, i < (gtx w).length → L (f + i) = ch w i
theorem v_80 {w : Nat} (hw : 1 ≤ (gtx w).length) (h : At s L e f) : gT (f_80 1 w s) (fun r => r.1 = 1 ∧ r.2.2.2 = s ∧ ((r.2.1 = 1 ∧ Wd L e w f) ∨ (r.2.1 = 0 ∧ ¬ Wd L e w f))) := by
  obtain ⟨hT_l, hf, h3, h2, h4⟩ := h
  have b_l := en_b (L := L) hf.1
  have hlen := gtx_le w
  have hsl : gsl w = ((gtx w).length : Int) := rfl
  have hsr := gshr_0 (x := gsl w) (by omega)
  have h400 := hT_l.2.2.1
  unfold f_80
  rw [h2]
  refine gT_ite (fun hk => ?_) (fun hk => gT_ret ⟨rfl, rfl, Or.inr ⟨rfl, fun z_l => hk ?_⟩⟩)
  rotate_left
  · unfold Wd at z_l
    unfold kd
    have hl : f < e ∧ 97 ≤ L f ∧ L f ≤ 122 := by
      by_cases c : f < e ∧ 97 ≤ L f ∧ L f ≤ 122
      · exact c
      · rw [lr_n c] at z_l; omega
    rw [if_pos hl.1, if_pos hl.2]
  have hl : f < e ∧ 97 ≤ L f ∧ L f ≤ 122 := by
    unfold kd at hk
    by_cases c1 : f < e
    · rw [if_pos c1] at hk
      by_cases c2 : 97 ≤ L f ∧ L f ≤ 122
      · exact ⟨c1, c2⟩
      · rw [if_neg c2] at hk
        by_cases c3 : 48 ≤ L f ∧ L f ≤ 57
        · rw [if_pos c3] at hk; omega
        · rw [if_neg c3] at hk; omega
    · rw [if_neg c1] at hk; omega
  have he : en L e f = lr L e f := by
    unfold en
    rw [if_pos hl.1, if_pos hl.2, lr_s hl]
  refine gT_v1 (A := fun v_l u_l => v_l = gsl w ∧ u_l = s) ⟨_, rfl, rfl, hsr, rfl⟩ (fun v2 s1_l hA => ?_)
  obtain ⟨rfl, rfl⟩ := hA
  rw [h4, h3]
  have e1_l := g32_eq (v := ((en L e f : Nat) : Int) - (f : Int)) (by omega) (by omega)
  refine gT_ite (fun h5 => ?_) (fun h5 => gT_ret ⟨rfl, rfl, Or.inr ⟨rfl, fun z_l => h5 ?_⟩⟩)
  rotate_left
  · have := z_l.1
    omega
  refine gT_loop (fun y_l => y_l.1 = 1 ∧ y_l.2.1 = w ∧ (∃ i_l : Nat, y_l.2.2.1 = (i_l : Int) ∧ i_l ≤ (gtx w).length ∧ ∀ j_l, j_l < i_l → L (f + j_l) = ch w j_l) ∧ y_l.2.2.2 = s1_l) (fun y_l => (gsl w - y_l.2.2.1).toNat) (fun y_l hy => ?_) ⟨rfl, rfl, ⟨0, rfl, by omega, fun j_l hj => by omega⟩, rfl⟩
  obtain ⟨x0_l, x1_l, x2_l, u_l⟩ := y_l
  obtain ⟨e0_l, e2_l, ⟨i_l, q2_l, q3_l, q4_l⟩, e3_l⟩ := hy
  dsimp only at e0_l e2_l q2_l e3_l
  subst e0_l e2_l e3_l
  obtain ⟨t1_l, t2_l, t3_l, t4_l⟩ := hT_l
  show gT (sb_80_28 1 x1_l x2_l u_l) _
  unfold sb_80_28
  refine gT_v1 (A := fun v_l z_l => v_l = gsl x1_l ∧ z_l = u_l) ⟨_, rfl, rfl, hsr, rfl⟩ (fun v4_l s3_l hA => ?_)
  obtain ⟨rfl, rfl⟩ := hA
  refine gT_ite (fun h6 => ?_) (fun h6 => gT_map (gT_ret ⟨rfl, rfl, Or.inl ⟨rfl, by omega, fun j_l hj => q4_l j_l (by omega)⟩⟩))
  have e4_l := g32_eq (v := gI s3_l 1 3 + x2_l) (by omega) (by omega)
  rw [e4_l, h3, q2_l]
  refine gT_chk (by omega) (by omega) ?_
  refine gT_v1 (A := fun v_l z_l => v_l = ch x1_l i_l ∧ z_l = s3_l) (gT_chk (by omega) (by omega) (gT_ret ⟨rfl, by dsimp only; rw [Int.toNat_natCast]; rfl, rfl⟩)) (fun v6 s5 hA => ?_)
  obtain ⟨q6_l, q5_l⟩ := hA
  subst q5_l
  rw [t1_l, t4_l, show ((f : Int) + (i_l : Int)).toNat = f + i_l by omega]
  have hi1 : i_l + 1 ≤ (gtx x1_l).length := by omega
  have hm_l : (gsl x1_l - ((i_l : Int) + 1)).toNat < (gsl x1_l - (i_l : Int)).toNat := by omega
  have e5_l := g32_eq (v := (i_l : Int) + 1) (by omega) (by omega)
  rw [e5_l]
  clear e5_l e4_l
  refine gT_ite (fun hc_l => gT_ret ⟨⟨rfl, rfl, ⟨i_l + 1, rfl, hi1, fun j_l hj => ?_⟩, rfl⟩, hm_l⟩) (fun hc_l => gT_map (gT_ret ⟨rfl, rfl, Or.inr ⟨rfl, fun z_l => hc_l ?_⟩⟩))
  · by_cases ej : j_l = i_l
    · rw [ej, hc_l, q6_l]
    · exact q4_l j_l (by omega)
  · rw [z_l.2 i_l (by omega), q6_l]
/-- takeWord -/
theorem v_82 {w : Nat} (hw : 1 ≤ (gtx w).length) (h : At s L e f) : gT (f_82 1 w s) (fun r => r.1 = 1 ∧ Fr s r.2.2.2 ∧ ((r.2.1 = 1 ∧ Wd L e w f ∧ At r.2.2.2 L e (nx L e f)) ∨ (r.2.1 = 0 ∧ ¬ Wd L e w f ∧ At r.2.2.2 L e f))) := by
  unfold f_82
  refine gT_v1 (A := fun v_l u_l => u_l = s ∧ ((v_l = 1 ∧ Wd L e w f) ∨ (v_l = 0 ∧ ¬ Wd L e w f))) (v_80 hw h) (fun v2 s1_l h1 => ?_)
  obtain ⟨rfl, h1⟩ := h1
  refine gT_ite (fun h0 => gT_ret ⟨rfl, Fr_r _, Or.inr ⟨h0, ?_, h⟩⟩) (fun h0 => ?_)
  · rcases h1 with ⟨e1_l, -⟩ | ⟨-, e1_l⟩
    · omega
    · exact e1_l
  · refine gT_v0 (A := fun u_l => Fr s1_l u_l ∧ At u_l L e (nx L e f)) (v_adv h) (fun s4_l h4 => ?_)
    rcases h1 with ⟨e1_l, e2_l⟩ | ⟨e1_l, -⟩
    · exact gT_ret ⟨rfl, h4.1, Or.inl ⟨e1_l, e2_l, h4.2⟩⟩
    · omega
end Th

end
section
section Nu
variable {s s' : gS} {L : Nat → Int} {e f : Nat}
/-- isSign, for a sign that is no letter and no figure -/
theorem v_81 {c : Int} (hc : ¬ (97 ≤ c ∧ c ≤ 122) ∧ ¬ (48 ≤ c ∧ c ≤ 57)) (h : At s L e f) : gT (f_81 1 c s) (fun r => r.1 = 1 ∧ r.2.2.2 = s ∧ ((r.2.1 = 1 ∧ f < e ∧ L f = c) ∨ (r.2.1 = 0 ∧ ¬ (f < e ∧ L f = c)))) := by
  obtain ⟨⟨t1_l, t2_l, t3_l, t4_l⟩, hf, h3, h2, h4⟩ := h
  have hk : (kd L e f = 3 ∧ f < e ∧ ¬ (97 ≤ L f ∧ L f ≤ 122) ∧ ¬ (48 ≤ L f ∧ L f ≤ 57)) ∨ (kd L e f ≠ 3 ∧ (f < e → (97 ≤ L f ∧ L f ≤ 122) ∨ (48 ≤ L f ∧ L f ≤ 57))) := by
    unfold kd
    by_cases c1 : f < e
    · rw [if_pos c1]
      by_cases c2 : 97 ≤ L f ∧ L f ≤ 122
      · rw [if_pos c2]; exact Or.inr ⟨by omega, fun _ => Or.inl c2⟩
      · rw [if_neg c2]
        by_cases c3 : 48 ≤ L f ∧ L f ≤ 57
        · rw [if_pos c3]; exact Or.inr ⟨by omega, fun _ => Or.inr c3⟩
        · rw [if_neg c3]; exact Or.inl ⟨rfl, c1, c2, c3⟩
    · rw [if_neg c1]; exact Or.inr ⟨by omega, fun z_l => absurd z_l c1⟩
  unfold f_81 fb_81_25
  rw [h2, h3, t1_l, t4_l, Int.toNat_natCast]
  refine gT_ite (fun h5 => ?_) (fun h5 => gT_ret ⟨rfl, rfl, Or.inr ⟨rfl, fun z_l => ?_⟩⟩)
  · have hl : f < e := by
      rcases hk with q_l | q_l
      · exact q_l.2.1
      · exact absurd h5 q_l.1
    refine gT_chk (by omega) (by omega) ?_
    exact gT_ite (fun h6 => gT_ret ⟨rfl, rfl, Or.inl ⟨rfl, hl, h6⟩⟩) (fun h6 => gT_ret ⟨rfl, rfl, Or.inr ⟨rfl, fun z_l => h6 z_l.2⟩⟩)
  · rcases hk with q_l | q_l
    · exact h5 q_l.1
    · have := q_l.2 z_l.1
      rw [z_l.2] at this
      omega
/-- takeSign -/
theorem v_83 {c : Int} (hc : ¬ (97 ≤ c ∧ c ≤ 122) ∧ ¬ (48 ≤ c ∧ c ≤ 57)) (h : At s L e f) : gT (f_83 1 c s) (fun r => r.1 = 1 ∧ Fr s r.2.2.2 ∧ ((r.2.1 = 1 ∧ (f < e ∧ L f = c) ∧ At r.2.2.2 L e (nx L e f)) ∨ (r.2.1 = 0 ∧ ¬ (f < e ∧ L f = c) ∧ At r.2.2.2 L e f))) := by
  unfold f_83
  refine gT_v1 (A := fun v_l u_l => u_l = s ∧ ((v_l = 1 ∧ f < e ∧ L f = c) ∨ (v_l = 0 ∧ ¬ (f < e ∧ L f = c)))) (v_81 hc h) (fun v2 s1_l h1 => ?_)
  obtain ⟨rfl, h1⟩ := h1
  refine gT_ite (fun h0 => gT_ret ⟨rfl, Fr_r _, Or.inr ⟨h0, ?_, h⟩⟩) (fun h0 => ?_)
  · rcases h1 with ⟨e1_l, -⟩ | ⟨-, e1_l⟩
    · omega
    · exact e1_l
  · refine gT_v0 (A := fun u_l => Fr s1_l u_l ∧ At u_l L e (nx L e f)) (v_adv h) (fun s4_l h4 => ?_)
    rcases h1 with ⟨e1_l, e2_l⟩ | ⟨e1_l, -⟩
    · exact gT_ret ⟨rfl, h4.1, Or.inl ⟨e1_l, e2_l, h4.2⟩⟩
    · omega
/-- the number of n figures at a -/
noncomputable def nv (L : Nat → Int) (a : Nat) : Nat → Int
  | 0 => 0
  | n + 1 => nv L a n * 10 + L (a + n) - 48
/-- a number of at most three figures within lo and hi stands at f -/
noncomputable def Nm (L : Nat → Int) (e f : Nat) (lo hi : Int) : Prop := (f < e ∧ 48 ≤ L f ∧ L f ≤ 57) ∧ dr L e f ≤ f + 3 ∧ lo ≤ nv L f (dr L e f - f) ∧ nv L f (dr L e f - f) ≤ hi
theorem nv_b {a n : Nat} (hn : n ≤ 3) (h : ∀ i, i < n → 48 ≤ L (a + i) ∧ L (a + i) ≤ 57) : 0 ≤ nv L a n ∧ nv L a n ≤ 999 := by
  have hc_l : n = 0 ∨ n = 1 ∨ n = 2 ∨ n = 3 := by omega
  rcases hc_l with rfl | rfl | rfl | rfl
  · simp only [nv]
    omega
  · have h0 := h 0 (by omega)
    simp only [nv]
    omega
  · have h0 := h 0 (by omega)
    have h1 := h 1 (by omega)
    simp only [nv]
    omega
  · have h0 := h 0 (by omega)
    have h1 := h 1 (by omega)
    have h2 := h 2 (by omega)
    simp only [nv]
    omega
/-- takeNumber -/
theorem v_84 {lo hi : Int} (h : At s L e f) : gT (f_84 1 lo hi s) (fun r => r.1 = 1 ∧ Fr s r.2.2.2 ∧ ((Nm L e f lo hi ∧ r.2.1 = nv L f (dr L e f - f) ∧ At r.2.2.2 L e (nx L e f)) ∨ (¬ Nm L e f lo hi ∧ r.2.1 = -1 ∧ At r.2.2.2 L e f))) := by
  have hA := h
  obtain ⟨⟨t1_l, t2_l, t3_l, t4_l⟩, hf, h3, h2, h4⟩ := h
  have b_l := en_b (L := L) hf.1
  have q_l := drn_b (L := L) (e := e) e (a := f)
  unfold f_84
  rw [h2, h3, h4]
  have g0 := g32_eq (v := ((en L e f : Nat) : Int) - (f : Int)) (by omega) (by omega)
  rw [g0]
  refine gT_ite (fun hk => ?_) (fun hk => gT_ret ⟨rfl, Fr_r s, Or.inr ⟨fun z_l => hk ?_, rfl, hA⟩⟩)
  rotate_left
  · obtain ⟨⟨z1, z2⟩, -⟩ := z_l
    unfold kd
    rw [if_pos z1, if_neg (by omega), if_pos z2]
  have hl : f < e ∧ 48 ≤ L f ∧ L f ≤ 57 := by
    unfold kd at hk
    by_cases c1_l : f < e
    · rw [if_pos c1_l] at hk
      by_cases c2_l : 97 ≤ L f ∧ L f ≤ 122
      · rw [if_pos c2_l] at hk; omega
      · rw [if_neg c2_l] at hk
        by_cases c3 : 48 ≤ L f ∧ L f ≤ 57
        · exact ⟨c1_l, c3⟩
        · rw [if_neg c3] at hk; omega
    · rw [if_neg c1_l] at hk; omega
  have he : en L e f = dr L e f := by
    unfold en
    rw [if_pos hl.1, if_neg (by omega), if_pos hl.2, dr_s hl]
  have hdg : ∀ i_l, i_l < dr L e f - f → 48 ≤ L (f + i_l) ∧ L (f + i_l) ≤ 57 := fun i_l hi => q_l.2.2 (f + i_l) (by omega) (by unfold dr at hi; omega)
  refine gT_ite (fun h5 => gT_ret ⟨rfl, Fr_r s, Or.inr ⟨fun z_l => ?_, rfl, hA⟩⟩) (fun h5 => ?_)
  · have := z_l.2.1
    omega
  refine gT_loop (fun y_l => (y_l.1 = 1 ∧ y_l.2.1 = lo ∧ y_l.2.2.1 = hi) ∧ (∃ i_l : Nat, i_l ≤ dr L e f - f ∧ y_l.2.2.2.2.1 = (f : Int) + i_l ∧ y_l.2.2.2.1 = nv L f i_l) ∧ y_l.2.2.2.2.2 = s) (fun y_l => ((e : Int) - y_l.2.2.2.2.1).toNat) (fun y_l hy => ?_) ⟨⟨rfl, rfl, rfl⟩, ⟨0, by omega, by dsimp only; omega, rfl⟩, rfl⟩
  obtain ⟨x0_l, x1_l, x2_l, x3, x4_l, u_l⟩ := y_l
  obtain ⟨⟨q0, q1_l, q2_l⟩, ⟨i_l, i1_l, i2_l, i3_l⟩, q3_l⟩ := hy
  dsimp only at q0 q1_l q2_l i2_l i3_l q3_l
  subst q0 q1_l q2_l q3_l
  have nb := nv_b (L := L) (a := f) (n := i_l) (by omega) (fun j_l hj => hdg j_l (by omega))
  show gT (sb_84_31 1 x1_l x2_l x3 x4_l u_l) _
  unfold sb_84_31
  rw [h4, t1_l, t4_l]
  refine gT_ite (fun h6 => ?_) (fun h6 => gT_map ?_)
  · refine gT_chk (by omega) (by omega) ?_
    have hd_l := hdg i_l (by omega)
    rw [show x4_l.toNat = f + i_l by omega]
    have g1 := g32_eq (v := x3 * 10) (by omega) (by omega)
    have g2 := g32_eq (v := x3 * 10 + L (f + i_l)) (by omega) (by omega)
    have g3_l := g32_eq (v := x3 * 10 + L (f + i_l) - 48) (by omega) (by omega)
    have g4 := g32_eq (v := x4_l + 1) (by omega) (by omega)
    rw [g1, g2, g3_l, g4]
    refine gT_ret ⟨⟨⟨rfl, rfl, rfl⟩, ⟨i_l + 1, by omega, by dsimp only; omega, ?_⟩, rfl⟩, by dsimp only; omega⟩
    dsimp only
    rw [i3_l]
    rfl
  · have ei : i_l = dr L e f - f := by omega
    subst ei
    refine gT_ite (fun c1_l => gT_ret ⟨rfl, Fr_r u_l, Or.inr ⟨fun z_l => ?_, rfl, hA⟩⟩) (fun c1_l => ?_)
    · have := z_l.2.2.1
      omega
    refine gT_ite (fun c2_l => gT_ret ⟨rfl, Fr_r u_l, Or.inr ⟨fun z_l => ?_, rfl, hA⟩⟩) (fun c2_l => ?_)
    · have := z_l.2.2.2
      omega
    refine gT_v0 (A := fun o => Fr u_l o ∧ At o L e (nx L e f)) (v_adv hA) (fun s2_l k2_l => ?_)
    exact gT_ret ⟨rfl, k2_l.1, Or.inl ⟨⟨hl, by omega, by omega, by omega⟩, i3_l, k2_l.2⟩⟩
end Nu

end
section
section Mo2
variable {s s' : gS} {L : Nat → Int} {e a : Nat} {c x : Int}
/-- what the reader of the model reads -/
noncomputable def Mp (s : gS) (L : Nat → Int) (e : Nat) : Prop := (gI s 217 10 = (e : Int) ∧ e ≤ 400) ∧ (gR s 217 1 = 218 ∧ gR s 217 7 = 222) ∧ ∀ k : Nat, k < e → f_168 217 (k : Int) s = some (1, L k, 0, s)
theorem Mp_fr (h : Mp s L e) (hf : Fm s s') : Mp s' L e := by
  obtain ⟨⟨h1, h2⟩, ⟨h3, h4⟩, h5⟩ := h
  have r1_l : gR s' 217 1 = 218 := (hf.1.2.2 217 1).trans h3
  have r7 : gR s' 217 7 = 222 := (hf.1.2.2 217 7).trans h4
  refine ⟨⟨(hf.2 217 10 (by decide)).trans h1, h2⟩, ⟨r1_l, r7⟩, fun k_l hk => ?_⟩
  have q_l := h5 k_l hk
  unfold f_168 at q_l ⊢
  rw [h3, h4] at q_l
  rw [r1_l, r7, hf.2 217 9 (by decide), hf.2 222 _ (fun z_l => absurd z_l.1 (by decide)), hf.2 218 _ (fun z_l => absurd z_l.1 (by decide))]
  unfold gchk at q_l ⊢
  by_cases c1 : gI s 217 9 = -1
  · rw [if_pos c1] at q_l ⊢
    by_cases c2 : 0 ≤ (k_l : Int) ∧ (k_l : Int) < 400
    · rw [if_pos c2] at q_l ⊢
      have e1_l : gI s 222 (k_l : Int).toNat = L k_l := by
        injection q_l with q_l
        injection q_l with _ q_l
        injection q_l
      rw [e1_l]
    · rw [if_neg c2] at q_l
      cases q_l
  · rw [if_neg c1] at q_l ⊢
    by_cases c2 : 0 ≤ g32 (gI s 217 9 + (k_l : Int)) ∧ g32 (gI s 217 9 + (k_l : Int)) < 740
    · rw [if_pos c2] at q_l ⊢
      have e1_l : gI s 218 (g32 (gI s 217 9 + (k_l : Int))).toNat = L k_l := by
        injection q_l with q_l
        injection q_l with _ q_l
        injection q_l
      rw [e1_l]
    · rw [if_neg c2] at q_l
      cases q_l
theorem w_168 {k : Nat} (h : Mp s L e) (hk : k < e) : gT (f_168 217 (k : Int) s) (fun r => r.1 = 1 ∧ r.2.1 = L k ∧ r.2.2.2 = s) := ⟨_, h.2.2 k hk, rfl, rfl, rfl⟩
theorem w_169 (hM : Mp s L e) (ha : gI s 217 11 = (a : Int)) (hae : a ≤ e) : gT (f_169 217 s) (fun r => r.1 = 0 ∧ Fm s r.2.2.2 ∧ gI r.2.2.2 217 12 = gI s 217 12 ∧ gI r.2.2.2 217 11 = ((sk L e a : Nat) : Int)) := by
  unfold f_169
  refine gT_loop (fun y_l => y_l.1 = 217 ∧ Fm s y_l.2 ∧ gI y_l.2 217 12 = gI s 217 12 ∧ ∃ b_l : Nat, gI y_l.2 217 11 = (b_l : Int) ∧ b_l ≤ e ∧ sk L e b_l = sk L e a) (fun y_l => (e - gI y_l.2 217 11).toNat) (fun y_l hy => ?_) ⟨rfl, Fm_r s, rfl, a, ha, hae, rfl⟩
  obtain ⟨x0_l, u_l⟩ := y_l
  obtain ⟨q0, hf, hw, b_l, hb_l, hbe, hs⟩ := hy
  dsimp only at q0 hf hw hb_l
  subst q0
  have hu := Mp_fr hM hf
  have h400 := hM.1.2
  show gT (sb_169_0 217 u_l) _
  unfold sb_169_0
  rw [hb_l, hu.1.1]
  refine gT_ite (fun hx => ?_) (fun hx => gT_map (gT_ret ⟨rfl, hf, hw, ?_⟩))
  rotate_left
  · dsimp only
    rw [hb_l, ← hs, sk_n (a := b_l) (by omega)]
  refine gT_v1 (A := fun v_l z_l => v_l = L b_l ∧ z_l = u_l) (w_168 hu (by omega)) (fun v2 s1_l h1 => ?_)
  obtain ⟨e2_l, e1_l⟩ := h1
  subst e1_l
  refine gT_ite (fun hc_l => ?_) (fun hc_l => gT_map (gT_ret ⟨rfl, hf, hw, ?_⟩))
  rotate_left
  · dsimp only
    rw [hb_l, ← hs, sk_n (a := b_l) (by omega)]
  rw [hb_l]
  have hb1 : b_l < e := by omega
  have hm_l : ((e : Int) - ((b_l : Int) + 1)).toNat < ((e : Int) - (b_l : Int)).toNat := by omega
  have g_l := g32_eq (v := (b_l : Int) + 1) (by omega) (by omega)
  rw [g_l]
  clear g_l
  have k1_l : gI (gw s1_l 217 11 ((b_l : Int) + 1)) 217 11 = ((b_l + 1 : Nat) : Int) := (rd_same rfl).trans rfl
  have k2_l : gI (gw s1_l 217 11 ((b_l : Int) + 1)) 217 12 = gI s1_l 217 12 := rd_k (a := 217) (k := 12) rfl (by decide)
  refine gT_ret ⟨⟨rfl, Fm_w hf (Or.inl rfl), k2_l.trans hw, b_l + 1, k1_l, hb1, ?_⟩, ?_⟩
  · rw [← hs, sk_s (a := b_l) ⟨hb1, by rw [← e2_l]; exact hc_l⟩]
  · dsimp only
    rw [k1_l]
    exact hm_l
theorem w_170 (hM : Mp s L e) (ha : gI s 217 11 = (a : Int)) (hae : a ≤ e) : gT (f_170 217 c s) (fun r => r.1 = 1 ∧ Fm s r.2.2.2 ∧ gI r.2.2.2 217 12 = gI s 217 12 ∧ gI r.2.2.2 217 11 = ((sk L e a : Nat) : Int) ∧ ((r.2.1 = 1 ∧ sk L e a < e ∧ L (sk L e a) = c) ∨ (r.2.1 = 0 ∧ ¬ (sk L e a < e ∧ L (sk L e a) = c)))) := by
  unfold f_170 fb_170_31
  refine gT_v0 (A := fun u_l => Fm s u_l ∧ gI u_l 217 12 = gI s 217 12 ∧ gI u_l 217 11 = ((sk L e a : Nat) : Int)) (w_169 hM ha hae) (fun s1_l h1 => ?_)
  obtain ⟨hf, hw, hb_l⟩ := h1
  have hu := Mp_fr hM hf
  rw [hb_l, hu.1.1]
  refine gT_ite (fun hx => ?_) (fun hx => gT_ret ⟨rfl, hf, hw, hb_l, Or.inr ⟨rfl, fun z_l => by omega⟩⟩)
  refine gT_v1 (A := fun v_l z_l => v_l = L (sk L e a) ∧ z_l = s1_l) (w_168 hu (by omega)) (fun v4_l s3_l h3 => ?_)
  obtain ⟨e4_l, e3_l⟩ := h3
  subst e3_l
  exact gT_ite (fun hc_l => gT_ret ⟨rfl, hf, hw, hb_l, Or.inl ⟨rfl, by omega, by rw [← e4_l]; exact hc_l⟩⟩) (fun hc_l => gT_ret ⟨rfl, hf, hw, hb_l, Or.inr ⟨rfl, fun z_l => hc_l (by rw [e4_l]; exact z_l.2)⟩⟩)
theorem w_150 {x y z : Int} : gT (f_150 x y z s) (fun r => r.1 = 1 ∧ ((r.2.1 = 1 ∧ y ≤ x ∧ x ≤ z) ∨ (r.2.1 = 0 ∧ ¬ (y ≤ x ∧ x ≤ z))) ∧ r.2.2.2 = s) := by
  unfold f_150
  refine gT_ite (fun _ => gT_ret ⟨rfl, Or.inr ⟨rfl, by omega⟩, rfl⟩) (fun _ => ?_)
  exact gT_ite (fun _ => gT_ret ⟨rfl, Or.inr ⟨rfl, by omega⟩, rfl⟩) (fun _ => gT_ret ⟨rfl, Or.inl ⟨rfl, by omega⟩, rfl⟩)
theorem w_171 {w : Nat} (hw1 : 1 ≤ (gtx w).length) (hM : Mp s L e) (ha : gI s 217 11 = (a : Int)) (hae : a ≤ e) : gT (f_171 217 w s) (fun r => r.1 = 1 ∧ Fm s r.2.2.2 ∧ gI r.2.2.2 217 12 = gI s 217 12 ∧ ((r.2.1 = 1 ∧ Wd L e w (sk L e a) ∧ gI r.2.2.2 217 11 = ((sk L e a + (gtx w).length : Nat) : Int)) ∨ (r.2.1 = 0 ∧ ¬ Wd L e w (sk L e a) ∧ gI r.2.2.2 217 11 = ((sk L e a : Nat) : Int)))) := by
  have hlen := gtx_le w
  have hsl : gsl w = ((gtx w).length : Int) := rfl
  have hsr := gshr_0 (x := gsl w) (by omega)
  have h400 := hM.1.2
  have hsk := sk_b (L := L) (e := e) (a := a) hae
  unfold f_171
  refine gT_v0 (A := fun u_l => Fm s u_l ∧ gI u_l 217 12 = gI s 217 12 ∧ gI u_l 217 11 = ((sk L e a : Nat) : Int)) (w_169 hM ha hae) (fun s1_l h1 => ?_)
  obtain ⟨hf, hwr, hb_l⟩ := h1
  have hu := Mp_fr hM hf
  generalize sk L e a = f at hb_l hsk
  have hcont : ∀ k_l : Nat, k_l = lr L e f → gT (fb_171_38 217 w (k_l : Int) s1_l) (fun r => r.1 = 1 ∧ Fm s r.2.2.2 ∧ gI r.2.2.2 217 12 = gI s 217 12 ∧ ((r.2.1 = 1 ∧ Wd L e w f ∧ gI r.2.2.2 217 11 = ((f + (gtx w).length : Nat) : Int)) ∨ (r.2.1 = 0 ∧ ¬ Wd L e w f ∧ gI r.2.2.2 217 11 = (f : Int)))) := by
    intro k_l hk
    have kb := lrn_b (L := L) (e := e) e (a := f)
    have kb2 : f ≤ k_l ∧ k_l ≤ e := by unfold lr at hk; omega
    unfold fb_171_38
    refine gT_v1 (A := fun v_l u_l => v_l = gsl w ∧ u_l = s1_l) ⟨_, rfl, rfl, hsr, rfl⟩ (fun v9 s8 hA => ?_)
    obtain ⟨rfl, rfl⟩ := hA
    rw [hb_l]
    have e1_l := g32_eq (v := (k_l : Int) - (f : Int)) (by omega) (by omega)
    rw [e1_l]
    clear e1_l
    refine gT_ite (fun h5 => ?_) (fun h5 => gT_ret ⟨rfl, hf, hwr, Or.inr ⟨rfl, fun z_l => h5 ?_, hb_l⟩⟩)
    rotate_left
    · have := z_l.1
      omega
    refine gT_loop (fun y_l => (y_l.1 = 217 ∧ y_l.2.1 = w ∧ y_l.2.2.1 = (k_l : Int)) ∧ (∃ i_l : Nat, y_l.2.2.2.1 = (i_l : Int) ∧ i_l ≤ (gtx w).length ∧ ∀ j_l, j_l < i_l → L (f + j_l) = ch w j_l) ∧ y_l.2.2.2.2 = s8) (fun y_l => (gsl w - y_l.2.2.2.1).toNat) (fun y_l hy => ?_) ⟨⟨rfl, rfl, rfl⟩, ⟨0, rfl, by omega, fun j_l hj => by omega⟩, rfl⟩
    obtain ⟨x0_l, x1_l, x2_l, x3, u_l⟩ := y_l
    obtain ⟨⟨q0, q1_l, q2_l⟩, ⟨i_l, i1_l, i2_l, i3_l⟩, q3_l⟩ := hy
    dsimp only at q0 q1_l q2_l i1_l q3_l
    subst q0 q1_l q2_l q3_l
    show gT (sb_171_55 217 x1_l (k_l : Int) x3 u_l) _
    unfold sb_171_55
    refine gT_v1 (A := fun v_l z_l => v_l = gsl x1_l ∧ z_l = u_l) ⟨_, rfl, rfl, hsr, rfl⟩ (fun v11 s10 hA => ?_)
    obtain ⟨rfl, rfl⟩ := hA
    refine gT_ite (fun h6 => ?_) (fun h6 => gT_map ?_)
    · rw [hb_l, i1_l]
      have e4_l := g32_eq (v := (f : Int) + (i_l : Int)) (by omega) (by omega)
      rw [e4_l]
      clear e4_l
      rw [show (f : Int) + (i_l : Int) = ((f + i_l : Nat) : Int) by omega]
      refine gT_v1 (A := fun v_l z_l => v_l = L (f + i_l) ∧ z_l = s10) (w_168 hu (by omega)) (fun v13 s12 h12 => ?_)
      obtain ⟨e13_l, e12_l⟩ := h12
      subst e12_l
      refine gT_v1 (A := fun v_l z_l => v_l = ch x1_l i_l ∧ z_l = s12) (gT_chk (by omega) (by omega) (gT_ret ⟨rfl, by dsimp only; rw [Int.toNat_natCast]; rfl, rfl⟩)) (fun v15 s14 h14 => ?_)
      obtain ⟨e15_l, e14_l⟩ := h14
      subst e14_l
      have hi1 : i_l + 1 ≤ (gtx x1_l).length := by omega
      have hm_l : (gsl x1_l - ((i_l : Int) + 1)).toNat < (gsl x1_l - (i_l : Int)).toNat := by omega
      have e5_l := g32_eq (v := (i_l : Int) + 1) (by omega) (by omega)
      rw [e5_l]
      clear e5_l
      refine gT_ite (fun hc_l => gT_ret ⟨⟨⟨rfl, rfl, rfl⟩, ⟨i_l + 1, rfl, hi1, fun j_l hj => ?_⟩, rfl⟩, hm_l⟩) (fun hc_l => gT_map (gT_ret ⟨rfl, hf, hwr, Or.inr ⟨rfl, fun z_l => hc_l ?_, hb_l⟩⟩))
      · by_cases ej : j_l = i_l
        · rw [ej, ← e13_l, hc_l, e15_l]
        · exact i3_l j_l (by omega)
      · rw [e13_l, z_l.2 i_l (by omega), e15_l]
    · extract_lets s16
      have k1_l : gI s16 217 11 = (k_l : Int) := rd_same (show s16 = gw s10 217 11 (k_l : Int) from rfl)
      have k2_l : gI s16 217 12 = gI s10 217 12 := rd_k (a := 217) (k := 12) (show s16 = gw s10 217 11 (k_l : Int) from rfl) (by decide)
      refine gT_ret ⟨rfl, Fm_w hf (Or.inl rfl), k2_l.trans hwr, Or.inl ⟨rfl, ⟨by omega, fun j_l hj => i3_l j_l (by omega)⟩, ?_⟩⟩
      dsimp only
      rw [k1_l]
      omega
  rw [hb_l]
  refine gT_loop (fun y_l => (y_l.1 = 217 ∧ y_l.2.1 = w) ∧ (∃ k_l : Nat, y_l.2.2.1 = (k_l : Int) ∧ f ≤ k_l ∧ k_l ≤ e ∧ lr L e k_l = lr L e f) ∧ y_l.2.2.2 = s1_l) (fun y_l => ((e : Int) - y_l.2.2.1).toNat) (fun y_l hy => ?_) ⟨⟨rfl, rfl⟩, ⟨f, rfl, Nat.le_refl _, hsk.2, rfl⟩, rfl⟩
  obtain ⟨x0_l, x1_l, x2_l, u_l⟩ := y_l
  obtain ⟨⟨q0, q1_l⟩, ⟨k_l, k1_l, k2_l, k3_l, k4_l⟩, q3_l⟩ := hy
  dsimp only at q0 q1_l k1_l q3_l
  subst q0 q1_l q3_l
  show gT (sb_171_9 217 x1_l x2_l u_l) _
  unfold sb_171_9
  rw [hu.1.1, k1_l]
  refine gT_ite (fun hx => ?_) (fun hx => gT_map (hcont k_l ?_))
  rotate_left
  · rw [← k4_l, lr_n (a := k_l) (by omega)]
  refine gT_v1 (A := fun v_l z_l => v_l = L k_l ∧ z_l = u_l) (w_168 hu (by omega)) (fun v4_l s3_l h3 => ?_)
  obtain ⟨e4_l, e3_l⟩ := h3
  subst e3_l
  refine gT_v1 (A := fun v_l z_l => ((v_l = 1 ∧ 97 ≤ v4_l ∧ v4_l ≤ 122) ∨ (v_l = 0 ∧ ¬ (97 ≤ v4_l ∧ v4_l ≤ 122))) ∧ z_l = s3_l) w_150 (fun v6 s5 h5 => ?_)
  obtain ⟨e6_l, e5_l⟩ := h5
  subst e5_l
  have hk1 : f ≤ k_l + 1 ∧ k_l + 1 ≤ e := by omega
  have hm_l : ((e : Int) - ((k_l : Int) + 1)).toNat < ((e : Int) - (k_l : Int)).toNat := by omega
  have g_l := g32_eq (v := (k_l : Int) + 1) (by omega) (by omega)
  rw [g_l]
  clear g_l
  refine gT_ite (fun hc_l => gT_map (hcont k_l ?_)) (fun hc_l => gT_ret ⟨⟨⟨rfl, rfl⟩, ⟨k_l + 1, rfl, hk1.1, hk1.2, ?_⟩, rfl⟩, hm_l⟩)
  · rw [← k4_l, lr_n (a := k_l) (by omega)]
  · rw [← k4_l, lr_s (a := k_l) (by omega)]
end Mo2

end
section
section Fi
variable {s s' : gS} {L : Nat → Int} {e a : Nat} {c x : Int}
theorem w_172 : gT (f_172 217 x s) (fun r => r.1 = 0 ∧ Fm s r.2.2.2 ∧ gI r.2.2.2 217 11 = gI s 217 11 ∧ gI r.2.2.2 217 12 = if gI s 217 12 = -1 then x else gI s 217 12) := by
  unfold f_172
  refine gT_ite (fun h0 => ?_) (fun h0 => gT_ret ⟨rfl, Fm_r s, rfl, by rw [if_neg h0]⟩)
  refine gT_ret ⟨rfl, Fm_w (Fm_r s) (Or.inr rfl), rd_k (a := 217) (k := 11) rfl (by decide), ?_⟩
  rw [if_pos h0]
  exact rd_same rfl
theorem w_173 (hM : Mp s L e) (ha : gI s 217 11 = (a : Int)) (hae : a ≤ e) : gT (f_173 217 s) (fun r => r.1 = 1 ∧ r.2.1 = ((sk L e a : Nat) : Int) ∧ Fm s r.2.2.2 ∧ gI r.2.2.2 217 12 = gI s 217 12 ∧ gI r.2.2.2 217 11 = ((sk L e a : Nat) : Int)) := by
  unfold f_173
  refine gT_v0 (A := fun u_l => Fm s u_l ∧ gI u_l 217 12 = gI s 217 12 ∧ gI u_l 217 11 = ((sk L e a : Nat) : Int)) (w_169 hM ha hae) (fun s1_l h1 => ?_)
  exact gT_ret ⟨rfl, h1.2.2, h1⟩
theorem w_174 {lo hi : Int} (hM : Mp s L e) (hL : ∀ k, 0 ≤ L k ∧ L k ≤ 255) (ha : gI s 217 11 = (a : Int)) (hae : a ≤ e) (hw : gI s 217 12 = -1) : gT (f_174 217 lo hi s) (fun r => r.1 = 1 ∧ Fm s r.2.2.2 ∧ ((Nm L e (sk L e a) lo hi ∧ r.2.1 = nv L (sk L e a) (dr L e (sk L e a) - sk L e a) ∧ gI r.2.2.2 217 12 = -1 ∧ gI r.2.2.2 217 11 = ((dr L e (sk L e a) : Nat) : Int)) ∨ (¬ Nm L e (sk L e a) lo hi ∧ gI r.2.2.2 217 12 = ((sk L e a : Nat) : Int)))) := by
  have h400 := hM.1.2
  have hsk := sk_b (L := L) (e := e) (a := a) hae
  unfold f_174
  rw [if_pos hw]
  refine gT_v1 (A := fun v_l u_l => v_l = ((sk L e a : Nat) : Int) ∧ Fm s u_l ∧ gI u_l 217 12 = gI s 217 12 ∧ gI u_l 217 11 = ((sk L e a : Nat) : Int)) (w_173 hM ha hae) (fun v2 s1_l h1 => ?_)
  generalize sk L e a = f at h1 hsk
  obtain ⟨e2_l, hf1, hw1, hb1⟩ := h1
  subst e2_l
  rw [hw] at hw1
  have q_l := drn_b (L := L) (e := e) e (a := f)
  have hend : ∀ (i_l : Nat) (x4_l : Int) (u_l : gS), Fm s u_l → gI u_l 217 12 = -1 → gI u_l 217 11 = ((f + i_l : Nat) : Int) → x4_l = nv L f i_l → i_l ≤ 4 → (dr L e f = f + i_l ∨ (i_l = 4 ∧ f + 4 ≤ dr L e f)) → gT (fb_174_89 217 lo hi (f : Int) x4_l u_l) (fun r => r.1 = 1 ∧ Fm s r.2.2.2 ∧ ((Nm L e f lo hi ∧ r.2.1 = nv L f (dr L e f - f) ∧ gI r.2.2.2 217 12 = -1 ∧ gI r.2.2.2 217 11 = ((dr L e f : Nat) : Int)) ∨ (¬ Nm L e f lo hi ∧ gI r.2.2.2 217 12 = (f : Int)))) := by
    intro i_l x4_l u_l hfu hwu hbu hx hi4 hd_l
    have hwrong : ¬ Nm L e f lo hi → gT (fb_174_119 217 (f : Int) x4_l u_l) (fun r => r.1 = 1 ∧ Fm s r.2.2.2 ∧ ((Nm L e f lo hi ∧ r.2.1 = nv L f (dr L e f - f) ∧ gI r.2.2.2 217 12 = -1 ∧ gI r.2.2.2 217 11 = ((dr L e f : Nat) : Int)) ∨ (¬ Nm L e f lo hi ∧ gI r.2.2.2 217 12 = (f : Int)))) := by
      intro hn
      unfold fb_174_119
      refine gT_v0 (A := fun z_l => Fm u_l z_l ∧ gI z_l 217 11 = gI u_l 217 11 ∧ gI z_l 217 12 = if gI u_l 217 12 = -1 then (f : Int) else gI u_l 217 12) w_172 (fun s8 h8 => ?_)
      refine gT_ret ⟨rfl, Fm_t hfu h8.1, Or.inr ⟨hn, ?_⟩⟩
      dsimp only
      rw [h8.2.2, if_pos hwu]
    unfold fb_174_89
    rw [hbu]
    have g1 := g32_eq (v := ((f + i_l : Nat) : Int) - (f : Int)) (by omega) (by omega)
    rw [g1]
    clear g1
    have hlead : f < e ∧ 48 ≤ L f ∧ L f ≤ 57 ∨ dr L e f = f := by
      by_cases c1_l : f < e ∧ 48 ≤ L f ∧ L f ≤ 57
      · exact Or.inl c1_l
      · exact Or.inr (dr_n c1_l)
    refine gT_ite (fun c1_l => ?_) (fun c1_l => ?_)
    · refine hwrong (fun z_l => ?_)
      have z1 := z_l.1
      have := dr_s z1
      have := drn_b (L := L) (e := e) e (a := f + 1)
      unfold dr at *
      omega
    refine gT_ite (fun c2_l => ?_) (fun c2_l => ?_)
    · refine hwrong (fun z_l => ?_)
      have := z_l.2.1
      omega
    have hdi : dr L e f = f + i_l := by omega
    have hi2 : dr L e f - f = i_l := by omega
    refine gT_ite (fun c3_l => ?_) (fun c3_l => ?_)
    · refine hwrong (fun z_l => ?_)
      have := z_l.2.2.1
      rw [hi2] at this
      omega
    refine gT_ite (fun c4_l => ?_) (fun c4_l => ?_)
    · refine hwrong (fun z_l => ?_)
      have := z_l.2.2.2
      rw [hi2] at this
      omega
    refine gT_ret ⟨rfl, hfu, Or.inl ⟨⟨hlead.resolve_right (by omega), by omega, by rw [hi2]; omega, by rw [hi2]; omega⟩, ?_, hwu, ?_⟩⟩
    · rw [hi2]; exact hx
    · rw [hdi]; exact hbu
  refine gT_loop (fun y_l => (y_l.1 = 217 ∧ y_l.2.1 = lo ∧ y_l.2.2.1 = hi ∧ y_l.2.2.2.1 = (f : Int)) ∧ (Fm s y_l.2.2.2.2.2 ∧ gI y_l.2.2.2.2.2 217 12 = -1) ∧ ∃ i_l : Nat, gI y_l.2.2.2.2.2 217 11 = ((f + i_l : Nat) : Int) ∧ y_l.2.2.2.2.1 = nv L f i_l ∧ i_l ≤ 4 ∧ f + i_l ≤ e ∧ dr L e (f + i_l) = dr L e f ∧ ∀ j_l, j_l < i_l → 48 ≤ L (f + j_l) ∧ L (f + j_l) ≤ 57) (fun y_l => (e - gI y_l.2.2.2.2.2 217 11).toNat) (fun y_l hy => ?_) ⟨⟨rfl, rfl, rfl, rfl⟩, ⟨hf1, hw1⟩, 0, hb1, rfl, by omega, by omega, rfl, fun j_l hj => by omega⟩
  obtain ⟨x0_l, x1_l, x2_l, x3, x4_l, u_l⟩ := y_l
  obtain ⟨⟨q0, q1_l, q2_l, q3_l⟩, ⟨hfu, hwu⟩, i_l, hbu, hx, hi4, hie, hdr, hdg⟩ := hy
  dsimp only at q0 q1_l q2_l q3_l hfu hwu hbu hx
  subst q0 q1_l q2_l q3_l
  have hu := Mp_fr hM hfu
  have qi := drn_b (L := L) (e := e) e (a := f + i_l)
  show gT (sb_174_18 217 x1_l x2_l (f : Int) x4_l u_l) _
  unfold sb_174_18
  rw [hbu, hu.1.1]
  refine gT_ite (fun hxe => ?_) (fun hxe => gT_map (hend i_l x4_l u_l hfu hwu hbu hx hi4 (Or.inl (by rw [← hdr, dr_n (a := f + i_l) (by omega)]))))
  refine gT_v1 (A := fun v_l z_l => v_l = L (f + i_l) ∧ z_l = u_l) (w_168 hu (by omega)) (fun v4_l s3_l h3 => ?_)
  obtain ⟨e4_l, e3_l⟩ := h3
  subst e3_l
  refine gT_v1 (A := fun v_l z_l => ((v_l = 1 ∧ 48 ≤ v4_l ∧ v4_l ≤ 57) ∨ (v_l = 0 ∧ ¬ (48 ≤ v4_l ∧ v4_l ≤ 57))) ∧ z_l = s3_l) w_150 (fun v6 s5 h5 => ?_)
  obtain ⟨e6_l, e5_l⟩ := h5
  subst e5_l
  refine gT_ite (fun hc_l => gT_map (hend i_l x4_l s5 hfu hwu hbu hx hi4 (Or.inl (by rw [← hdr, dr_n (a := f + i_l) (by omega)])))) (fun hc_l => ?_)
  have hdig : 48 ≤ L (f + i_l) ∧ L (f + i_l) ≤ 57 := by omega
  rw [hbu]
  have g1 := g32_eq (v := ((f + i_l : Nat) : Int) - (f : Int)) (by omega) (by omega)
  rw [g1]
  clear g1
  refine gT_ite (fun h3 => gT_map ?_) (fun h3 => ?_)
  · exact hend i_l x4_l s5 hfu hwu hbu hx hi4 (Or.inr ⟨by omega, by unfold dr at *; omega⟩)
  refine gT_v1 (A := fun v_l z_l => v_l = L (f + i_l) ∧ z_l = s5) (w_168 hu (by omega)) (fun v11 s10 h10 => ?_)
  obtain ⟨e11_l, e10_l⟩ := h10
  subst e10_l
  have nb := nv_b (L := L) (a := f) (n := i_l) (by omega) hdg
  have hi1 : i_l + 1 ≤ 4 ∧ f + (i_l + 1) ≤ e := by omega
  have hlt : f + i_l < e := by omega
  have hm_l : ((e : Int) - (((f + i_l : Nat) : Int) + 1)).toNat < ((e : Int) - ((f + i_l : Nat) : Int)).toNat := by omega
  have hv : 10 * x4_l + v11 - 48 = nv L f (i_l + 1) := by
    show _ = nv L f i_l * 10 + L (f + i_l) - 48
    omega
  have g2 := g32_eq (v := 10 * x4_l) (by omega) (by omega)
  have g3_l := g32_eq (v := 10 * x4_l + v11) (by omega) (by omega)
  have g4 := g32_eq (v := 10 * x4_l + v11 - 48) (by omega) (by omega)
  have g5_l := g32_eq (v := ((f + i_l : Nat) : Int) + 1) (by omega) (by omega)
  rw [hbu, g2, g3_l, g4, g5_l]
  clear g2 g3_l g4 g5_l
  have k1_l : gI (gw s10 217 11 (((f + i_l : Nat) : Int) + 1)) 217 11 = ((f + (i_l + 1) : Nat) : Int) := (rd_same rfl).trans rfl
  have k2_l : gI (gw s10 217 11 (((f + i_l : Nat) : Int) + 1)) 217 12 = gI s10 217 12 := rd_k (a := 217) (k := 12) rfl (by decide)
  refine gT_ret ⟨⟨⟨rfl, rfl, rfl, rfl⟩, ⟨Fm_w hfu (Or.inl rfl), k2_l.trans hwu⟩, i_l + 1, k1_l, hv, hi1.1, hi1.2, ?_, fun j_l hj => ?_⟩, ?_⟩
  · rw [← hdr, dr_s (a := f + i_l) ⟨hlt, hdig⟩]
    rfl
  · by_cases ej : j_l = i_l
    · rw [ej]; exact hdig
    · exact hdg j_l (by omega)
  · dsimp only
    rw [rd_same rfl]
    exact hm_l
end Fi

end
section
theorem gor_ge {x y : Int} (hx : 0 ≤ x ∧ x < 1073741824) (hy : 0 ≤ y ∧ y < 1073741824) : y ≤ gor x y := by
  have hb_l := gor_lt (x := x) (y := y) 30 (by decide) (by constructor <;> omega) (by constructor <;> omega)
  have h2 : y.toNat ≤ (Int32.ofInt x ||| Int32.ofInt y).toBitVec.toNat := by
    rw [Int32.toBitVec_or, BitVec.toNat_or, gON hx.1 (by omega), gON hy.1 (by omega)]
    exact Nat.right_le_or
  have h4 : (Int32.ofInt x ||| Int32.ofInt y).toBitVec.toNat < 2 ^ 30 := by
    rw [Int32.toBitVec_or, BitVec.toNat_or, gON hx.1 (by omega), gON hy.1 (by omega)]
    exact Nat.or_lt_two_pow (by omega) (by omega)
  have h3 := gBN (z := Int32.ofInt x ||| Int32.ofInt y) rfl (by omega)
  unfold gor
  rw [h3]
  omega
section Tr
variable {s s' : gS} {L : Nat → Int} {e f a : Nat}
/-- the set of n letters at a, and whether each is a trick's and new -/
noncomputable def tbs (L : Nat → Int) (a : Nat) : Nat → Int
  | 0 => 0
  | n + 1 => if L (a + n) - 97 < 6 then gor (tbs L a n) (gshl 1 (L (a + n) - 97)) else gor (tbs L a n) 0
noncomputable def tgd (L : Nat → Int) (a : Nat) : Nat → Prop
  | 0 => True
  | n + 1 => tgd L a n ∧ L (a + n) - 97 < 6 ∧ gand (gshr (tbs L a n) (L (a + n) - 97)) 1 = 0
/-- tricks stand at f -/
noncomputable def Tr (L : Nat → Int) (e f : Nat) : Prop := (f < e ∧ 97 ≤ L f ∧ L f ≤ 122) ∧ tgd L f (lr L e f - f)
theorem lrn_a (n : Nat) : ∀ {a : Nat}, ∀ i, a ≤ i → i < lrn L e n a → 97 ≤ L i ∧ L i ≤ 122 := by
  induction n with
  | zero => intro a i h1 h2; have : lrn L e 0 a = a := rfl; omega
  | succ n ih_l =>
    intro a i h1 h2
    have h2 : i < (if a < e ∧ 97 ≤ L a ∧ L a ≤ 122 then lrn L e n (a + 1) else a) := h2
    by_cases h : a < e ∧ 97 ≤ L a ∧ L a ≤ 122
    · rw [if_pos h] at h2
      by_cases e1 : i = a
      · rw [e1]; exact h.2
      · exact ih_l i (by omega) h2
    · rw [if_neg h] at h2
      omega
theorem tbs_b {n : Nat} (h : ∀ i, i < n → 97 ≤ L (a + i) ∧ L (a + i) ≤ 122) : 0 ≤ tbs L a n ∧ tbs L a n ≤ 63 := by
  induction n with
  | zero =>
    show (0 : Int) ≤ 0 ∧ (0 : Int) ≤ 63
    decide
  | succ n ih_l =>
    have q_l := ih_l (fun i hi_l => h i (by omega))
    have hl := h n (by omega)
    show 0 ≤ (if L (a + n) - 97 < 6 then gor (tbs L a n) (gshl 1 (L (a + n) - 97)) else gor (tbs L a n) 0) ∧ (if L (a + n) - 97 < 6 then gor (tbs L a n) (gshl 1 (L (a + n) - 97)) else gor (tbs L a n) 0) ≤ 63
    by_cases h6 : L (a + n) - 97 < 6
    · rw [if_pos h6]
      have b1 := gshl_5 (x := L (a + n) - 97) (by omega)
      have b2 := gor_lt (x := tbs L a n) (y := gshl 1 (L (a + n) - 97)) 6 (by decide) (by constructor <;> omega) (by constructor <;> omega)
      omega
    · rw [if_neg h6]
      have b3 := gor_lt (x := tbs L a n) (y := 0) 6 (by decide) (by constructor <;> omega) (by constructor <;> omega)
      omega
theorem tbs_1 {n : Nat} (h : ∀ i, i < n + 1 → 97 ≤ L (a + i) ∧ L (a + i) ≤ 122) (hg : tgd L a (n + 1)) : 1 ≤ tbs L a (n + 1) := by
  have hl := h n (by omega)
  have q_l := tbs_b (L := L) (a := a) (n := n) (fun i hi_l => h i (by omega))
  have h6 := hg.2.1
  show 1 ≤ (if L (a + n) - 97 < 6 then gor (tbs L a n) (gshl 1 (L (a + n) - 97)) else gor (tbs L a n) 0)
  rw [if_pos h6]
  have b1 := gshl_5 (x := L (a + n) - 97) (by omega)
  have b2 := gor_ge (x := tbs L a n) (y := gshl 1 (L (a + n) - 97)) (by omega) (by omega)
  omega
theorem tgd_le {n m : Nat} (h : tgd L a m) (hn : n ≤ m) : tgd L a n := by
  induction m with
  | zero => have : n = 0 := by omega
            rw [this]; trivial
  | succ m ih_l =>
    by_cases e1 : n = m + 1
    · rw [e1]; exact h
    · exact ih_l h.1 (by omega)
/-- takeTricks -/
theorem v_85 (h : At s L e f) : gT (f_85 1 s) (fun r => r.1 = 1 ∧ Fr s r.2.2.2 ∧ ((Tr L e f ∧ r.2.1 = tbs L f (lr L e f - f) ∧ At r.2.2.2 L e (nx L e f)) ∨ (¬ Tr L e f ∧ r.2.1 = -1 ∧ At r.2.2.2 L e f))) := by
  have hA := h
  obtain ⟨⟨t1_l, t2_l, t3_l, t4_l⟩, hf, h3, h2, h4⟩ := h
  have b_l := en_b (L := L) hf.1
  have la := lrn_a (L := L) (e := e) e (a := f)
  unfold f_85
  rw [h2, h3]
  refine gT_ite (fun hk => ?_) (fun hk => gT_ret ⟨rfl, Fr_r s, Or.inr ⟨fun z_l => hk ?_, rfl, hA⟩⟩)
  rotate_left
  · unfold kd
    rw [if_pos z_l.1.1, if_pos z_l.1.2]
  have hl : f < e ∧ 97 ≤ L f ∧ L f ≤ 122 := by
    unfold kd at hk
    by_cases c1_l : f < e
    · rw [if_pos c1_l] at hk
      by_cases c2_l : 97 ≤ L f ∧ L f ≤ 122
      · exact ⟨c1_l, c2_l⟩
      · rw [if_neg c2_l] at hk
        by_cases c3 : 48 ≤ L f ∧ L f ≤ 57
        · rw [if_pos c3] at hk; omega
        · rw [if_neg c3] at hk; omega
    · rw [if_neg c1_l] at hk; omega
  have he : en L e f = lr L e f := by
    unfold en
    rw [if_pos hl.1, if_pos hl.2, lr_s hl]
  have hlt : ∀ i_l, i_l < lr L e f - f → 97 ≤ L (f + i_l) ∧ L (f + i_l) ≤ 122 := fun i_l hi_l => la (f + i_l) (by omega) (by unfold lr at hi_l; omega)
  refine gT_loop (fun y_l => y_l.1 = 1 ∧ (∃ i_l : Nat, i_l ≤ lr L e f - f ∧ y_l.2.2.1 = (f : Int) + i_l ∧ y_l.2.1 = tbs L f i_l ∧ tgd L f i_l) ∧ y_l.2.2.2 = s) (fun y_l => ((e : Int) - y_l.2.2.1).toNat) (fun y_l hy => ?_) ⟨rfl, ⟨0, by omega, by dsimp only; omega, rfl, trivial⟩, rfl⟩
  obtain ⟨x0_l, x1_l, x2_l, u_l⟩ := y_l
  obtain ⟨q0, ⟨i_l, i1_l, i2_l, i3_l, i4_l⟩, q3_l⟩ := hy
  dsimp only at q0 i2_l i3_l q3_l
  subst q0 q3_l
  show gT (sb_85_17 1 x1_l x2_l u_l) _
  unfold sb_85_17
  rw [h4, t1_l, t4_l]
  refine gT_ite (fun h6 => ?_) (fun h6 => gT_map ?_)
  · refine gT_chk (by omega) (by omega) ?_
    have hd_l := hlt i_l (by omega)
    rw [show x2_l.toNat = f + i_l by omega]
    have g1 := g32_eq (v := L (f + i_l) - 97) (by omega) (by omega)
    have g4 := g32_eq (v := x2_l + 1) (by omega) (by omega)
    rw [g1, g4]
    extract_lets v1 v2
    have hv1 : v1 = L (f + i_l) - 97 := rfl
    refine gT_ite (fun c1_l => ?_) (fun c1_l => gT_map (gT_ret ⟨rfl, Fr_r u_l, Or.inr ⟨fun z_l => ?_, rfl, hA⟩⟩))
    rotate_left
    · have := (tgd_le z_l.2 (show i_l + 1 ≤ lr L e f - f by omega)).2.1
      omega
    refine gT_ite (fun c2_l => ?_) (fun c2_l => gT_map (gT_ret ⟨rfl, Fr_r u_l, Or.inr ⟨fun z_l => c2_l ?_, rfl, hA⟩⟩))
    rotate_left
    · rw [i3_l]
      exact (tgd_le z_l.2 (show i_l + 1 ≤ lr L e f - f by omega)).2.2
    refine gT_ret ⟨⟨rfl, ⟨i_l + 1, by omega, by dsimp only; omega, ?_, ⟨i4_l, c1_l, by rw [← i3_l]; exact c2_l⟩⟩, rfl⟩, by dsimp only; omega⟩
    show gor x1_l (gshl 1 v1) = (if L (f + i_l) - 97 < 6 then gor (tbs L f i_l) (gshl 1 (L (f + i_l) - 97)) else gor (tbs L f i_l) 0)
    rw [if_pos c1_l, i3_l, hv1]
  · have ei : i_l = lr L e f - f := by omega
    subst ei
    refine gT_v0 (A := fun o => Fr u_l o ∧ At o L e (nx L e f)) (v_adv hA) (fun s2_l k2_l => ?_)
    exact gT_ret ⟨rfl, k2_l.1, Or.inl ⟨⟨hl, i4_l⟩, i3_l, k2_l.2⟩⟩
end Tr

end
section
section Af
variable {s s' : gS} {L : Nat → Int} {e f a : Nat}
theorem en_w {w : Nat} (hw : 1 ≤ (gtx w).length) (h : Wd L e w f) : en L e f = f + (gtx w).length ∧ f < e := by
  have hl : f < e ∧ 97 ≤ L f ∧ L f ≤ 122 := by
    by_cases c : f < e ∧ 97 ≤ L f ∧ L f ≤ 122
    · exact c
    · have := h.1
      rw [lr_n c] at this; omega
  unfold en
  rw [if_pos hl.1, if_pos hl.2, ← lr_s hl]
  exact ⟨h.1, hl.1⟩
theorem en_d {lo hi : Int} (h : Nm L e f lo hi) : en L e f = dr L e f := by
  obtain ⟨⟨h1, h2⟩, -⟩ := h
  unfold en
  rw [if_pos h1, if_neg (by omega), if_pos h2, ← dr_s ⟨h1, h2⟩]
theorem en_t (h : Tr L e f) : en L e f = lr L e f := by
  obtain ⟨⟨h1, h2⟩, -⟩ := h
  unfold en
  rw [if_pos h1, if_pos h2, ← lr_s ⟨h1, h2⟩]
theorem w_174z {lo hi : Int} (hw : gI s 217 12 ≠ -1) : gT (f_174 217 lo hi s) (fun r => r.1 = 1 ∧ r.2.2.2 = s) := by
  unfold f_174
  rw [if_neg hw]
  exact gT_ret ⟨rfl, rfl⟩
theorem w_175 {w : Nat} {lo hi : Int} (hw1 : 1 ≤ (gtx w).length) (hM : Mp s L e) (hL : ∀ k, 0 ≤ L k ∧ L k ≤ 255) (ha : gI s 217 11 = (a : Int)) (hae : a ≤ e) (hw : gI s 217 12 = -1) (hf : f = sk L e a) : gT (f_175 217 w lo hi s) (fun r => r.1 = 1 ∧ Fm s r.2.2.2 ∧ ((Wd L e w f ∧ Nm L e (nx L e f) lo hi ∧ r.2.1 = nv L (nx L e f) (dr L e (nx L e f) - nx L e f) ∧ gI r.2.2.2 217 12 = -1 ∧ gI r.2.2.2 217 11 = ((dr L e (nx L e f) : Nat) : Int)) ∨ (¬ Wd L e w f ∧ gI r.2.2.2 217 12 = (f : Int)) ∨ (Wd L e w f ∧ ¬ Nm L e (nx L e f) lo hi ∧ gI r.2.2.2 217 12 = ((nx L e f : Nat) : Int)))) := by
  have hsk := sk_b (L := L) (e := e) (a := a) hae
  have h400 := hM.1.2
  unfold f_175
  rw [if_pos hw]
  refine gT_v1 (A := fun v_l u_l => Fm s u_l ∧ gI u_l 217 12 = gI s 217 12 ∧ ((v_l = 1 ∧ Wd L e w (sk L e a) ∧ gI u_l 217 11 = ((sk L e a + (gtx w).length : Nat) : Int)) ∨ (v_l = 0 ∧ ¬ Wd L e w (sk L e a) ∧ gI u_l 217 11 = ((sk L e a : Nat) : Int)))) (w_171 hw1 hM ha hae) (fun v2 s1_l h1 => ?_)
  rw [← hf] at h1 hsk
  obtain ⟨hf1, hw2, h1⟩ := h1
  have hM1 := Mp_fr hM hf1
  refine gT_ite (fun h0 => ?_) (fun h0 => ?_)
  · rcases h1 with ⟨z_l, -⟩ | ⟨-, hn, hb_l⟩
    · omega
    refine gT_v0 (A := fun u_l => Fm s1_l u_l ∧ gI u_l 217 11 = gI s1_l 217 11 ∧ gI u_l 217 12 = if gI s1_l 217 12 = -1 then gI s1_l 217 11 else gI s1_l 217 12) w_172 (fun s4_l h4 => ?_)
    have h12 : gI s4_l 217 12 = (f : Int) := by rw [h4.2.2, if_pos (hw2.trans hw), hb_l]
    unfold fb_175_24
    refine gT_v1 (A := fun _ u_l => u_l = s4_l) (w_174z (by omega)) (fun v7 s6_l e6_l => ?_)
    subst e6_l
    exact gT_ret ⟨rfl, Fm_t hf1 h4.1, Or.inr (Or.inl ⟨hn, h12⟩)⟩
  · rcases h1 with ⟨-, hwd, hb_l⟩ | ⟨z_l, -⟩
    · have en1 := en_w hw1 hwd
      have enb := en_b (L := L) (e := e) (f := f) hsk.2
      have hnx : nx L e f = sk L e (f + (gtx w).length) := by unfold nx; rw [en1.1]
      unfold fb_175_24
      refine gT_v1 (A := fun v_l u_l => Fm s1_l u_l ∧ ((Nm L e (sk L e (f + (gtx w).length)) lo hi ∧ v_l = nv L (sk L e (f + (gtx w).length)) (dr L e (sk L e (f + (gtx w).length)) - sk L e (f + (gtx w).length)) ∧ gI u_l 217 12 = -1 ∧ gI u_l 217 11 = ((dr L e (sk L e (f + (gtx w).length)) : Nat) : Int)) ∨ (¬ Nm L e (sk L e (f + (gtx w).length)) lo hi ∧ gI u_l 217 12 = ((sk L e (f + (gtx w).length) : Nat) : Int)))) (w_174 hM1 hL hb_l (by omega) (hw2.trans hw)) (fun v7 s6_l h6 => ?_)
      rw [← hnx] at h6
      rcases h6 with ⟨hf6, ⟨k1_l, k2_l, k3_l, k4_l⟩ | ⟨k1_l, k2_l⟩⟩
      · exact gT_ret ⟨rfl, Fm_t hf1 hf6, Or.inl ⟨hwd, k1_l, k2_l, k3_l, k4_l⟩⟩
      · exact gT_ret ⟨rfl, Fm_t hf1 hf6, Or.inr (Or.inr ⟨hwd, k1_l, k2_l⟩)⟩
    · omega
/-- numberBehind of the class -/
theorem v_13 {w : Nat} {lo hi : Int} (hw1 : 1 ≤ (gtx w).length) (h : At s L e f) (h6 : gR s 6 0 = 1) : gT (f_13 6 w lo hi s) (fun r => r.1 = 1 ∧ Fr s r.2.2.2 ∧ ((Wd L e w f ∧ Nm L e (nx L e f) lo hi ∧ r.2.1 = nv L (nx L e f) (dr L e (nx L e f) - nx L e f) ∧ At r.2.2.2 L e (nx L e (nx L e f))) ∨ (¬ Wd L e w f ∧ r.2.1 = -1 ∧ At r.2.2.2 L e f) ∨ (Wd L e w f ∧ ¬ Nm L e (nx L e f) lo hi ∧ r.2.1 = -1 ∧ At r.2.2.2 L e (nx L e f)))) := by
  unfold f_13
  rw [h6]
  refine gT_v1 (A := fun v_l u_l => Fr s u_l ∧ ((v_l = 1 ∧ Wd L e w f ∧ At u_l L e (nx L e f)) ∨ (v_l = 0 ∧ ¬ Wd L e w f ∧ At u_l L e f))) (v_82 hw1 h) (fun v2 s1_l h1 => ?_)
  obtain ⟨hf1, h1⟩ := h1
  refine gT_ite (fun h0 => ?_) (fun h0 => ?_)
  · rcases h1 with ⟨z_l, -⟩ | ⟨-, hn, hA⟩
    · omega
    exact gT_ret ⟨rfl, hf1, Or.inr (Or.inl ⟨hn, rfl, hA⟩)⟩
  · rcases h1 with ⟨-, hwd, hA⟩ | ⟨z_l, -⟩
    · rw [(hf1.1.2.2 6 0).trans h6]
      refine gT_v1 (A := fun v_l u_l => Fr s1_l u_l ∧ ((Nm L e (nx L e f) lo hi ∧ v_l = nv L (nx L e f) (dr L e (nx L e f) - nx L e f) ∧ At u_l L e (nx L e (nx L e f))) ∨ (¬ Nm L e (nx L e f) lo hi ∧ v_l = -1 ∧ At u_l L e (nx L e f)))) (v_84 hA) (fun v5 s4_l h4 => ?_)
      rcases h4 with ⟨hf4, ⟨k1_l, k2_l, k3_l⟩ | ⟨k1_l, k2_l, k3_l⟩⟩
      · exact gT_ret ⟨rfl, Fr_t hf1 hf4, Or.inl ⟨hwd, k1_l, k2_l, k3_l⟩⟩
      · exact gT_ret ⟨rfl, Fr_t hf1 hf4, Or.inr (Or.inr ⟨hwd, k1_l, k2_l, k3_l⟩)⟩
    · omega
end Af

end
section
section Le
variable {s s' : gS} {L : Nat → Int} {e f a : Nat}
theorem w_153 {x y : Int} : gT (f_153 x y s) (fun r => r.1 = 1 ∧ ((r.2.1 = 1 ∧ ¬ gand (gshr x y) 1 = 0) ∨ (r.2.1 = 0 ∧ gand (gshr x y) 1 = 0)) ∧ r.2.2.2 = s) := by
  have b_l := gand_le (x := gshr x y) (m := 1) (by decide) (by decide)
  unfold f_153
  exact gT_ite (fun h_l => gT_ret ⟨rfl, Or.inl ⟨rfl, by omega⟩, rfl⟩) (fun h_l => gT_ret ⟨rfl, Or.inr ⟨rfl, by omega⟩, rfl⟩)
/-- what lettersAfter does where nothing is wrong yet, behind the word -/
theorem w176_b (hM : Mp s L e) (ha : gI s 217 11 = (a : Int)) (hae : a ≤ e) (hw : gI s 217 12 = -1) (hf : f = sk L e a) : gT (fb_176_24 217 s) (fun r => r.1 = 1 ∧ Fm s r.2.2.2 ∧ ((Tr L e f ∧ r.2.1 = tbs L f (lr L e f - f) ∧ gI r.2.2.2 217 12 = -1 ∧ gI r.2.2.2 217 11 = ((lr L e f : Nat) : Int)) ∨ (¬ Tr L e f ∧ gI r.2.2.2 217 12 = (f : Int)))) := by
  have hsk := sk_b (L := L) (e := e) (a := a) hae
  have h400 := hM.1.2
  unfold fb_176_24
  rw [if_pos hw]
  refine gT_v1 (A := fun v_l u_l => v_l = ((sk L e a : Nat) : Int) ∧ Fm s u_l ∧ gI u_l 217 12 = gI s 217 12 ∧ gI u_l 217 11 = ((sk L e a : Nat) : Int)) (w_173 hM ha hae) (fun v7 s6_l h6 => ?_)
  rw [← hf] at h6 hsk
  obtain ⟨e7_l, hf6, hw6, hb6⟩ := h6
  rw [hw] at hw6
  have hend : ∀ (i_l : Nat) (x4_l : Int) (u_l : gS), Fm s u_l → gI u_l 217 12 = -1 → gI u_l 217 11 = ((f + i_l : Nat) : Int) → lr L e f = f + i_l → (∀ j_l, j_l < i_l → 97 ≤ L (f + j_l) ∧ L (f + j_l) ≤ 122) → ((x4_l = 1 ∧ tgd L f i_l) ∨ (x4_l = 0 ∧ ¬ tgd L f i_l)) → gT (fb_176_145 217 v7 (tbs L f i_l) x4_l u_l) (fun r => r.1 = 1 ∧ Fm s r.2.2.2 ∧ ((Tr L e f ∧ r.2.1 = tbs L f (lr L e f - f) ∧ gI r.2.2.2 217 12 = -1 ∧ gI r.2.2.2 217 11 = ((lr L e f : Nat) : Int)) ∨ (¬ Tr L e f ∧ gI r.2.2.2 217 12 = (f : Int)))) := by
    intro i_l x4_l u_l hfu hwu hbu hlr hlt hg
    have hi_l : lr L e f - f = i_l := by omega
    have hwrong : ¬ Tr L e f → gT (fb_176_154 217 v7 (tbs L f i_l) u_l) (fun r => r.1 = 1 ∧ Fm s r.2.2.2 ∧ ((Tr L e f ∧ r.2.1 = tbs L f (lr L e f - f) ∧ gI r.2.2.2 217 12 = -1 ∧ gI r.2.2.2 217 11 = ((lr L e f : Nat) : Int)) ∨ (¬ Tr L e f ∧ gI r.2.2.2 217 12 = (f : Int)))) := by
      intro hn
      unfold fb_176_154
      refine gT_v0 (A := fun z_l => Fm u_l z_l ∧ gI z_l 217 11 = gI u_l 217 11 ∧ gI z_l 217 12 = if gI u_l 217 12 = -1 then v7 else gI u_l 217 12) w_172 (fun s8 h8 => ?_)
      refine gT_ret ⟨rfl, Fm_t hfu h8.1, Or.inr ⟨hn, ?_⟩⟩
      dsimp only
      rw [h8.2.2, if_pos hwu, e7_l]
    unfold fb_176_145
    refine gT_ite (fun c1_l => hwrong (fun z_l => ?_)) (fun c1_l => ?_)
    · have := z_l.2
      rw [hi_l] at this
      rcases hg with ⟨g1, -⟩ | ⟨-, g2⟩
      · omega
      · exact g2 this
    have hgd : tgd L f i_l := by
      rcases hg with ⟨-, g2⟩ | ⟨g1, -⟩
      · exact g2
      · exact absurd g1 c1_l
    cases i_l with
    | zero =>
      refine gT_ite (fun c2_l => hwrong (fun z_l => ?_)) (fun c2_l => absurd rfl c2_l)
      have := lr_s z_l.1
      have := lrn_b (L := L) (e := e) e (a := f + 1)
      unfold lr at *
      omega
    | succ i_l =>
      have h1 := tbs_1 hlt hgd
      refine gT_ite (fun c2_l => by omega) (fun c2_l => ?_)
      have hl : f < e ∧ 97 ≤ L f ∧ L f ≤ 122 := by
        by_cases c : f < e ∧ 97 ≤ L f ∧ L f ≤ 122
        · exact c
        · rw [lr_n c] at hlr; omega
      refine gT_ret ⟨rfl, hfu, Or.inl ⟨⟨hl, by rw [hi_l]; exact hgd⟩, by rw [hi_l], hwu, by rw [hlr]; exact hbu⟩⟩
  refine gT_loop (fun y_l => (y_l.1 = 217 ∧ y_l.2.1 = v7) ∧ (Fm s y_l.2.2.2.2 ∧ gI y_l.2.2.2.2 217 12 = -1) ∧ ∃ i_l : Nat, gI y_l.2.2.2.2 217 11 = ((f + i_l : Nat) : Int) ∧ f + i_l ≤ e ∧ lr L e (f + i_l) = lr L e f ∧ (∀ j_l, j_l < i_l → 97 ≤ L (f + j_l) ∧ L (f + j_l) ≤ 122) ∧ y_l.2.2.1 = tbs L f i_l ∧ ((y_l.2.2.2.1 = 1 ∧ tgd L f i_l) ∨ (y_l.2.2.2.1 = 0 ∧ ¬ tgd L f i_l))) (fun y_l => (e - gI y_l.2.2.2.2 217 11).toNat) (fun y_l hy => ?_) ⟨⟨rfl, rfl⟩, ⟨hf6, hw6⟩, 0, hb6, by omega, rfl, fun j_l hj => by omega, rfl, Or.inl ⟨rfl, trivial⟩⟩
  obtain ⟨x0_l, x2_l, x3, x4_l, u_l⟩ := y_l
  obtain ⟨⟨q0, q1_l⟩, ⟨hfu, hwu⟩, i_l, hbu, hie, hlr, hlt, hx3, hg⟩ := hy
  dsimp only at q0 q1_l hfu hwu hbu hx3 hg
  subst q0 q1_l hx3
  have hu := Mp_fr hM hfu
  show gT (sb_176_44 217 x2_l (tbs L f i_l) x4_l u_l) _
  unfold sb_176_44
  rw [hbu, hu.1.1]
  refine gT_ite (fun hxe => ?_) (fun hxe => gT_map (hend i_l x4_l u_l hfu hwu hbu (by rw [← hlr, lr_n (a := f + i_l) (by omega)]) hlt hg))
  refine gT_v1 (A := fun v_l z_l => v_l = L (f + i_l) ∧ z_l = u_l) (w_168 hu (by omega)) (fun v9 s8 h8 => ?_)
  obtain ⟨e9_l, e8⟩ := h8
  subst e8
  refine gT_v1 (A := fun v_l z_l => ((v_l = 1 ∧ 97 ≤ v9 ∧ v9 ≤ 122) ∨ (v_l = 0 ∧ ¬ (97 ≤ v9 ∧ v9 ≤ 122))) ∧ z_l = s8) w_150 (fun v11 s10 h10 => ?_)
  obtain ⟨e11_l, e10_l⟩ := h10
  subst e10_l
  refine gT_ite (fun hc_l => gT_map (hend i_l x4_l s10 hfu hwu hbu (by rw [← hlr, lr_n (a := f + i_l) (by omega)]) hlt hg)) (fun hc_l => ?_)
  have hlet : 97 ≤ L (f + i_l) ∧ L (f + i_l) ≤ 122 := by omega
  rw [hbu]
  refine gT_v1 (A := fun v_l z_l => v_l = L (f + i_l) ∧ z_l = s10) (w_168 hu (by omega)) (fun v16 s15 h15 => ?_)
  obtain ⟨e16_l, e15_l⟩ := h15
  subst e15_l
  rw [g32_eq (v := v16 - 97) (by omega) (by omega)]
  have hnext : ∀ w0_l : Int, ((w0_l = 1 ∧ tgd L f (i_l + 1)) ∨ (w0_l = 0 ∧ ¬ tgd L f (i_l + 1))) → gT (fb_176_112 217 x2_l (tbs L f i_l) (v16 - 97) w0_l s15) (Sum.elim (fun y_l => ((y_l.1 = 217 ∧ y_l.2.1 = x2_l) ∧ (Fm s y_l.2.2.2.2 ∧ gI y_l.2.2.2.2 217 12 = -1) ∧ ∃ i_l : Nat, gI y_l.2.2.2.2 217 11 = ((f + i_l : Nat) : Int) ∧ f + i_l ≤ e ∧ lr L e (f + i_l) = lr L e f ∧ (∀ j_l, j_l < i_l → 97 ≤ L (f + j_l) ∧ L (f + j_l) ≤ 122) ∧ y_l.2.2.1 = tbs L f i_l ∧ ((y_l.2.2.2.1 = 1 ∧ tgd L f i_l) ∨ (y_l.2.2.2.1 = 0 ∧ ¬ tgd L f i_l))) ∧ ((e : Int) - gI y_l.2.2.2.2 217 11).toNat < ((e : Int) - ((f + i_l : Nat) : Int)).toNat) (fun r => r.1 = 1 ∧ Fm s r.2.2.2 ∧ ((Tr L e f ∧ r.2.1 = tbs L f (lr L e f - f) ∧ gI r.2.2.2 217 12 = -1 ∧ gI r.2.2.2 217 11 = ((lr L e f : Nat) : Int)) ∨ (¬ Tr L e f ∧ gI r.2.2.2 217 12 = (f : Int))))) := by
    intro w0_l hw0
    have k1_l : gI (gw s15 217 11 (((f + i_l : Nat) : Int) + 1)) 217 11 = ((f + (i_l + 1) : Nat) : Int) := (rd_same rfl).trans (by omega)
    have k2_l : gI (gw s15 217 11 (((f + i_l : Nat) : Int) + 1)) 217 12 = gI s15 217 12 := rd_k (a := 217) (k := 12) rfl (by decide)
    have h130 : ∀ z_l : Int, gor (tbs L f i_l) z_l = tbs L f (i_l + 1) → gT (fb_176_130 217 x2_l w0_l z_l (tbs L f i_l) s15) (Sum.elim (fun y_l => ((y_l.1 = 217 ∧ y_l.2.1 = x2_l) ∧ (Fm s y_l.2.2.2.2 ∧ gI y_l.2.2.2.2 217 12 = -1) ∧ ∃ i_l : Nat, gI y_l.2.2.2.2 217 11 = ((f + i_l : Nat) : Int) ∧ f + i_l ≤ e ∧ lr L e (f + i_l) = lr L e f ∧ (∀ j_l, j_l < i_l → 97 ≤ L (f + j_l) ∧ L (f + j_l) ≤ 122) ∧ y_l.2.2.1 = tbs L f i_l ∧ ((y_l.2.2.2.1 = 1 ∧ tgd L f i_l) ∨ (y_l.2.2.2.1 = 0 ∧ ¬ tgd L f i_l))) ∧ ((e : Int) - gI y_l.2.2.2.2 217 11).toNat < ((e : Int) - ((f + i_l : Nat) : Int)).toNat) (fun r => r.1 = 1 ∧ Fm s r.2.2.2 ∧ ((Tr L e f ∧ r.2.1 = tbs L f (lr L e f - f) ∧ gI r.2.2.2 217 12 = -1 ∧ gI r.2.2.2 217 11 = ((lr L e f : Nat) : Int)) ∨ (¬ Tr L e f ∧ gI r.2.2.2 217 12 = (f : Int))))) := by
      intro z_l hz
      unfold fb_176_130
      have hie2 : f + (i_l + 1) ≤ e := by omega
      have hms : ((e : Int) - ((f + (i_l + 1) : Nat) : Int)).toNat < ((e : Int) - ((f + i_l : Nat) : Int)).toNat := by omega
      rw [hbu, g32_eq (v := ((f + i_l : Nat) : Int) + 1) (by omega) (by omega)]
      refine gT_ret ⟨⟨⟨rfl, rfl⟩, ⟨Fm_w hfu (Or.inl rfl), k2_l.trans hwu⟩, i_l + 1, k1_l, hie2, ?_, fun j_l hj => ?_, hz, hw0⟩, ?_⟩
      · rw [← hlr, lr_s (a := f + i_l) ⟨by omega, hlet⟩]
        rfl
      · by_cases ej : j_l = i_l
        · rw [ej]; exact hlet
        · exact hlt j_l (by omega)
      · show ((e : Int) - gI (gw s15 217 11 (((f + i_l : Nat) : Int) + 1)) 217 11).toNat < ((e : Int) - ((f + i_l : Nat) : Int)).toNat
        rw [k1_l]
        exact hms
    unfold fb_176_112
    refine gT_ite (fun c6_l => h130 _ ?_) (fun c6_l => h130 _ ?_)
    · show _ = (if L (f + i_l) - 97 < 6 then gor (tbs L f i_l) (gshl 1 (L (f + i_l) - 97)) else gor (tbs L f i_l) 0)
      rw [if_pos (by omega), e16_l]
    · show _ = (if L (f + i_l) - 97 < 6 then gor (tbs L f i_l) (gshl 1 (L (f + i_l) - 97)) else gor (tbs L f i_l) 0)
      rw [if_neg (by omega)]
  refine gT_ite (fun c4_l => hnext 0 (Or.inr ⟨rfl, fun z_l => ?_⟩)) (fun c4_l => ?_)
  · rcases hg with ⟨g2, -⟩ | ⟨-, g2⟩
    · omega
    · exact g2 z_l.1
  have hgd : tgd L f i_l := by
    rcases hg with ⟨-, g2⟩ | ⟨g2, -⟩
    · exact g2
    · exact absurd g2 c4_l
  refine gT_ite (fun c6_l => ?_) (fun c6_l => hnext 0 (Or.inr ⟨rfl, fun z_l => by have := z_l.2.1; omega⟩))
  refine gT_v1 (A := fun v_l z_l => ((v_l = 1 ∧ ¬ gand (gshr (tbs L f i_l) (v16 - 97)) 1 = 0) ∨ (v_l = 0 ∧ gand (gshr (tbs L f i_l) (v16 - 97)) 1 = 0)) ∧ z_l = s15) w_153 (fun v19 s18 h18 => ?_)
  obtain ⟨e19_l, e18_l⟩ := h18
  subst e18_l
  refine gT_ite (fun c7_l => hnext 1 (Or.inl ⟨rfl, hgd, by omega, ?_⟩)) (fun c7_l => hnext 0 (Or.inr ⟨rfl, fun z_l => ?_⟩))
  · rcases e19_l with ⟨z1, -⟩ | ⟨-, z2⟩
    · omega
    · rw [← e16_l]; exact z2
  · rcases e19_l with ⟨-, z2⟩ | ⟨z1, -⟩
    · exact z2 (by rw [e16_l]; exact z_l.2.2)
    · omega
end Le

end
section
section Bh
variable {s s' : gS} {L : Nat → Int} {e f a : Nat}
theorem w_176 {w : Nat} (hw1 : 1 ≤ (gtx w).length) (hM : Mp s L e) (ha : gI s 217 11 = (a : Int)) (hae : a ≤ e) (hw : gI s 217 12 = -1) (hf : f = sk L e a) : gT (f_176 217 w s) (fun r => r.1 = 1 ∧ Fm s r.2.2.2 ∧ ((Wd L e w f ∧ Tr L e (nx L e f) ∧ r.2.1 = tbs L (nx L e f) (lr L e (nx L e f) - nx L e f) ∧ gI r.2.2.2 217 12 = -1 ∧ gI r.2.2.2 217 11 = ((lr L e (nx L e f) : Nat) : Int)) ∨ (¬ Wd L e w f ∧ gI r.2.2.2 217 12 = (f : Int)) ∨ (Wd L e w f ∧ ¬ Tr L e (nx L e f) ∧ gI r.2.2.2 217 12 = ((nx L e f : Nat) : Int)))) := by
  have hsk := sk_b (L := L) (e := e) (a := a) hae
  have h400 := hM.1.2
  unfold f_176
  rw [if_pos hw]
  refine gT_v1 (A := fun v_l u_l => Fm s u_l ∧ gI u_l 217 12 = gI s 217 12 ∧ ((v_l = 1 ∧ Wd L e w (sk L e a) ∧ gI u_l 217 11 = ((sk L e a + (gtx w).length : Nat) : Int)) ∨ (v_l = 0 ∧ ¬ Wd L e w (sk L e a) ∧ gI u_l 217 11 = ((sk L e a : Nat) : Int)))) (w_171 hw1 hM ha hae) (fun v2 s1_l h1 => ?_)
  rw [← hf] at h1 hsk
  obtain ⟨hf1, hw2, h1⟩ := h1
  have hM1 := Mp_fr hM hf1
  refine gT_ite (fun h0 => ?_) (fun h0 => ?_)
  · rcases h1 with ⟨z_l, -⟩ | ⟨-, hn, hb_l⟩
    · omega
    refine gT_v0 (A := fun u_l => Fm s1_l u_l ∧ gI u_l 217 11 = gI s1_l 217 11 ∧ gI u_l 217 12 = if gI s1_l 217 12 = -1 then gI s1_l 217 11 else gI s1_l 217 12) w_172 (fun s4_l h4 => ?_)
    have h12 : gI s4_l 217 12 = (f : Int) := by rw [h4.2.2, if_pos (hw2.trans hw), hb_l]
    unfold fb_176_24
    rw [if_neg (by omega)]
    exact gT_ret ⟨rfl, Fm_t hf1 h4.1, Or.inr (Or.inl ⟨hn, h12⟩)⟩
  · rcases h1 with ⟨-, hwd, hb_l⟩ | ⟨z_l, -⟩
    · have en1 := en_w hw1 hwd
      have enb := en_b (L := L) (e := e) (f := f) hsk.2
      have hnx : nx L e f = sk L e (f + (gtx w).length) := by unfold nx; rw [en1.1]
      refine gT_mono (w176_b hM1 hb_l (by omega) (hw2.trans hw) hnx) (fun r hr => ?_)
      rcases hr with ⟨h9, hf6, ⟨k1_l, k2_l, k3_l, k4_l⟩ | ⟨k1_l, k2_l⟩⟩
      · exact ⟨h9, Fm_t hf1 hf6, Or.inl ⟨hwd, k1_l, k2_l, k3_l, k4_l⟩⟩
      · exact ⟨h9, Fm_t hf1 hf6, Or.inr (Or.inr ⟨hwd, k1_l, k2_l⟩)⟩
    · omega
theorem v_14 {w : Nat} (hw1 : 1 ≤ (gtx w).length) (h : At s L e f) (h6 : gR s 6 0 = 1) : gT (f_14 6 w s) (fun r => r.1 = 1 ∧ Fr s r.2.2.2 ∧ ((Wd L e w f ∧ Tr L e (nx L e f) ∧ r.2.1 = tbs L (nx L e f) (lr L e (nx L e f) - nx L e f) ∧ At r.2.2.2 L e (nx L e (nx L e f))) ∨ (¬ Wd L e w f ∧ r.2.1 = -1 ∧ At r.2.2.2 L e f) ∨ (Wd L e w f ∧ ¬ Tr L e (nx L e f) ∧ r.2.1 = -1 ∧ At r.2.2.2 L e (nx L e f)))) := by
  unfold f_14
  rw [h6]
  refine gT_v1 (A := fun v_l u_l => Fr s u_l ∧ ((v_l = 1 ∧ Wd L e w f ∧ At u_l L e (nx L e f)) ∨ (v_l = 0 ∧ ¬ Wd L e w f ∧ At u_l L e f))) (v_82 hw1 h) (fun v2 s1_l h1 => ?_)
  obtain ⟨hf1, h1⟩ := h1
  refine gT_ite (fun h0 => ?_) (fun h0 => ?_)
  · rcases h1 with ⟨z_l, -⟩ | ⟨-, hn, hA⟩
    · omega
    exact gT_ret ⟨rfl, hf1, Or.inr (Or.inl ⟨hn, rfl, hA⟩)⟩
  · rcases h1 with ⟨-, hwd, hA⟩ | ⟨z_l, -⟩
    · rw [(hf1.1.2.2 6 0).trans h6]
      refine gT_v1 (A := fun v_l u_l => Fr s1_l u_l ∧ ((Tr L e (nx L e f) ∧ v_l = tbs L (nx L e f) (lr L e (nx L e f) - nx L e f) ∧ At u_l L e (nx L e (nx L e f))) ∨ (¬ Tr L e (nx L e f) ∧ v_l = -1 ∧ At u_l L e (nx L e f)))) (v_85 hA) (fun v5 s4_l h4 => ?_)
      rcases h4 with ⟨hf4, ⟨k1_l, k2_l, k3_l⟩ | ⟨k1_l, k2_l, k3_l⟩⟩
      · exact gT_ret ⟨rfl, Fr_t hf1 hf4, Or.inl ⟨hwd, k1_l, k2_l, k3_l⟩⟩
      · exact gT_ret ⟨rfl, Fr_t hf1 hf4, Or.inr (Or.inr ⟨hwd, k1_l, k2_l, k3_l⟩)⟩
    · omega
end Bh

end
