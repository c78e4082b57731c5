/-- the kind of the thing that begins at a, and its end -/
def kd (L : Nat → Int) (e a : Nat) : Int := if a < e then (if 97 ≤ L a ∧ L a ≤ 122 then 1 else if 48 ≤ L a ∧ L a ≤ 57 then 2 else 3) else 0
def lr (L : Nat → Int) (e a : Nat) : Nat := lrn L e e a
def dr (L : Nat → Int) (e a : Nat) : Nat := drn L e e a
def en (L : Nat → Int) (e a : Nat) : Nat := if a < e then (if 97 ≤ L a ∧ L a ≤ 122 then lr L e (a + 1) else if 48 ≤ L a ∧ L a ≤ 57 then dr L e (a + 1) else a + 1) else a
section Tk
variable {p : gP} {s s' : gS} {L : Nat → Int} {e : Nat}
theorem gT_both {Q : Type} {x : Option Q} {P P' : Q → Prop} (h : gT x P) (h' : gT x P') : gT x (fun r => P r ∧ P' r) := by
  obtain ⟨r, h1, h2⟩ := h
  obtain ⟨r', h3, h4⟩ := h'
  rw [h1] at h3
  cases h3
  exact ⟨r, h1, h2, h4⟩
theorem lrn_f (n : Nat) : ∀ {m a : Nat}, e ≤ a + n → e ≤ a + m → lrn L e n a = lrn L e m a := by
  induction n with
  | zero =>
    intro m a h1 h2
    cases m with
    | zero => rfl
    | succ m =>
      show a = if a < e ∧ 97 ≤ L a ∧ L a ≤ 122 then lrn L e m (a + 1) else a
      rw [if_neg (by omega)]
  | succ n ih_l =>
    intro m a h1 h2
    cases m with
    | zero =>
      show (if a < e ∧ 97 ≤ L a ∧ L a ≤ 122 then lrn L e n (a + 1) else a) = a
      rw [if_neg (by omega)]
    | succ m =>
      show (if a < e ∧ 97 ≤ L a ∧ L a ≤ 122 then lrn L e n (a + 1) else a) = (if a < e ∧ 97 ≤ L a ∧ L a ≤ 122 then lrn L e m (a + 1) else a)
      by_cases h : a < e ∧ 97 ≤ L a ∧ L a ≤ 122
      · rw [if_pos h, if_pos h]
        exact ih_l (by omega) (by omega)
      · rw [if_neg h, if_neg h]
theorem drn_f (n : Nat) : ∀ {m a : Nat}, e ≤ a + n → e ≤ a + m → drn L e n a = drn L e m a := by
  induction n with
  | zero =>
    intro m a h1 h2
    cases m with
    | zero => rfl
    | succ m =>
      show a = if a < e ∧ 48 ≤ L a ∧ L a ≤ 57 then drn L e m (a + 1) else a
      rw [if_neg (by omega)]
  | succ n ih_l =>
    intro m a h1 h2
    cases m with
    | zero =>
      show (if a < e ∧ 48 ≤ L a ∧ L a ≤ 57 then drn L e n (a + 1) else a) = a
      rw [if_neg (by omega)]
    | succ m =>
      show (if a < e ∧ 48 ≤ L a ∧ L a ≤ 57 then drn L e n (a + 1) else a) = (if a < e ∧ 48 ≤ L a ∧ L a ≤ 57 then drn L e m (a + 1) else a)
      by_cases h : a < e ∧ 48 ≤ L a ∧ L a ≤ 57
      · rw [if_pos h, if_pos h]
        exact ih_l (by omega) (by omega)
      · rw [if_neg h, if_neg h]
theorem lr_s {a : Nat} (h : a < e ∧ 97 ≤ L a ∧ L a ≤ 122) : lr L e a = lr L e (a + 1) := by
  unfold lr
  cases e with
  | zero => omega
  | succ e =>
    show (if a < e + 1 ∧ 97 ≤ L a ∧ L a ≤ 122 then lrn L (e + 1) e (a + 1) else a) = _
    rw [if_pos h]
    exact lrn_f e (by omega) (by omega)
theorem lr_n {a : Nat} (h : ¬ (a < e ∧ 97 ≤ L a ∧ L a ≤ 122)) : lr L e a = a := by
  unfold lr
  cases e with
  | zero => rfl
  | succ e =>
    show (if a < e + 1 ∧ 97 ≤ L a ∧ L a ≤ 122 then lrn L (e + 1) e (a + 1) else a) = _
    rw [if_neg h]
theorem dr_s {a : Nat} (h : a < e ∧ 48 ≤ L a ∧ L a ≤ 57) : dr L e a = dr L e (a + 1) := by
  unfold dr
  cases e with
  | zero => omega
  | succ e =>
    show (if a < e + 1 ∧ 48 ≤ L a ∧ L a ≤ 57 then drn L (e + 1) e (a + 1) else a) = _
    rw [if_pos h]
    exact drn_f e (by omega) (by omega)
theorem dr_n {a : Nat} (h : ¬ (a < e ∧ 48 ≤ L a ∧ L a ≤ 57)) : dr L e a = a := by
  unfold dr
  cases e with
  | zero => rfl
  | succ e =>
    show (if a < e + 1 ∧ 48 ≤ L a ∧ L a ≤ 57 then drn L (e + 1) e (a + 1) else a) = _
    rw [if_neg h]
/-- what is known of the tape -/
def Tp (s : gS) (L : Nat → Int) (e : Nat) : Prop := gR s 1 0 = 2 ∧ gI s 1 1 = (e : Int) ∧ e ≤ 400 ∧ ∀ j, gI s 2 j = L j
theorem Tp_fr (h : Tp s L e) (hf : Fr s s') : Tp s' L e := ⟨(hf.1.2.2 1 0).trans h.1, (hf.2 1 1 (by decide)).trans h.2.1, h.2.2.1, fun j_l => (hf.2 2 j_l (by omega)).trans (h.2.2.2 j_l)⟩
theorem t10 : T 10 1 := ⟨by decide, by decide +kernel⟩
/-- the run behind the first letter or figure -/
theorem v78_r {x4 x5 : Int} {K : Int} {F R : Int} (rn : Nat → Nat) (hs : ∀ a : Nat, a < e ∧ x4 ≤ L a ∧ L a ≤ x5 → rn a = rn (a + 1)) (hn : ∀ a : Nat, ¬ (a < e ∧ x4 ≤ L a ∧ L a ≤ x5) → rn a = a) (hT : Tp s L e) {u : gS} {a : Nat} (hf : Fr s u) (h2 : gI u 1 2 = K) (hK : K ≠ 3) (h3 : gI u 1 3 = F) (h4 : gI u 1 4 = (a : Int)) (ha : a ≤ e) (hr : ((rn a : Nat) : Int) = R) : gT (gloop st_78_174 (1, x4, x5, u)) (fun r => r.1 = 0 ∧ Fr s r.2.2.2 ∧ gI r.2.2.2 1 2 = K ∧ gI r.2.2.2 1 3 = F ∧ gI r.2.2.2 1 4 = R) := by
  refine gT_loop (fun y_l => (y_l.1 = 1 ∧ y_l.2.1 = x4 ∧ y_l.2.2.1 = x5) ∧ Fr s y_l.2.2.2 ∧ gI y_l.2.2.2 1 2 = K ∧ gI y_l.2.2.2 1 3 = F ∧ ∃ a : Nat, gI y_l.2.2.2 1 4 = (a : Int) ∧ a ≤ e ∧ ((rn a : Nat) : Int) = R) (fun y_l => (e - gI y_l.2.2.2 1 4).toNat) (fun y_l hy => ?_) ⟨⟨rfl, rfl, rfl⟩, hf, h2, h3, a, h4, ha, hr⟩
  obtain ⟨y0, y4, y5, w_l⟩ := y_l
  obtain ⟨⟨q0, q4_l, q5_l⟩, hf, h2, h3, b_l, h4, hb_l, hr⟩ := hy
  dsimp only at q0 q4_l q5_l hf h2 h3 h4
  subst q0 q4_l q5_l
  obtain ⟨t1_l, t2_l, t3_l, t4_l⟩ := Tp_fr hT hf
  show gT (sb_78_174 1 y4 y5 w_l) _
  unfold sb_78_174
  rw [h2, if_neg hK, h4, t1_l, t2_l, t4_l]
  have hex_l : ¬ (b_l < e ∧ y4 ≤ L b_l ∧ L b_l ≤ y5) → gI w_l 1 4 = R := fun hc_l => by rw [h4, ← hr, hn b_l hc_l]
  refine gT_ite (fun hl => ?_) (fun hl => gT_map (gT_ret ⟨rfl, hf, h2, h3, hex_l (by omega)⟩))
  rw [Int.toNat_natCast]
  have hb1 : b_l < e := by omega
  have hm_l : ((e : Int) - ((b_l : Int) + 1)).toNat < ((e : Int) - (b_l : Int)).toNat := by omega
  refine gT_chk (by omega) (by omega) ?_
  refine gT_ite (fun c1_l => gT_map (gT_ret ⟨rfl, hf, h2, h3, hex_l (by omega)⟩)) (fun c1_l => ?_)
  refine gT_chk (by omega) (by omega) ?_
  refine gT_ite (fun c2_l => gT_map (gT_ret ⟨rfl, hf, h2, h3, hex_l (by omega)⟩)) (fun c2_l => ?_)
  have g_l := g32_eq (v := (b_l : Int) + 1) (by omega) (by omega)
  extract_lets s7
  have k4_l : gI s7 1 4 = ((b_l + 1 : Nat) : Int) := by
    rw [rd_same (show s7 = gw w_l 1 4 (g32 ((b_l : Int) + 1)) from rfl), g_l]
    rfl
  have k2_l : gI s7 1 2 = gI w_l 1 2 := rd_k (a := 1) (k := 2) (show s7 = gw w_l 1 4 (g32 ((b_l : Int) + 1)) from rfl) (by decide)
  have k3_l : gI s7 1 3 = gI w_l 1 3 := rd_k (a := 1) (k := 3) (show s7 = gw w_l 1 4 (g32 ((b_l : Int) + 1)) from rfl) (by decide)
  have f7_l : Fr s s7 := Fr_w hf t10 (by decide)
  clear_value s7
  refine gT_ret ⟨⟨⟨rfl, rfl, rfl⟩, f7_l, k2_l.trans h2, k3_l.trans h3, b_l + 1, k4_l, hb1, ?_⟩, ?_⟩
  · rw [← hr, hs b_l ⟨hb1, by omega, by omega⟩]
  · dsimp only
    rw [k4_l]
    exact hm_l
theorem v78_k {w : gS} {b : Nat} {x2 K : Int} (hT : Tp s L e) (hf : Fr s w) (h3 : gI w 1 3 = (b : Int)) (h4 : gI w 1 4 = (b : Int)) (hb : b < e) (hK : (x2 = 0 → (K = 2 ∧ 48 ≤ L b ∧ L b ≤ 57) ∨ (K = 3 ∧ ¬ (97 ≤ L b ∧ L b ≤ 122) ∧ ¬ (48 ≤ L b ∧ L b ≤ 57))) ∧ (x2 ≠ 0 → K = 1 ∧ 97 ≤ L b ∧ L b ≤ 122)) : gT (fb_78_135 1 x2 K 1 w) (fun r => r.1 = 0 ∧ Fr s r.2.2.2 ∧ gI r.2.2.2 1 3 = (b : Int) ∧ gI r.2.2.2 1 2 = kd L e b ∧ gI r.2.2.2 1 4 = ((en L e b : Nat) : Int)) := by
  have h400 := hT.2.2.1
  unfold fb_78_135
  extract_lets s5 s6
  have a4 : gI s5 1 4 = gI w 1 4 := rd_k (a := 1) (k := 4) (show s5 = gw w 1 2 K from rfl) (by decide)
  have g_l := g32_eq (v := gI s5 1 4 + 1) (by omega) (by omega)
  have b2 : gI s6 1 2 = K := (rd_k (a := 1) (k := 2) (show s6 = gw s5 1 4 (g32 (gI s5 1 4 + 1)) from rfl) (by decide)).trans (rd_same (show s5 = gw w 1 2 K from rfl))
  have b3 : gI s6 1 3 = (b : Int) := ((rd_k (a := 1) (k := 3) (show s6 = gw s5 1 4 (g32 (gI s5 1 4 + 1)) from rfl) (by decide)).trans (rd_k (a := 1) (k := 3) (show s5 = gw w 1 2 K from rfl) (by decide))).trans h3
  have b4 : gI s6 1 4 = ((b + 1 : Nat) : Int) := by
    rw [rd_same (show s6 = gw s5 1 4 (g32 (gI s5 1 4 + 1)) from rfl), g_l, a4, h4]
    rfl
  have f6_l : Fr s s6 := Fr_w (Fr_w hf t10 (by decide)) t10 (by decide)
  clear_value s5 s6
  have hl : x2 ≠ 0 → gT (gloop st_78_174 (1, 97, 122, s6)) (fun r => r.1 = 0 ∧ Fr s r.2.2.2 ∧ gI r.2.2.2 1 3 = (b : Int) ∧ gI r.2.2.2 1 2 = kd L e b ∧ gI r.2.2.2 1 4 = ((en L e b : Nat) : Int)) := fun hx => by
    obtain ⟨k1_l, k2_l⟩ := hK.2 hx
    refine gT_mono (v78_r (lr L e) (fun a_l h_l => lr_s h_l) (fun a_l h_l => lr_n h_l) hT f6_l b2 (by omega) b3 b4 (by omega) (R := ((en L e b : Nat) : Int)) (by unfold en; rw [if_pos hb, if_pos k2_l])) (fun r hr => ⟨hr.1, hr.2.1, hr.2.2.2.1, ?_, hr.2.2.2.2⟩)
    rw [hr.2.2.1, k1_l]
    unfold kd
    rw [if_pos hb, if_pos k2_l]
  have hd_l : x2 = 0 → gT (gloop st_78_174 (1, 48, 57, s6)) (fun r => r.1 = 0 ∧ Fr s r.2.2.2 ∧ gI r.2.2.2 1 3 = (b : Int) ∧ gI r.2.2.2 1 2 = kd L e b ∧ gI r.2.2.2 1 4 = ((en L e b : Nat) : Int)) := fun hx => by
    rcases hK.1 hx with ⟨k1_l, k2_l⟩ | ⟨k1_l, k2_l, k3_l⟩
    · refine gT_mono (v78_r (dr L e) (fun a_l h_l => dr_s h_l) (fun a_l h_l => dr_n h_l) hT f6_l b2 (by omega) b3 b4 (by omega) (R := ((en L e b : Nat) : Int)) (by unfold en; rw [if_pos hb, if_neg (by omega), if_pos k2_l])) (fun r hr => ⟨hr.1, hr.2.1, hr.2.2.2.1, ?_, hr.2.2.2.2⟩)
      rw [hr.2.2.1, k1_l]
      unfold kd
      rw [if_pos hb, if_neg (by omega), if_pos k2_l]
    · refine gT_loop (fun y_l => y_l = (1, 48, 57, s6)) (fun _ => 0) (fun y_l hy => ?_) rfl
      subst hy
      show gT (sb_78_174 1 48 57 s6) _
      unfold sb_78_174
      rw [b2, if_pos k1_l]
      refine gT_map (gT_ret ⟨rfl, f6_l, b3, ?_, ?_⟩)
      · dsimp only
        unfold kd
        rw [if_pos hb, if_neg k2_l, if_neg k3_l, b2, k1_l]
      · dsimp only
        unfold en
        rw [if_pos hb, if_neg k2_l, if_neg k3_l, b4]
  refine gT_ite (fun hx => ?_) (fun hx => ?_)
  · unfold fb_78_159
    exact gT_ite (fun _ => hd_l hx) (fun h_l => absurd hx h_l)
  · unfold fb_78_159
    exact gT_ite (fun h_l => absurd h_l hx) (fun _ => hl hx)
theorem v_78 (hT : Tp s L e) {a : Nat} (h4 : gI s 1 4 = (a : Int)) (ha : a ≤ e) : gT (f_78 1 s) (fun r => r.1 = 0 ∧ Fr s r.2.2.2 ∧ gI r.2.2.2 1 3 = ((sk L e a : Nat) : Int) ∧ gI r.2.2.2 1 2 = kd L e (sk L e a) ∧ gI r.2.2.2 1 4 = ((en L e (sk L e a) : Nat) : Int)) := by
  have h400 := hT.2.2.1
  unfold f_78
  extract_lets s1
  have f1_l : Fr s s1 := Fr_w (Fr_r s) t10 (by decide)
  have b3 : gI s1 1 3 = (a : Int) := (rd_same (show s1 = gw s 1 3 (gI s 1 4) from rfl)).trans h4
  clear_value s1
  refine gT_loop (fun y_l => y_l.1 = 1 ∧ Fr s y_l.2 ∧ ∃ b_l : Nat, gI y_l.2 1 3 = (b_l : Int) ∧ b_l ≤ e ∧ sk L e b_l = sk L e a) (fun y_l => (e - gI y_l.2 1 3).toNat) (fun y_l hy => ?_) ⟨rfl, f1_l, a, b3, ha, rfl⟩
  obtain ⟨x0_l, w_l⟩ := y_l
  obtain ⟨q0, hf, b_l, h3, hb_l, hs⟩ := hy
  dsimp only at q0 hf h3
  subst q0
  obtain ⟨t1_l, t2_l, t3_l, t4_l⟩ := Tp_fr hT hf
  have hend : ¬ (b_l < e ∧ L b_l = 32) → gT (fb_78_46 1 w_l) (fun r => r.1 = 0 ∧ Fr s r.2.2.2 ∧ gI r.2.2.2 1 3 = ((sk L e a : Nat) : Int) ∧ gI r.2.2.2 1 2 = kd L e (sk L e a) ∧ gI r.2.2.2 1 4 = ((en L e (sk L e a) : Nat) : Int)) := by
    intro hc_l
    rw [← hs, sk_n hc_l]
    unfold fb_78_46
    extract_lets s3 v4 s8
    have f3_l : Fr s s3 := Fr_w hf t10 (by decide)
    have c3_l : gI s3 1 3 = (b_l : Int) := (rd_k (a := 1) (k := 3) (show s3 = gw w_l 1 4 (gI w_l 1 3) from rfl) (by decide)).trans h3
    have c4_l : gI s3 1 4 = (b_l : Int) := (rd_same (show s3 = gw w_l 1 4 (gI w_l 1 3) from rfl)).trans h3
    obtain ⟨u1_l, u2_l, u3, u4_l⟩ := Tp_fr hT f3_l
    have hv4 : v4 = L b_l := by
      show gI s3 (gR s3 1 0) (gI s3 1 3).toNat = _
      rw [u1_l, c3_l, u4_l, Int.toNat_natCast]
    rw [c3_l, u2_l]
    refine gT_ite (fun hl => ?_) (fun hl => ?_)
    · have hl : b_l < e := by omega
      refine gT_chk (by omega) (by omega) ?_
      rw [hv4]
      have h98 : ∀ x2_l : Int, (x2_l = 0 ∨ x2_l = 1) → (x2_l = 0 → ¬ (97 ≤ L b_l ∧ L b_l ≤ 122)) → (x2_l ≠ 0 → 97 ≤ L b_l ∧ L b_l ≤ 122) → gT (fb_78_98 1 (L b_l) x2_l s3) (fun r => r.1 = 0 ∧ Fr s r.2.2.2 ∧ gI r.2.2.2 1 3 = (b_l : Int) ∧ gI r.2.2.2 1 2 = kd L e b_l ∧ gI r.2.2.2 1 4 = ((en L e b_l : Nat) : Int)) := by
        intro x2_l hx h0 h1
        have h116 : ∀ w0_l : Int, (w0_l = 0 → ¬ (48 ≤ L b_l ∧ L b_l ≤ 57)) → (w0_l ≠ 0 → 48 ≤ L b_l ∧ L b_l ≤ 57) → gT (fb_78_116 1 x2_l w0_l s3) (fun r => r.1 = 0 ∧ Fr s r.2.2.2 ∧ gI r.2.2.2 1 3 = (b_l : Int) ∧ gI r.2.2.2 1 2 = kd L e b_l ∧ gI r.2.2.2 1 4 = ((en L e b_l : Nat) : Int)) := by
          intro w0_l w00 w01
          unfold fb_78_116
          refine gT_ite (fun hx0 => ?_) (fun hx0 => ?_)
          · refine gT_ite (fun hw0 => ?_) (fun hw0 => ?_)
            · exact v78_k hT f3_l c3_l c4_l hl ⟨fun _ => Or.inr ⟨rfl, h0 hx0, w00 hw0⟩, fun z_l => absurd hx0 z_l⟩
            · exact v78_k hT f3_l c3_l c4_l hl ⟨fun _ => Or.inl ⟨rfl, w01 hw0⟩, fun z_l => absurd hx0 z_l⟩
          · exact v78_k hT f3_l c3_l c4_l hl ⟨fun z_l => absurd z_l hx0, fun _ => ⟨rfl, h1 hx0⟩⟩
        unfold fb_78_98
        refine gT_ite (fun c_l => h116 0 (fun _ => by omega) (fun z_l => absurd rfl z_l)) (fun c_l => ?_)
        exact gT_ite (fun c2_l => h116 0 (fun _ => by omega) (fun z_l => absurd rfl z_l)) (fun c2_l => h116 1 (fun z_l => by omega) (fun _ => by omega))
      refine gT_ite (fun c_l => h98 0 (Or.inl rfl) (fun _ => by omega) (fun z_l => absurd rfl z_l)) (fun c_l => ?_)
      exact gT_ite (fun c2_l => h98 0 (Or.inl rfl) (fun _ => by omega) (fun z_l => absurd rfl z_l)) (fun c2_l => h98 1 (Or.inr rfl) (fun z_l => by omega) (fun _ => by omega))
    · have e8 : gI s8 1 2 = 0 := rd_same (show s8 = gw s3 1 2 0 from rfl)
      have e3_l : gI s8 1 3 = gI s3 1 3 := rd_k (a := 1) (k := 3) (show s8 = gw s3 1 2 0 from rfl) (by decide)
      have e4_l : gI s8 1 4 = gI s3 1 4 := rd_k (a := 1) (k := 4) (show s8 = gw s3 1 2 0 from rfl) (by decide)
      refine gT_ret ⟨rfl, Fr_w f3_l t10 (by decide), e3_l.trans c3_l, ?_, ?_⟩
      · dsimp only
        unfold kd
        rw [if_neg (by omega), e8]
      · dsimp only
        unfold en
        rw [if_neg (by omega)]
        exact e4_l.trans c4_l
  show gT (sb_78_8 1 w_l) _
  unfold sb_78_8
  rw [h3, t2_l, t1_l, t4_l]
  refine gT_ite (fun hl => ?_) (fun hl => gT_map (hend (by omega)))
  rw [Int.toNat_natCast]
  have hb1 : b_l < e := by omega
  have hm_l : ((e : Int) - ((b_l : Int) + 1)).toNat < ((e : Int) - (b_l : Int)).toNat := by omega
  refine gT_chk (by omega) (by omega) ?_
  refine gT_ite (fun hc_l => ?_) (fun hc_l => gT_map (hend (fun z_l => hc_l z_l.2)))
  have g_l := g32_eq (v := (b_l : Int) + 1) (by omega) (by omega)
  extract_lets s2
  have k3_l : gI s2 1 3 = ((b_l + 1 : Nat) : Int) := by
    rw [rd_same (show s2 = gw w_l 1 3 (g32 ((b_l : Int) + 1)) from rfl), g_l]
    rfl
  have f2_l : Fr s s2 := Fr_w hf t10 (by decide)
  clear_value s2
  clear hend
  refine gT_ret ⟨⟨rfl, f2_l, b_l + 1, k3_l, hb1, ?_⟩, ?_⟩
  · rw [← hs, sk_s (a := b_l) ⟨hb1, hc_l⟩]
  · dsimp only
    rw [k3_l]
    exact hm_l
end Tk
