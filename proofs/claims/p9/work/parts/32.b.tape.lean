/-- the kind of the thing that begins at a, and its end -/
def kd (L : Nat → Int) (e a : Nat) : Int := if a < e then (if 97 ≤ L a ∧ L a ≤ 122 then 1 else if 48 ≤ L a ∧ L a ≤ 57 then 2 else 3) else 0
def lr (L : Nat → Int) (e a : Nat) : Nat := lrn L e e a
def dr (L : Nat → Int) (e a : Nat) : Nat := drn L e e a
def en (L : Nat → Int) (e a : Nat) : Nat := if a < e then (if 97 ≤ L a ∧ L a ≤ 122 then lr L e (a + 1) else if 48 ≤ L a ∧ L a ≤ 57 then dr L e (a + 1) else a + 1) else a
section Tk
variable {p : gP} {s s' : gS} {L : Nat → Int} {e : Nat}
theorem gT_both {Q : Type} {x : Option Q} {P P' : Q → Prop} (h : gT x P) (h' : gT x P') : gT x (fun r => P r ∧ P' r) := by
  obtain ⟨r, h1, h2⟩ := h
  obtain ⟨r', h3, h4⟩ := h'
  rw [h1] at h3
  cases h3
  exact ⟨r, h1, h2, h4⟩
theorem lrn_f (n : Nat) : ∀ {m a : Nat}, e ≤ a + n → e ≤ a + m → lrn L e n a = lrn L e m a := by
  induction n with
  | zero =>
    intro m a h1 h2
    cases m with
    | zero => rfl
    | succ m =>
      show a = if a < e ∧ 97 ≤ L a ∧ L a ≤ 122 then lrn L e m (a + 1) else a
      rw [if_neg (by omega)]
  | succ n ih =>
    intro m a h1 h2
    cases m with
    | zero =>
      show (if a < e ∧ 97 ≤ L a ∧ L a ≤ 122 then lrn L e n (a + 1) else a) = a
      rw [if_neg (by omega)]
    | succ m =>
      show (if a < e ∧ 97 ≤ L a ∧ L a ≤ 122 then lrn L e n (a + 1) else a) = (if a < e ∧ 97 ≤ L a ∧ L a ≤ 122 then lrn L e m (a + 1) else a)
      by_cases h : a < e ∧ 97 ≤ L a ∧ L a ≤ 122
      · rw [if_pos h, if_pos h]
        exact ih (by omega) (by omega)
      · rw [if_neg h, if_neg h]
theorem drn_f (n : Nat) : ∀ {m a : Nat}, e ≤ a + n → e ≤ a + m → drn L e n a = drn L e m a := by
  induction n with
  | zero =>
    intro m a h1 h2
    cases m with
    | zero => rfl
    | succ m =>
      show a = if a < e ∧ 48 ≤ L a ∧ L a ≤ 57 then drn L e m (a + 1) else a
      rw [if_neg (by omega)]
  | succ n ih =>
    intro m a h1 h2
    cases m with
    | zero =>
      show (if a < e ∧ 48 ≤ L a ∧ L a ≤ 57 then drn L e n (a + 1) else a) = a
      rw [if_neg (by omega)]
    | succ m =>
      show (if a < e ∧ 48 ≤ L a ∧ L a ≤ 57 then drn L e n (a + 1) else a) = (if a < e ∧ 48 ≤ L a ∧ L a ≤ 57 then drn L e m (a + 1) else a)
      by_cases h : a < e ∧ 48 ≤ L a ∧ L a ≤ 57
      · rw [if_pos h, if_pos h]
        exact ih (by omega) (by omega)
      · rw [if_neg h, if_neg h]
theorem lr_s {a : Nat} (h : a < e ∧ 97 ≤ L a ∧ L a ≤ 122) : lr L e a = lr L e (a + 1) := by
  unfold lr
  cases e with
  | zero => omega
  | succ e =>
    show (if a < e + 1 ∧ 97 ≤ L a ∧ L a ≤ 122 then lrn L (e + 1) e (a + 1) else a) = _
    rw [if_pos h]
    exact lrn_f e (by omega) (by omega)
theorem lr_n {a : Nat} (h : ¬ (a < e ∧ 97 ≤ L a ∧ L a ≤ 122)) : lr L e a = a := by
  unfold lr
  cases e with
  | zero => rfl
  | succ e =>
    show (if a < e + 1 ∧ 97 ≤ L a ∧ L a ≤ 122 then lrn L (e + 1) e (a + 1) else a) = _
    rw [if_neg h]
theorem dr_s {a : Nat} (h : a < e ∧ 48 ≤ L a ∧ L a ≤ 57) : dr L e a = dr L e (a + 1) := by
  unfold dr
  cases e with
  | zero => omega
  | succ e =>
    show (if a < e + 1 ∧ 48 ≤ L a ∧ L a ≤ 57 then drn L (e + 1) e (a + 1) else a) = _
    rw [if_pos h]
    exact drn_f e (by omega) (by omega)
theorem dr_n {a : Nat} (h : ¬ (a < e ∧ 48 ≤ L a ∧ L a ≤ 57)) : dr L e a = a := by
  unfold dr
  cases e with
  | zero => rfl
  | succ e =>
    show (if a < e + 1 ∧ 48 ≤ L a ∧ L a ≤ 57 then drn L (e + 1) e (a + 1) else a) = _
    rw [if_neg h]
/-- what is known of the tape -/
def Tp (s : gS) (L : Nat → Int) (e : Nat) : Prop := gR s 1 0 = 2 ∧ gI s 1 1 = (e : Int) ∧ e ≤ 400 ∧ ∀ j, gI s 2 j = L j
theorem Tp_fr (h : Tp s L e) (hf : Fr s s') : Tp s' L e := ⟨(hf.1.2.2 1 0).trans h.1, (hf.2 1 1 (by decide)).trans h.2.1, h.2.2.1, fun j => (hf.2 2 j (by omega)).trans (h.2.2.2 j)⟩
theorem t10 : T 10 1 := ⟨by decide, by decide +kernel⟩
/-- the run behind the first letter or figure -/
theorem v78_r {x4 x5 : Int} {K : Int} {F R : Int} (rn : Nat → Nat) (hs : ∀ a : Nat, a < e ∧ x4 ≤ L a ∧ L a ≤ x5 → rn a = rn (a + 1)) (hn : ∀ a : Nat, ¬ (a < e ∧ x4 ≤ L a ∧ L a ≤ x5) → rn a = a) (hT : Tp s L e) {u : gS} {a : Nat} (hf : Fr s u) (h2 : gI u 1 2 = K) (hK : K ≠ 3) (h3 : gI u 1 3 = F) (h4 : gI u 1 4 = (a : Int)) (ha : a ≤ e) (hr : ((rn a : Nat) : Int) = R) : gT (gloop st_78_174 (1, x4, x5, u)) (fun r => r.1 = 0 ∧ Fr s r.2.2.2 ∧ gI r.2.2.2 1 2 = K ∧ gI r.2.2.2 1 3 = F ∧ gI r.2.2.2 1 4 = R) := by
  refine gT_loop (fun y => (y.1 = 1 ∧ y.2.1 = x4 ∧ y.2.2.1 = x5) ∧ Fr s y.2.2.2 ∧ gI y.2.2.2 1 2 = K ∧ gI y.2.2.2 1 3 = F ∧ ∃ a : Nat, gI y.2.2.2 1 4 = (a : Int) ∧ a ≤ e ∧ ((rn a : Nat) : Int) = R) (fun y => (e - gI y.2.2.2 1 4).toNat) (fun y hy => ?_) ⟨⟨rfl, rfl, rfl⟩, hf, h2, h3, a, h4, ha, hr⟩
  obtain ⟨y0, y4, y5, w⟩ := y
  obtain ⟨⟨q0, q4, q5⟩, hf, h2, h3, b, h4, hb, hr⟩ := hy
  dsimp only at q0 q4 q5 hf h2 h3 h4
  subst q0 q4 q5
  obtain ⟨t1, t2, t3, t4⟩ := Tp_fr hT hf
  show gT (sb_78_174 1 y4 y5 w) _
  unfold sb_78_174
  rw [h2, if_neg hK, h4, t1, t2, t4]
  have hex : ¬ (b < e ∧ y4 ≤ L b ∧ L b ≤ y5) → gI w 1 4 = R := fun hc => by rw [h4, ← hr, hn b hc]
  refine gT_ite (fun hl => ?_) (fun hl => gT_map (gT_ret ⟨rfl, hf, h2, h3, hex (by omega)⟩))
  rw [Int.toNat_natCast]
  have hb1 : b < e := by omega
  have hm : ((e : Int) - ((b : Int) + 1)).toNat < ((e : Int) - (b : Int)).toNat := by omega
  refine gT_chk (by omega) (by omega) ?_
  refine gT_ite (fun c1 => gT_map (gT_ret ⟨rfl, hf, h2, h3, hex (by omega)⟩)) (fun c1 => ?_)
  refine gT_chk (by omega) (by omega) ?_
  refine gT_ite (fun c2 => gT_map (gT_ret ⟨rfl, hf, h2, h3, hex (by omega)⟩)) (fun c2 => ?_)
  have g := g32_eq (v := (b : Int) + 1) (by omega) (by omega)
  extract_lets s7
  have k4 : gI s7 1 4 = ((b + 1 : Nat) : Int) := by
    rw [rd_same (show s7 = gw w 1 4 (g32 ((b : Int) + 1)) from rfl), g]
    rfl
  have k2 : gI s7 1 2 = gI w 1 2 := rd_k (a := 1) (k := 2) (show s7 = gw w 1 4 (g32 ((b : Int) + 1)) from rfl) (by decide)
  have k3 : gI s7 1 3 = gI w 1 3 := rd_k (a := 1) (k := 3) (show s7 = gw w 1 4 (g32 ((b : Int) + 1)) from rfl) (by decide)
  have f7 : Fr s s7 := Fr_w hf t10 (by decide)
  clear_value s7
  refine gT_ret ⟨⟨⟨rfl, rfl, rfl⟩, f7, k2.trans h2, k3.trans h3, b + 1, k4, hb1, ?_⟩, ?_⟩
  · rw [← hr, hs b ⟨hb1, by omega, by omega⟩]
  · dsimp only
    rw [k4]
    exact hm
theorem v78_k {w : gS} {b : Nat} {x2 K : Int} (hT : Tp s L e) (hf : Fr s w) (h3 : gI w 1 3 = (b : Int)) (h4 : gI w 1 4 = (b : Int)) (hb : b < e) (hK : (x2 = 0 → (K = 2 ∧ 48 ≤ L b ∧ L b ≤ 57) ∨ (K = 3 ∧ ¬ (97 ≤ L b ∧ L b ≤ 122) ∧ ¬ (48 ≤ L b ∧ L b ≤ 57))) ∧ (x2 ≠ 0 → K = 1 ∧ 97 ≤ L b ∧ L b ≤ 122)) : gT (fb_78_135 1 x2 K 1 w) (fun r => r.1 = 0 ∧ Fr s r.2.2.2 ∧ gI r.2.2.2 1 3 = (b : Int) ∧ gI r.2.2.2 1 2 = kd L e b ∧ gI r.2.2.2 1 4 = ((en L e b : Nat) : Int)) := by
  have h400 := hT.2.2.1
  unfold fb_78_135
  extract_lets s5 s6
  have a4 : gI s5 1 4 = gI w 1 4 := rd_k (a := 1) (k := 4) (show s5 = gw w 1 2 K from rfl) (by decide)
  have g := g32_eq (v := gI s5 1 4 + 1) (by omega) (by omega)
  have b2 : gI s6 1 2 = K := (rd_k (a := 1) (k := 2) (show s6 = gw s5 1 4 (g32 (gI s5 1 4 + 1)) from rfl) (by decide)).trans (rd_same (show s5 = gw w 1 2 K from rfl))
  have b3 : gI s6 1 3 = (b : Int) := ((rd_k (a := 1) (k := 3) (show s6 = gw s5 1 4 (g32 (gI s5 1 4 + 1)) from rfl) (by decide)).trans (rd_k (a := 1) (k := 3) (show s5 = gw w 1 2 K from rfl) (by decide))).trans h3
  have b4 : gI s6 1 4 = ((b + 1 : Nat) : Int) := by
    rw [rd_same (show s6 = gw s5 1 4 (g32 (gI s5 1 4 + 1)) from rfl), g, a4, h4]
    rfl
  have f6 : Fr s s6 := Fr_w (Fr_w hf t10 (by decide)) t10 (by decide)
  clear_value s5 s6
  have hl : x2 ≠ 0 → gT (gloop st_78_174 (1, 97, 122, s6)) (fun r => r.1 = 0 ∧ Fr s r.2.2.2 ∧ gI r.2.2.2 1 3 = (b : Int) ∧ gI r.2.2.2 1 2 = kd L e b ∧ gI r.2.2.2 1 4 = ((en L e b : Nat) : Int)) := fun hx => by
    obtain ⟨k1, k2⟩ := hK.2 hx
    refine gT_mono (v78_r (lr L e) (fun a h => lr_s h) (fun a h => lr_n h) hT f6 b2 (by omega) b3 b4 (by omega) (R := ((en L e b : Nat) : Int)) (by unfold en; rw [if_pos hb, if_pos k2])) (fun r hr => ⟨hr.1, hr.2.1, hr.2.2.2.1, ?_, hr.2.2.2.2⟩)
    rw [hr.2.2.1, k1]
    unfold kd
    rw [if_pos hb, if_pos k2]
  have hd : x2 = 0 → gT (gloop st_78_174 (1, 48, 57, s6)) (fun r => r.1 = 0 ∧ Fr s r.2.2.2 ∧ gI r.2.2.2 1 3 = (b : Int) ∧ gI r.2.2.2 1 2 = kd L e b ∧ gI r.2.2.2 1 4 = ((en L e b : Nat) : Int)) := fun hx => by
    rcases hK.1 hx with ⟨k1, k2⟩ | ⟨k1, k2, k3⟩
    · refine gT_mono (v78_r (dr L e) (fun a h => dr_s h) (fun a h => dr_n h) hT f6 b2 (by omega) b3 b4 (by omega) (R := ((en L e b : Nat) : Int)) (by unfold en; rw [if_pos hb, if_neg (by omega), if_pos k2])) (fun r hr => ⟨hr.1, hr.2.1, hr.2.2.2.1, ?_, hr.2.2.2.2⟩)
      rw [hr.2.2.1, k1]
      unfold kd
      rw [if_pos hb, if_neg (by omega), if_pos k2]
    · refine gT_loop (fun y => y = (1, 48, 57, s6)) (fun _ => 0) (fun y hy => ?_) rfl
      subst hy
      show gT (sb_78_174 1 48 57 s6) _
      unfold sb_78_174
      rw [b2, if_pos k1]
      refine gT_map (gT_ret ⟨rfl, f6, b3, ?_, ?_⟩)
      · dsimp only
        unfold kd
        rw [if_pos hb, if_neg k2, if_neg k3, b2, k1]
      · dsimp only
        unfold en
        rw [if_pos hb, if_neg k2, if_neg k3, b4]
  refine gT_ite (fun hx => ?_) (fun hx => ?_)
  · unfold fb_78_159
    exact gT_ite (fun _ => hd hx) (fun h => absurd hx h)
  · unfold fb_78_159
    exact gT_ite (fun h => absurd h hx) (fun _ => hl hx)
theorem v_78 (hT : Tp s L e) {a : Nat} (h4 : gI s 1 4 = (a : Int)) (ha : a ≤ e) : gT (f_78 1 s) (fun r => r.1 = 0 ∧ Fr s r.2.2.2 ∧ gI r.2.2.2 1 3 = ((sk L e a : Nat) : Int) ∧ gI r.2.2.2 1 2 = kd L e (sk L e a) ∧ gI r.2.2.2 1 4 = ((en L e (sk L e a) : Nat) : Int)) := by
  have h400 := hT.2.2.1
  unfold f_78
  extract_lets s1
  have f1 : Fr s s1 := Fr_w (Fr_r s) t10 (by decide)
  have b3 : gI s1 1 3 = (a : Int) := (rd_same (show s1 = gw s 1 3 (gI s 1 4) from rfl)).trans h4
  clear_value s1
  refine gT_loop (fun y => y.1 = 1 ∧ Fr s y.2 ∧ ∃ b : Nat, gI y.2 1 3 = (b : Int) ∧ b ≤ e ∧ sk L e b = sk L e a) (fun y => (e - gI y.2 1 3).toNat) (fun y hy => ?_) ⟨rfl, f1, a, b3, ha, rfl⟩
  obtain ⟨x0, w⟩ := y
  obtain ⟨q0, hf, b, h3, hb, hs⟩ := hy
  dsimp only at q0 hf h3
  subst q0
  obtain ⟨t1, t2, t3, t4⟩ := Tp_fr hT hf
  have hend : ¬ (b < e ∧ L b = 32) → gT (fb_78_46 1 w) (fun r => r.1 = 0 ∧ Fr s r.2.2.2 ∧ gI r.2.2.2 1 3 = ((sk L e a : Nat) : Int) ∧ gI r.2.2.2 1 2 = kd L e (sk L e a) ∧ gI r.2.2.2 1 4 = ((en L e (sk L e a) : Nat) : Int)) := by
    intro hc
    rw [← hs, sk_n hc]
    unfold fb_78_46
    extract_lets s3 v4 s8
    have f3 : Fr s s3 := Fr_w hf t10 (by decide)
    have c3 : gI s3 1 3 = (b : Int) := (rd_k (a := 1) (k := 3) (show s3 = gw w 1 4 (gI w 1 3) from rfl) (by decide)).trans h3
    have c4 : gI s3 1 4 = (b : Int) := (rd_same (show s3 = gw w 1 4 (gI w 1 3) from rfl)).trans h3
    obtain ⟨u1, u2, u3, u4⟩ := Tp_fr hT f3
    have hv4 : v4 = L b := by
      show gI s3 (gR s3 1 0) (gI s3 1 3).toNat = _
      rw [u1, c3, u4, Int.toNat_natCast]
    rw [c3, u2]
    refine gT_ite (fun hl => ?_) (fun hl => ?_)
    · have hl : b < e := by omega
      refine gT_chk (by omega) (by omega) ?_
      rw [hv4]
      have h98 : ∀ x2 : Int, (x2 = 0 ∨ x2 = 1) → (x2 = 0 → ¬ (97 ≤ L b ∧ L b ≤ 122)) → (x2 ≠ 0 → 97 ≤ L b ∧ L b ≤ 122) → gT (fb_78_98 1 (L b) x2 s3) (fun r => r.1 = 0 ∧ Fr s r.2.2.2 ∧ gI r.2.2.2 1 3 = (b : Int) ∧ gI r.2.2.2 1 2 = kd L e b ∧ gI r.2.2.2 1 4 = ((en L e b : Nat) : Int)) := by
        intro x2 hx h0 h1
        have h116 : ∀ w0 : Int, (w0 = 0 → ¬ (48 ≤ L b ∧ L b ≤ 57)) → (w0 ≠ 0 → 48 ≤ L b ∧ L b ≤ 57) → gT (fb_78_116 1 x2 w0 s3) (fun r => r.1 = 0 ∧ Fr s r.2.2.2 ∧ gI r.2.2.2 1 3 = (b : Int) ∧ gI r.2.2.2 1 2 = kd L e b ∧ gI r.2.2.2 1 4 = ((en L e b : Nat) : Int)) := by
          intro w0 w00 w01
          unfold fb_78_116
          refine gT_ite (fun hx0 => ?_) (fun hx0 => ?_)
          · refine gT_ite (fun hw0 => ?_) (fun hw0 => ?_)
            · exact v78_k hT f3 c3 c4 hl ⟨fun _ => Or.inr ⟨rfl, h0 hx0, w00 hw0⟩, fun z => absurd hx0 z⟩
            · exact v78_k hT f3 c3 c4 hl ⟨fun _ => Or.inl ⟨rfl, w01 hw0⟩, fun z => absurd hx0 z⟩
          · exact v78_k hT f3 c3 c4 hl ⟨fun z => absurd z hx0, fun _ => ⟨rfl, h1 hx0⟩⟩
        unfold fb_78_98
        refine gT_ite (fun c => h116 0 (fun _ => by omega) (fun z => absurd rfl z)) (fun c => ?_)
        exact gT_ite (fun c2 => h116 0 (fun _ => by omega) (fun z => absurd rfl z)) (fun c2 => h116 1 (fun z => by omega) (fun _ => by omega))
      refine gT_ite (fun c => h98 0 (Or.inl rfl) (fun _ => by omega) (fun z => absurd rfl z)) (fun c => ?_)
      exact gT_ite (fun c2 => h98 0 (Or.inl rfl) (fun _ => by omega) (fun z => absurd rfl z)) (fun c2 => h98 1 (Or.inr rfl) (fun z => by omega) (fun _ => by omega))
    · have e8 : gI s8 1 2 = 0 := rd_same (show s8 = gw s3 1 2 0 from rfl)
      have e3 : gI s8 1 3 = gI s3 1 3 := rd_k (a := 1) (k := 3) (show s8 = gw s3 1 2 0 from rfl) (by decide)
      have e4 : gI s8 1 4 = gI s3 1 4 := rd_k (a := 1) (k := 4) (show s8 = gw s3 1 2 0 from rfl) (by decide)
      refine gT_ret ⟨rfl, Fr_w f3 t10 (by decide), e3.trans c3, ?_, ?_⟩
      · dsimp only
        unfold kd
        rw [if_neg (by omega), e8]
      · dsimp only
        unfold en
        rw [if_neg (by omega)]
        exact e4.trans c4
  show gT (sb_78_8 1 w) _
  unfold sb_78_8
  rw [h3, t2, t1, t4]
  refine gT_ite (fun hl => ?_) (fun hl => gT_map (hend (by omega)))
  rw [Int.toNat_natCast]
  have hb1 : b < e := by omega
  have hm : ((e : Int) - ((b : Int) + 1)).toNat < ((e : Int) - (b : Int)).toNat := by omega
  refine gT_chk (by omega) (by omega) ?_
  refine gT_ite (fun hc => ?_) (fun hc => gT_map (hend (fun z => hc z.2)))
  have g := g32_eq (v := (b : Int) + 1) (by omega) (by omega)
  extract_lets s2
  have k3 : gI s2 1 3 = ((b + 1 : Nat) : Int) := by
    rw [rd_same (show s2 = gw w 1 3 (g32 ((b : Int) + 1)) from rfl), g]
    rfl
  have f2 : Fr s s2 := Fr_w hf t10 (by decide)
  clear_value s2
  clear hend
  refine gT_ret ⟨⟨rfl, f2, b + 1, k3, hb1, ?_⟩, ?_⟩
  · rw [← hs, sk_s (a := b) ⟨hb1, hc⟩]
  · dsimp only
    rw [k3]
    exact hm
end Tk
