section Me
variable {p : gP} {g s s' : gS} {x : Int}
theorem Iv_m (h : Iv p g x s) (hj : J p s') (he : Em g s') (hk : ∀ k, gI s' 228 k = gI s 228 k) : Iv p g x s' := ⟨hj, he, Mm_eg h.2.2 hk⟩
theorem Em_8 {k : Nat} {v : Int} (h : Em g s) : Em g (gw s 228 k v) := by
  refine ⟨h.1, h.2.1, fun b j h8 hb => ?_⟩
  show (if b = 228 ∧ j = k then v else gI s b j) = _
  rw [if_neg (fun e => h8 e.1)]
  exact h.2.2 b j h8 hb
theorem y_227 {R : Nat → Int → Int → Int → Int → gS → Option gO} {i : Nat} {t n u : Int} (hp : -1 ≤ p.1 ∧ p.1 ≤ 0) (hg : J p g) (hi : i ≤ 29) (ht : 0 ≤ t ∧ t ≤ 99) (hn : 0 ≤ n ∧ n ≤ 9) (hu : 0 ≤ u ∧ u ≤ n) (hR : ∀ {t n : Int} {s : gS}, 0 ≤ t ∧ t ≤ 99 → 0 ≤ n ∧ n ≤ 9 → Iv p g x s → gT (R 217 x (30 - (i : Int)) t n s) (fun r => r.1 = 1 ∧ r.2.1 = kV g x i t n ∧ Iv p g x r.2.2.2)) (h : Iv p g x s) : gT (fo_227 R 217 x (29 - (i : Int)) t n u s) (fun r => r.1 = 1 ∧ r.2.1 = kU g x i t n u ∧ Iv p g x r.2.2.2) := by
  have bP := m_rd (k := 12) hg rfl
  unfold fo_227
  rw [Em_m h.2.1 12]
  unfold kU
  generalize hP : gI g 218 12 = P at bP
  have b1 : 0 ≤ P * u := Int.mul_nonneg bP.1 hu.1
  have b2 : P * u ≤ 50 * 9 := Int.mul_le_mul (by omega) (by omega) hu.1 (by decide)
  have g1 := g32_eq (v := P * u) (by omega) (by omega)
  have g2 := g32_eq (v := t + P * u) (by omega) (by omega)
  have g3 := g32_eq (v := n - u) (by omega) (by omega)
  have g4 := g32_eq (v := 29 - (i : Int) + 1) (by omega) (by omega)
  rw [g1, g2, g3, g4]
  refine gT_v1 (A := fun v z => v = min 99 (t + P * u) ∧ z = s) e_151 (fun v2 s1 h1 => ?_)
  obtain ⟨e2, e1⟩ := h1
  subst e1
  refine gT_v1 (A := fun v z => v = bv g x (29 - (i : Int)) v2 (n - u) ∧ J p z ∧ Em g z ∧ ∀ k, gI z 228 k = gI s1 228 k) (w_228 hp hg h.1 h.2.1 (by omega)) (fun v4 s3 h3 => ?_)
  obtain ⟨e4, j3, m3, k3⟩ := h3
  have i3 := Iv_m h j3 m3 k3
  rw [Em_m m3 10]
  have rb := bv_r (g := g) (x := x) (k := 29 - (i : Int)) (t := v2) (n := n - u)
  rw [← e4] at rb
  refine gT_ite (fun hb => gT_ret ⟨rfl, ?_, i3⟩) (fun hb => ?_)
  · dsimp only
    unfold lU
    rw [← e2, ← e4, if_pos hb]
  rw [show 29 - (i : Int) + 1 = 30 - (i : Int) by omega]
  refine gT_v1 (A := fun v z => v = kV g x i v4 (n - u) ∧ Iv p g x z) (hR rb (by omega) i3) (fun v6 s5 h5 => ?_)
  refine gT_ret ⟨rfl, ?_, h5.2⟩
  have q := lV_b (b := bv g x) (bar := gI g 218 10) (P := gI g 218 12) i v4 (n - u)
  have e6 := h5.1
  unfold kV at e6
  rw [hP] at e6 q
  rw [← e6] at q
  have g5 := g32_eq (v := 1 + v6) (by omega) (by omega)
  dsimp only
  unfold lU
  rw [← e2, ← e4, if_neg hb, g5, e6]
theorem y_226 {R : Nat → Int → Int → Int → Int → Int → gS → Option gO} {i : Nat} {t n : Int} (hi : i ≤ 29) (ht : 0 ≤ t ∧ t ≤ 99) (hn : 0 ≤ n ∧ n ≤ 9) (hR : ∀ {u : Int} {s : gS}, 0 ≤ u ∧ u ≤ n → Iv p g x s → gT (R 217 x (29 - (i : Int)) t n u s) (fun r => r.1 = 1 ∧ r.2.1 = kU g x i t n u ∧ Iv p g x r.2.2.2)) (h : Iv p g x s) : gT (fo_226 R 217 x (29 - (i : Int)) t n s) (fun r => r.1 = 1 ∧ r.2.1 = kV g x (i + 1) t n ∧ Iv p g x r.2.2.2) := by
  unfold fo_226
  refine gT_ite (fun e => by omega) (fun _ => ?_)
  have g1 := g32_eq (v := 1000 * (29 - (i : Int))) (by omega) (by omega)
  have g2 := g32_eq (v := 10 * t) (by omega) (by omega)
  have g3 := g32_eq (v := 1000 * (29 - (i : Int)) + 10 * t) (by omega) (by omega)
  have g4 := g32_eq (v := 1000 * (29 - (i : Int)) + 10 * t + n) (by omega) (by omega)
  rw [g1, g2, g3, g4]
  extract_lets v1
  have hv1 : v1 = 1000 * (29 - (i : Int)) + 10 * t + n := rfl
  clear_value v1
  have hme := h.2.2 (i + 1) t n (by omega) (by omega) ht hn
  rw [show (1000 * (30 - ((i + 1 : Nat) : Int)) + 10 * t + n) = v1 by omega] at hme
  have r22 : ∀ {z : gS}, Em g z → gR z 217 22 = 228 := fun hz => (Em_R hz 217 22).trans hz.2.1.2.2.2
  rw [r22 h.2.1]
  refine gT_chk (by omega) (by omega) ?_
  refine gT_ite (fun hm => ?_) (fun hm => gT_chk (by omega) (by omega) (gT_ret ⟨rfl, hme.resolve_left hm, h⟩))
  refine gT_loop (fun y => (y.1 = 217 ∧ y.2.1 = x ∧ y.2.2.1 = 29 - (i : Int) ∧ y.2.2.2.1 = t ∧ y.2.2.2.2.1 = n ∧ y.2.2.2.2.2.1 = v1) ∧ (∃ c : Nat, c ≤ n.toNat + 1 ∧ y.2.2.2.2.2.2.2.1 = (c : Int) ∧ y.2.2.2.2.2.2.1 = lW (fun u => kU g x i t n u) c) ∧ Iv p g x y.2.2.2.2.2.2.2.2) (fun y => (n + 1 - y.2.2.2.2.2.2.2.1).toNat) (fun y hy => ?_) ⟨⟨rfl, rfl, rfl, rfl, rfl, rfl⟩, ⟨0, by omega, rfl, rfl⟩, h⟩
  obtain ⟨x0, x1, x2, x3, x4, x5, x6, x7, z⟩ := y
  obtain ⟨⟨q0, q1, q2, q3, q4, q5⟩, ⟨c, hc, q7, q6⟩, hz⟩ := hy
  dsimp only at q0 q1 q2 q3 q4 q5 q6 q7 hz
  subst q0 q1 q2 q3 q4 q5
  show gT (sb_226_48 R 217 x1 (29 - (i : Int)) x3 x4 x5 x6 x7 z) _
  unfold sb_226_48
  rw [r22 hz.2.1]
  refine gT_ite (fun hx => gT_map ?_) (fun hx => ?_)
  · refine gT_chk (by omega) (by omega) ?_
    extract_lets s2
    have ec : c = x4.toNat + 1 := by omega
    have e6 : x6 = kV g x1 (i + 1) x3 x4 := by
      rw [q6, ec]
      rfl
    have j2 : J p s2 := by
      have := J_wa (k := x5.toNat) (v := x6) hz.1 (T_f (i := 22) hz.1 t12 (by decide) rfl rfl) rfl
      rw [r22 hz.2.1] at this
      exact this
    refine gT_ret ⟨rfl, e6, j2, Em_8 hz.2.1, fun j' t' n' h1 h2 h3 h4 => ?_⟩
    by_cases e : (1000 * (30 - (j' : Int)) + 10 * t' + n').toNat = x5.toNat
    · have ej : j' = i + 1 := by omega
      have et : t' = x3 := by omega
      have en : n' = x4 := by omega
      subst ej et en
      right
      rw [e]
      exact (rd_same (show s2 = gw z 228 x5.toNat x6 from rfl)).trans e6
    · have := rd_k (a := 228) (k := (1000 * (30 - (j' : Int)) + 10 * t' + n').toNat) (show s2 = gw z 228 x5.toNat x6 from rfl) e
      dsimp only
      rw [this]
      exact hz.2.2 j' t' n' h1 h2 h3 h4
  · refine gT_v1 (A := fun v y => v = kU g x1 i x3 x4 x7 ∧ Iv p g x1 y) (hR (by omega) hz) (fun v4 s3 h3 => ?_)
    refine gT_v1 (A := fun v y => v = max x6 v4 ∧ y = s3) e_152 (fun v6 s5 h5 => ?_)
    obtain ⟨e6, e5⟩ := h5
    subst e5
    have g5 := g32_eq (v := x7 + 1) (by omega) (by omega)
    refine gT_ret ⟨⟨⟨rfl, rfl, rfl, rfl, rfl, rfl⟩, ⟨c + 1, by omega, by dsimp only; omega, ?_⟩, h3.2⟩, by dsimp only; omega⟩
    dsimp only
    rw [e6, q6, h3.1, q7]
    rfl
theorem y_rg (hp : -1 ≤ p.1 ∧ p.1 ≤ 0) (hg : J p g) (m : Nat) : (∀ {i : Nat} {t n : Int} {s : gS}, i ≤ 30 → 0 ≤ t ∧ t ≤ 99 → 0 ≤ n ∧ n ≤ 9 → 2 * i + 1 ≤ m → Iv p g x s → gT (fn_226 m 217 x (30 - (i : Int)) t n s) (fun r => r.1 = 1 ∧ r.2.1 = kV g x i t n ∧ Iv p g x r.2.2.2)) ∧ (∀ {i : Nat} {t n u : Int} {s : gS}, i ≤ 29 → 0 ≤ t ∧ t ≤ 99 → 0 ≤ n ∧ n ≤ 9 → 0 ≤ u ∧ u ≤ n → 2 * i + 2 ≤ m → Iv p g x s → gT (fn_227 m 217 x (29 - (i : Int)) t n u s) (fun r => r.1 = 1 ∧ r.2.1 = kU g x i t n u ∧ Iv p g x r.2.2.2)) := by
  induction m with
  | zero => exact ⟨fun _ _ _ e => by omega, fun _ _ _ _ e => by omega⟩
  | succ m ih =>
    refine ⟨fun {i t n s} hi ht hn hm h => ?_, fun {i t n u s} hi ht hn hu hm h => ?_⟩
    · cases i with
      | zero =>
        show gT (fo_226 (fn_227 m) 217 x 30 t n s) _
        unfold fo_226
        exact gT_ite (fun _ => gT_ret ⟨rfl, rfl, h⟩) (fun e => absurd rfl e)
      | succ i =>
        rw [show (30 : Int) - ((i + 1 : Nat) : Int) = 29 - (i : Int) by omega]
        exact y_226 (R := fn_227 m) (by omega) ht hn (fun hu h => ih.2 (by omega) ht hn hu (by omega) h) h
    · exact y_227 (R := fn_226 m) hp hg hi ht hn hu (fun ht hn h => ih.1 (by omega) ht hn (by omega) h) h
theorem z_226 {k t n : Int} (hp : -1 ≤ p.1 ∧ p.1 ≤ 0) (hg : J p g) (hk : 0 ≤ k ∧ k ≤ 30) (ht : 0 ≤ t ∧ t ≤ 99) (hn : 0 ≤ n ∧ n ≤ 9) (h : Iv p g x s) : gT (f_226 217 x k t n s) (fun r => r.1 = 1 ∧ r.2.1 = kV g x (30 - k).toNat t n ∧ Iv p g x r.2.2.2) := by
  have := (y_rg (x := x) hp hg 64).1 (i := (30 - k).toNat) (t := t) (n := n) (s := s) (by omega) ht hn (by omega) h
  rw [show 30 - (((30 - k).toNat : Nat) : Int) = k by omega] at this
  exact this
theorem z_227 {k t n u : Int} (hp : -1 ≤ p.1 ∧ p.1 ≤ 0) (hg : J p g) (hk : 0 ≤ k ∧ k ≤ 29) (ht : 0 ≤ t ∧ t ≤ 99) (hn : 0 ≤ n ∧ n ≤ 9) (hu : 0 ≤ u ∧ u ≤ n) (h : Iv p g x s) : gT (f_227 217 x k t n u s) (fun r => r.1 = 1 ∧ r.2.1 = kU g x (29 - k).toNat t n u ∧ Iv p g x r.2.2.2) := by
  have := (y_rg (x := x) hp hg 64).2 (i := (29 - k).toNat) (t := t) (n := n) (u := u) (s := s) (by omega) ht hn hu (by omega) h
  rw [show 29 - (((29 - k).toNat : Nat) : Int) = k by omega] at this
  exact this
/-- some number of nails gives the most -/
theorem k_ex {i : Nat} {t n : Int} (hn : 0 ≤ n) : ∃ u : Int, 0 ≤ u ∧ u ≤ n ∧ kU g x i t n u = kV g x (i + 1) t n := by
  obtain ⟨c, h1, h2⟩ := lW_ex (f := fun u => kU g x i t n u) (fun c => lU_b.1) n.toNat
  exact ⟨c, by omega, by omega, h2⟩
end Me
