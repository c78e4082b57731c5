/-! book and court as one row, numbered as the model's -/
def pa (B C k : Nat) : Nat := if k < 16 then (if k = 0 ∨ k = 3 ∨ k = 5 ∨ k = 10 ∨ k = 11 ∨ k = 12 then B else if k = 13 then C + 4 else C) else if k < 40 then B + 1 + (k - 16) % 3 else if k < 76 then C + 6 + (k - 40) / 6 else if k < 88 then B + 4 + (k - 76) % 2 else C + 2 + (k - 88) % 2
def pjl : List Nat := [10, 0, 0, 5, 4, 6, 5, 8, 6, 7, 7, 8, 9, 1, 9, 0]
def pj (k : Nat) : Nat := if k < 16 then pjl.getD k 0 else if k < 40 then (k - 16) / 3 else if k < 76 then (k - 40) % 6 else if k < 88 then (k - 76) / 2 else (k - 88) / 2
def KK (k : Nat) : Prop := k < 100 ∧ k ≠ 1 ∧ k ≠ 2 ∧ k ≠ 15
def cv (s : gS) (B C k : Nat) : Int := gI s (pa B C k) (pj k)
/-- what a line does to such a row -/
def av (w : gLW) (V : Nat → Int) (k : Nat) : Int := match w.1 with
  | 0 => if k = 3 then V 3 + 1 else if k = 16 + 3 * (V 3).toNat + 2 then w.2.2.2 else if k = 16 + 3 * (V 3).toNat + 1 then w.2.2.1 else if k = 16 + 3 * (V 3).toNat + 0 then w.2.1 else V k
  | 1 => if k = 4 then V 4 + 1 else if k = 40 + 6 * (V 4).toNat + 5 then 0 else if k = 40 + 6 * (V 4).toNat + 4 then 0 else if k = 40 + 6 * (V 4).toNat + 3 then 0 else if k = 40 + 6 * (V 4).toNat + 2 then w.2.2.2 else if k = 40 + 6 * (V 4).toNat + 1 then w.2.2.1 else if k = 40 + 6 * (V 4).toNat + 0 then w.2.1 else V k
  | 2 => if k = 5 then V 5 + 1 else if k = 76 + 2 * (V 5).toNat + 1 then w.2.2.1 else if k = 76 + 2 * (V 5).toNat + 0 then w.2.1 else V k
  | 3 => if k = 6 then V 6 + 1 else if k = 88 + 2 * (V 6).toNat + 1 then 0 else if k = 88 + 2 * (V 6).toNat + 0 then w.2.1 else V k
  | 4 => if k = 8 then w.2.1 else V k
  | 5 => if k = 10 then w.2.1 else V k
  | 6 => if k = 11 then w.2.1 else V k
  | _ => if k = 12 then w.2.1 else V k
section Vt
theorem tS : ∀ k, k < 100 → ∀ n, n < 8 → ∀ j, j < 3 → (pa 36 42 k = 37 + j ∧ pj k = n ↔ k = 16 + 3 * n + j) := by decide +kernel
theorem tM : ∀ k, k < 100 → ∀ n, n < 6 → ∀ j, j < 6 → (pa 36 42 k = 48 + n ∧ pj k = j ↔ k = 40 + 6 * n + j) := by decide +kernel
theorem tT : ∀ k, k < 100 → ∀ n, n < 6 → ∀ j, j < 2 → (pa 36 42 k = 40 + j ∧ pj k = n ↔ k = 76 + 2 * n + j) := by decide +kernel
theorem tV : ∀ k, k < 100 → ∀ n, n < 6 → ∀ j, j < 2 → (pa 36 42 k = 44 + j ∧ pj k = n ↔ k = 88 + 2 * n + j) := by decide +kernel
theorem tC0 : ∀ k, k < 100 → (k ≠ 1 ∧ k ≠ 2 ∧ k ≠ 15) → (pa 36 42 k = 36 ∧ pj k = 5 ↔ k = 3) := by decide +kernel
theorem tC1 : ∀ k, k < 100 → (k ≠ 1 ∧ k ≠ 2 ∧ k ≠ 15) → (pa 36 42 k = 42 ∧ pj k = 4 ↔ k = 4) := by decide +kernel
theorem tC2 : ∀ k, k < 100 → (k ≠ 1 ∧ k ≠ 2 ∧ k ≠ 15) → (pa 36 42 k = 36 ∧ pj k = 6 ↔ k = 5) := by decide +kernel
theorem tC3 : ∀ k, k < 100 → (k ≠ 1 ∧ k ≠ 2 ∧ k ≠ 15) → (pa 36 42 k = 42 ∧ pj k = 5 ↔ k = 6) := by decide +kernel
theorem tC4 : ∀ k, k < 100 → (k ≠ 1 ∧ k ≠ 2 ∧ k ≠ 15) → (pa 36 42 k = 42 ∧ pj k = 6 ↔ k = 8) := by decide +kernel
theorem tC5 : ∀ k, k < 100 → (k ≠ 1 ∧ k ≠ 2 ∧ k ≠ 15) → (pa 36 42 k = 36 ∧ pj k = 7 ↔ k = 10) := by decide +kernel
theorem tC6 : ∀ k, k < 100 → (k ≠ 1 ∧ k ≠ 2 ∧ k ≠ 15) → (pa 36 42 k = 36 ∧ pj k = 8 ↔ k = 11) := by decide +kernel
theorem tC7 : ∀ k, k < 100 → (k ≠ 1 ∧ k ≠ 2 ∧ k ≠ 15) → (pa 36 42 k = 36 ∧ pj k = 9 ↔ k = 12) := by decide +kernel
theorem tC (k : Nat) (h0 : k < 100) (h1 : k ≠ 1) (h2 : k ≠ 2) (h3 : k ≠ 15) : (pa 36 42 k = 36 ∧ pj k = 5 ↔ k = 3) ∧ (pa 36 42 k = 42 ∧ pj k = 4 ↔ k = 4) ∧ (pa 36 42 k = 36 ∧ pj k = 6 ↔ k = 5) ∧ (pa 36 42 k = 42 ∧ pj k = 5 ↔ k = 6) ∧ (pa 36 42 k = 42 ∧ pj k = 6 ↔ k = 8) ∧ (pa 36 42 k = 36 ∧ pj k = 7 ↔ k = 10) ∧ (pa 36 42 k = 36 ∧ pj k = 8 ↔ k = 11) ∧ (pa 36 42 k = 36 ∧ pj k = 9 ↔ k = 12) := ⟨tC0 k h0 ⟨h1, h2, h3⟩, tC1 k h0 ⟨h1, h2, h3⟩, tC2 k h0 ⟨h1, h2, h3⟩, tC3 k h0 ⟨h1, h2, h3⟩, tC4 k h0 ⟨h1, h2, h3⟩, tC5 k h0 ⟨h1, h2, h3⟩, tC6 k h0 ⟨h1, h2, h3⟩, tC7 k h0 ⟨h1, h2, h3⟩⟩
theorem pa_d : ∀ k, k < 100 → 36 ≤ pa 36 42 k ∧ pa 36 42 k < 54 := by decide +kernel
end Vt
/-- the counts are within their bounds -/
def Rg (V : Nat → Int) : Prop := (0 ≤ V 3 ∧ V 3 ≤ 8) ∧ (0 ≤ V 4 ∧ V 4 ≤ 6) ∧ (0 ≤ V 5 ∧ V 5 ≤ 6) ∧ (0 ≤ V 6 ∧ V 6 ≤ 6)
def Rw (w : gLW) (V : Nat → Int) : Prop := (w.1 = 0 → V 3 < 8) ∧ (w.1 = 1 → V 4 < 6) ∧ (w.1 = 2 → V 5 < 6) ∧ (w.1 = 3 → V 6 < 6)
section Va
variable {s s' : gS} {V V' : Nat → Int} {w : gLW} {k : Nat}
theorem rdw {a j b i : Nat} {v : Int} : gI (gw s a j v) b i = if b = a ∧ i = j then v else gI s b i := rfl
theorem cv_fr (hf : Fr s s') (hk : KK k) : cv s' 36 42 k = cv s 36 42 k := hf.2 _ _ (fun z_l => by have := pa_d k hk.1; omega)
theorem cv_cw (hw : Rw w (cv s 36 42)) (hg : Rg (cv s 36 42)) (hk : KK k) : cv (cw w s) 36 42 k = av w (cv s 36 42) k := by
  obtain ⟨k1_l, k2_l, k3_l, k4_l⟩ := hk
  obtain ⟨c1_l, c2_l, c3_l, c4_l, c5_l, c6_l, c7_l, c8_l⟩ := tC k k1_l k2_l k3_l k4_l
  obtain ⟨g1, g2, g3_l, g4⟩ := hg
  obtain ⟨w1_l, w2_l, w3_l, w4_l⟩ := hw
  have q3_l : cv s 36 42 3 = gI s 36 5 := rfl
  have q4_l : cv s 36 42 4 = gI s 42 4 := rfl
  have q5_l : cv s 36 42 5 = gI s 36 6 := rfl
  have q6_l : cv s 36 42 6 = gI s 42 5 := rfl
  obtain ⟨t_l, v1_l, v2, v3⟩ := w
  unfold cw av
  dsimp only at w1_l w2_l w3_l w4_l ⊢
  split
  · have z_l := tS k k1_l (cv s 36 42 3).toNat (by have := w1_l rfl; omega)
    have z0 := z_l 0 (by omega)
    have z1 := z_l 1 (by omega)
    have z2 := z_l 2 (by omega)
    simp only [Nat.add_zero] at z0
    rw [q3_l] at z0 z1 z2 ⊢
    show gI _ (pa 36 42 k) (pj k) = _
    simp only [rdw, c1_l, z2, z1, z0, Nat.add_zero]
    rfl
  · have z_l := tM k k1_l (cv s 36 42 4).toNat (by have := w2_l rfl; omega)
    have z0 := z_l 0 (by omega)
    have z1 := z_l 1 (by omega)
    have z2 := z_l 2 (by omega)
    have z3 := z_l 3 (by omega)
    have z4 := z_l 4 (by omega)
    have z5 := z_l 5 (by omega)
    rw [q4_l] at z0 z1 z2 z3 z4 z5 ⊢
    show gI _ (pa 36 42 k) (pj k) = _
    simp only [rdw, c2_l, z5, z4, z3, z2, z1, z0]
    rfl
  · have z_l := tT k k1_l (cv s 36 42 5).toNat (by have := w3_l rfl; omega)
    have z0 := z_l 0 (by omega)
    have z1 := z_l 1 (by omega)
    simp only [Nat.add_zero] at z0
    rw [q5_l] at z0 z1 ⊢
    show gI _ (pa 36 42 k) (pj k) = _
    simp only [rdw, c3_l, z1, z0, Nat.add_zero]
    rfl
  · have z_l := tV k k1_l (cv s 36 42 6).toNat (by have := w4_l rfl; omega)
    have z0 := z_l 0 (by omega)
    have z1 := z_l 1 (by omega)
    simp only [Nat.add_zero] at z0
    rw [q6_l] at z0 z1 ⊢
    show gI _ (pa 36 42 k) (pj k) = _
    simp only [rdw, c4_l, z1, z0, Nat.add_zero]
    rfl
  · show gI _ (pa 36 42 k) (pj k) = _
    simp only [rdw, c5_l]
    rfl
  · show gI _ (pa 36 42 k) (pj k) = _
    simp only [rdw, c6_l]
    rfl
  · show gI _ (pa 36 42 k) (pj k) = _
    simp only [rdw, c7_l]
    rfl
  · show gI _ (pa 36 42 k) (pj k) = _
    simp only [rdw, c8_l]
    rfl
/-- rows alike on S go on alike on S -/
theorem av_S {S : Nat → Prop} (h : ∀ k, S k → V k = V' k) (h3 : V 3 = V' 3) (h4 : V 4 = V' 4) (h5 : V 5 = V' 5) (h6 : V 6 = V' 6) (hk : S k) : av w V k = av w V' k := by
  unfold av
  rw [h3, h4, h5, h6, h k hk]
theorem av_rg (hw : Rw w V) (hg : Rg V) : Rg (av w V) := by
  obtain ⟨⟨a3, b3⟩, ⟨a4, b4⟩, ⟨a5, b5⟩, ⟨a6, b6⟩⟩ := hg
  obtain ⟨w1_l, w2_l, w3_l, w4_l⟩ := hw
  obtain ⟨t_l, v1_l, v2, v3⟩ := w
  unfold Rg av
  dsimp only at w1_l w2_l w3_l w4_l ⊢
  split
  · have := w1_l rfl
    rw [if_pos rfl, if_neg (by omega), if_neg (by omega), if_neg (by omega), if_neg (by omega), if_neg (by omega), if_neg (by omega), if_neg (by omega), if_neg (by omega), if_neg (by omega), if_neg (by omega), if_neg (by omega), if_neg (by omega)]
    omega
  · have := w2_l rfl
    rw [if_neg (by omega), if_neg (by omega), if_neg (by omega), if_neg (by omega), if_neg (by omega), if_neg (by omega), if_neg (by omega), if_pos rfl, if_neg (by omega), if_neg (by omega), if_neg (by omega), if_neg (by omega), if_neg (by omega), if_neg (by omega), if_neg (by omega), if_neg (by omega), if_neg (by omega), if_neg (by omega), if_neg (by omega), if_neg (by omega), if_neg (by omega), if_neg (by omega)]
    omega
  · have := w3_l rfl
    rw [if_neg (by omega), if_neg (by omega), if_neg (by omega), if_neg (by omega), if_neg (by omega), if_neg (by omega), if_pos rfl, if_neg (by omega), if_neg (by omega), if_neg (by omega)]
    omega
  · have := w4_l rfl
    rw [if_neg (by omega), if_neg (by omega), if_neg (by omega), if_neg (by omega), if_neg (by omega), if_neg (by omega), if_neg (by omega), if_neg (by omega), if_neg (by omega), if_pos rfl]
    omega
  all_goals
    rw [if_neg (by omega), if_neg (by omega), if_neg (by omega), if_neg (by omega)]
    omega
end Va
/-- the text, with n lines at most -/
noncomputable def rdl (L : Nat → Int) (e : Nat) : Nat → Nat → (Nat → Int) → Nat ⊕ (Nat → Int)
  | 0, f, _ => Sum.inl f
  | n + 1, f, V => eb (ln L e f V) (fun y => if y.2 = e then Sum.inr (av y.1 V) else if L y.2 = 59 then rdl L e n (nx L e y.2) (av y.1 V) else Sum.inl y.2)
noncomputable def rdb (L : Nat → Int) (e : Nat) (V : Nat → Int) : Nat ⊕ (Nat → Int) := if sk L e 0 = e then Sum.inr V else rdl L e 14 (sk L e 0) V
section Rd2
variable {L : Nat → Int} {e f g : Nat} {V V' : Nat → Int} {w : gLW} {x y : Nat ⊕ (gLW × Nat)} {c : Prop}
theorem eb_w {α β : Type} {z : Nat ⊕ α} {k : α → Nat ⊕ β} {r : β} (h : eb z k = Sum.inr r) : ∃ q, z = Sum.inr q ∧ k q = Sum.inr r := by
  cases z with
  | inl q => cases h
  | inr q => exact ⟨q, rfl, h⟩
theorem lnS_t (h : lnS L e f = Sum.inr (w, g)) : w.1 = 0 := by
  obtain ⟨q1_l, -, h⟩ := eb_w h
  obtain ⟨q2_l, -, h⟩ := eb_w h
  obtain ⟨q3_l, -, h⟩ := eb_w h
  cases h
  rfl
theorem lnM_t (h : lnM L e f = Sum.inr (w, g)) : w.1 = 1 := by
  obtain ⟨q1_l, -, h⟩ := eb_w h
  obtain ⟨q2_l, -, h⟩ := eb_w h
  obtain ⟨q3_l, -, h⟩ := eb_w h
  cases h
  rfl
theorem lnT_t (h : lnT L e f = Sum.inr (w, g)) : w.1 = 2 := by
  obtain ⟨q1_l, -, h⟩ := eb_w h
  obtain ⟨q2_l, -, h⟩ := eb_w h
  cases h
  rfl
theorem ln1_t {t v : Nat} {hi : Int} (h : ln1 L e t v hi f = Sum.inr (w, g)) : w.1 = t := by
  obtain ⟨q1_l, -, h⟩ := eb_w h
  cases h
  rfl
theorem Rw_o (h : 4 ≤ w.1) : Rw w V := ⟨fun z_l => by omega, fun z_l => by omega, fun z_l => by omega, fun z_l => by omega⟩
/-- the counts have room for what a line tells -/
theorem ln_w (h : ln L e f V = Sum.inr (w, g)) : Rw w V := by
  unfold ln at h
  by_cases a1 : Wd L e 13 f
  · rw [cif_p a1] at h
    by_cases b1 : V 3 < 8
    · rw [if_pos b1] at h
      have := lnS_t h
      exact ⟨fun _ => b1, fun z_l => by omega, fun z_l => by omega, fun z_l => by omega⟩
    · rw [if_neg b1] at h; cases h
  rw [cif_n a1] at h
  by_cases a2 : Wd L e 14 f
  · rw [cif_p a2] at h
    by_cases b1 : V 4 < 6
    · rw [if_pos b1] at h
      have := lnM_t h
      exact ⟨fun z_l => by omega, fun _ => b1, fun z_l => by omega, fun z_l => by omega⟩
    · rw [if_neg b1] at h; cases h
  rw [cif_n a2] at h
  by_cases a3 : Wd L e 15 f
  · rw [cif_p a3] at h
    by_cases b1 : V 5 < 6
    · rw [if_pos b1] at h
      have := lnT_t h
      exact ⟨fun z_l => by omega, fun z_l => by omega, fun _ => b1, fun z_l => by omega⟩
    · rw [if_neg b1] at h; cases h
  rw [cif_n a3] at h
  by_cases a4 : Wd L e 16 f
  · rw [cif_p a4] at h
    by_cases b1 : V 6 < 6
    · rw [if_pos b1] at h
      have := ln1_t h
      exact ⟨fun z_l => by omega, fun z_l => by omega, fun z_l => by omega, fun _ => b1⟩
    · rw [if_neg b1] at h; cases h
  rw [cif_n a4] at h
  by_cases a5 : Wd L e 17 f
  · rw [cif_p a5] at h
    exact Rw_o (by have := ln1_t h; omega)
  rw [cif_n a5] at h
  by_cases a6 : Wd L e 25 f
  · rw [cif_p a6] at h
    exact Rw_o (by have := ln1_t h; omega)
  rw [cif_n a6] at h
  by_cases a7 : Wd L e 26 f
  · rw [cif_p a7] at h
    exact Rw_o (by have := ln1_t h; omega)
  rw [cif_n a7] at h
  by_cases a8 : Wd L e 27 f
  · rw [cif_p a8] at h
    exact Rw_o (by have := ln1_t h; omega)
  rw [cif_n a8] at h
  cases h
theorem ln_S (h3 : V 3 = V' 3) (h4 : V 4 = V' 4) (h5 : V 5 = V' 5) (h6 : V 6 = V' 6) : ln L e f V = ln L e f V' := by
  unfold ln
  rw [h3, h4, h5, h6]
/-- rows alike on S are read alike -/
theorem rdl_S {S : Nat → Prop} (s3 : S 3) (s4 : S 4) (s5 : S 5) (s6 : S 6) (n : Nat) : ∀ (f : Nat) (V V' : Nat → Int), (∀ k, S k → V k = V' k) → (∃ q, rdl L e n f V = Sum.inl q ∧ rdl L e n f V' = Sum.inl q) ∨ ∃ W W', rdl L e n f V = Sum.inr W ∧ rdl L e n f V' = Sum.inr W' ∧ ∀ k, S k → W k = W' k := by
  induction n with
  | zero => intro f V V' h_l; exact Or.inl ⟨f, rfl, rfl⟩
  | succ n ih_l =>
    intro f V V' h_l
    have el := ln_S (L := L) (e := e) (f := f) (h_l 3 s3) (h_l 4 s4) (h_l 5 s5) (h_l 6 s6)
    unfold rdl
    rw [el]
    cases hl : ln L e f V' with
    | inl q => exact Or.inl ⟨q, rfl, rfl⟩
    | inr z_l =>
      rw [eb_r, eb_r]
      have ha_l : ∀ k, S k → av z_l.1 V k = av z_l.1 V' k := fun k hk => av_S h_l (h_l 3 s3) (h_l 4 s4) (h_l 5 s5) (h_l 6 s6) hk
      by_cases c1 : z_l.2 = e
      · rw [if_pos c1, if_pos c1]
        exact Or.inr ⟨_, _, rfl, rfl, ha_l⟩
      · rw [if_neg c1, if_neg c1]
        by_cases c2 : L z_l.2 = 59
        · rw [if_pos c2, if_pos c2]
          exact ih_l _ _ _ ha_l
        · rw [if_neg c2, if_neg c2]
          exact Or.inl ⟨_, rfl, rfl⟩
theorem rdb_S {S : Nat → Prop} (s3 : S 3) (s4 : S 4) (s5 : S 5) (s6 : S 6) (h : ∀ k, S k → V k = V' k) : (∃ q, rdb L e V = Sum.inl q ∧ rdb L e V' = Sum.inl q) ∨ ∃ W W', rdb L e V = Sum.inr W ∧ rdb L e V' = Sum.inr W' ∧ ∀ k, S k → W k = W' k := by
  unfold rdb
  by_cases c : sk L e 0 = e
  · rw [if_pos c, if_pos c]
    exact Or.inr ⟨V, V', rfl, rfl, h⟩
  · rw [if_neg c, if_neg c]
    exact rdl_S s3 s4 s5 s6 14 _ _ _ h
end Rd2
