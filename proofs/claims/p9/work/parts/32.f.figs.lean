section Fi
variable {s s' : gS} {L : Nat → Int} {e a : Nat} {c x : Int}
theorem w_172 : gT (f_172 217 x s) (fun r => r.1 = 0 ∧ Fm s r.2.2.2 ∧ gI r.2.2.2 217 11 = gI s 217 11 ∧ gI r.2.2.2 217 12 = if gI s 217 12 = -1 then x else gI s 217 12) := by
  unfold f_172
  refine gT_ite (fun h0 => ?_) (fun h0 => gT_ret ⟨rfl, Fm_r s, rfl, by rw [if_neg h0]⟩)
  refine gT_ret ⟨rfl, Fm_w (Fm_r s) (Or.inr rfl), rd_k (a := 217) (k := 11) rfl (by decide), ?_⟩
  rw [if_pos h0]
  exact rd_same rfl
theorem w_173 (hM : Mp s L e) (ha : gI s 217 11 = (a : Int)) (hae : a ≤ e) : gT (f_173 217 s) (fun r => r.1 = 1 ∧ r.2.1 = ((sk L e a : Nat) : Int) ∧ Fm s r.2.2.2 ∧ gI r.2.2.2 217 12 = gI s 217 12 ∧ gI r.2.2.2 217 11 = ((sk L e a : Nat) : Int)) := by
  unfold f_173
  refine gT_v0 (A := fun u => Fm s u ∧ gI u 217 12 = gI s 217 12 ∧ gI u 217 11 = ((sk L e a : Nat) : Int)) (w_169 hM ha hae) (fun s1 h1 => ?_)
  exact gT_ret ⟨rfl, h1.2.2, h1⟩
theorem w_174 {lo hi : Int} (hM : Mp s L e) (hL : ∀ k, 0 ≤ L k ∧ L k ≤ 255) (ha : gI s 217 11 = (a : Int)) (hae : a ≤ e) (hw : gI s 217 12 = -1) : gT (f_174 217 lo hi s) (fun r => r.1 = 1 ∧ Fm s r.2.2.2 ∧ ((Nm L e (sk L e a) lo hi ∧ r.2.1 = nv L (sk L e a) (dr L e (sk L e a) - sk L e a) ∧ gI r.2.2.2 217 12 = -1 ∧ gI r.2.2.2 217 11 = ((dr L e (sk L e a) : Nat) : Int)) ∨ (¬ Nm L e (sk L e a) lo hi ∧ gI r.2.2.2 217 12 = ((sk L e a : Nat) : Int)))) := by
  have h400 := hM.1.2
  have hsk := sk_b (L := L) (e := e) (a := a) hae
  unfold f_174
  rw [if_pos hw]
  refine gT_v1 (A := fun v u => v = ((sk L e a : Nat) : Int) ∧ Fm s u ∧ gI u 217 12 = gI s 217 12 ∧ gI u 217 11 = ((sk L e a : Nat) : Int)) (w_173 hM ha hae) (fun v2 s1 h1 => ?_)
  generalize sk L e a = f at h1 hsk
  obtain ⟨e2, hf1, hw1, hb1⟩ := h1
  subst e2
  rw [hw] at hw1
  have q := drn_b (L := L) (e := e) e (a := f)
  have hend : ∀ (i : Nat) (x4 : Int) (u : gS), Fm s u → gI u 217 12 = -1 → gI u 217 11 = ((f + i : Nat) : Int) → x4 = nv L f i → i ≤ 4 → (dr L e f = f + i ∨ (i = 4 ∧ f + 4 ≤ dr L e f)) → gT (fb_174_89 217 lo hi (f : Int) x4 u) (fun r => r.1 = 1 ∧ Fm s r.2.2.2 ∧ ((Nm L e f lo hi ∧ r.2.1 = nv L f (dr L e f - f) ∧ gI r.2.2.2 217 12 = -1 ∧ gI r.2.2.2 217 11 = ((dr L e f : Nat) : Int)) ∨ (¬ Nm L e f lo hi ∧ gI r.2.2.2 217 12 = (f : Int)))) := by
    intro i x4 u hfu hwu hbu hx hi4 hd
    have hwrong : ¬ Nm L e f lo hi → gT (fb_174_119 217 (f : Int) x4 u) (fun r => r.1 = 1 ∧ Fm s r.2.2.2 ∧ ((Nm L e f lo hi ∧ r.2.1 = nv L f (dr L e f - f) ∧ gI r.2.2.2 217 12 = -1 ∧ gI r.2.2.2 217 11 = ((dr L e f : Nat) : Int)) ∨ (¬ Nm L e f lo hi ∧ gI r.2.2.2 217 12 = (f : Int)))) := by
      intro hn
      unfold fb_174_119
      refine gT_v0 (A := fun z => Fm u z ∧ gI z 217 11 = gI u 217 11 ∧ gI z 217 12 = if gI u 217 12 = -1 then (f : Int) else gI u 217 12) w_172 (fun s8 h8 => ?_)
      refine gT_ret ⟨rfl, Fm_t hfu h8.1, Or.inr ⟨hn, ?_⟩⟩
      dsimp only
      rw [h8.2.2, if_pos hwu]
    unfold fb_174_89
    rw [hbu]
    have g1 := g32_eq (v := ((f + i : Nat) : Int) - (f : Int)) (by omega) (by omega)
    rw [g1]
    clear g1
    have hlead : f < e ∧ 48 ≤ L f ∧ L f ≤ 57 ∨ dr L e f = f := by
      by_cases c1 : f < e ∧ 48 ≤ L f ∧ L f ≤ 57
      · exact Or.inl c1
      · exact Or.inr (dr_n c1)
    refine gT_ite (fun c1 => ?_) (fun c1 => ?_)
    · refine hwrong (fun z => ?_)
      have z1 := z.1
      have := dr_s z1
      have := drn_b (L := L) (e := e) e (a := f + 1)
      unfold dr at *
      omega
    refine gT_ite (fun c2 => ?_) (fun c2 => ?_)
    · refine hwrong (fun z => ?_)
      have := z.2.1
      omega
    have hdi : dr L e f = f + i := by omega
    have hi2 : dr L e f - f = i := by omega
    refine gT_ite (fun c3 => ?_) (fun c3 => ?_)
    · refine hwrong (fun z => ?_)
      have := z.2.2.1
      rw [hi2] at this
      omega
    refine gT_ite (fun c4 => ?_) (fun c4 => ?_)
    · refine hwrong (fun z => ?_)
      have := z.2.2.2
      rw [hi2] at this
      omega
    refine gT_ret ⟨rfl, hfu, Or.inl ⟨⟨hlead.resolve_right (by omega), by omega, by rw [hi2]; omega, by rw [hi2]; omega⟩, ?_, hwu, ?_⟩⟩
    · rw [hi2]; exact hx
    · rw [hdi]; exact hbu
  refine gT_loop (fun y => (y.1 = 217 ∧ y.2.1 = lo ∧ y.2.2.1 = hi ∧ y.2.2.2.1 = (f : Int)) ∧ (Fm s y.2.2.2.2.2 ∧ gI y.2.2.2.2.2 217 12 = -1) ∧ ∃ i : Nat, gI y.2.2.2.2.2 217 11 = ((f + i : Nat) : Int) ∧ y.2.2.2.2.1 = nv L f i ∧ i ≤ 4 ∧ f + i ≤ e ∧ dr L e (f + i) = dr L e f ∧ ∀ j, j < i → 48 ≤ L (f + j) ∧ L (f + j) ≤ 57) (fun y => (e - gI y.2.2.2.2.2 217 11).toNat) (fun y hy => ?_) ⟨⟨rfl, rfl, rfl, rfl⟩, ⟨hf1, hw1⟩, 0, hb1, rfl, by omega, by omega, rfl, fun j hj => by omega⟩
  obtain ⟨x0, x1, x2, x3, x4, u⟩ := y
  obtain ⟨⟨q0, q1, q2, q3⟩, ⟨hfu, hwu⟩, i, hbu, hx, hi4, hie, hdr, hdg⟩ := hy
  dsimp only at q0 q1 q2 q3 hfu hwu hbu hx
  subst q0 q1 q2 q3
  have hu := Mp_fr hM hfu
  have qi := drn_b (L := L) (e := e) e (a := f + i)
  show gT (sb_174_18 217 x1 x2 (f : Int) x4 u) _
  unfold sb_174_18
  rw [hbu, hu.1.1]
  refine gT_ite (fun hxe => ?_) (fun hxe => gT_map (hend i x4 u hfu hwu hbu hx hi4 (Or.inl (by rw [← hdr, dr_n (a := f + i) (by omega)]))))
  refine gT_v1 (A := fun v z => v = L (f + i) ∧ z = u) (w_168 hu (by omega)) (fun v4 s3 h3 => ?_)
  obtain ⟨e4, e3⟩ := h3
  subst e3
  refine gT_v1 (A := fun v z => ((v = 1 ∧ 48 ≤ v4 ∧ v4 ≤ 57) ∨ (v = 0 ∧ ¬ (48 ≤ v4 ∧ v4 ≤ 57))) ∧ z = s3) w_150 (fun v6 s5 h5 => ?_)
  obtain ⟨e6, e5⟩ := h5
  subst e5
  refine gT_ite (fun hc => gT_map (hend i x4 s5 hfu hwu hbu hx hi4 (Or.inl (by rw [← hdr, dr_n (a := f + i) (by omega)])))) (fun hc => ?_)
  have hdig : 48 ≤ L (f + i) ∧ L (f + i) ≤ 57 := by omega
  rw [hbu]
  have g1 := g32_eq (v := ((f + i : Nat) : Int) - (f : Int)) (by omega) (by omega)
  rw [g1]
  clear g1
  refine gT_ite (fun h3 => gT_map ?_) (fun h3 => ?_)
  · exact hend i x4 s5 hfu hwu hbu hx hi4 (Or.inr ⟨by omega, by unfold dr at *; omega⟩)
  refine gT_v1 (A := fun v z => v = L (f + i) ∧ z = s5) (w_168 hu (by omega)) (fun v11 s10 h10 => ?_)
  obtain ⟨e11, e10⟩ := h10
  subst e10
  have nb := nv_b (L := L) (a := f) (n := i) (by omega) hdg
  have hi1 : i + 1 ≤ 4 ∧ f + (i + 1) ≤ e := by omega
  have hlt : f + i < e := by omega
  have hm : ((e : Int) - (((f + i : Nat) : Int) + 1)).toNat < ((e : Int) - ((f + i : Nat) : Int)).toNat := by omega
  have hv : 10 * x4 + v11 - 48 = nv L f (i + 1) := by
    show _ = nv L f i * 10 + L (f + i) - 48
    omega
  have g2 := g32_eq (v := 10 * x4) (by omega) (by omega)
  have g3 := g32_eq (v := 10 * x4 + v11) (by omega) (by omega)
  have g4 := g32_eq (v := 10 * x4 + v11 - 48) (by omega) (by omega)
  have g5 := g32_eq (v := ((f + i : Nat) : Int) + 1) (by omega) (by omega)
  rw [hbu, g2, g3, g4, g5]
  clear g2 g3 g4 g5
  have k1 : gI (gw s10 217 11 (((f + i : Nat) : Int) + 1)) 217 11 = ((f + (i + 1) : Nat) : Int) := (rd_same rfl).trans rfl
  have k2 : gI (gw s10 217 11 (((f + i : Nat) : Int) + 1)) 217 12 = gI s10 217 12 := rd_k (a := 217) (k := 12) rfl (by decide)
  refine gT_ret ⟨⟨⟨rfl, rfl, rfl, rfl⟩, ⟨Fm_w hfu (Or.inl rfl), k2.trans hwu⟩, i + 1, k1, hv, hi1.1, hi1.2, ?_, fun j hj => ?_⟩, ?_⟩
  · rw [← hdr, dr_s (a := f + i) ⟨hlt, hdig⟩]
    rfl
  · by_cases ej : j = i
    · rw [ej]; exact hdig
    · exact hdg j (by omega)
  · dsimp only
    rw [rd_same rfl]
    exact hm
end Fi
