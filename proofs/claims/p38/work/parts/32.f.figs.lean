section Fi
variable {s s' : gS} {L : Nat → Int} {e a : Nat} {c x : Int}
theorem w_172 : gT (f_172 217 x s) (fun r => r.1 = 0 ∧ Fm s r.2.2.2 ∧ gI r.2.2.2 217 11 = gI s 217 11 ∧ gI r.2.2.2 217 12 = if gI s 217 12 = -1 then x else gI s 217 12) := by
  unfold f_172
  refine gT_ite (fun h0 => ?_) (fun h0 => gT_ret ⟨rfl, Fm_r s, rfl, by rw [if_neg h0]⟩)
  refine gT_ret ⟨rfl, Fm_w (Fm_r s) (Or.inr rfl), rd_k (a := 217) (k := 11) rfl (by decide), ?_⟩
  rw [if_pos h0]
  exact rd_same rfl
theorem w_173 (hM : Mp s L e) (ha : gI s 217 11 = (a : Int)) (hae : a ≤ e) : gT (f_173 217 s) (fun r => r.1 = 1 ∧ r.2.1 = ((sk L e a : Nat) : Int) ∧ Fm s r.2.2.2 ∧ gI r.2.2.2 217 12 = gI s 217 12 ∧ gI r.2.2.2 217 11 = ((sk L e a : Nat) : Int)) := by
  unfold f_173
  refine gT_v0 (A := fun u_l => Fm s u_l ∧ gI u_l 217 12 = gI s 217 12 ∧ gI u_l 217 11 = ((sk L e a : Nat) : Int)) (w_169 hM ha hae) (fun s1_l h1 => ?_)
  exact gT_ret ⟨rfl, h1.2.2, h1⟩
theorem w_174 {lo hi : Int} (hM : Mp s L e) (hL : ∀ k, 0 ≤ L k ∧ L k ≤ 255) (ha : gI s 217 11 = (a : Int)) (hae : a ≤ e) (hw : gI s 217 12 = -1) : gT (f_174 217 lo hi s) (fun r => r.1 = 1 ∧ Fm s r.2.2.2 ∧ ((Nm L e (sk L e a) lo hi ∧ r.2.1 = nv L (sk L e a) (dr L e (sk L e a) - sk L e a) ∧ gI r.2.2.2 217 12 = -1 ∧ gI r.2.2.2 217 11 = ((dr L e (sk L e a) : Nat) : Int)) ∨ (¬ Nm L e (sk L e a) lo hi ∧ gI r.2.2.2 217 12 = ((sk L e a : Nat) : Int)))) := by
  have h400 := hM.1.2
  have hsk := sk_b (L := L) (e := e) (a := a) hae
  unfold f_174
  rw [if_pos hw]
  refine gT_v1 (A := fun v_l u_l => v_l = ((sk L e a : Nat) : Int) ∧ Fm s u_l ∧ gI u_l 217 12 = gI s 217 12 ∧ gI u_l 217 11 = ((sk L e a : Nat) : Int)) (w_173 hM ha hae) (fun v2 s1_l h1 => ?_)
  generalize sk L e a = f at h1 hsk
  obtain ⟨e2_l, hf1, hw1, hb1⟩ := h1
  subst e2_l
  rw [hw] at hw1
  have q_l := drn_b (L := L) (e := e) e (a := f)
  have hend : ∀ (i_l : Nat) (x4_l : Int) (u_l : gS), Fm s u_l → gI u_l 217 12 = -1 → gI u_l 217 11 = ((f + i_l : Nat) : Int) → x4_l = nv L f i_l → i_l ≤ 4 → (dr L e f = f + i_l ∨ (i_l = 4 ∧ f + 4 ≤ dr L e f)) → gT (fb_174_89 217 lo hi (f : Int) x4_l u_l) (fun r => r.1 = 1 ∧ Fm s r.2.2.2 ∧ ((Nm L e f lo hi ∧ r.2.1 = nv L f (dr L e f - f) ∧ gI r.2.2.2 217 12 = -1 ∧ gI r.2.2.2 217 11 = ((dr L e f : Nat) : Int)) ∨ (¬ Nm L e f lo hi ∧ gI r.2.2.2 217 12 = (f : Int)))) := by
    intro i_l x4_l u_l hfu hwu hbu hx hi4 hd_l
    have hwrong : ¬ Nm L e f lo hi → gT (fb_174_119 217 (f : Int) x4_l u_l) (fun r => r.1 = 1 ∧ Fm s r.2.2.2 ∧ ((Nm L e f lo hi ∧ r.2.1 = nv L f (dr L e f - f) ∧ gI r.2.2.2 217 12 = -1 ∧ gI r.2.2.2 217 11 = ((dr L e f : Nat) : Int)) ∨ (¬ Nm L e f lo hi ∧ gI r.2.2.2 217 12 = (f : Int)))) := by
      intro hn
      unfold fb_174_119
      refine gT_v0 (A := fun z_l => Fm u_l z_l ∧ gI z_l 217 11 = gI u_l 217 11 ∧ gI z_l 217 12 = if gI u_l 217 12 = -1 then (f : Int) else gI u_l 217 12) w_172 (fun s8 h8 => ?_)
      refine gT_ret ⟨rfl, Fm_t hfu h8.1, Or.inr ⟨hn, ?_⟩⟩
      dsimp only
      rw [h8.2.2, if_pos hwu]
    unfold fb_174_89
    rw [hbu]
    have g1 := g32_eq (v := ((f + i_l : Nat) : Int) - (f : Int)) (by omega) (by omega)
    rw [g1]
    clear g1
    have hlead : f < e ∧ 48 ≤ L f ∧ L f ≤ 57 ∨ dr L e f = f := by
      by_cases c1_l : f < e ∧ 48 ≤ L f ∧ L f ≤ 57
      · exact Or.inl c1_l
      · exact Or.inr (dr_n c1_l)
    refine gT_ite (fun c1_l => ?_) (fun c1_l => ?_)
    · refine hwrong (fun z_l => ?_)
      have z1 := z_l.1
      have := dr_s z1
      have := drn_b (L := L) (e := e) e (a := f + 1)
      unfold dr at *
      omega
    refine gT_ite (fun c2_l => ?_) (fun c2_l => ?_)
    · refine hwrong (fun z_l => ?_)
      have := z_l.2.1
      omega
    have hdi : dr L e f = f + i_l := by omega
    have hi2 : dr L e f - f = i_l := by omega
    refine gT_ite (fun c3_l => ?_) (fun c3_l => ?_)
    · refine hwrong (fun z_l => ?_)
      have := z_l.2.2.1
      rw [hi2] at this
      omega
    refine gT_ite (fun c4_l => ?_) (fun c4_l => ?_)
    · refine hwrong (fun z_l => ?_)
      have := z_l.2.2.2
      rw [hi2] at this
      omega
    refine gT_ret ⟨rfl, hfu, Or.inl ⟨⟨hlead.resolve_right (by omega), by omega, by rw [hi2]; omega, by rw [hi2]; omega⟩, ?_, hwu, ?_⟩⟩
    · rw [hi2]; exact hx
    · rw [hdi]; exact hbu
  refine gT_loop (fun y_l => (y_l.1 = 217 ∧ y_l.2.1 = lo ∧ y_l.2.2.1 = hi ∧ y_l.2.2.2.1 = (f : Int)) ∧ (Fm s y_l.2.2.2.2.2 ∧ gI y_l.2.2.2.2.2 217 12 = -1) ∧ ∃ i_l : Nat, gI y_l.2.2.2.2.2 217 11 = ((f + i_l : Nat) : Int) ∧ y_l.2.2.2.2.1 = nv L f i_l ∧ i_l ≤ 4 ∧ f + i_l ≤ e ∧ dr L e (f + i_l) = dr L e f ∧ ∀ j_l, j_l < i_l → 48 ≤ L (f + j_l) ∧ L (f + j_l) ≤ 57) (fun y_l => (e - gI y_l.2.2.2.2.2 217 11).toNat) (fun y_l hy => ?_) ⟨⟨rfl, rfl, rfl, rfl⟩, ⟨hf1, hw1⟩, 0, hb1, rfl, by omega, by omega, rfl, fun j_l hj => by omega⟩
  obtain ⟨x0_l, x1_l, x2_l, x3, x4_l, u_l⟩ := y_l
  obtain ⟨⟨q0, q1_l, q2_l, q3_l⟩, ⟨hfu, hwu⟩, i_l, hbu, hx, hi4, hie, hdr, hdg⟩ := hy
  dsimp only at q0 q1_l q2_l q3_l hfu hwu hbu hx
  subst q0 q1_l q2_l q3_l
  have hu := Mp_fr hM hfu
  have qi := drn_b (L := L) (e := e) e (a := f + i_l)
  show gT (sb_174_18 217 x1_l x2_l (f : Int) x4_l u_l) _
  unfold sb_174_18
  rw [hbu, hu.1.1]
  refine gT_ite (fun hxe => ?_) (fun hxe => gT_map (hend i_l x4_l u_l hfu hwu hbu hx hi4 (Or.inl (by rw [← hdr, dr_n (a := f + i_l) (by omega)]))))
  refine gT_v1 (A := fun v_l z_l => v_l = L (f + i_l) ∧ z_l = u_l) (w_168 hu (by omega)) (fun v4_l s3_l h3 => ?_)
  obtain ⟨e4_l, e3_l⟩ := h3
  subst e3_l
  refine gT_v1 (A := fun v_l z_l => ((v_l = 1 ∧ 48 ≤ v4_l ∧ v4_l ≤ 57) ∨ (v_l = 0 ∧ ¬ (48 ≤ v4_l ∧ v4_l ≤ 57))) ∧ z_l = s3_l) w_150 (fun v6 s5 h5 => ?_)
  obtain ⟨e6_l, e5_l⟩ := h5
  subst e5_l
  refine gT_ite (fun hc_l => gT_map (hend i_l x4_l s5 hfu hwu hbu hx hi4 (Or.inl (by rw [← hdr, dr_n (a := f + i_l) (by omega)])))) (fun hc_l => ?_)
  have hdig : 48 ≤ L (f + i_l) ∧ L (f + i_l) ≤ 57 := by omega
  rw [hbu]
  have g1 := g32_eq (v := ((f + i_l : Nat) : Int) - (f : Int)) (by omega) (by omega)
  rw [g1]
  clear g1
  refine gT_ite (fun h3 => gT_map ?_) (fun h3 => ?_)
  · exact hend i_l x4_l s5 hfu hwu hbu hx hi4 (Or.inr ⟨by omega, by unfold dr at *; omega⟩)
  refine gT_v1 (A := fun v_l z_l => v_l = L (f + i_l) ∧ z_l = s5) (w_168 hu (by omega)) (fun v11 s10 h10 => ?_)
  obtain ⟨e11_l, e10_l⟩ := h10
  subst e10_l
  have nb := nv_b (L := L) (a := f) (n := i_l) (by omega) hdg
  have hi1 : i_l + 1 ≤ 4 ∧ f + (i_l + 1) ≤ e := by omega
  have hlt : f + i_l < e := by omega
  have hm_l : ((e : Int) - (((f + i_l : Nat) : Int) + 1)).toNat < ((e : Int) - ((f + i_l : Nat) : Int)).toNat := by omega
  have hv : 10 * x4_l + v11 - 48 = nv L f (i_l + 1) := by
    show _ = nv L f i_l * 10 + L (f + i_l) - 48
    omega
  have g2 := g32_eq (v := 10 * x4_l) (by omega) (by omega)
  have g3_l := g32_eq (v := 10 * x4_l + v11) (by omega) (by omega)
  have g4 := g32_eq (v := 10 * x4_l + v11 - 48) (by omega) (by omega)
  have g5_l := g32_eq (v := ((f + i_l : Nat) : Int) + 1) (by omega) (by omega)
  rw [hbu, g2, g3_l, g4, g5_l]
  clear g2 g3_l g4 g5_l
  have k1_l : gI (gw s10 217 11 (((f + i_l : Nat) : Int) + 1)) 217 11 = ((f + (i_l + 1) : Nat) : Int) := (rd_same rfl).trans rfl
  have k2_l : gI (gw s10 217 11 (((f + i_l : Nat) : Int) + 1)) 217 12 = gI s10 217 12 := rd_k (a := 217) (k := 12) rfl (by decide)
  refine gT_ret ⟨⟨⟨rfl, rfl, rfl, rfl⟩, ⟨Fm_w hfu (Or.inl rfl), k2_l.trans hwu⟩, i_l + 1, k1_l, hv, hi1.1, hi1.2, ?_, fun j_l hj => ?_⟩, ?_⟩
  · rw [← hdr, dr_s (a := f + i_l) ⟨hlt, hdig⟩]
    rfl
  · by_cases ej : j_l = i_l
    · rw [ej]; exact hdig
    · exact hdg j_l (by omega)
  · dsimp only
    rw [rd_same rfl]
    exact hm_l
end Fi
