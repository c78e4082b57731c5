/-! image and back keep the full relation -/
section Ig
variable {s t u : gS} {p : gP} {R R' O O' B B' C C' k : Nat} {T : (Nat → Int) → Int}
theorem Tlw_g (hJ : J p s) (hB : B < 232 ∧ k0 B = 0) (h : Tlw s R B T) (h1 : ∀ k, k = 1 ∨ k = 2 ∨ (340 ≤ k ∧ k < 740) → gI t R' k = gI s R k) (hr : gR t B' 11 = gR s B 11) (h2 : ∀ a k, 232 ≤ a → a < gn s → gR t a k = gR s a k) (h3 : ∀ a, 232 ≤ a → a < gn s → gK t a = gK s a) (h4 : ∀ a k, 232 ≤ a → a < gn s → gI t a k = gI s a k) : Tlw t R' B' T := by
  rcases h with ⟨t1_l, t2_l, t3_l⟩ | ⟨y_l, k, t1_l, ⟨L_l, e_l, ⟨l1, l2, l3⟩, l4, l5, l6⟩, ⟨t3_l, t4_l⟩, t5_l, t6⟩
  · exact Or.inl ⟨t1_l, (h1 1 (by omega)).trans t2_l, hr.trans t3_l⟩
  · obtain ⟨⟨a1_l, a2⟩, ⟨a3, a4⟩, -⟩ := (hJ.1.2.2.2 B hB.1 hB.2).resolve_left (by omega)
    have rA : gR t (gR s B 11) 1 = gR s (gR s B 11) 1 := h2 _ 1 a1_l a2
    refine Or.inr ⟨y_l, k, t1_l, ⟨L_l, e_l, ⟨(h1 1 (by omega)).trans l1, (h1 2 (by omega)).trans l2, l3⟩, l4, fun j_l hj => (h1 _ (by omega)).trans (l5 j_l hj), l6⟩, ?_, ?_, t6⟩
    · rw [hr, rA]
      exact ⟨t3_l, t4_l⟩
    · rw [hr]
      obtain ⟨b1, b2, b3, b4⟩ := t5_l
      refine ⟨(h4 _ 0 a1_l a2).trans b1, ?_, ?_, ?_⟩
      · rw [rA]
        exact Eq.trans (List.map_congr_left (fun j_l _ => h4 _ j_l a3 a4)) b2
      · rw [rA, h3 _ a3 a4]
        exact b3
      · rw [rA]
        exact b4
theorem RW_l (h : RW s R O B C) (h1 : ∀ k, k < 340 → (k ≠ 1 ∧ k ≠ 2) → gI t R' (O' + k) = gI s R (O + k)) (h2 : ∀ k, KK k → cv t B' C' k = cv s B C k) (h3 : ∀ q, q < 240 → gI t (C' + 5) q = gI s (C + 5) q) : RW t R' O' B' C' := by
  obtain ⟨g1, g2, g3_l, g4⟩ := h
  have e13_l := h1 13 (by decide) (by decide)
  refine ⟨fun k hk => (h1 k (by have := hk.1; omega) ⟨hk.2.1, hk.2.2.1⟩).trans ((g1 k hk).trans (h2 k hk).symm), ⟨Vg_k g2.1 (fun k hk => (h1 k (by have := hk.1; omega) ⟨hk.2.1, hk.2.2.1⟩).symm), Vp_k g2.2 (fun k hk => (h1 k (by have := hk.1; omega) ⟨hk.2.1, hk.2.2.1⟩).symm)⟩, by rw [e13_l]; exact g3_l, fun i_l j_l hi_l hj => ?_⟩
  rw [e13_l] at hi_l ⊢
  rw [h3 _ (by omega), show O' + 100 + 4 * i_l + j_l = O' + (100 + 4 * i_l + j_l) by omega, h1 _ (by omega) (by omega), show O + (100 + 4 * i_l + j_l) = O + 100 + 4 * i_l + j_l by omega]
  exact g4 i_l j_l hi_l hj
theorem RW_g (h : RW s R O B C) (h1 : ∀ k, k < 340 → gI t R' (O' + k) = gI s R (O + k)) (h2 : ∀ k, KK k → cv t B' C' k = cv s B C k) (h3 : ∀ q, q < 240 → gI t (C' + 5) q = gI s (C + 5) q) : RW t R' O' B' C' := RW_l h (fun k hk _ => h1 k hk) h2 h3
/-- a cell of a row: in the book, or in the court -/
theorem pa_cc (hk : KK k) : (∃ o, o < 6 ∧ (∀ B C, pa B C k = B + o) ∧ ∀ B, BCr B (B + o) (pj k)) ∨ (∃ o, o < 12 ∧ (∀ B C, pa B C k = C + o) ∧ ∀ C, CCr C (C + o) (pj k) ∨ LCr C (C + o) (pj k)) := by
  obtain ⟨h1, h2, h3, h4⟩ := hk
  by_cases c1 : k < 16
  · have hc_l : (k = 0 ∨ k = 3 ∨ k = 5 ∨ k = 10 ∨ k = 11 ∨ k = 12) ∨ k = 13 ∨ (k = 4 ∨ k = 6 ∨ k = 7 ∨ k = 8 ∨ k = 9 ∨ k = 14) := by omega
    rcases hc_l with hc_l | hc_l | hc_l
    · rcases hc_l with rfl | rfl | rfl | rfl | rfl | rfl <;> exact Or.inl ⟨0, by decide, fun B C => rfl, fun B => Or.inl ⟨rfl, by decide, by decide⟩⟩
    · subst hc_l
      exact Or.inr ⟨4, by decide, fun B C => rfl, fun C => Or.inr (Or.inl ⟨rfl, rfl⟩)⟩
    · rcases hc_l with rfl | rfl | rfl | rfl | rfl | rfl <;> exact Or.inr ⟨0, by decide, fun B C => rfl, fun C => Or.inl (Or.inl ⟨rfl, by decide, by decide⟩)⟩
  by_cases c2 : k < 40
  · have ej : pj k = (k - 16) / 3 := by
      unfold pj
      rw [if_neg (by omega), if_pos (by omega)]
    refine Or.inl ⟨1 + (k - 16) % 3, by omega, fun B C => ?_, fun B => Or.inr (Or.inl ⟨by omega, by omega⟩)⟩
    unfold pa
    rw [if_neg (by omega), if_pos (by omega)]
    omega
  by_cases c3 : k < 76
  · have ej : pj k = (k - 40) % 6 := by
      unfold pj
      rw [if_neg (by omega), if_neg (by omega), if_pos (by omega)]
    refine Or.inr ⟨6 + (k - 40) / 6, by omega, fun B C => ?_, fun C => Or.inl (Or.inr (Or.inr ⟨by omega, by omega, by omega⟩))⟩
    unfold pa
    rw [if_neg (by omega), if_neg (by omega), if_pos (by omega)]
    omega
  by_cases c4 : k < 88
  · have ej : pj k = (k - 76) / 2 := by
      unfold pj
      rw [if_neg (by omega), if_neg (by omega), if_neg (by omega), if_pos (by omega)]
    refine Or.inl ⟨4 + (k - 76) % 2, by omega, fun B C => ?_, fun B => Or.inr (Or.inr ⟨by omega, by omega⟩)⟩
    unfold pa
    rw [if_neg (by omega), if_neg (by omega), if_neg (by omega), if_pos (by omega)]
    omega
  · have ej : pj k = (k - 88) / 2 := by
      unfold pj
      rw [if_neg (by omega), if_neg (by omega), if_neg (by omega), if_neg (by omega)]
    refine Or.inr ⟨2 + (k - 88) % 2, by omega, fun B C => ?_, fun C => Or.inl (Or.inr (Or.inl ⟨by omega, by omega⟩))⟩
    unfold pa
    rw [if_neg (by omega), if_neg (by omega), if_neg (by omega), if_neg (by omega)]
    omega
variable {D E : Nat}
theorem ci_k (h1 : BC B D s t) (h2 : FC C E t u) (d1 : B + 6 ≤ C ∨ C + 12 ≤ B) (d2 : B + 6 ≤ E ∨ E + 12 ≤ B) (hk : KK k) : cv u B C k = cv s D E k := by
  show gI u (pa B C k) (pj k) = gI s (pa D E k) (pj k)
  rcases pa_cc hk with ⟨o, o1, o2, o3_l⟩ | ⟨o, o1, o2, o3_l⟩
  · rw [o2, o2, (h2.2 _ _).2 (fun z_l => by have := blk z_l; omega), (h1.2 _ _).1 (o3_l _), show B + o - B + D = D + o by omega]
  · rw [o2, o2, (h2.2 _ _).1 (o3_l _), show C + o - C + E = E + o by omega]
    exact (h1.2 _ _).2 (fun z_l => by have := bkb z_l; omega)
theorem ci_l (h1 : BC B D s t) (h2 : FC C E t u) (d2 : B + 6 ≤ E ∨ E + 12 ≤ B) {q : Nat} (hq : q < 240) : gI u (C + 5) q = gI s (E + 5) q := by
  rw [(h2.2 (C + 5) q).1 (Or.inr (Or.inr ⟨rfl, hq⟩)), show C + 5 - C + E = E + 5 by omega]
  exact (h1.2 _ _).2 (fun z_l => by have := bkb z_l; omega)
theorem ax_131 (hJ : J p s) (hX : Rx s) : gQ (f_131 0 s) (fun r => ∀ p', J p' r.2.2.2 → gQ (f_261 217 r.2.2.2) (fun q => Rx q.2.2.2)) := by
  have hg : RF s := hJ.1.2.1
  have hn := hJ.1.1
  obtain ⟨b1, b2, b3, b4, b5, b6⟩ := k0_b
  unfold f_131
  rw [(rr_0_10 hg).2, (rr_0_4 hg).2]
  refine gQ_v0 (A := fun z_l => BC 54 9 s z_l) (fun r hr => (gQ_T (s_1 hg ⟨by decide, b3⟩ ⟨by decide, b1⟩ (by decide)) r hr).2) (fun s1_l h1 => ?_)
  have hg1 : RF s1_l := RF_bc hg b3 h1
  rw [(rr_0_11 hg1).2, (rr_0_5 hg1).2]
  refine gQ_v0 (A := fun z_l => FC 60 15 s1_l z_l) (fun r hr => (gQ_T (s_22 hg1 ⟨by decide, b6⟩ ⟨by decide, b4⟩ (by decide)) r hr).2) (fun s3_l h3 => ?_)
  refine gQ_bool (gQ_ret ?_)
  dsimp only
  have hf : ∀ a_l k_l, ¬ (54 ≤ a_l ∧ a_l < 72) → ¬ (a_l = 0 ∧ k_l = 15) → gI (gw s3_l 0 15 1) a_l k_l = gI s a_l k_l := fun a_l k_l ha_l hz => by
    show (if a_l = 0 ∧ k_l = 15 then _ else gI s3_l a_l k_l) = _
    rw [if_neg hz]
    exact ci_f h1 h3 (by omega) (by omega)
  have hcv : ∀ k_l, KK k_l → cv (gw s3_l 0 15 1) 54 60 k_l = cv s 9 15 k_l := fun k_l hk => by
    have hp := pa_15 k_l hk.1
    have e2_l : cv (gw s3_l 0 15 1) 54 60 k_l = cv s3_l 54 60 k_l := rd_a rfl (by omega)
    rw [e2_l]
    exact ci_k h1 h3 (by omega) (by omega) hk
  have hlg : ∀ q, q < 240 → gI (gw s3_l 0 15 1) 65 q = gI s 20 q := fun q hq => (rd_a rfl (by decide)).trans (ci_l h1 h3 (by decide) hq)
  have hnn_l : gn (gw s3_l 0 15 1) = gn s := h3.1.1.trans h1.1.1
  have hkk : ∀ a_l, gK (gw s3_l 0 15 1) a_l = gK s a_l := fun a_l => by
    show s3_l.2.1 a_l = s.2.1 a_l
    rw [h3.1.2.1, h1.1.2.1]
  have hrr : ∀ a_l k_l, gR (gw s3_l 0 15 1) a_l k_l = if a_l = 54 ∧ k_l = 11 then gR s 9 11 else gR s a_l k_l := fun a_l k_l => by
    show s3_l.2.2.2 a_l k_l = _
    rw [h3.1.2.2]
    exact h1.1.2.2 a_l k_l
  generalize gw s3_l 0 15 1 = v at *
  intro p' hJ' q hq
  have hgv := J_RF hJ'
  obtain ⟨q1_l, q2_l, q3_l, q4_l⟩ := x_261 (rr_217_1 hgv).2 (rr_217_2 hgv).2 q hq
  obtain ⟨y1, y2, ⟨y3, y4, y5, y6⟩, T, y7⟩ := hX
  have hf2 : ∀ a_l k_l, ¬ (54 ≤ a_l ∧ a_l < 72) → ¬ (a_l = 0 ∧ k_l = 15) → a_l ≠ 219 → ¬ (a_l = 217 ∧ (k_l = 0 ∨ k_l = 3)) → gI q.2.2.2 a_l k_l = gI s a_l k_l := fun a_l k_l c1_l c2_l c3_l c4_l => (q4_l a_l k_l c3_l c4_l).trans (hf a_l k_l c1_l c2_l)
  have rq : ∀ a_l k_l, gR q.2.2.2 a_l k_l = gR v a_l k_l := fun a_l k_l => by
    show q.2.2.2.2.2.2 a_l k_l = v.2.2.2 a_l k_l
    rw [q1_l.2.2]
  have kq : ∀ a_l, gK q.2.2.2 a_l = gK s a_l := fun a_l => by
    rw [← hkk a_l]
    show q.2.2.2.2.1 a_l = v.2.1 a_l
    rw [q1_l.2.1]
  have cvq : ∀ C_l k_l, 15 ≤ C_l → C_l + 12 ≤ 54 ∨ 72 ≤ C_l → C_l + 12 ≤ 217 → KK k_l → cv q.2.2.2 9 C_l k_l = cv s 9 C_l k_l := fun C_l k_l c1_l c2_l c3_l hk => by
    show gI q.2.2.2 (pa 9 C_l k_l) (pj k_l) = gI s (pa 9 C_l k_l) (pj k_l)
    rcases pa_cc hk with ⟨o, o1, o2, -⟩ | ⟨o, o1, o2, -⟩
    · rw [o2]
      exact hf2 _ _ (by omega) (by omega) (by omega) (by omega)
    · rw [o2]
      exact hf2 _ _ (by omega) (by omega) (by omega) (by omega)
  have lw : ∀ (R' B' : Nat), (R' = 218 ∧ B' = 9) ∨ (R' = 219 ∧ B' = 54) → Tlw q.2.2.2 R' B' T := fun R' B' hx => by
    refine Tlw_g hJ ⟨by decide, b1⟩ y7 (fun k_l hk => ?_) ?_ (fun a_l k_l ha_l ha2 => ?_) (fun a_l _ _ => kq a_l) (fun a_l k_l ha_l ha2 => hf2 a_l k_l (by omega) (by omega) (by omega) (by omega))
    · rcases hx with ⟨rfl, rfl⟩ | ⟨rfl, rfl⟩
      · exact hf2 218 k_l (by omega) (by omega) (by omega) (by omega)
      · rw [q2_l k_l (by omega)]
        exact hf 218 k_l (by omega) (by omega)
    · rw [rq, hrr]
      rcases hx with ⟨rfl, rfl⟩ | ⟨rfl, rfl⟩
      · rw [if_neg (by decide)]
      · rw [if_pos ⟨rfl, rfl⟩]
    · rw [rq, hrr, if_neg (by omega)]
  have e13_l := hf2 0 13 (by omega) (by omega) (by omega) (by omega)
  have e14_l := hf2 0 14 (by omega) (by omega) (by omega) (by omega)
  have e6_l := hf2 217 6 (by omega) (by omega) (by omega) (by omega)
  refine ⟨RW_g y1 (fun k_l hk => hf2 218 _ (by omega) (by omega) (by omega) (by omega)) (fun k_l hk => cvq 15 k_l (by decide) (by decide) (by decide) hk) (fun q hq => hf2 _ _ (by omega) (by omega) (by omega) (by omega)), fun _ => ⟨RW_g y1 (fun k_l hk => ?_) (fun k_l hk => ?_) (fun i_l hi_l => ?_), T, lw 219 54 (by omega)⟩, ⟨by rw [e14_l, e6_l]; exact y3, by rw [e13_l]; exact y4, by rw [e14_l]; exact y5, fun j_l hj => ?_⟩, T, lw 218 9 (by omega)⟩
  · rw [Nat.zero_add, q2_l k_l (by omega)]
    exact hf 218 k_l (by omega) (by omega)
  · have hp := pa_15 k_l hk.1
    refine Eq.trans ?_ (hcv k_l hk)
    exact q4_l _ _ (by omega) (by omega)
  · exact (q4_l 65 i_l (by omega) (by omega)).trans (hlg i_l hi_l)
  · rw [e14_l] at hj ⊢
    rw [e13_l]
    have hps : 73 ≤ pst (gI s 0 13) j_l ∧ pst (gI s 0 13) j_l + 12 ≤ 217 := by
      unfold pst
      omega
    exact RW_g (y6 j_l hj) (fun k_l hk => hf2 221 _ (by omega) (by omega) (by omega) (by omega)) (fun k_l hk => cvq _ k_l (by omega) (by omega) (by omega) hk) (fun q hq => hf2 _ _ (by omega) (by omega) (by omega) (by omega))
theorem ax_132 (hJ : J p s) (hi : p.2.2.2.1 = p.2.2.2.2) (h01 : p.2.2.2.2 = 0 ∨ p.2.2.2.2 = 1) (hX : Rx s) : gQ (f_132 0 s) (fun r => ∀ p', J p' r.2.2.2 → gQ (f_262 217 r.2.2.2) (fun q => Rx q.2.2.2)) := by
  have hg : RF s := hJ.1.2.1
  have hn := hJ.1.1
  have hi1 : gI s 0 15 = p.2.2.2.1 := hJ.2.2.2.2.1
  have hi2 : gI s 217 3 = p.2.2.2.2 := hJ.2.2.2.2.2
  obtain ⟨b1, b2, b3, b4, b5, b6⟩ := k0_b
  unfold f_132
  by_cases c : gI s 0 15 = 0
  · rw [if_pos c]
    refine gQ_ret (fun p' hJ' => ?_)
    dsimp only at hJ' ⊢
    have e3_l : gI (gw s 217 0 0) 217 3 = 0 := by
      rw [rd_k (a := 217) (k := 3) rfl (by decide), hi2, ← hi, ← hi1]
      exact c
    unfold f_262
    dsimp only
    rw [e3_l, if_pos rfl]
    exact gQ_ret (Rx_fw hJ hX (Fw_wv (Fw_rf hn) rfl))
  rw [if_neg c, (rr_0_10 hg).2, (rr_0_4 hg).2]
  refine gQ_v0 (A := fun z_l => BC 9 54 s z_l) (fun r hr => (gQ_T (s_1 hg ⟨by decide, b1⟩ ⟨by decide, b3⟩ (by decide)) r hr).2) (fun s1_l h1 => ?_)
  have hg1 : RF s1_l := RF_bc hg b1 h1
  rw [(rr_0_11 hg1).2, (rr_0_5 hg1).2]
  refine gQ_v0 (A := fun z_l => FC 15 60 s1_l z_l) (fun r hr => (gQ_T (s_22 hg1 ⟨by decide, b4⟩ ⟨by decide, b6⟩ (by decide)) r hr).2) (fun s3_l h3 => ?_)
  refine gQ_ret ?_
  dsimp only
  have hf : ∀ a_l k_l, ¬ (9 ≤ a_l ∧ a_l < 27) → ¬ (a_l = 0 ∧ k_l = 14) → gI (gw s3_l 0 14 0) a_l k_l = gI s a_l k_l := fun a_l k_l ha_l hz => by
    show (if a_l = 0 ∧ k_l = 14 then _ else gI s3_l a_l k_l) = _
    rw [if_neg hz]
    exact ci_f h1 h3 (by omega) (by omega)
  have hcv : ∀ k_l, KK k_l → cv (gw s3_l 0 14 0) 9 15 k_l = cv s 54 60 k_l := fun k_l hk => by
    have hp := pa_15 k_l hk.1
    have e2_l : cv (gw s3_l 0 14 0) 9 15 k_l = cv s3_l 9 15 k_l := rd_a rfl (by omega)
    rw [e2_l]
    exact ci_k h1 h3 (by omega) (by omega) hk
  have hlg : ∀ q, q < 240 → gI (gw s3_l 0 14 0) 20 q = gI s 65 q := fun q hq => (rd_a rfl (by decide)).trans (ci_l h1 h3 (by decide) hq)
  have h14 : gI (gw s3_l 0 14 0) 0 14 = 0 := rd_same rfl
  have hkk : ∀ a_l, gK (gw s3_l 0 14 0) a_l = gK s a_l := fun a_l => by
    show s3_l.2.1 a_l = s.2.1 a_l
    rw [h3.1.2.1, h1.1.2.1]
  have hrr : ∀ a_l k_l, gR (gw s3_l 0 14 0) a_l k_l = if a_l = 9 ∧ k_l = 11 then gR s 54 11 else gR s a_l k_l := fun a_l k_l => by
    show s3_l.2.2.2 a_l k_l = _
    rw [h3.1.2.2]
    exact h1.1.2.2 a_l k_l
  generalize gw s3_l 0 14 0 = v at *
  intro p' hJ' q hq
  have hgv := J_RF hJ'
  have hi3 : gI s 217 3 = 1 := by
    rw [hi2]
    rcases h01 with e_l | e_l
    · exact absurd (hi1.trans (hi.trans e_l)) c
    · exact e_l
  have hv3 : gI v 217 3 ≠ 0 := by
    rw [hf 217 3 (by omega) (by omega), hi3]
    decide
  obtain ⟨q1_l, q2_l, q3_l, q4_l⟩ := x_262 (rr_217_1 hgv).2 (rr_217_2 hgv).2 hv3 q hq
  obtain ⟨y1, y2, ⟨y3, y4, y5, y6⟩, T0_l, y7⟩ := hX
  obtain ⟨y8, T, y9⟩ := y2 hi3
  have hf2 : ∀ a_l k_l, ¬ (9 ≤ a_l ∧ a_l < 27) → ¬ (a_l = 0 ∧ k_l = 14) → ¬ (a_l = 218 ∧ k_l < 740) → ¬ (a_l = 217 ∧ (k_l = 0 ∨ k_l = 6)) → gI q.2.2.2 a_l k_l = gI s a_l k_l := fun a_l k_l c1_l c2_l c3_l c4_l => (q4_l a_l k_l c3_l c4_l).trans (hf a_l k_l c1_l c2_l)
  have rq : ∀ a_l k_l, gR q.2.2.2 a_l k_l = gR v a_l k_l := fun a_l k_l => by
    show q.2.2.2.2.2.2 a_l k_l = v.2.2.2 a_l k_l
    rw [q1_l.2.2]
  have kq : ∀ a_l, gK q.2.2.2 a_l = gK s a_l := fun a_l => by
    rw [← hkk a_l]
    show q.2.2.2.2.1 a_l = v.2.1 a_l
    rw [q1_l.2.1]
  have lw : ∀ (R' B' : Nat), (R' = 218 ∧ B' = 9) ∨ (R' = 219 ∧ B' = 54) → Tlw q.2.2.2 R' B' T := fun R' B' hx => by
    refine Tlw_g hJ ⟨by decide, b3⟩ y9 (fun k_l hk => ?_) ?_ (fun a_l k_l ha_l ha2 => ?_) (fun a_l _ _ => kq a_l) (fun a_l k_l ha_l ha2 => hf2 a_l k_l (by omega) (by omega) (by omega) (by omega))
    · rcases hx with ⟨rfl, rfl⟩ | ⟨rfl, rfl⟩
      · rw [q2_l k_l (by omega)]
        exact hf 219 k_l (by omega) (by omega)
      · exact hf2 219 k_l (by omega) (by omega) (by omega) (by omega)
    · rw [rq, hrr]
      rcases hx with ⟨rfl, rfl⟩ | ⟨rfl, rfl⟩
      · rw [if_pos ⟨rfl, rfl⟩]
      · rw [if_neg (by decide)]
    · rw [rq, hrr, if_neg (by omega)]
  have e14_l : gI q.2.2.2 0 14 = 0 := (q4_l 0 14 (by omega) (by omega)).trans h14
  have e13_l := hf2 0 13 (by omega) (by omega) (by omega) (by omega)
  refine ⟨RW_g y8 (fun k_l hk => ?_) (fun k_l hk => ?_) (fun i_l hi => ?_), fun _ => ⟨RW_g y8 (fun k_l hk => hf2 219 _ (by omega) (by omega) (by omega) (by omega)) (fun k_l hk => ?_) (fun i_l hi => hf2 _ _ (by omega) (by omega) (by omega) (by omega)), T, lw 219 54 (by omega)⟩, ⟨by rw [e14_l, q3_l], by rw [e13_l]; exact y4, by rw [e14_l]; decide, fun j_l hj => by rw [e14_l] at hj; omega⟩, T, lw 218 9 (by omega)⟩
  · rw [Nat.zero_add, q2_l k_l (by omega)]
    exact hf 219 k_l (by omega) (by omega)
  · have hp := pa_15 k_l hk.1
    refine Eq.trans ?_ (hcv k_l hk)
    exact q4_l _ _ (by omega) (by omega)
  · exact (q4_l 20 i_l (by omega) (by omega)).trans (hlg i_l hi)
  · have hp := pa_15 k_l hk.1
    exact hf2 _ _ (by omega) (by omega) (by omega) (by omega)
end Ig
