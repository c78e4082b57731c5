/-! image and back on both sides -/
section Ib
variable {s t u : gS} {p : gP} {B C D E : Nat}
def txq (k : Nat) : Nat := if k = 4 ∨ k = 6 ∨ (42 ≤ k ∧ k ≤ 72 ∧ k % 6 = 0) then 1 else if k = 0 ∨ k = 3 ∨ k = 5 ∨ k = 10 ∨ k = 11 ∨ k = 12 then 2 else if 16 ≤ k ∧ k < 40 then 3 else if 76 ≤ k ∧ k < 88 then 4 else 0
theorem tx_q : ∀ k, k < 100 → (k ≠ 1 ∧ k ≠ 2 ∧ k ≠ 15) → mnt k = false → txq k ≠ 0 := by decide +kernel
theorem tx_c1 (k : Nat) (h1 : k < 100) (h2 : k ≠ 1 ∧ k ≠ 2 ∧ k ≠ 15) (h3 : mnt k = false) : (k = 4 ∨ k = 6 ∨ (42 ≤ k ∧ k ≤ 72 ∧ k % 6 = 0)) ∨ (k = 0 ∨ k = 3 ∨ k = 5 ∨ k = 10 ∨ k = 11 ∨ k = 12) ∨ (16 ≤ k ∧ k < 40) ∨ (76 ≤ k ∧ k < 88) := by
  have h4 := tx_q k h1 h2 h3
  unfold txq at h4
  by_cases c1 : k = 4 ∨ k = 6 ∨ (42 ≤ k ∧ k ≤ 72 ∧ k % 6 = 0)
  · exact Or.inl c1
  rw [if_neg c1] at h4
  by_cases c2 : k = 0 ∨ k = 3 ∨ k = 5 ∨ k = 10 ∨ k = 11 ∨ k = 12
  · exact Or.inr (Or.inl c2)
  rw [if_neg c2] at h4
  by_cases c3 : 16 ≤ k ∧ k < 40
  · exact Or.inr (Or.inr (Or.inl c3))
  rw [if_neg c3] at h4
  by_cases c4 : 76 ≤ k ∧ k < 88
  · exact Or.inr (Or.inr (Or.inr c4))
  rw [if_neg c4] at h4
  exact absurd rfl h4
/-- a cell of a text: in the court, or in the book -/
theorem Tx_c {k : Nat} (hk : Tx k) : Tc k ∨ ∃ o q, o < 6 ∧ (∀ B C, pa B C k = B + o) ∧ pj k = q ∧ ∀ B, BCr B (B + o) q := by
  rcases tx_c1 k hk.1.1 hk.1.2 hk.2 with (c_l | c_l | c_l) | c_l | c_l | c_l
  · exact Or.inl (Or.inl c_l)
  · exact Or.inl (Or.inr (Or.inl c_l))
  · exact Or.inl (Or.inr (Or.inr ⟨(k - 42) / 6, by omega, by omega⟩))
  · refine Or.inr ⟨0, pj k, by decide, ?_, rfl, fun B => Or.inl ⟨rfl, ?_, ?_⟩⟩
    · rcases c_l with rfl | rfl | rfl | rfl | rfl | rfl <;> exact fun B C => rfl
    · rcases c_l with rfl | rfl | rfl | rfl | rfl | rfl <;> decide
    · rcases c_l with rfl | rfl | rfl | rfl | rfl | rfl <;> decide
  · refine Or.inr ⟨1 + (k - 16) % 3, (k - 16) / 3, by omega, fun B C => ?_, ?_, fun B => Or.inr (Or.inl ⟨by omega, by omega⟩)⟩
    · unfold pa
      rw [if_neg (by omega), if_pos (by omega)]
      omega
    · unfold pj
      rw [if_neg (by omega), if_pos (by omega)]
  · refine Or.inr ⟨4 + (k - 76) % 2, (k - 76) / 2, by omega, fun B C => ?_, ?_, fun B => Or.inr (Or.inr ⟨by omega, by omega⟩)⟩
    · unfold pa
      rw [if_neg (by omega), if_neg (by omega), if_neg (by omega), if_pos (by omega)]
      omega
    · unfold pj
      rw [if_neg (by omega), if_neg (by omega), if_neg (by omega), if_pos (by omega)]
theorem pa_9C {k : Nat} (hk : Tc k) : ∃ o q, o < 12 ∧ (∀ B C, pa B C k = C + o) ∧ pj k = q ∧ ∀ C, CCr C (C + o) q := by
  rcases hk with rfl | rfl | ⟨x_l, hx, rfl⟩
  · exact ⟨0, 4, by decide, fun B C => rfl, rfl, fun C => Or.inl ⟨rfl, by decide, by decide⟩⟩
  · exact ⟨0, 5, by decide, fun B C => rfl, rfl, fun C => Or.inl ⟨rfl, by decide, by decide⟩⟩
  · refine ⟨6 + x_l, 2, by omega, fun B C => ?_, ?_, fun C => Or.inr (Or.inr ⟨by omega, by omega, by decide⟩)⟩
    · unfold pa
      rw [if_neg (by omega), if_neg (by omega), if_pos (by omega)]
      omega
    · unfold pj
      rw [if_neg (by omega), if_neg (by omega), if_pos (by omega)]
      omega
theorem bkb {a b j : Nat} (h : BCr a b j) : a ≤ b ∧ b < a + 6 := by
  unfold BCr at h
  omega
theorem ci_f (h1 : BC B D s t) (h2 : FC C E t u) {a k : Nat} (ha : ¬ (B ≤ a ∧ a < B + 6)) (hb : ¬ (C ≤ a ∧ a < C + 12)) : gI u a k = gI s a k :=
  ((h2.2 a k).2 (fun z_l => hb (blk z_l))).trans ((h1.2 a k).2 (fun z_l => ha (bkb z_l)))
theorem ci_c (h1 : BC B D s t) (h2 : FC C E t u) (d1 : B + 6 ≤ C ∨ C + 12 ≤ B) (d2 : B + 6 ≤ E ∨ E + 12 ≤ B) {k : Nat} (hk : Tx k) : cv u B C k = cv s D E k := by
  rcases Tx_c hk with c_l | ⟨o, q_l, o1, o2, o3_l, o4_l⟩
  · obtain ⟨o, q_l, o1, o2, o3_l, o4_l⟩ := pa_9C c_l
    show gI u (pa B C k) (pj k) = gI s (pa D E k) (pj k)
    rw [o2, o2, o3_l, (h2.2 _ q_l).1 (Or.inl (o4_l _)), show C + o - C + E = E + o by omega]
    exact (h1.2 _ q_l).2 (fun z_l => by have := bkb z_l; omega)
  · show gI u (pa B C k) (pj k) = gI s (pa D E k) (pj k)
    rw [o2, o2, o3_l, (h2.2 _ q_l).2 (fun z_l => by have := blk z_l; omega), (h1.2 _ q_l).1 (o4_l _), show B + o - B + D = D + o by omega]
theorem ci_r (hg : RF s) (t0 : k0 B = 0) (h1 : BC B D s t) (h2 : FC C E t u) : RF u := RF_sm (RF_bc hg t0 h1) h2.1.2.2
/-- between the two halves of image -/
def Mim (s : gS) : Prop := (Rc1 s ∧ Rc2 s ∧ Rc4 s ∧ Rc5 s) ∧ ∀ k, Tx k → cv s 54 60 k = cv s 9 15 k
theorem rt_131 (hJ : J p s) (h : Rt s) : gQ (f_131 0 s) (fun r => Mim r.2.2.2) := by
  have hg : RF s := hJ.1.2.1
  obtain ⟨b1, b2, b3, b4, b5, b6⟩ := k0_b
  unfold f_131
  rw [(rr_0_10 hg).2, (rr_0_4 hg).2]
  refine gQ_v0 (A := fun z_l => BC 54 9 s z_l) (fun r hr => (gQ_T (s_1 hg ⟨by decide, b3⟩ ⟨by decide, b1⟩ (by decide)) r hr).2) (fun s1_l h1 => ?_)
  have hg1 : RF s1_l := RF_bc hg b3 h1
  rw [(rr_0_11 hg1).2, (rr_0_5 hg1).2]
  refine gQ_v0 (A := fun z_l => FC 60 15 s1_l z_l) (fun r hr => (gQ_T (s_22 hg1 ⟨by decide, b6⟩ ⟨by decide, b4⟩ (by decide)) r hr).2) (fun s3_l h3 => ?_)
  refine gQ_bool (gQ_ret ?_)
  dsimp only
  have hf : ∀ a_l k_l, ¬ (54 ≤ a_l ∧ a_l < 72) → ¬ (a_l = 0 ∧ k_l = 15) → gI (gw s3_l 0 15 1) a_l k_l = gI s a_l k_l := fun a_l k_l ha_l hz => by
    show (if a_l = 0 ∧ k_l = 15 then _ else gI s3_l a_l k_l) = _
    rw [if_neg hz]
    exact ci_f h1 h3 (by omega) (by omega)
  obtain ⟨g1, g2, g3_l, g4, g5_l⟩ := h
  refine ⟨⟨c1_e g1 (fun a_l k_l ha_l ha2 => hf a_l k_l (by omega) (by omega)) (fun k_l _ => hf 218 k_l (by omega) (by omega)), fun k_l => (hf 2 k_l (by omega) (by omega)).trans ((g2 k_l).trans (hf 222 k_l (by omega) (by omega)).symm), c4_e g4 (hf 0 13 (by omega) (by omega)) (hf 0 14 (by omega) (by omega)) (fun a_l k_l ha_l ha2 => hf a_l k_l (by omega) (by omega)) (fun a_l k_l ha_l ha2 => hf a_l k_l (by omega) (by omega)), c5_e g5_l (hf 217 6 (by omega) (by omega)) (fun k_l => hf 221 k_l (by omega) (by omega)) (fun k_l => hf 218 k_l (by omega) (by omega))⟩, fun k_l hk => ?_⟩
  have hp := pa_15 k_l hk.1.1
  have e1_l : cv (gw s3_l 0 15 1) 9 15 k_l = cv s 9 15 k_l := hf _ _ (by omega) (by omega)
  have e2_l : cv (gw s3_l 0 15 1) 54 60 k_l = cv s3_l 54 60 k_l := rd_a rfl (by omega)
  rw [e1_l, e2_l]
  exact ci_c h1 h3 (by omega) (by omega) hk
theorem rt_261 (hJ : J p s) (h : Mim s) : gQ (f_261 217 s) (fun r => Rt r.2.2.2) := by
  have hg : RF s := hJ.1.2.1
  obtain ⟨⟨g1, g2, g4, g5_l⟩, g3_l⟩ := h
  intro r hr
  obtain ⟨q1_l, q2_l, q3_l, q4_l⟩ := x_261 (rr_217_1 hg).2 (rr_217_2 hg).2 r hr
  refine Rt_5 (c1_e g1 (fun a_l k_l ha_l ha2 => q4_l a_l k_l (by omega) (by omega)) (fun k_l _ => q4_l 218 k_l (by decide) (by omega))) (fun k_l => (q4_l 2 k_l (by decide) (by omega)).trans ((g2 k_l).trans (q4_l 222 k_l (by decide) (by omega)).symm)) (fun _ k_l hk => ?_) (c4_e g4 (q4_l 0 13 (by decide) (by omega)) (q4_l 0 14 (by decide) (by omega)) (fun a_l k_l ha_l ha2 => q4_l a_l k_l (by omega) (by omega)) (fun a_l k_l ha_l ha2 => q4_l a_l k_l (by omega) (by omega))) (c5_e g5_l (q4_l 217 6 (by decide) (by omega)) (fun k_l => q4_l 221 k_l (by decide) (by omega)) (fun k_l => q4_l 218 k_l (by decide) (by omega)))
  have hp := pa_15 k_l hk.1.1
  have e2_l : cv r.2.2.2 54 60 k_l = cv s 54 60 k_l := q4_l _ _ (by omega) (by omega)
  rw [q2_l k_l (by have := hk.1.1; omega), e2_l, g3_l k_l hk]
  exact g1 k_l hk
/-- between the two halves of back -/
def Mbk (s : gS) : Prop := (Rc2 s ∧ Rc3 s ∧ Rc4 s) ∧ ∀ k, Tx k → cv s 9 15 k = cv s 54 60 k
theorem rt_132 (hJ : J p s) (h : Rt s) : gQ (f_132 0 s) (fun r => (p.2.2.2.1 = 0 → Rt r.2.2.2) ∧ (p.2.2.2.1 ≠ 0 → Mbk r.2.2.2)) := by
  have hg : RF s := hJ.1.2.1
  have hi_l : gI s 0 15 = p.2.2.2.1 := hJ.2.2.2.2.1
  obtain ⟨b1, b2, b3, b4, b5, b6⟩ := k0_b
  unfold f_132
  rw [hi_l]
  by_cases c : p.2.2.2.1 = 0
  · rw [if_pos c]
    exact gQ_ret ⟨fun _ => h, fun z_l => absurd c z_l⟩
  rw [if_neg c, (rr_0_10 hg).2, (rr_0_4 hg).2]
  refine gQ_v0 (A := fun z_l => BC 9 54 s z_l) (fun r hr => (gQ_T (s_1 hg ⟨by decide, b1⟩ ⟨by decide, b3⟩ (by decide)) r hr).2) (fun s1_l h1 => ?_)
  have hg1 : RF s1_l := RF_bc hg b1 h1
  rw [(rr_0_11 hg1).2, (rr_0_5 hg1).2]
  refine gQ_v0 (A := fun z_l => FC 15 60 s1_l z_l) (fun r hr => (gQ_T (s_22 hg1 ⟨by decide, b4⟩ ⟨by decide, b6⟩ (by decide)) r hr).2) (fun s3_l h3 => ?_)
  refine gQ_ret ⟨fun z_l => absurd z_l c, fun _ => ?_⟩
  dsimp only
  have hf : ∀ a_l k_l, ¬ (9 ≤ a_l ∧ a_l < 27) → ¬ (a_l = 0 ∧ k_l = 14) → gI (gw s3_l 0 14 0) a_l k_l = gI s a_l k_l := fun a_l k_l ha_l hz => by
    show (if a_l = 0 ∧ k_l = 14 then _ else gI s3_l a_l k_l) = _
    rw [if_neg hz]
    exact ci_f h1 h3 (by omega) (by omega)
  obtain ⟨g1, g2, g3_l, g4, g5_l⟩ := h
  refine ⟨⟨fun k_l => (hf 2 k_l (by omega) (by omega)).trans ((g2 k_l).trans (hf 222 k_l (by omega) (by omega)).symm), c3_e g3_l (hf 217 3 (by omega) (by omega)) (fun a_l k_l ha_l ha2 => hf a_l k_l (by omega) (by omega)) (fun k_l => hf 219 k_l (by omega) (by omega)), c4_0 (by rw [hf 0 13 (by omega) (by omega)]; exact g4.1) (rd_same rfl)⟩, fun k_l hk => ?_⟩
  have hp := pa_15 k_l hk.1.1
  have e1_l : cv (gw s3_l 0 14 0) 54 60 k_l = cv s 54 60 k_l := hf _ _ (by omega) (by omega)
  have e2_l : cv (gw s3_l 0 14 0) 9 15 k_l = cv s3_l 9 15 k_l := rd_a rfl (by omega)
  rw [e1_l, e2_l]
  exact ci_c h1 h3 (by omega) (by omega) hk
theorem rt_262a (hJ : J p s) (hi : p.2.2.2.2 = 0) (h : Rt s) : gQ (f_262 217 s) (fun r => Rt r.2.2.2) := by
  have h3 : gI s 217 3 = p.2.2.2.2 := hJ.2.2.2.2.2
  have e3_l : gI (gw s 217 0 0) 217 3 = gI s 217 3 := rd_k (a := 217) (k := 3) rfl (by decide)
  unfold f_262
  dsimp only
  rw [e3_l, h3, if_pos hi]
  exact gQ_ret (Rt_fw h (Fw_0 hJ.1.1))
theorem rt_262b (hJ : J p s) (hi : p.2.2.2.2 = 1) (h : Mbk s) : gQ (f_262 217 s) (fun r => Rt r.2.2.2) := by
  have hg : RF s := hJ.1.2.1
  have h3 : gI s 217 3 = p.2.2.2.2 := hJ.2.2.2.2.2
  obtain ⟨⟨g2, g3_l, g4⟩, g1⟩ := h
  intro r hr
  obtain ⟨q1_l, q2_l, q3_l, q4_l⟩ := x_262 (rr_217_1 hg).2 (rr_217_2 hg).2 (by rw [h3, hi]; decide) r hr
  have e3_l : gI r.2.2.2 217 3 = gI s 217 3 := q4_l 217 3 (by omega) (by omega)
  refine Rt_5 (fun k_l hk => ?_) (fun k_l => (q4_l 2 k_l (by omega) (by omega)).trans ((g2 k_l).trans (q4_l 222 k_l (by omega) (by omega)).symm)) (c3_e g3_l e3_l (fun a_l k_l ha_l ha2 => q4_l a_l k_l (by omega) (by omega)) (fun k_l => q4_l 219 k_l (by omega) (by omega))) (c4_e g4 (q4_l 0 13 (by omega) (by omega)) (q4_l 0 14 (by omega) (by omega)) (fun a_l k_l ha_l ha2 => q4_l a_l k_l (by omega) (by omega)) (fun a_l k_l ha_l ha2 => q4_l a_l k_l (by omega) (by omega))) (c5_0 q3_l)
  have hp := pa_15 k_l hk.1.1
  have e2_l : cv r.2.2.2 9 15 k_l = cv s 9 15 k_l := q4_l _ _ (by omega) (by omega)
  rw [q2_l k_l (by have := hk.1.1; omega), e2_l, g1 k_l hk]
  exact g3_l (by rw [h3]; exact hi) k_l hk
end Ib
