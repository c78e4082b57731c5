section
/-! getters of texts -/
def st5 (n : Nat) : Int := if n = 5 then 1 else 0
def st2 (n : Nat) : Int := if n = 2 then 1 else 0
section Ge
variable {s t : gS} {p : gP} {a1 a2 v : Int}
theorem co_94 (hJ : J p s) (h : Rt s) : gQ (f_94 0 a1 a2 s) (Co st5 (f_207 217 a1 a2) s) := by
  have hg : RF s := hJ.1.2.1
  have hv := (Jv hJ).2.2.1
  have mo : ∀ u_l p, E8 s u_l → J p u_l → Rt u_l → gQ (f_207 217 a1 a2 u_l) (fun q_l => ((0 ≤ a1 ∧ a1 < gI s 218 5) ∧ gI q_l.2.2.2 217 0 = 0 ∧ q_l.2.1 = gI s 218 (76 + 2 * a1.toNat + (if a2 = 0 then 0 else 1))) ∨ (¬ (0 ≤ a1 ∧ a1 < gI s 218 5) ∧ gI q_l.2.2.2 217 0 = 1)) := fun u_l p e8 hu hR => by
    have hr := (rr_217_1 hu.1.2.1).2
    unfold f_207 f_163
    rw [hr, e8 5]
    refine m_n (by omega) (fun c_l => ?_) (fun c_l => ?_)
    · rw [if_neg (by decide)]
      unfold fb_207_14
      dsimp only
      rw [m0, if_neg (by decide)]
      by_cases c3 : a2 = 0
      · rw [if_pos c3]
        refine gQ_w1 (A := fun w_l z_l => w_l = gI s 218 (76 + 2 * a1.toNat) ∧ z_l = gw u_l 217 0 0) (fun r_l hr2 => ?_) (fun w_l z_l hz => ?_)
        · obtain ⟨q1_l, q2_l⟩ := m_158 (s := gw u_l 217 0 0) (x := a1) hr (by omega) r_l hr2
          exact ⟨q1_l.trans ((m8 _).trans (e8 _)), q2_l⟩
        · obtain ⟨z1, z2⟩ := hz
          refine gQ_ret (Or.inl ⟨c_l, ?_, ?_⟩)
          · dsimp only
            rw [z2, m0]
          · dsimp only
            rw [z1, if_pos c3, Nat.add_zero]
      · rw [if_neg c3]
        refine gQ_w1 (A := fun w_l z_l => w_l = gI s 218 (76 + 2 * a1.toNat + 1) ∧ z_l = gw u_l 217 0 0) (fun r_l hr2 => ?_) (fun w_l z_l hz => ?_)
        · obtain ⟨q1_l, q2_l⟩ := m_159 (s := gw u_l 217 0 0) (x := a1) hr (by omega) r_l hr2
          exact ⟨q1_l.trans ((m8 _).trans (e8 _)), q2_l⟩
        · obtain ⟨z1, z2⟩ := hz
          refine gQ_ret (Or.inl ⟨c_l, ?_, ?_⟩)
          · dsimp only
            rw [z2, m0]
          · dsimp only
            rw [z1, if_neg c3]
    · rw [if_pos rfl]
      unfold fb_207_14
      dsimp only
      rw [m0, if_pos (by decide)]
      exact gQ_ret (Or.inr ⟨c_l, m0⟩)
  unfold f_94
  refine n_gt (by decide) (n_136 hg h) (fun c_l => ?_) (fun c_l => ?_)
  · rw [(rr_0_4 hg).2, (rr_9 hg).2.2.2.1, (rr_9 hg).2.2.2.2]
    have key_l : ∀ x_l, x_l = gI s 218 (76 + 2 * a1.toNat + (if a2 = 0 then 0 else 1)) → Co st5 (f_207 217 a1 a2) s (1, x_l, 0, s) := fun x_l hx u_l p e8 hu hR q_l hq => by
      rcases mo u_l p e8 hu hR q_l hq with ⟨-, h1, h2⟩ | ⟨h1, -⟩
      · exact ⟨h1, fun _ => h2.trans hx.symm⟩
      · exact absurd c_l h1
    by_cases c3 : a2 = 0
    · rw [if_pos c3]
      exact gQ_chk (gQ_ret (key_l _ (by rw [if_pos c3]; exact ce_t h (i := a1.toNat) (by omega) (j := 0) (by decide))))
    · rw [if_neg c3]
      exact gQ_chk (gQ_ret (key_l _ (by rw [if_neg c3]; exact ce_t h (i := a1.toNat) (by omega) (j := 1) (by decide))))
  · intro u_l p e8 hu hR q_l hq
    rcases mo u_l p e8 hu hR q_l hq with ⟨h1, -⟩ | ⟨-, h1⟩
    · exact absurd h1 c_l
    · exact ⟨h1, fun z_l => by cases z_l⟩
theorem gand1 {x : Int} : gand x 1 = 0 ∨ gand x 1 = 1 := by
  have h_l := gand_le (x := x) (m := 1) (by decide) (by decide)
  omega
theorem gshl0 {x : Int} (hx : 0 ≤ x ∧ x < 6) : gshl 0 x = 0 := by
  have h_l : ∀ n : Nat, n < 6 → gshl 0 (n : Int) = 0 := by decide +kernel
  have h1 := h_l x.toNat (by omega)
  rw [show ((x.toNat : Nat) : Int) = x by omega] at h1
  exact h1
/-- knows -/
theorem co_122 (hJ : J p s) (h : Rt s) : gQ (f_122 0 a1 s) (Co st2 (f_250 217 a1) s) := by
  have hg : RF s := hJ.1.2.1
  have hv := (Jv hJ).2.1
  have r5_l : gR s 0 5 = 15 := (rr_0_5 hg).2
  have r15 : gR s 15 0 = 16 := (rr_15_0 hg).2
  unfold f_122
  refine n_gt (by decide) n_138 (fun c_l => ?_) (fun c_l => ?_)
  · intro r_l hr u_l p e8 hu hR
    have h8 : gR u_l 217 1 = 218 := (rr_217_1 hu.1.2.1).2
    unfold f_250
    refine gQ_w1 (A := fun v_l z_l => v_l = (if 0 ≤ a1 ∧ a1 ≤ 5 then 1 else 0) ∧ z_l = u_l) m_150 (fun v_l z_l hz => ?_)
    obtain ⟨z1, z2⟩ := hz
    rw [z1, z2, if_pos c_l, if_neg (by decide)]
    unfold fb_250_15
    dsimp only
    refine gQ_lk (P := fun (q_l q' : gO) => gI q'.2.2.2 217 0 = st2 q_l.1 ∧ (q_l.1 = 1 → q'.2.1 = q_l.2.1)) (fun y_l z_l => y_l.1 = 0 ∧ y_l.2.1 = a1 ∧ y_l.2.2.2.2 = s ∧ 0 ≤ y_l.2.2.2.1 ∧ z_l = (217, a1, y_l.2.2.1, y_l.2.2.2.1, gw u_l 217 0 0)) (fun y_l z_l hy => ?_) ⟨rfl, rfl, rfl, Int.le_refl 0, rfl⟩ r_l hr
    obtain ⟨y0, y1, x2_l, x3, w_l⟩ := y_l
    obtain ⟨q0, q1_l, q2_l, q3_l, q4_l⟩ := hy
    dsimp only at q0 q1_l q2_l q3_l q4_l
    subst q0 q1_l q2_l q4_l
    show gQ (sb_122_11 0 y1 x2_l x3 w_l) _
    unfold sb_122_11
    rw [r5_l, r15, (ce_n h).2.1]
    by_cases c1 : x3 < gI w_l 218 4
    · rw [if_pos c1, rr_16 hg (i := x3.toNat) (by omega), ce_m h (i := x3.toNat) (by omega)]
      refine gQ_chk (gQ_ret ?_)
      show gQ (sb_250_22 217 y1 x2_l x3 (gw u_l 217 0 0)) _
      unfold sb_250_22
      have e1_l : gI (gw u_l 217 0 0) (gR (gw u_l 217 0 0) 217 1) 4 = gI w_l 218 4 := by
        rw [show gR (gw u_l 217 0 0) 217 1 = 218 from h8]
        exact (m8 4).trans (e8 4)
      rw [e1_l, if_pos c1, m0, if_pos rfl]
      refine gQ_w1 (A := fun v_l z_l => v_l = gI w_l 218 (42 + 6 * x3.toNat) ∧ z_l = gw u_l 217 0 0) (fun r_l hr2 => ?_) (fun v_l z_l hz => ?_)
      · obtain ⟨q1_l, q2_l⟩ := m_156 (s := gw u_l 217 0 0) (x := x3) (j := 2) h8 (by omega) (by decide) r_l hr2
        refine ⟨q1_l.trans ?_, q2_l⟩
        rw [show 40 + 6 * x3.toNat + (2 : Int).toNat = 42 + 6 * x3.toNat by omega]
        exact (m8 _).trans (e8 _)
      obtain ⟨z1, z2⟩ := hz
      rw [z1, z2]
      generalize gI w_l 218 (42 + 6 * x3.toNat) = T
      refine gQ_w1 (A := fun v_l z_l => v_l = (if gand (gshr T y1) 1 = 1 then 1 else 0) ∧ z_l = gw u_l 217 0 0) m_153 (fun v_l z_l hz => ?_)
      obtain ⟨z1, z2⟩ := hz
      rw [z1, z2]
      have eg : g32 (x3 + 1) = x3 + 1 := g32_eq (by omega) (by omega)
      rcases gand1 (x := gshr T y1) with e_l | e_l
      · rw [e_l, if_neg (show ¬ (0 : Int) = 1 by decide), if_pos (show (0 : Int) = 0 from rfl), gshl0 (by omega)]
        refine gQ_ret ⟨rfl, rfl, rfl, ?_, rfl⟩
        dsimp only
        omega
      · rw [e_l, if_pos (show (1 : Int) = 1 from rfl), if_neg (show ¬ (1 : Int) = 0 by decide)]
        refine gQ_ret ⟨rfl, rfl, rfl, ?_, rfl⟩
        dsimp only
        omega
    · rw [if_neg c1]
      refine gQ_map (gQ_ret ?_)
      show gQ (sb_250_22 217 y1 x2_l x3 (gw u_l 217 0 0)) _
      unfold sb_250_22
      have e1_l : gI (gw u_l 217 0 0) (gR (gw u_l 217 0 0) 217 1) 4 = gI w_l 218 4 := by
        rw [show gR (gw u_l 217 0 0) 217 1 = 218 from h8]
        exact (m8 4).trans (e8 4)
      rw [e1_l, if_neg c1]
      exact gQ_map (gQ_ret ⟨m0, fun _ => rfl⟩)
  · intro u_l p e8 hu hR
    unfold f_250
    refine gQ_w1 (A := fun v_l z_l => v_l = (if 0 ≤ a1 ∧ a1 ≤ 5 then 1 else 0) ∧ z_l = u_l) m_150 (fun v_l z_l hz => ?_)
    obtain ⟨z1, z2⟩ := hz
    rw [z1, z2, if_neg c_l, if_pos rfl]
    unfold fb_250_15
    dsimp only
    refine gQ_loop (fun y_l => y_l.1 = 217 ∧ y_l.2.2.2.2 = gw u_l 217 0 1) (fun y_l hy => ?_) ⟨rfl, rfl⟩
    obtain ⟨y0, y1, x2_l, x3, w_l⟩ := y_l
    obtain ⟨q0, q1_l⟩ := hy
    dsimp only at q0 q1_l
    subst q0 q1_l
    show gQ (sb_250_22 217 y1 x2_l x3 (gw u_l 217 0 1)) _
    unfold sb_250_22
    rw [m0]
    rw [if_neg (show ¬ (1 : Int) = 0 by decide)]
    exact gQ_ite (gQ_map (gQ_ret ⟨m0, fun z_l => by cases z_l⟩)) (gQ_map (gQ_ret ⟨m0, fun z_l => by cases z_l⟩))
/-- dearest -/
theorem cd_123 (hJ : J p s) (h : Rt s) : gQ (f_123 0 s) (Cd (f_251 217) s) := by
  have hg : RF s := hJ.1.2.1
  have hv := (Jv hJ).1
  have r4 : gR s 0 4 = 9 := (rr_0_4 hg).2
  have r9 : gR s 9 1 = 11 := (rr_9 hg).2.1
  unfold f_123
  intro r_l hr u_l p e8 hu hR
  have h8 : gR u_l 217 1 = 218 := (rr_217_1 hu.1.2.1).2
  unfold f_251
  dsimp only
  refine gQ_lk (P := fun (q_l q' : gO) => q'.2.1 = q_l.2.1) (fun y_l z_l => y_l.1 = 0 ∧ y_l.2.2.2 = s ∧ (-1 ≤ y_l.2.1 ∧ 0 ≤ y_l.2.2.1 ∧ y_l.2.1 < y_l.2.2.1 ∧ y_l.2.2.1 ≤ 8) ∧ z_l = (217, y_l.2.1, y_l.2.2.1, gw u_l 217 0 0)) (fun y_l z_l hy => ?_) ⟨rfl, rfl, by dsimp only; omega, rfl⟩ r_l hr
  obtain ⟨y0, x1_l, x2_l, w_l⟩ := y_l
  obtain ⟨q0, q2_l, q3_l, q4_l⟩ := hy
  dsimp only at q0 q2_l q3_l q4_l
  subst q0 q2_l q4_l
  show gQ (sb_123_4 0 x1_l x2_l w_l) _
  unfold sb_123_4 fb_123_41
  rw [r4, r9, (ce_n h).1]
  have e1_l : gI (gw u_l 217 0 0) (gR (gw u_l 217 0 0) 217 1) 3 = gI w_l 218 3 := by
    rw [show gR (gw u_l 217 0 0) 217 1 = 218 from h8]
    exact (m8 3).trans (e8 3)
  have eg : g32 (x2_l + 1) = x2_l + 1 := g32_eq (by omega) (by omega)
  have m5_l : ∀ x_l : Int, 0 ≤ x_l ∧ x_l < 8 → gQ (f_155 217 x_l 1 (gw u_l 217 0 0)) (fun r_l => r_l.2.1 = gI w_l 218 (16 + 3 * x_l.toNat + 1) ∧ r_l.2.2.2 = gw u_l 217 0 0) := fun x_l hx r_l hr2 => by
    obtain ⟨q1_l, q2_l⟩ := m_155 (s := gw u_l 217 0 0) (x := x_l) (j := 1) h8 hx (by decide) r_l hr2
    exact ⟨q1_l.trans ((m8 _).trans (e8 _)), q2_l⟩
  by_cases c1 : x2_l < gI w_l 218 3
  · rw [if_pos c1]
    by_cases c2 : x1_l = -1
    · rw [if_pos c2]
      refine gQ_ret ?_
      show gQ (sb_251_9 217 x1_l x2_l (gw u_l 217 0 0)) _
      unfold sb_251_9 fb_251_39
      rw [e1_l, if_pos c1, if_pos c2]
      refine gQ_ret ⟨rfl, rfl, ?_, rfl⟩
      dsimp only
      omega
    · rw [if_neg c2]
      refine gQ_chk (gQ_chk ?_)
      rw [show gI w_l 11 x1_l.toNat = gI w_l 218 (16 + 3 * x1_l.toNat + 1) from ce_s h (i := x1_l.toNat) (by omega) (j := 1) (by decide), show gI w_l 11 x2_l.toNat = gI w_l 218 (16 + 3 * x2_l.toNat + 1) from ce_s h (i := x2_l.toNat) (by omega) (j := 1) (by decide)]
      have mm : ∀ a_l : (Nat × Int × Int × gS) ⊕ gO, (gI w_l 218 (16 + 3 * x1_l.toNat + 1) < gI w_l 218 (16 + 3 * x2_l.toNat + 1) → a_l = Sum.inl (0, x2_l, g32 (x2_l + 1), w_l)) → (¬ gI w_l 218 (16 + 3 * x1_l.toNat + 1) < gI w_l 218 (16 + 3 * x2_l.toNat + 1) → a_l = Sum.inl (0, x1_l, g32 (x2_l + 1), w_l)) → gQ (st_251_9 (217, x1_l, x2_l, gw u_l 217 0 0)) (SR (fun y_l z_l => y_l.1 = 0 ∧ y_l.2.2.2 = w_l ∧ (-1 ≤ y_l.2.1 ∧ 0 ≤ y_l.2.2.1 ∧ y_l.2.1 < y_l.2.2.1 ∧ y_l.2.2.1 ≤ 8) ∧ z_l = (217, y_l.2.1, y_l.2.2.1, gw u_l 217 0 0)) (fun (q_l q' : gO) => q'.2.1 = q_l.2.1) a_l) := fun a_l ha_l hb_l => by
        show gQ (sb_251_9 217 x1_l x2_l (gw u_l 217 0 0)) _
        unfold sb_251_9 fb_251_39
        rw [e1_l, if_pos c1, if_neg c2]
        refine gQ_w1 (A := fun v_l z_l => v_l = gI w_l 218 (16 + 3 * x2_l.toNat + 1) ∧ z_l = gw u_l 217 0 0) (m5_l x2_l (by omega)) (fun v_l z_l hz => ?_)
        obtain ⟨z1, z2⟩ := hz
        rw [z1, z2]
        refine gQ_w1 (A := fun v_l z_l => v_l = gI w_l 218 (16 + 3 * x1_l.toNat + 1) ∧ z_l = gw u_l 217 0 0) (m5_l x1_l (by omega)) (fun v_l z_l hz => ?_)
        obtain ⟨z1, z2⟩ := hz
        rw [z1, z2]
        by_cases c3 : gI w_l 218 (16 + 3 * x1_l.toNat + 1) < gI w_l 218 (16 + 3 * x2_l.toNat + 1)
        · rw [if_pos c3, ha_l c3]
          refine gQ_ret ⟨rfl, rfl, ?_, rfl⟩
          dsimp only
          omega
        · rw [if_neg c3, hb_l c3]
          refine gQ_ret ⟨rfl, rfl, ?_, rfl⟩
          dsimp only
          omega
      by_cases c3 : gI w_l 218 (16 + 3 * x1_l.toNat + 1) < gI w_l 218 (16 + 3 * x2_l.toNat + 1)
      · rw [if_pos c3]
        exact gQ_ret (mm _ (fun _ => rfl) (fun z_l => absurd c3 z_l))
      · rw [if_neg c3]
        exact gQ_ret (mm _ (fun z_l => absurd z_l c3) (fun _ => rfl))
  · rw [if_neg c1]
    refine gQ_map (gQ_ret ?_)
    show gQ (sb_251_9 217 x1_l x2_l (gw u_l 217 0 0)) _
    unfold sb_251_9
    rw [e1_l, if_neg c1]
    exact gQ_map (gQ_ret rfl)
end Ge

end
section
/-! mates -/
section Ma
variable {s t : gS} {p : gP}
theorem cd_121 (hJ : J p s) (h : Rt s) : gQ (f_121 0 s) (Cd (f_249 217) s) := by
  have hg : RF s := hJ.1.2.1
  have hv := (Jv hJ).2.1
  have r5_l : gR s 0 5 = 15 := (rr_0_5 hg).2
  have r15 : gR s 15 0 = 16 := (rr_15_0 hg).2
  unfold f_121
  intro r_l hr u_l p e8 hu hR
  have h8 : gR u_l 217 1 = 218 := (rr_217_1 hu.1.2.1).2
  unfold f_249
  dsimp only
  have e1_l : gI (gw u_l 217 0 0) (gR (gw u_l 217 0 0) 217 1) 4 = gI s 218 4 := by
    rw [show gR (gw u_l 217 0 0) 217 1 = 218 from h8]
    exact (m8 4).trans (e8 4)
  have m5_l : ∀ x_l : Int, 0 ≤ x_l ∧ x_l < 6 → gQ (f_156 217 x_l 2 (gw u_l 217 0 0)) (fun r_l => r_l.2.1 = gI s 218 (42 + 6 * x_l.toNat) ∧ r_l.2.2.2 = gw u_l 217 0 0) := fun x_l hx r_l hr2 => by
    obtain ⟨q1_l, q2_l⟩ := m_156 (s := gw u_l 217 0 0) (x := x_l) (j := 2) h8 hx (by decide) r_l hr2
    refine ⟨q1_l.trans ?_, q2_l⟩
    rw [show 40 + 6 * x_l.toNat + (2 : Int).toNat = 42 + 6 * x_l.toNat by omega]
    exact (m8 _).trans (e8 _)
  refine gQ_lk (P := fun (q_l q' : gO) => q'.2.1 = q_l.2.1) (fun y_l z_l => y_l.1 = 0 ∧ y_l.2.2.2 = s ∧ (0 ≤ y_l.2.2.1 ∧ y_l.2.2.1 ≤ 6 ∧ 0 ≤ y_l.2.1 ∧ y_l.2.1 ≤ 6 * y_l.2.2.1) ∧ z_l = (217, y_l.2.1, y_l.2.2.1, gw u_l 217 0 0)) (fun y_l z_l hy => ?_) ⟨rfl, rfl, by dsimp only; omega, rfl⟩ r_l hr
  obtain ⟨y0, x1_l, x2_l, w_l⟩ := y_l
  obtain ⟨q0, q2_l, q3_l, q4_l⟩ := hy
  dsimp only at q0 q2_l q3_l q4_l
  subst q0 q2_l q4_l
  show gQ (sb_121_4 0 x1_l x2_l w_l) _
  unfold sb_121_4
  rw [r5_l, (ce_n h).2.1]
  by_cases c1 : x2_l < gI w_l 218 4
  · rw [if_pos c1]
    intro a_l ha_l
    show gQ (sb_249_9 217 x1_l x2_l (gw u_l 217 0 0)) _
    unfold sb_249_9
    rw [e1_l, if_pos c1]
    refine gQ_lk (P := fun q_l q' => SR (fun (y_l : Nat × Int × Int × gS) (z_l : Nat × Int × Int × gS) => y_l.1 = 0 ∧ y_l.2.2.2 = w_l ∧ (0 ≤ y_l.2.2.1 ∧ y_l.2.2.1 ≤ 6 ∧ 0 ≤ y_l.2.1 ∧ y_l.2.1 ≤ 6 * y_l.2.2.1) ∧ z_l = (217, y_l.2.1, y_l.2.2.1, gw u_l 217 0 0)) (fun (q_l q' : gO) => q'.2.1 = q_l.2.1) q_l q') (fun y_l z_l => y_l.1 = 0 ∧ y_l.2.2.1 = x2_l ∧ y_l.2.2.2.2 = w_l ∧ (0 ≤ y_l.2.2.2.1 ∧ y_l.2.2.2.1 ≤ 6 ∧ 0 ≤ y_l.2.1 ∧ y_l.2.1 ≤ 6 * x2_l + (y_l.2.2.2.1 - 1)) ∧ z_l = (217, y_l.2.1, x2_l, y_l.2.2.2.1, gw u_l 217 0 0)) (fun y_l z_l hy => ?_) ⟨rfl, rfl, rfl, ?_, rfl⟩ a_l ha_l
    · obtain ⟨y0, y1, y2, x3, w2_l⟩ := y_l
      obtain ⟨q0, q1_l, q2_l, q5_l, q4_l⟩ := hy
      dsimp only at q0 q1_l q2_l q5_l q4_l
      subst q0 q1_l q2_l q4_l
      show gQ (sb_121_19 0 y1 y2 x3 w2_l) _
      unfold sb_121_19
      rw [r5_l, r15, (ce_n h).2.1]
      by_cases c2 : x3 < gI w2_l 218 4
      · rw [if_pos c2, rr_16 hg (i := y2.toNat) (by omega), ce_m h (i := y2.toNat) (by omega), rr_16 hg (i := x3.toNat) (by omega), ce_m h (i := x3.toNat) (by omega)]
        have eg : g32 (x3 + 1) = x3 + 1 := g32_eq (by omega) (by omega)
        have eh : g32 (y1 + 1) = y1 + 1 := g32_eq (by omega) (by omega)
        have ei : g32 (y1 + 0) = y1 := (g32_eq (v := y1 + 0) (by omega) (by omega)).trans (by omega)
        refine gQ_chk (gQ_chk ?_)
        by_cases c3 : gI w2_l 218 (42 + 6 * y2.toNat) = gI w2_l 218 (42 + 6 * x3.toNat)
        · rw [if_pos c3]
          refine gQ_ret ?_
          show gQ (sb_249_23 217 y1 y2 x3 (gw u_l 217 0 0)) _
          unfold sb_249_23
          rw [e1_l, if_pos c2]
          refine gQ_w1 (A := fun v_l z_l => v_l = gI w2_l 218 (42 + 6 * y2.toNat) ∧ z_l = gw u_l 217 0 0) (m5_l y2 (by omega)) (fun v_l z_l hz => ?_)
          obtain ⟨z1, z2⟩ := hz
          rw [z1, z2]
          refine gQ_w1 (A := fun v_l z_l => v_l = gI w2_l 218 (42 + 6 * x3.toNat) ∧ z_l = gw u_l 217 0 0) (m5_l x3 (by omega)) (fun v_l z_l hz => ?_)
          obtain ⟨z1, z2⟩ := hz
          rw [z1, z2, if_pos c3]
          refine gQ_ret ⟨rfl, rfl, rfl, ?_, rfl⟩
          dsimp only
          omega
        · rw [if_neg c3]
          refine gQ_ret ?_
          show gQ (sb_249_23 217 y1 y2 x3 (gw u_l 217 0 0)) _
          unfold sb_249_23
          rw [e1_l, if_pos c2]
          refine gQ_w1 (A := fun v_l z_l => v_l = gI w2_l 218 (42 + 6 * y2.toNat) ∧ z_l = gw u_l 217 0 0) (m5_l y2 (by omega)) (fun v_l z_l hz => ?_)
          obtain ⟨z1, z2⟩ := hz
          rw [z1, z2]
          refine gQ_w1 (A := fun v_l z_l => v_l = gI w2_l 218 (42 + 6 * x3.toNat) ∧ z_l = gw u_l 217 0 0) (m5_l x3 (by omega)) (fun v_l z_l hz => ?_)
          obtain ⟨z1, z2⟩ := hz
          rw [z1, z2, if_neg c3, ei]
          refine gQ_ret ⟨rfl, rfl, rfl, ?_, rfl⟩
          dsimp only
          omega
      · rw [if_neg c2]
        refine gQ_map (gQ_ret ?_)
        show gQ (sb_249_23 217 y1 y2 x3 (gw u_l 217 0 0)) _
        unfold sb_249_23
        rw [e1_l, if_neg c2]
        have eg : g32 (y2 + 1) = y2 + 1 := g32_eq (by omega) (by omega)
        refine gQ_map (gQ_ret ⟨rfl, rfl, ?_, rfl⟩)
        dsimp only
        omega
    · have eg : g32 (x2_l + 1) = x2_l + 1 := g32_eq (by omega) (by omega)
      dsimp only
      omega
  · rw [if_neg c1]
    refine gQ_map (gQ_ret ?_)
    show gQ (sb_249_9 217 x1_l x2_l (gw u_l 217 0 0)) _
    unfold sb_249_9
    rw [e1_l, if_neg c1]
    exact gQ_map (gQ_ret rfl)
end Ma

end
section
/-! tests that stop tricks: pure numbers of both sides -/
def orn (V : Nat → Int) (m : Int) : Nat → Int
  | 0 => 0
  | n + 1 => gor (orn V m n) (if gand (gshr m (n : Int)) 1 = 0 then 0 else V (76 + 2 * n + 1))
def csn (V : Nat → Int) (m : Int) : Nat → Int
  | 0 => 0
  | n + 1 => if gand (gshr m (n : Int)) 1 = 0 then csn V m n else csn V m n + V (76 + 2 * n)
def pcs (m : Int) : Nat → Int
  | 0 => 0
  | n + 1 => g32 (pcs m n + gand (gshr m (n : Int)) 1)
def bcn (a0 : Int) : Int :=
  let v1 : Int := (g32 (a0 - (gand (gushr a0 1) 1431655765))); let v2 : Int := (g32 ((gand v1 858993459) + (gand (gushr v1 2) 858993459))); let v3 : Int := (gand (g32 (v2 + (gushr v2 4))) 252645135); let v4 : Int := (g32 (v3 + (gushr v3 8))); let v5 : Int := (g32 (v4 + (gushr v4 16))); gand v5 63
abbrev stp (V : Nat → Int) (m T : Int) : Prop := gand T (gxor (orn V m (V 5).toNat) (-1)) = 0
section Sp
variable {s u : gS} {p : gP} {m T a1 a2 : Int} {n : Nat}
theorem bcn_64 : ∀ k : Nat, k < 64 → bcn (k : Int) = pcs (k : Int) 31 := by decide +kernel
theorem gnand {x a b : Int} : gand (gand x (gxor a (-1))) (gxor b (-1)) = gand x (gxor (gor a b) (-1)) := by
  unfold gand gxor gor
  rw [Int32.ofInt_toInt, Int32.ofInt_toInt, Int32.ofInt_toInt, Int32.ofInt_toInt, Int32.ofInt_toInt]
  congr 1
  generalize Int32.ofInt x = X
  generalize Int32.ofInt a = A
  generalize Int32.ofInt b = B
  apply Int32.toBitVec.inj
  show ((X.toBitVec &&& (A.toBitVec ^^^ (Int32.ofInt (-1)).toBitVec)) &&& (B.toBitVec ^^^ (Int32.ofInt (-1)).toBitVec)) = (X.toBitVec &&& ((A.toBitVec ||| B.toBitVec) ^^^ (Int32.ofInt (-1)).toBitVec))
  generalize X.toBitVec = x1
  generalize A.toBitVec = x2
  generalize B.toBitVec = x3
  rw [show (Int32.ofInt (-1)).toBitVec = BitVec.allOnes 32 from by decide]
  apply BitVec.eq_of_getLsbD_eq
  intro i_l hi_l
  simp only [BitVec.getLsbD_and, BitVec.getLsbD_xor, BitVec.getLsbD_or, BitVec.getLsbD_allOnes, hi_l, decide_true]
  cases x1.getLsbD i_l <;> cases x2.getLsbD i_l <;> cases x3.getLsbD i_l <;> rfl
theorem gnor0 {x a : Int} : gand x (gxor (gor a 0) (-1)) = gand x (gxor a (-1)) := by
  unfold gand gxor gor
  rw [Int32.ofInt_toInt, Int32.ofInt_toInt, Int32.ofInt_toInt]
  congr 1
  generalize Int32.ofInt x = X
  generalize Int32.ofInt a = A
  apply Int32.toBitVec.inj
  show (X.toBitVec &&& ((A.toBitVec ||| (Int32.ofInt 0).toBitVec) ^^^ (Int32.ofInt (-1)).toBitVec)) = (X.toBitVec &&& (A.toBitVec ^^^ (Int32.ofInt (-1)).toBitVec))
  rw [show (Int32.ofInt 0).toBitVec = 0#32 from by decide, BitVec.or_zero]
theorem gn_0 {x : Int} (hx : 0 ≤ x ∧ x ≤ 100) : gand x (gxor 0 (-1)) = x := by
  have h_l : ∀ k : Nat, k < 101 → gand (k : Int) (gxor 0 (-1)) = (k : Int) := by decide +kernel
  have h1 := h_l x.toNat (by omega)
  rw [show ((x.toNat : Nat) : Int) = x by omega] at h1
  exact h1
/-- the class's tests -/
theorem p_5 (hJ : J p s) (h : Rt s) (hT : 0 ≤ T ∧ T ≤ 100) : gQ (f_5 9 m T s) (fun r => r.2.1 = (if gand T (gxor (orn (gI s 218) m (gI s 218 5).toNat) (-1)) = 0 then 1 else 0) ∧ r.2.2.2 = s) := by
  have hg : RF s := hJ.1.2.1
  have hv := (Jv hJ).2.2.1
  have r9 : gR s 9 4 = 14 := (rr_9 hg).2.2.2.2
  unfold f_5
  refine gQ_loop (fun y_l => ∃ n_l : Nat, (n_l : Int) ≤ gI s 218 5 ∧ y_l = (9, m, gand T (gxor (orn (gI s 218) m n_l) (-1)), (n_l : Int), s)) (fun y_l hy => ?_) ⟨0, by omega, ?_⟩
  · obtain ⟨n_l, hn, rfl⟩ := hy
    show gQ (sb_5_5 9 m (gand T (gxor (orn (gI s 218) m n_l) (-1))) (n_l : Int) s) _
    unfold sb_5_5
    dsimp only
    rw [(ce_n h).2.2.1, r9]
    have eg : g32 ((n_l : Int) + 1) = ((n_l + 1 : Nat) : Int) := (g32_eq (v := (n_l : Int) + 1) (by omega) (by omega)).trans (by omega)
    by_cases c : (n_l : Int) < gI s 218 5
    · rw [if_pos c]
      by_cases c2 : gand (gshr m (n_l : Int)) 1 = 0
      · rw [if_pos c2]
        refine gQ_ret ⟨n_l + 1, by omega, ?_⟩
        rw [eg]
        have e_l : gand T (gxor (orn (gI s 218) m (n_l + 1)) (-1)) = gand T (gxor (orn (gI s 218) m n_l) (-1)) := by
          show gand T (gxor (gor (orn (gI s 218) m n_l) (if gand (gshr m (n_l : Int)) 1 = 0 then 0 else _)) (-1)) = _
          rw [if_pos c2]
          exact gnor0
        rw [e_l]
      · rw [if_neg c2]
        refine gQ_chk (gQ_ret ⟨n_l + 1, by omega, ?_⟩)
        rw [eg, Int.toNat_natCast]
        have e_l : gand T (gxor (orn (gI s 218) m (n_l + 1)) (-1)) = gand (gand T (gxor (orn (gI s 218) m n_l) (-1))) (gxor (gI s 218 (76 + 2 * n_l + 1)) (-1)) := by
          show gand T (gxor (gor (orn (gI s 218) m n_l) (if gand (gshr m (n_l : Int)) 1 = 0 then 0 else _)) (-1)) = _
          rw [if_neg c2]
          exact gnand.symm
        rw [e_l, show gI s 14 n_l = gI s 218 (76 + 2 * n_l + 1) from ce_t h (i := n_l) (by omega) (j := 1) (by decide)]
    · rw [if_neg c]
      have en : (gI s 218 5).toNat = n_l := by omega
      refine gQ_map ?_
      rw [en]
      by_cases c2 : gand T (gxor (orn (gI s 218) m n_l) (-1)) = 0
      · rw [if_pos c2, if_pos c2]
        exact gQ_ret ⟨rfl, rfl⟩
      · rw [if_neg c2, if_neg c2]
        exact gQ_ret ⟨rfl, rfl⟩
  · show (9, m, T, (0 : Int), s) = (9, m, gand T (gxor 0 (-1)), ((0 : Nat) : Int), s)
    rw [gn_0 hT]
    rfl
theorem p_231 (hr : gR u 217 1 = 218) (hv : 0 ≤ gI u 218 5 ∧ gI u 218 5 ≤ 6) : gQ (f_231 217 m u) (fun r => r.2.1 = orn (gI u 218) m (gI u 218 5).toNat ∧ r.2.2.2 = u) := by
  unfold f_231
  refine gQ_loop (fun y_l => ∃ n_l : Nat, (n_l : Int) ≤ gI u 218 5 ∧ y_l = (217, m, orn (gI u 218) m n_l, (n_l : Int), u)) (fun y_l hy => ?_) ⟨0, by omega, rfl⟩
  obtain ⟨n_l, hn, rfl⟩ := hy
  show gQ (sb_231_4 217 m (orn (gI u 218) m n_l) (n_l : Int) u) _
  unfold sb_231_4
  rw [hr]
  have eg : g32 ((n_l : Int) + 1) = ((n_l + 1 : Nat) : Int) := (g32_eq (v := (n_l : Int) + 1) (by omega) (by omega)).trans (by omega)
  by_cases c : (n_l : Int) < gI u 218 5
  · rw [if_pos c]
    refine gQ_w1 (A := fun v_l z_l => v_l = (if gand (gshr m (n_l : Int)) 1 = 1 then 1 else 0) ∧ z_l = u) m_153 (fun v_l z_l hz => ?_)
    obtain ⟨z1, z2⟩ := hz
    rw [z1, z2]
    rcases gand1 (x := gshr m (n_l : Int)) with e_l | e_l
    · rw [e_l, if_neg (show ¬ (0 : Int) = 1 by decide), if_pos (show (0 : Int) = 0 from rfl)]
      refine gQ_ret ⟨n_l + 1, by omega, ?_⟩
      rw [eg]
      show _ = (217, m, gor (orn (gI u 218) m n_l) (if gand (gshr m (n_l : Int)) 1 = 0 then 0 else _), _, _)
      rw [if_pos e_l]
    · rw [e_l, if_pos (show (1 : Int) = 1 from rfl), if_neg (show ¬ (1 : Int) = 0 by decide)]
      refine gQ_w1 (A := fun v_l z_l => v_l = gI u 218 (76 + 2 * n_l + 1) ∧ z_l = u) (m_159 (x := (n_l : Int)) hr (by omega)) (fun v_l z_l hz => ?_)
      obtain ⟨z1, z2⟩ := hz
      rw [z1, z2]
      refine gQ_ret ⟨n_l + 1, by omega, ?_⟩
      rw [eg]
      show _ = (217, m, gor (orn (gI u 218) m n_l) (if gand (gshr m (n_l : Int)) 1 = 0 then 0 else _), _, _)
      rw [if_neg (by omega)]
  · rw [if_neg c]
    have en : (gI u 218 5).toNat = n_l := by omega
    rw [en]
    exact gQ_map (gQ_ret ⟨rfl, rfl⟩)
theorem csn_b {V : Nat → Int} (hV : ∀ i, i < 6 → 0 ≤ V (76 + 2 * i) ∧ V (76 + 2 * i) ≤ 100) : ∀ n, n ≤ 6 → 0 ≤ csn V m n ∧ csn V m n ≤ 100 * n := by
  intro n
  induction n with
  | zero => intro _; exact ⟨Int.le_refl 0, Int.le_refl 0⟩
  | succ n ih_l =>
    intro hn
    have h1 := ih_l (by omega)
    have h2 := hV n (by omega)
    show 0 ≤ (if gand (gshr m (n : Int)) 1 = 0 then csn V m n else csn V m n + V (76 + 2 * n)) ∧ (if gand (gshr m (n : Int)) 1 = 0 then csn V m n else csn V m n + V (76 + 2 * n)) ≤ 100 * ((n + 1 : Nat) : Int)
    split <;> omega
theorem tV5 (h : Rt s) : ∀ i, i < 6 → 0 ≤ gI s 218 (76 + 2 * i) ∧ gI s 218 (76 + 2 * i) ≤ 100 := fun i hi_l => (h.1 (76 + 2 * i) (tx_t i hi_l 0 (by decide)).1).2.2
theorem p_6 (hJ : J p s) (h : Rt s) : gQ (f_6 9 m s) (fun r => r.2.1 = csn (gI s 218) m (gI s 218 5).toNat ∧ r.2.2.2 = s) := by
  have hg : RF s := hJ.1.2.1
  have hv := (Jv hJ).2.2.1
  have r9 : gR s 9 3 = 13 := (rr_9 hg).2.2.2.1
  unfold f_6
  refine gQ_loop (fun y_l => ∃ n_l : Nat, (n_l : Int) ≤ gI s 218 5 ∧ y_l = (9, m, csn (gI s 218) m n_l, (n_l : Int), s)) (fun y_l hy => ?_) ⟨0, by omega, rfl⟩
  obtain ⟨n_l, hn, rfl⟩ := hy
  show gQ (sb_6_4 9 m (csn (gI s 218) m n_l) (n_l : Int) s) _
  unfold sb_6_4
  dsimp only
  rw [(ce_n h).2.2.1, r9]
  have eg : g32 ((n_l : Int) + 1) = ((n_l + 1 : Nat) : Int) := (g32_eq (v := (n_l : Int) + 1) (by omega) (by omega)).trans (by omega)
  by_cases c : (n_l : Int) < gI s 218 5
  · rw [if_pos c]
    have hc_l := csn_b (m := m) (tV5 h) n_l (by omega)
    have ht := tV5 h n_l (by omega)
    by_cases c2 : gand (gshr m (n_l : Int)) 1 = 0
    · rw [if_pos c2]
      refine gQ_ret ⟨n_l + 1, by omega, ?_⟩
      rw [eg]
      show _ = (9, m, (if gand (gshr m (n_l : Int)) 1 = 0 then csn (gI s 218) m n_l else _), _, _)
      rw [if_pos c2]
    · rw [if_neg c2]
      refine gQ_chk (gQ_ret ⟨n_l + 1, by omega, ?_⟩)
      rw [eg, Int.toNat_natCast, show gI s 13 n_l = gI s 218 (76 + 2 * n_l) from ce_t h (i := n_l) (by omega) (j := 0) (by decide), g32_eq (v := csn (gI s 218) m n_l + gI s 218 (76 + 2 * n_l)) (by omega) (by omega)]
      show _ = (9, m, (if gand (gshr m (n_l : Int)) 1 = 0 then csn (gI s 218) m n_l else _), _, _)
      rw [if_neg c2]
  · rw [if_neg c]
    have en : (gI s 218 5).toNat = n_l := by omega
    rw [en]
    exact gQ_map (gQ_ret ⟨rfl, rfl⟩)
theorem p_232 (hr : gR u 217 1 = 218) (hv : 0 ≤ gI u 218 5 ∧ gI u 218 5 ≤ 6) (hV : ∀ i, i < 6 → 0 ≤ gI u 218 (76 + 2 * i) ∧ gI u 218 (76 + 2 * i) ≤ 100) : gQ (f_232 217 m u) (fun r => r.2.1 = csn (gI u 218) m (gI u 218 5).toNat ∧ r.2.2.2 = u) := by
  unfold f_232
  refine gQ_loop (fun y_l => ∃ n_l : Nat, (n_l : Int) ≤ gI u 218 5 ∧ y_l = (217, m, csn (gI u 218) m n_l, (n_l : Int), u)) (fun y_l hy => ?_) ⟨0, by omega, rfl⟩
  obtain ⟨n_l, hn, rfl⟩ := hy
  show gQ (sb_232_4 217 m (csn (gI u 218) m n_l) (n_l : Int) u) _
  unfold sb_232_4
  rw [hr]
  have eg : g32 ((n_l : Int) + 1) = ((n_l + 1 : Nat) : Int) := (g32_eq (v := (n_l : Int) + 1) (by omega) (by omega)).trans (by omega)
  by_cases c : (n_l : Int) < gI u 218 5
  · rw [if_pos c]
    have hc_l := csn_b (m := m) hV n_l (by omega)
    have ht := hV n_l (by omega)
    refine gQ_w1 (A := fun v_l z_l => v_l = (if gand (gshr m (n_l : Int)) 1 = 1 then 1 else 0) ∧ z_l = u) m_153 (fun v_l z_l hz => ?_)
    obtain ⟨z1, z2⟩ := hz
    rw [z1, z2]
    rcases gand1 (x := gshr m (n_l : Int)) with e_l | e_l
    · rw [e_l, if_neg (show ¬ (0 : Int) = 1 by decide), if_pos (show (0 : Int) = 0 from rfl), Int.add_zero, g32_eq (v := csn (gI u 218) m n_l) (by omega) (by omega)]
      refine gQ_ret ⟨n_l + 1, by omega, ?_⟩
      rw [eg]
      show _ = (217, m, (if gand (gshr m (n_l : Int)) 1 = 0 then csn (gI u 218) m n_l else _), _, _)
      rw [if_pos e_l]
    · rw [e_l, if_pos (show (1 : Int) = 1 from rfl), if_neg (show ¬ (1 : Int) = 0 by decide)]
      refine gQ_w1 (A := fun v_l z_l => v_l = gI u 218 (76 + 2 * n_l) ∧ z_l = u) (m_158 (x := (n_l : Int)) hr (by omega)) (fun v_l z_l hz => ?_)
      obtain ⟨z1, z2⟩ := hz
      rw [z1, z2, g32_eq (v := csn (gI u 218) m n_l + gI u 218 (76 + 2 * n_l)) (by omega) (by omega)]
      refine gQ_ret ⟨n_l + 1, by omega, ?_⟩
      rw [eg]
      show _ = (217, m, (if gand (gshr m (n_l : Int)) 1 = 0 then csn (gI u 218) m n_l else _), _, _)
      rw [if_neg (by omega)]
  · rw [if_neg c]
    have en : (gI u 218 5).toNat = n_l := by omega
    rw [en]
    exact gQ_map (gQ_ret ⟨rfl, rfl⟩)
theorem p_154 : gQ (f_154 m u) (fun r => r.2.1 = pcs m 31 ∧ r.2.2.2 = u) := by
  unfold f_154
  refine gQ_loop (fun y_l => ∃ n_l : Nat, n_l ≤ 31 ∧ y_l = (m, pcs m n_l, (n_l : Int), u)) (fun y_l hy => ?_) ⟨0, by omega, rfl⟩
  obtain ⟨n_l, hn, rfl⟩ := hy
  show gQ (sb_154_4 m (pcs m n_l) (n_l : Int) u) _
  unfold sb_154_4
  dsimp only
  have eg : g32 ((n_l : Int) + 1) = ((n_l + 1 : Nat) : Int) := (g32_eq (v := (n_l : Int) + 1) (by omega) (by omega)).trans (by omega)
  by_cases c : (n_l : Int) < 31
  · rw [if_pos c, eg]
    exact gQ_ret ⟨n_l + 1, by omega, rfl⟩
  · rw [if_neg c]
    have en : n_l = 31 := by omega
    refine gQ_map (gQ_ret ⟨?_, rfl⟩)
    exact congrArg (pcs m) en
theorem p_264 : gQ (f_264 m s) (fun r => r.2.1 = bcn m ∧ r.2.2.2 = s) := by
  unfold f_264
  exact gQ_ret ⟨rfl, rfl⟩
/-- what a man knows, on both sides -/
theorem mT (h : Rt s) (ha : 0 ≤ a1 ∧ a1 < 6) : 0 ≤ gI s 218 (42 + 6 * a1.toNat) ∧ gI s 218 (42 + 6 * a1.toNat) ≤ 100 := (h.1 _ (tx_m a1.toNat (by omega)).1).2.2
theorem E8_e (h : E8 s u) : gI u 218 = gI s 218 := funext h
/-- stopped -/
theorem bo_110 : gQ (f_110 0 a1 a2 s) (fun r => r.1 = 1 → r.2.1 = 0 ∨ r.2.1 = 1) := by
  unfold f_110
  cases hz : f_135 0 a1 s with
  | none => exact gQ_none
  | some r =>
    rw [Option.bind_some]
    unfold gt0
    by_cases c0 : r.1 = 0
    · rw [if_pos c0]
      refine gQ_chk ?_
      refine gQ_w1 (A := fun v_l _ => v_l = 0 ∨ v_l = 1) ?_ (fun v_l z_l hv => gQ_ret (fun _ => hv))
      unfold f_5
      refine gQ_loop (fun _ => True) (fun y_l _ => ?_) trivial
      obtain ⟨y0, y1, y2, y3, w_l⟩ := y_l
      show gQ (sb_5_5 y0 y1 y2 y3 w_l) _
      unfold sb_5_5
      exact gQ_ite (gQ_ite (gQ_ret trivial) (gQ_chk (gQ_ret trivial))) (gQ_map (gQ_ite (gQ_ret (Or.inr rfl)) (gQ_ret (Or.inl rfl))))
    rw [if_neg c0]
    by_cases c1 : 2 ≤ r.1
    · rw [if_pos c1]
      refine gQ_ret (fun z_l => ?_)
      have z_l : r.1 = 1 := z_l
      omega
    · rw [if_neg c1]
      exact gQ_none
theorem co_110 (hJ : J p s) (h : Rt s) : gQ (f_110 0 a1 a2 s) (Co st5 (f_233 217 a1 a2) s) := by
  have hg : RF s := hJ.1.2.1
  have hv := (Jv hJ).2.1
  have hv5 := (Jv hJ).2.2.1
  have r4 : gR s 0 4 = 9 := (rr_0_4 hg).2
  have r5_l : gR s 0 5 = 15 := (rr_0_5 hg).2
  have r15 : gR s 15 0 = 16 := (rr_15_0 hg).2
  have mo : ∀ u_l p, E8 s u_l → J p u_l → Rt u_l → gQ (f_233 217 a1 a2 u_l) (fun q_l => ((0 ≤ a1 ∧ a1 < gI s 218 4) ∧ gI q_l.2.2.2 217 0 = 0 ∧ q_l.2.1 = (if gand (gI s 218 (42 + 6 * a1.toNat)) (gxor (orn (gI s 218) a2 (gI s 218 5).toNat) (-1)) = 0 then 1 else 0)) ∨ (¬ (0 ≤ a1 ∧ a1 < gI s 218 4) ∧ gI q_l.2.2.2 217 0 = 1)) := fun u_l p e8 hu hR => by
    have hr := (rr_217_1 hu.1.2.1).2
    have e8w : ∀ w0_l, E8 s (gw u_l 217 0 w0_l) := fun w0_l => E8_t e8 m8
    unfold f_233 f_162
    rw [hr, e8 4]
    refine m_n (by omega) (fun c_l => ?_) (fun c_l => ?_)
    · rw [if_neg (by decide)]
      unfold fb_233_14 fb_233_45
      dsimp only
      rw [m0, if_pos rfl]
      refine gQ_w1 (A := fun v_l z_l => v_l = gI s 218 (42 + 6 * a1.toNat) ∧ z_l = gw u_l 217 0 0) (fun r_l hr2 => ?_) (fun v_l z_l hz => ?_)
      · obtain ⟨q1_l, q2_l⟩ := m_156 (s := gw u_l 217 0 0) (x := a1) (j := 2) hr (by omega) (by decide) r_l hr2
        refine ⟨q1_l.trans ?_, q2_l⟩
        rw [show 40 + 6 * a1.toNat + (2 : Int).toNat = 42 + 6 * a1.toNat by omega]
        exact e8w 0 _
      obtain ⟨z1, z2⟩ := hz
      rw [z1, z2]
      refine gQ_w1 (A := fun v_l z_l => v_l = orn (gI s 218) a2 (gI s 218 5).toNat ∧ z_l = gw u_l 217 0 0) (fun r_l hr2 => ?_) (fun v_l z_l hz => ?_)
      · obtain ⟨q1_l, q2_l⟩ := p_231 (u := gw u_l 217 0 0) (m := a2) hr (by rw [e8w 0 5]; exact hv5) r_l hr2
        refine ⟨q1_l.trans ?_, q2_l⟩
        rw [E8_e (e8w 0)]
      obtain ⟨z1, z2⟩ := hz
      rw [z1, z2]
      by_cases c3 : gand (gI s 218 (42 + 6 * a1.toNat)) (gxor (orn (gI s 218) a2 (gI s 218 5).toNat) (-1)) = 0
      · rw [if_pos c3, if_pos c3]
        exact gQ_ret (Or.inl ⟨c_l, m0, rfl⟩)
      · rw [if_neg c3, if_neg c3]
        exact gQ_ret (Or.inl ⟨c_l, m0, rfl⟩)
    · rw [if_pos rfl]
      unfold fb_233_14 fb_233_45
      dsimp only
      rw [m0, if_neg (by decide)]
      exact gQ_ret (Or.inr ⟨c_l, m0⟩)
  unfold f_110
  refine n_gt (by decide) (n_135 hg h) (fun c_l => ?_) (fun c_l => ?_)
  · rw [r4, r5_l, r15, rr_16 hg (i := a1.toNat) (by omega), ce_m h (i := a1.toNat) (by omega)]
    refine gQ_chk (gQ_w1 (A := fun v_l z_l => v_l = (if gand (gI s 218 (42 + 6 * a1.toNat)) (gxor (orn (gI s 218) a2 (gI s 218 5).toNat) (-1)) = 0 then 1 else 0) ∧ z_l = s) (p_5 hJ h (mT h (by omega))) (fun v_l z_l hz => gQ_ret ?_))
    intro u_l p e8 hu hR q_l hq
    rcases mo u_l p e8 hu hR q_l hq with ⟨-, h1, h2⟩ | ⟨h1, -⟩
    · exact ⟨h1, fun _ => h2.trans hz.1.symm⟩
    · exact absurd c_l h1
  · intro u_l p e8 hu hR q_l hq
    rcases mo u_l p e8 hu hR q_l hq with ⟨h1, -⟩ | ⟨-, h1⟩
    · exact absurd h1 c_l
    · exact ⟨h1, fun z_l => by cases z_l⟩
end Sp

end
section
/-! slips, fewest, cheapest -/
section Se
variable {s u : gS} {p : gP} {m T a1 a2 : Int} {n : Nat}
theorem gor0 {x : Int} (hx : 0 ≤ x ∧ x < 64) : gor x 0 = x := by
  have h_l : ∀ k : Nat, k < 64 → gor (k : Int) 0 = (k : Int) := by decide +kernel
  have h1 := h_l x.toNat (by omega)
  rw [show ((x.toNat : Nat) : Int) = x by omega] at h1
  exact h1
theorem p_4 (hJ : J p s) (h : Rt s) (hm : 0 ≤ m ∧ m < gI s 218 5) : gQ (f_4 9 m T s) (fun r => r.2.1 = (if gand T (gxor (gI s 218 (76 + 2 * m.toNat + 1)) (-1)) = 0 then 1 else 0) ∧ r.2.2.2 = s) := by
  have hg : RF s := hJ.1.2.1
  have hv := (Jv hJ).2.2.1
  unfold f_4
  rw [(rr_9 hg).2.2.2.2, show gI s 14 m.toNat = gI s 218 (76 + 2 * m.toNat + 1) from ce_t h (i := m.toNat) (by omega) (j := 1) (by decide)]
  by_cases c : gand T (gxor (gI s 218 (76 + 2 * m.toNat + 1)) (-1)) = 0
  · rw [if_pos c, if_pos c]
    exact gQ_chk (gQ_ret ⟨rfl, rfl⟩)
  · rw [if_neg c, if_neg c]
    exact gQ_chk (gQ_ret ⟨rfl, rfl⟩)
theorem p_212 (hr : gR u 217 1 = 218) (hm : 0 ≤ m ∧ m < 6) : gQ (f_212 217 m T u) (fun r => r.2.1 = (if gand T (gxor (gI u 218 (76 + 2 * m.toNat + 1)) (-1)) = 0 then 1 else 0) ∧ r.2.2.2 = u) := by
  unfold f_212
  refine gQ_w1 (A := fun v_l z_l => v_l = gI u 218 (76 + 2 * m.toNat + 1) ∧ z_l = u) (m_159 hr hm) (fun v_l z_l hz => ?_)
  obtain ⟨z1, z2⟩ := hz
  rw [z1, z2]
  by_cases c : gand T (gxor (gI u 218 (76 + 2 * m.toNat + 1)) (-1)) = 0
  · rw [if_pos c, if_pos c]
    exact gQ_ret ⟨rfl, rfl⟩
  · rw [if_neg c, if_neg c]
    exact gQ_ret ⟨rfl, rfl⟩
/-- what a man knows, by the model -/
theorem mt_156 (e8 : E8 s u) (hr : gR u 217 1 = 218) (ha : 0 ≤ a1 ∧ a1 < 6) : gQ (f_156 217 a1 2 u) (fun r => r.2.1 = gI s 218 (42 + 6 * a1.toNat) ∧ r.2.2.2 = u) := fun r hr2 => by
  obtain ⟨q1_l, q2_l⟩ := m_156 (s := u) (x := a1) (j := 2) hr ha (by decide) r hr2
  refine ⟨q1_l.trans ?_, q2_l⟩
  rw [show 40 + 6 * a1.toNat + (2 : Int).toNat = 42 + 6 * a1.toNat by omega]
  exact e8 _
/-- slips -/
theorem co_113 (hJ : J p s) (h : Rt s) : gQ (f_113 0 a1 s) (Co st5 (f_237 217 a1) s) := by
  have hg : RF s := hJ.1.2.1
  have hv := (Jv hJ).2.1
  have hv5 := (Jv hJ).2.2.1
  have r4 : gR s 0 4 = 9 := (rr_0_4 hg).2
  have r5_l : gR s 0 5 = 15 := (rr_0_5 hg).2
  have r15 : gR s 15 0 = 16 := (rr_15_0 hg).2
  unfold f_113
  refine n_gt (by decide) (n_135 hg h) (fun c_l => ?_) (fun c_l => ?_)
  · intro r_l hr u_l p e8 hu hR
    have h8 : gR u_l 217 1 = 218 := (rr_217_1 hu.1.2.1).2
    have e8w : E8 s (gw u_l 217 0 0) := E8_t e8 m8
    have e5_l : gI (gw u_l 217 0 0) (gR (gw u_l 217 0 0) 217 1) 5 = gI s 218 5 := by
      rw [show gR (gw u_l 217 0 0) 217 1 = 218 from h8]
      exact e8w 5
    unfold f_237 f_162
    rw [h8, e8 4]
    refine m_n (by omega) (fun _ => ?_) (fun c2_l => absurd c_l c2_l)
    rw [if_neg (by decide)]
    unfold fb_237_14
    dsimp only
    refine gQ_lk (P := fun (q_l q' : gO) => gI q'.2.2.2 217 0 = st5 q_l.1 ∧ (q_l.1 = 1 → q'.2.1 = q_l.2.1)) (fun y_l z_l => y_l.1 = 0 ∧ y_l.2.1 = a1 ∧ y_l.2.2.2.2 = s ∧ (0 ≤ y_l.2.2.2.1 ∧ (0 ≤ y_l.2.2.1 ∧ y_l.2.2.1 < 64)) ∧ z_l = (217, a1, y_l.2.2.1, y_l.2.2.2.1, gw u_l 217 0 0)) (fun y_l z_l hy => ?_) ⟨rfl, rfl, rfl, by dsimp only; omega, rfl⟩ r_l hr
    obtain ⟨y0, y1, x2_l, x3, w_l⟩ := y_l
    obtain ⟨q0, q1_l, q2_l, q3_l, q4_l⟩ := hy
    dsimp only at q0 q1_l q2_l q3_l q4_l
    subst q0 q1_l q2_l q4_l
    show gQ (sb_113_9 0 y1 x2_l x3 w_l) _
    unfold sb_113_9
    rw [r4, r5_l, r15, (ce_n h).2.2.1, rr_16 hg (i := y1.toNat) (by omega), ce_m h (i := y1.toNat) (by omega)]
    by_cases c1 : x3 < gI w_l 218 5
    · rw [if_pos c1]
      refine gQ_chk (gQ_w1 (A := fun v_l z_l => v_l = (if gand (gI w_l 218 (42 + 6 * y1.toNat)) (gxor (gI w_l 218 (76 + 2 * x3.toNat + 1)) (-1)) = 0 then 1 else 0) ∧ z_l = w_l) (p_4 hJ h (by omega)) (fun v_l z_l hz => ?_))
      obtain ⟨z1, z2⟩ := hz
      rw [z1, z2]
      have eg : g32 (x3 + 1) = x3 + 1 := g32_eq (by omega) (by omega)
      have mm : gQ (sb_237_21 217 y1 x2_l x3 (gw u_l 217 0 0)) (fun a_l => a_l = Sum.inl (217, y1, (if gand (gI w_l 218 (42 + 6 * y1.toNat)) (gxor (gI w_l 218 (76 + 2 * x3.toNat + 1)) (-1)) = 0 then x2_l else gor x2_l (gshl 1 x3)), g32 (x3 + 1), gw u_l 217 0 0)) := by
        unfold sb_237_21
        rw [e5_l, if_pos c1, m0, if_pos rfl]
        refine gQ_w1 (A := fun v_l z_l => v_l = gI w_l 218 (42 + 6 * y1.toNat) ∧ z_l = gw u_l 217 0 0) (mt_156 e8w h8 (by omega)) (fun v_l z_l hz => ?_)
        obtain ⟨z1, z2⟩ := hz
        rw [z1, z2]
        refine gQ_w1 (A := fun v_l z_l => v_l = (if gand (gI w_l 218 (42 + 6 * y1.toNat)) (gxor (gI w_l 218 (76 + 2 * x3.toNat + 1)) (-1)) = 0 then 1 else 0) ∧ z_l = gw u_l 217 0 0) (fun r_l hr2 => ?_) (fun v_l z_l hz => ?_)
        · obtain ⟨q1_l, q2_l⟩ := p_212 (u := gw u_l 217 0 0) (m := x3) (T := gI w_l 218 (42 + 6 * y1.toNat)) h8 (by omega) r_l hr2
          refine ⟨q1_l.trans ?_, q2_l⟩
          rw [e8w]
        obtain ⟨z1, z2⟩ := hz
        rw [z1, z2]
        by_cases c3 : gand (gI w_l 218 (42 + 6 * y1.toNat)) (gxor (gI w_l 218 (76 + 2 * x3.toNat + 1)) (-1)) = 0
        · rw [if_pos c3, if_pos c3, if_neg (by decide), gor0 q3_l.2]
          exact gQ_ret rfl
        · rw [if_neg c3, if_neg c3, if_pos rfl]
          exact gQ_ret rfl
      have hb_l := gshl_5 (x := x3) (by omega)
      have hlt := gor_lt (x := x2_l) (y := gshl 1 x3) 6 (by decide) ⟨q3_l.2.1, q3_l.2.2⟩ ⟨by omega, by show gshl 1 x3 < 64; omega⟩
      have hlt2 : gor x2_l (gshl 1 x3) < 64 := hlt.2
      by_cases c3 : gand (gI w_l 218 (42 + 6 * y1.toNat)) (gxor (gI w_l 218 (76 + 2 * x3.toNat + 1)) (-1)) = 0
      · rw [if_pos c3, if_neg (by decide)]
        refine gQ_ret (fun a_l ha_l => ?_)
        rw [mm a_l ha_l, if_pos c3]
        refine ⟨rfl, rfl, rfl, ?_, rfl⟩
        dsimp only
        omega
      · rw [if_neg c3, if_pos rfl]
        refine gQ_ret (fun a_l ha_l => ?_)
        rw [mm a_l ha_l, if_neg c3]
        refine ⟨rfl, rfl, rfl, ?_, rfl⟩
        dsimp only
        omega
    · rw [if_neg c1]
      refine gQ_map (gQ_ret ?_)
      show gQ (sb_237_21 217 y1 x2_l x3 (gw u_l 217 0 0)) _
      unfold sb_237_21
      rw [e5_l, if_neg c1]
      exact gQ_map (gQ_ret ⟨m0, fun _ => rfl⟩)
  · intro u_l p e8 hu hR
    have h8 : gR u_l 217 1 = 218 := (rr_217_1 hu.1.2.1).2
    unfold f_237 f_162
    rw [h8, e8 4]
    refine m_n (by omega) (fun c2_l => absurd c2_l c_l) (fun _ => ?_)
    rw [if_pos rfl]
    unfold fb_237_14
    dsimp only
    refine gQ_loop (fun y_l => y_l.1 = 217 ∧ y_l.2.2.2.2 = gw u_l 217 0 1) (fun y_l hy => ?_) ⟨rfl, rfl⟩
    obtain ⟨y0, y1, x2_l, x3, w_l⟩ := y_l
    obtain ⟨q0, q1_l⟩ := hy
    dsimp only at q0 q1_l
    subst q0 q1_l
    show gQ (sb_237_21 217 y1 x2_l x3 (gw u_l 217 0 1)) _
    unfold sb_237_21
    rw [m0]
    rw [if_neg (show ¬ (1 : Int) = 0 by decide)]
    exact gQ_ite (gQ_map (gQ_ret ⟨m0, fun z_l => by cases z_l⟩)) (gQ_map (gQ_ret ⟨m0, fun z_l => by cases z_l⟩))
/-- a step of the model's search -/
theorem s_234 {fl x3 x4 : Int} (e8 : E8 s u) (hr : gR u 217 1 = 218) (hv5 : 0 ≤ gI s 218 5 ∧ gI s 218 5 ≤ 6) (hV : ∀ i, i < 6 → 0 ≤ gI s 218 (76 + 2 * i) ∧ gI s 218 (76 + 2 * i) ≤ 100) (ha : 0 ≤ a1 ∧ a1 < 6) (hx : 0 ≤ x4) (c : x4 < gshl 1 (gI s 218 5)) : gQ (sb_234_5 217 a1 fl x3 x4 u) (fun a => a = Sum.inl (217, a1, fl, (if stp (gI s 218) x4 (gI s 218 (42 + 6 * a1.toNat)) then (if x3 = -1 then x4 else if (if fl = 0 then csn (gI s 218) x4 (gI s 218 5).toNat < csn (gI s 218) x3 (gI s 218 5).toNat else pcs x4 31 < pcs x3 31) then x4 else x3) else x3), g32 (x4 + 1), u)) := by
  have eu : gI u 218 = gI s 218 := funext e8
  unfold sb_234_5 fb_234_77
  rw [hr, e8 5, if_pos c]
  refine gQ_w1 (A := fun v_l z_l => v_l = gI s 218 (42 + 6 * a1.toNat) ∧ z_l = u) (mt_156 e8 hr ha) (fun v_l z_l hz => ?_)
  obtain ⟨z1, z2⟩ := hz
  rw [z1, z2]
  have o : ∀ m_l, gQ (f_231 217 m_l u) (fun r_l => r_l.2.1 = orn (gI s 218) m_l (gI s 218 5).toNat ∧ r_l.2.2.2 = u) := fun m_l => by
    have h1 := p_231 (u := u) (m := m_l) hr (by rw [eu]; exact hv5)
    rw [eu] at h1
    exact h1
  have cs : ∀ m_l, gQ (f_232 217 m_l u) (fun r_l => r_l.2.1 = csn (gI s 218) m_l (gI s 218 5).toNat ∧ r_l.2.2.2 = u) := fun m_l => by
    have h1 := p_232 (u := u) (m := m_l) hr (by rw [eu]; exact hv5) (by rw [eu]; exact hV)
    rw [eu] at h1
    exact h1
  refine gQ_w1 (A := fun v_l z_l => v_l = orn (gI s 218) x4 (gI s 218 5).toNat ∧ z_l = u) (o x4) (fun v_l z_l hz => ?_)
  obtain ⟨z1, z2⟩ := hz
  rw [z1, z2]
  by_cases c1 : stp (gI s 218) x4 (gI s 218 (42 + 6 * a1.toNat))
  · rw [if_pos c1]
    have c1' := c1
    unfold stp at c1'
    rw [if_pos c1']
    by_cases c2 : x3 = -1
    · rw [if_pos c2, if_pos c2]
      exact gQ_ret rfl
    rw [if_neg c2, if_neg c2]
    by_cases c3 : fl = 0
    · rw [if_pos c3]
      refine gQ_w1 (A := fun v_l z_l => v_l = csn (gI s 218) x4 (gI s 218 5).toNat ∧ z_l = u) (cs x4) (fun v_l z_l hz => ?_)
      obtain ⟨z1, z2⟩ := hz
      rw [z1, z2]
      refine gQ_w1 (A := fun v_l z_l => v_l = csn (gI s 218) x3 (gI s 218 5).toNat ∧ z_l = u) (cs x3) (fun v_l z_l hz => ?_)
      obtain ⟨z1, z2⟩ := hz
      rw [z1, z2]
      simp only [if_pos c3]
      by_cases c4 : csn (gI s 218) x4 (gI s 218 5).toNat < csn (gI s 218) x3 (gI s 218 5).toNat
      · rw [if_pos c4, if_pos c4]
        exact gQ_ret rfl
      · rw [if_neg c4, if_neg c4]
        exact gQ_ret rfl
    · rw [if_neg c3]
      refine gQ_w1 (A := fun v_l z_l => v_l = pcs x4 31 ∧ z_l = u) p_154 (fun v_l z_l hz => ?_)
      obtain ⟨z1, z2⟩ := hz
      rw [z1, z2]
      refine gQ_w1 (A := fun v_l z_l => v_l = pcs x3 31 ∧ z_l = u) p_154 (fun v_l z_l hz => ?_)
      obtain ⟨z1, z2⟩ := hz
      rw [z1, z2]
      simp only [if_neg c3]
      by_cases c4 : pcs x4 31 < pcs x3 31
      · rw [if_pos c4, if_pos c4]
        exact gQ_ret rfl
      · rw [if_neg c4, if_neg c4]
        exact gQ_ret rfl
  · rw [if_neg c1]
    have c1' := c1
    unfold stp at c1'
    rw [if_neg c1']
    exact gQ_ret rfl
theorem stp_dec (V : Nat → Int) (m T : Int) : stp V m T ↔ gand T (gxor (orn V m (V 5).toNat) (-1)) = 0 := Iff.rfl
end Se

end
section
/-! fewest, cheapest -/
section Le
variable {s u : gS} {p : gP} {m T a1 a2 : Int} {n : Nat}
theorem bc_pc {x : Int} (hx : 0 ≤ x ∧ x < 64) : bcn x = pcs x 31 := by
  have h1 := bcn_64 x.toNat (by omega)
  rw [show ((x.toNat : Nat) : Int) = x by omega] at h1
  exact h1
theorem co_111 (hJ : J p s) (h : Rt s) : gQ (f_111 0 a1 s) (Co st5 (f_235 217 a1) s) := by
  have hg : RF s := hJ.1.2.1
  have hv := (Jv hJ).2.1
  have hv5 := (Jv hJ).2.2.1
  have h64 := gshl_6 (x := gI s 218 5) hv5
  have r4 : gR s 0 4 = 9 := (rr_0_4 hg).2
  have r5_l : gR s 0 5 = 15 := (rr_0_5 hg).2
  have r15 : gR s 15 0 = 16 := (rr_15_0 hg).2
  unfold f_111
  refine n_gt (by decide) (n_135 hg h) (fun c_l => ?_) (fun c_l => ?_)
  · intro r_l hr u_l p e8 hu hR
    have h8 : gR u_l 217 1 = 218 := (rr_217_1 hu.1.2.1).2
    have e8w : E8 s (gw u_l 217 0 0) := E8_t e8 m8
    unfold f_235 f_162
    rw [h8, e8 4]
    refine m_n (by omega) (fun _ => ?_) (fun c2_l => absurd c_l c2_l)
    rw [if_neg (by decide)]
    unfold fb_235_14
    dsimp only
    rw [m0, if_neg (by decide)]
    refine gQ_w1 (A := fun v_l z_l => z_l = gw u_l 217 0 0 ∧ v_l = r_l.2.1 ∧ r_l.1 = 1) ?_ (fun v_l z_l hz => ?_)
    · unfold f_234
      refine fun q_l hq => gQ_lk (P := fun (q_l q' : gO) => q'.2.2.2 = gw u_l 217 0 0 ∧ q'.2.1 = q_l.2.1 ∧ q_l.1 = 1) (fun y_l z_l => y_l.1 = 0 ∧ y_l.2.1 = a1 ∧ y_l.2.2.2.2 = s ∧ ((0 ≤ y_l.2.2.2.1 ∧ y_l.2.2.2.1 ≤ 64) ∧ (y_l.2.2.1 = -1 ∨ (0 ≤ y_l.2.2.1 ∧ y_l.2.2.1 < 64))) ∧ z_l = (217, a1, 1, y_l.2.2.1, y_l.2.2.2.1, gw u_l 217 0 0)) (fun y_l z_l hy => ?_) ⟨rfl, rfl, rfl, by dsimp only; omega, rfl⟩ r_l hr q_l hq
      obtain ⟨y0, y1, x2_l, x3, w_l⟩ := y_l
      obtain ⟨q0, q1_l, q2_l, q3_l, q4_l⟩ := hy
      dsimp only at q0 q1_l q2_l q3_l q4_l
      subst q0 q1_l q2_l q4_l
      show gQ (sb_111_9 0 y1 x2_l x3 w_l) _
      unfold sb_111_9 fb_111_61
      rw [r4, r5_l, r15, (ce_n h).2.2.1, rr_16 hg (i := y1.toNat) (by omega), ce_m h (i := y1.toNat) (by omega)]
      by_cases c1 : x3 < gshl 1 (gI w_l 218 5)
      · rw [if_pos c1]
        have eg : g32 (x3 + 1) = x3 + 1 := g32_eq (by omega) (by omega)
        have mm := s_234 (fl := 1) (x3 := x2_l) (x4 := x3) (a1 := y1) e8w h8 hv5 (tV5 h) (by omega) q3_l.1.1 c1
        refine gQ_chk (gQ_w1 (A := fun v_l z_l => v_l = (if gand (gI w_l 218 (42 + 6 * y1.toNat)) (gxor (orn (gI w_l 218) x3 (gI w_l 218 5).toNat) (-1)) = 0 then 1 else 0) ∧ z_l = w_l) (p_5 hJ h (mT h (by omega))) (fun v_l z_l hz => ?_))
        obtain ⟨z1, z2⟩ := hz
        rw [z1, z2]
        by_cases c2_l : gand (gI w_l 218 (42 + 6 * y1.toNat)) (gxor (orn (gI w_l 218) x3 (gI w_l 218 5).toNat) (-1)) = 0
        · rw [if_pos c2_l, if_neg (by decide)]
          by_cases c3 : x2_l = -1
          · rw [if_pos c3]
            refine gQ_ret (fun a_l ha_l => ?_)
            rw [mm a_l ha_l, if_pos c2_l, if_pos c3]
            refine ⟨rfl, rfl, rfl, ?_, rfl⟩
            dsimp only
            omega
          · rw [if_neg c3]
            refine gQ_w1 (A := fun v_l z_l => v_l = bcn x3 ∧ z_l = w_l) p_264 (fun v_l z_l hz => ?_)
            obtain ⟨z1, z2⟩ := hz
            rw [z1, z2]
            refine gQ_w1 (A := fun v_l z_l => v_l = bcn x2_l ∧ z_l = w_l) p_264 (fun v_l z_l hz => ?_)
            obtain ⟨z1, z2⟩ := hz
            rw [z1, z2, bc_pc (by omega), bc_pc (by omega)]
            by_cases c4 : pcs x3 31 < pcs x2_l 31
            · rw [if_pos c4]
              refine gQ_ret (fun a_l ha_l => ?_)
              rw [mm a_l ha_l, if_pos c2_l, if_neg c3, if_pos (by rw [if_neg (by decide)]; exact c4)]
              refine ⟨rfl, rfl, rfl, ?_, rfl⟩
              dsimp only
              omega
            · rw [if_neg c4]
              refine gQ_ret (fun a_l ha_l => ?_)
              rw [mm a_l ha_l, if_pos c2_l, if_neg c3, if_neg (by rw [if_neg (by decide)]; exact c4)]
              refine ⟨rfl, rfl, rfl, ?_, rfl⟩
              dsimp only
              omega
        · rw [if_neg c2_l, if_pos rfl]
          refine gQ_ret (fun a_l ha_l => ?_)
          rw [mm a_l ha_l, if_neg c2_l]
          refine ⟨rfl, rfl, rfl, ?_, rfl⟩
          dsimp only
          omega
      · rw [if_neg c1]
        refine gQ_map (gQ_ret ?_)
        show gQ (sb_234_5 217 y1 1 x2_l x3 (gw u_l 217 0 0)) _
        unfold sb_234_5
        rw [show gR (gw u_l 217 0 0) 217 1 = 218 from h8, e8w 5, if_neg c1]
        exact gQ_map (gQ_ret ⟨rfl, rfl, rfl⟩)
    · obtain ⟨z1, z2, z3⟩ := hz
      refine gQ_ret ⟨?_, fun _ => z2⟩
      dsimp only
      rw [z1, m0, z3]
      rfl
  · intro u_l p e8 hu hR
    have h8 : gR u_l 217 1 = 218 := (rr_217_1 hu.1.2.1).2
    unfold f_235 f_162
    rw [h8, e8 4]
    refine m_n (by omega) (fun c2_l => absurd c2_l c_l) (fun _ => ?_)
    rw [if_pos rfl]
    unfold fb_235_14
    dsimp only
    rw [m0, if_pos (by decide)]
    exact gQ_ret ⟨m0, fun z_l => by cases z_l⟩
/-- cheapest -/
theorem co_112 (hJ : J p s) (h : Rt s) : gQ (f_112 0 a1 a2 s) (Co st5 (f_236 217 a1 a2) s) := by
  have hg : RF s := hJ.1.2.1
  have hv := (Jv hJ).2.1
  have hv5 := (Jv hJ).2.2.1
  have h64 := gshl_6 (x := gI s 218 5) hv5
  have r4 : gR s 0 4 = 9 := (rr_0_4 hg).2
  have r5_l : gR s 0 5 = 15 := (rr_0_5 hg).2
  have r15 : gR s 15 0 = 16 := (rr_15_0 hg).2
  unfold f_112
  refine n_gt (by decide) (n_135 hg h) (fun c_l => ?_) (fun c_l => ?_)
  · intro r_l hr u_l p e8 hu hR
    have h8 : gR u_l 217 1 = 218 := (rr_217_1 hu.1.2.1).2
    have e8w : E8 s (gw u_l 217 0 0) := E8_t e8 m8
    unfold f_236 f_162
    rw [h8, e8 4]
    refine m_n (by omega) (fun _ => ?_) (fun c2_l => absurd c_l c2_l)
    rw [if_neg (by decide)]
    unfold fb_236_14
    dsimp only
    rw [m0, if_neg (by decide)]
    refine gQ_w1 (A := fun v_l z_l => z_l = gw u_l 217 0 0 ∧ r_l.1 = 1 ∧ r_l.2.1 = (if a2 = 0 then v_l else if v_l = -1 then -1 else csn (gI s 218) v_l (gI s 218 5).toNat)) ?_ (fun v_l z_l hz => ?_)
    · unfold f_234
      refine fun q_l hq => gQ_lk (P := fun (q_l q' : gO) => q'.2.2.2 = gw u_l 217 0 0 ∧ q_l.1 = 1 ∧ q_l.2.1 = (if a2 = 0 then q'.2.1 else if q'.2.1 = -1 then -1 else csn (gI s 218) q'.2.1 (gI s 218 5).toNat)) (fun y_l z_l => y_l.1 = 0 ∧ y_l.2.1 = a1 ∧ y_l.2.2.1 = a2 ∧ y_l.2.2.2.2.2.2 = s ∧ ((0 ≤ y_l.2.2.2.2.2.1 ∧ y_l.2.2.2.2.2.1 ≤ 64) ∧ (y_l.2.2.2.1 = -1 ∨ (0 ≤ y_l.2.2.2.1 ∧ y_l.2.2.2.1 < 64))) ∧ y_l.2.2.2.2.1 = (if y_l.2.2.2.1 = -1 then -1 else csn (gI s 218) y_l.2.2.2.1 (gI s 218 5).toNat) ∧ z_l = (217, a1, 0, y_l.2.2.2.1, y_l.2.2.2.2.2.1, gw u_l 217 0 0)) (fun y_l z_l hy => ?_) ⟨rfl, rfl, rfl, rfl, by dsimp only; omega, rfl, rfl⟩ r_l hr q_l hq
      obtain ⟨y0, y1, y2, x3, x4_l, x5_l, w_l⟩ := y_l
      obtain ⟨q0, q1_l, q1b, q2_l, q3_l, q5_l, q4_l⟩ := hy
      dsimp only at q0 q1_l q1b q2_l q3_l q5_l q4_l
      subst q0 q1_l q1b q2_l q4_l
      show gQ (sb_112_13 0 y1 y2 x3 x4_l x5_l w_l) _
      unfold sb_112_13 fb_112_74
      rw [r4, r5_l, r15, (ce_n h).2.2.1, rr_16 hg (i := y1.toNat) (by omega), ce_m h (i := y1.toNat) (by omega)]
      by_cases c1 : x5_l < gshl 1 (gI w_l 218 5)
      · rw [if_pos c1]
        have eg : g32 (x5_l + 1) = x5_l + 1 := g32_eq (by omega) (by omega)
        have mm := s_234 (fl := 0) (x3 := x3) (x4 := x5_l) (a1 := y1) e8w h8 hv5 (tV5 h) (by omega) q3_l.1.1 c1
        refine gQ_chk (gQ_w1 (A := fun v_l z_l => v_l = (if gand (gI w_l 218 (42 + 6 * y1.toNat)) (gxor (orn (gI w_l 218) x5_l (gI w_l 218 5).toNat) (-1)) = 0 then 1 else 0) ∧ z_l = w_l) (p_5 hJ h (mT h (by omega))) (fun v_l z_l hz => ?_))
        obtain ⟨z1, z2⟩ := hz
        rw [z1, z2]
        by_cases c2_l : gand (gI w_l 218 (42 + 6 * y1.toNat)) (gxor (orn (gI w_l 218) x5_l (gI w_l 218 5).toNat) (-1)) = 0
        · rw [if_pos c2_l, if_neg (by decide), r4]
          refine gQ_w1 (A := fun v_l z_l => v_l = csn (gI w_l 218) x5_l (gI w_l 218 5).toNat ∧ z_l = w_l) (p_6 hJ h) (fun v_l z_l hz => ?_)
          obtain ⟨z1, z2⟩ := hz
          rw [z1, z2]
          have nx : (if x5_l = -1 then (-1 : Int) else csn (gI w_l 218) x5_l (gI w_l 218 5).toNat) = csn (gI w_l 218) x5_l (gI w_l 218 5).toNat := if_neg (by omega)
          by_cases c3 : x3 = -1
          · rw [if_pos c3]
            refine gQ_ret (fun a_l ha_l => ?_)
            rw [mm a_l ha_l, if_pos c2_l, if_pos c3]
            refine ⟨rfl, rfl, rfl, rfl, ?_, nx.symm, rfl⟩
            dsimp only
            omega
          · rw [if_neg c3]
            rw [if_neg c3] at q5_l
            rw [q5_l]
            by_cases c4 : csn (gI w_l 218) x5_l (gI w_l 218 5).toNat < csn (gI w_l 218) x3 (gI w_l 218 5).toNat
            · rw [if_pos c4]
              refine gQ_ret (fun a_l ha_l => ?_)
              rw [mm a_l ha_l, if_pos c2_l, if_neg c3, if_pos (by rw [if_pos rfl]; exact c4)]
              refine ⟨rfl, rfl, rfl, rfl, ?_, nx.symm, rfl⟩
              dsimp only
              omega
            · rw [if_neg c4]
              refine gQ_ret (fun a_l ha_l => ?_)
              rw [mm a_l ha_l, if_pos c2_l, if_neg c3, if_neg (by rw [if_pos rfl]; exact c4)]
              refine ⟨rfl, rfl, rfl, rfl, ?_, (if_neg c3).symm, rfl⟩
              dsimp only
              omega
        · rw [if_neg c2_l, if_pos rfl]
          refine gQ_ret (fun a_l ha_l => ?_)
          rw [mm a_l ha_l, if_neg c2_l]
          refine ⟨rfl, rfl, rfl, rfl, ?_, q5_l, rfl⟩
          dsimp only
          omega
      · rw [if_neg c1]
        refine gQ_map ?_
        have mm : gQ (sb_234_5 217 y1 0 x3 x5_l (gw u_l 217 0 0)) (fun a_l => a_l = Sum.inr (1, x3, 0, gw u_l 217 0 0)) := by
          unfold sb_234_5
          rw [show gR (gw u_l 217 0 0) 217 1 = 218 from h8, e8w 5, if_neg c1]
          exact gQ_map (gQ_ret rfl)
        by_cases c2_l : y2 = 0
        · rw [if_pos c2_l]
          refine gQ_ret (fun a_l ha_l => ?_)
          rw [mm a_l ha_l]
          refine ⟨rfl, rfl, ?_⟩
          dsimp only
          rw [if_pos c2_l]
        · rw [if_neg c2_l]
          refine gQ_ret (fun a_l ha_l => ?_)
          rw [mm a_l ha_l]
          refine ⟨rfl, rfl, ?_⟩
          dsimp only
          rw [if_neg c2_l]
          exact q5_l
    · obtain ⟨z1, z2, z3⟩ := hz
      rw [z1]
      have eu : gI (gw u_l 217 0 0) 218 = gI s 218 := funext e8w
      unfold fb_236_50
      by_cases c2_l : a2 = 0
      · rw [if_pos c2_l] at z3 ⊢
        refine gQ_ret ⟨?_, fun _ => z3.symm⟩
        dsimp only
        rw [m0, z2]
        rfl
      · rw [if_neg c2_l] at z3 ⊢
        by_cases c3 : v_l = -1
        · rw [if_pos c3] at z3 ⊢
          refine gQ_ret ⟨?_, fun _ => ?_⟩
          · dsimp only
            rw [m0, z2]
            rfl
          · dsimp only
            rw [z3, c3]
        · rw [if_neg c3] at z3 ⊢
          have h1 := p_232 (u := gw u_l 217 0 0) (m := v_l) h8 (by rw [eu]; exact hv5) (by rw [eu]; exact tV5 h)
          rw [eu] at h1
          refine gQ_w1 (A := fun x_l z_l => x_l = csn (gI s 218) v_l (gI s 218 5).toNat ∧ z_l = gw u_l 217 0 0) h1 (fun x_l z_l hz => ?_)
          obtain ⟨y1, y2⟩ := hz
          rw [y2]
          refine gQ_ret ⟨?_, fun _ => y1.trans z3.symm⟩
          dsimp only
          rw [m0, z2]
          rfl
  · intro u_l p e8 hu hR
    have h8 : gR u_l 217 1 = 218 := (rr_217_1 hu.1.2.1).2
    unfold f_236 f_162
    rw [h8, e8 4]
    refine m_n (by omega) (fun c2_l => absurd c2_l c_l) (fun _ => ?_)
    rw [if_pos rfl]
    unfold fb_236_14
    dsimp only
    rw [m0, if_pos (by decide)]
    exact gQ_ret ⟨m0, fun z_l => by cases z_l⟩
end Le

end
