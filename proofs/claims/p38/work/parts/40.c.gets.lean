/-! getters of texts -/
def st5 (n : Nat) : Int := if n = 5 then 1 else 0
def st2 (n : Nat) : Int := if n = 2 then 1 else 0
section Ge
variable {s t : gS} {p : gP} {a1 a2 v : Int}
theorem co_94 (hJ : J p s) (h : Rt s) : gQ (f_94 0 a1 a2 s) (Co st5 (f_207 217 a1 a2) s) := by
  have hg : RF s := hJ.1.2.1
  have hv := (Jv hJ).2.2.1
  have mo : ∀ u_l p, E8 s u_l → J p u_l → Rt u_l → gQ (f_207 217 a1 a2 u_l) (fun q_l => ((0 ≤ a1 ∧ a1 < gI s 218 5) ∧ gI q_l.2.2.2 217 0 = 0 ∧ q_l.2.1 = gI s 218 (76 + 2 * a1.toNat + (if a2 = 0 then 0 else 1))) ∨ (¬ (0 ≤ a1 ∧ a1 < gI s 218 5) ∧ gI q_l.2.2.2 217 0 = 1)) := fun u_l p e8 hu hR => by
    have hr := (rr_217_1 hu.1.2.1).2
    unfold f_207 f_163
    rw [hr, e8 5]
    refine m_n (by omega) (fun c_l => ?_) (fun c_l => ?_)
    · rw [if_neg (by decide)]
      unfold fb_207_14
      dsimp only
      rw [m0, if_neg (by decide)]
      by_cases c3 : a2 = 0
      · rw [if_pos c3]
        refine gQ_w1 (A := fun w_l z_l => w_l = gI s 218 (76 + 2 * a1.toNat) ∧ z_l = gw u_l 217 0 0) (fun r_l hr2 => ?_) (fun w_l z_l hz => ?_)
        · obtain ⟨q1_l, q2_l⟩ := m_158 (s := gw u_l 217 0 0) (x := a1) hr (by omega) r_l hr2
          exact ⟨q1_l.trans ((m8 _).trans (e8 _)), q2_l⟩
        · obtain ⟨z1, z2⟩ := hz
          refine gQ_ret (Or.inl ⟨c_l, ?_, ?_⟩)
          · dsimp only
            rw [z2, m0]
          · dsimp only
            rw [z1, if_pos c3, Nat.add_zero]
      · rw [if_neg c3]
        refine gQ_w1 (A := fun w_l z_l => w_l = gI s 218 (76 + 2 * a1.toNat + 1) ∧ z_l = gw u_l 217 0 0) (fun r_l hr2 => ?_) (fun w_l z_l hz => ?_)
        · obtain ⟨q1_l, q2_l⟩ := m_159 (s := gw u_l 217 0 0) (x := a1) hr (by omega) r_l hr2
          exact ⟨q1_l.trans ((m8 _).trans (e8 _)), q2_l⟩
        · obtain ⟨z1, z2⟩ := hz
          refine gQ_ret (Or.inl ⟨c_l, ?_, ?_⟩)
          · dsimp only
            rw [z2, m0]
          · dsimp only
            rw [z1, if_neg c3]
    · rw [if_pos rfl]
      unfold fb_207_14
      dsimp only
      rw [m0, if_pos (by decide)]
      exact gQ_ret (Or.inr ⟨c_l, m0⟩)
  unfold f_94
  refine n_gt (by decide) (n_136 hg h) (fun c_l => ?_) (fun c_l => ?_)
  · rw [(rr_0_4 hg).2, (rr_9 hg).2.2.2.1, (rr_9 hg).2.2.2.2]
    have key_l : ∀ x_l, x_l = gI s 218 (76 + 2 * a1.toNat + (if a2 = 0 then 0 else 1)) → Co st5 (f_207 217 a1 a2) s (1, x_l, 0, s) := fun x_l hx u_l p e8 hu hR q_l hq => by
      rcases mo u_l p e8 hu hR q_l hq with ⟨-, h1, h2⟩ | ⟨h1, -⟩
      · exact ⟨h1, fun _ => h2.trans hx.symm⟩
      · exact absurd c_l h1
    by_cases c3 : a2 = 0
    · rw [if_pos c3]
      exact gQ_chk (gQ_ret (key_l _ (by rw [if_pos c3]; exact ce_t h (i := a1.toNat) (by omega) (j := 0) (by decide))))
    · rw [if_neg c3]
      exact gQ_chk (gQ_ret (key_l _ (by rw [if_neg c3]; exact ce_t h (i := a1.toNat) (by omega) (j := 1) (by decide))))
  · intro u_l p e8 hu hR q_l hq
    rcases mo u_l p e8 hu hR q_l hq with ⟨h1, -⟩ | ⟨-, h1⟩
    · exact absurd h1 c_l
    · exact ⟨h1, fun z_l => by cases z_l⟩
theorem gand1 {x : Int} : gand x 1 = 0 ∨ gand x 1 = 1 := by
  have h_l := gand_le (x := x) (m := 1) (by decide) (by decide)
  omega
theorem gshl0 {x : Int} (hx : 0 ≤ x ∧ x < 6) : gshl 0 x = 0 := by
  have h_l : ∀ n : Nat, n < 6 → gshl 0 (n : Int) = 0 := by decide +kernel
  have h1 := h_l x.toNat (by omega)
  rw [show ((x.toNat : Nat) : Int) = x by omega] at h1
  exact h1
/-- knows -/
theorem co_122 (hJ : J p s) (h : Rt s) : gQ (f_122 0 a1 s) (Co st2 (f_250 217 a1) s) := by
  have hg : RF s := hJ.1.2.1
  have hv := (Jv hJ).2.1
  have r5_l : gR s 0 5 = 15 := (rr_0_5 hg).2
  have r15 : gR s 15 0 = 16 := (rr_15_0 hg).2
  unfold f_122
  refine n_gt (by decide) n_138 (fun c_l => ?_) (fun c_l => ?_)
  · intro r_l hr u_l p e8 hu hR
    have h8 : gR u_l 217 1 = 218 := (rr_217_1 hu.1.2.1).2
    unfold f_250
    refine gQ_w1 (A := fun v_l z_l => v_l = (if 0 ≤ a1 ∧ a1 ≤ 5 then 1 else 0) ∧ z_l = u_l) m_150 (fun v_l z_l hz => ?_)
    obtain ⟨z1, z2⟩ := hz
    rw [z1, z2, if_pos c_l, if_neg (by decide)]
    unfold fb_250_15
    dsimp only
    refine gQ_lk (P := fun (q_l q' : gO) => gI q'.2.2.2 217 0 = st2 q_l.1 ∧ (q_l.1 = 1 → q'.2.1 = q_l.2.1)) (fun y_l z_l => y_l.1 = 0 ∧ y_l.2.1 = a1 ∧ y_l.2.2.2.2 = s ∧ 0 ≤ y_l.2.2.2.1 ∧ z_l = (217, a1, y_l.2.2.1, y_l.2.2.2.1, gw u_l 217 0 0)) (fun y_l z_l hy => ?_) ⟨rfl, rfl, rfl, Int.le_refl 0, rfl⟩ r_l hr
    obtain ⟨y0, y1, x2_l, x3, w_l⟩ := y_l
    obtain ⟨q0, q1_l, q2_l, q3_l, q4_l⟩ := hy
    dsimp only at q0 q1_l q2_l q3_l q4_l
    subst q0 q1_l q2_l q4_l
    show gQ (sb_122_11 0 y1 x2_l x3 w_l) _
    unfold sb_122_11
    rw [r5_l, r15, (ce_n h).2.1]
    by_cases c1 : x3 < gI w_l 218 4
    · rw [if_pos c1, rr_16 hg (i := x3.toNat) (by omega), ce_m h (i := x3.toNat) (by omega)]
      refine gQ_chk (gQ_ret ?_)
      show gQ (sb_250_22 217 y1 x2_l x3 (gw u_l 217 0 0)) _
      unfold sb_250_22
      have e1_l : gI (gw u_l 217 0 0) (gR (gw u_l 217 0 0) 217 1) 4 = gI w_l 218 4 := by
        rw [show gR (gw u_l 217 0 0) 217 1 = 218 from h8]
        exact (m8 4).trans (e8 4)
      rw [e1_l, if_pos c1, m0, if_pos rfl]
      refine gQ_w1 (A := fun v_l z_l => v_l = gI w_l 218 (42 + 6 * x3.toNat) ∧ z_l = gw u_l 217 0 0) (fun r_l hr2 => ?_) (fun v_l z_l hz => ?_)
      · obtain ⟨q1_l, q2_l⟩ := m_156 (s := gw u_l 217 0 0) (x := x3) (j := 2) h8 (by omega) (by decide) r_l hr2
        refine ⟨q1_l.trans ?_, q2_l⟩
        rw [show 40 + 6 * x3.toNat + (2 : Int).toNat = 42 + 6 * x3.toNat by omega]
        exact (m8 _).trans (e8 _)
      obtain ⟨z1, z2⟩ := hz
      rw [z1, z2]
      generalize gI w_l 218 (42 + 6 * x3.toNat) = T
      refine gQ_w1 (A := fun v_l z_l => v_l = (if gand (gshr T y1) 1 = 1 then 1 else 0) ∧ z_l = gw u_l 217 0 0) m_153 (fun v_l z_l hz => ?_)
      obtain ⟨z1, z2⟩ := hz
      rw [z1, z2]
      have eg : g32 (x3 + 1) = x3 + 1 := g32_eq (by omega) (by omega)
      rcases gand1 (x := gshr T y1) with e_l | e_l
      · rw [e_l, if_neg (show ¬ (0 : Int) = 1 by decide), if_pos (show (0 : Int) = 0 from rfl), gshl0 (by omega)]
        refine gQ_ret ⟨rfl, rfl, rfl, ?_, rfl⟩
        dsimp only
        omega
      · rw [e_l, if_pos (show (1 : Int) = 1 from rfl), if_neg (show ¬ (1 : Int) = 0 by decide)]
        refine gQ_ret ⟨rfl, rfl, rfl, ?_, rfl⟩
        dsimp only
        omega
    · rw [if_neg c1]
      refine gQ_map (gQ_ret ?_)
      show gQ (sb_250_22 217 y1 x2_l x3 (gw u_l 217 0 0)) _
      unfold sb_250_22
      have e1_l : gI (gw u_l 217 0 0) (gR (gw u_l 217 0 0) 217 1) 4 = gI w_l 218 4 := by
        rw [show gR (gw u_l 217 0 0) 217 1 = 218 from h8]
        exact (m8 4).trans (e8 4)
      rw [e1_l, if_neg c1]
      exact gQ_map (gQ_ret ⟨m0, fun _ => rfl⟩)
  · intro u_l p e8 hu hR
    unfold f_250
    refine gQ_w1 (A := fun v_l z_l => v_l = (if 0 ≤ a1 ∧ a1 ≤ 5 then 1 else 0) ∧ z_l = u_l) m_150 (fun v_l z_l hz => ?_)
    obtain ⟨z1, z2⟩ := hz
    rw [z1, z2, if_neg c_l, if_pos rfl]
    unfold fb_250_15
    dsimp only
    refine gQ_loop (fun y_l => y_l.1 = 217 ∧ y_l.2.2.2.2 = gw u_l 217 0 1) (fun y_l hy => ?_) ⟨rfl, rfl⟩
    obtain ⟨y0, y1, x2_l, x3, w_l⟩ := y_l
    obtain ⟨q0, q1_l⟩ := hy
    dsimp only at q0 q1_l
    subst q0 q1_l
    show gQ (sb_250_22 217 y1 x2_l x3 (gw u_l 217 0 1)) _
    unfold sb_250_22
    rw [m0]
    rw [if_neg (show ¬ (1 : Int) = 0 by decide)]
    exact gQ_ite (gQ_map (gQ_ret ⟨m0, fun z_l => by cases z_l⟩)) (gQ_map (gQ_ret ⟨m0, fun z_l => by cases z_l⟩))
/-- dearest -/
theorem cd_123 (hJ : J p s) (h : Rt s) : gQ (f_123 0 s) (Cd (f_251 217) s) := by
  have hg : RF s := hJ.1.2.1
  have hv := (Jv hJ).1
  have r4 : gR s 0 4 = 9 := (rr_0_4 hg).2
  have r9 : gR s 9 1 = 11 := (rr_9 hg).2.1
  unfold f_123
  intro r_l hr u_l p e8 hu hR
  have h8 : gR u_l 217 1 = 218 := (rr_217_1 hu.1.2.1).2
  unfold f_251
  dsimp only
  refine gQ_lk (P := fun (q_l q' : gO) => q'.2.1 = q_l.2.1) (fun y_l z_l => y_l.1 = 0 ∧ y_l.2.2.2 = s ∧ (-1 ≤ y_l.2.1 ∧ 0 ≤ y_l.2.2.1 ∧ y_l.2.1 < y_l.2.2.1 ∧ y_l.2.2.1 ≤ 8) ∧ z_l = (217, y_l.2.1, y_l.2.2.1, gw u_l 217 0 0)) (fun y_l z_l hy => ?_) ⟨rfl, rfl, by dsimp only; omega, rfl⟩ r_l hr
  obtain ⟨y0, x1_l, x2_l, w_l⟩ := y_l
  obtain ⟨q0, q2_l, q3_l, q4_l⟩ := hy
  dsimp only at q0 q2_l q3_l q4_l
  subst q0 q2_l q4_l
  show gQ (sb_123_4 0 x1_l x2_l w_l) _
  unfold sb_123_4 fb_123_41
  rw [r4, r9, (ce_n h).1]
  have e1_l : gI (gw u_l 217 0 0) (gR (gw u_l 217 0 0) 217 1) 3 = gI w_l 218 3 := by
    rw [show gR (gw u_l 217 0 0) 217 1 = 218 from h8]
    exact (m8 3).trans (e8 3)
  have eg : g32 (x2_l + 1) = x2_l + 1 := g32_eq (by omega) (by omega)
  have m5_l : ∀ x_l : Int, 0 ≤ x_l ∧ x_l < 8 → gQ (f_155 217 x_l 1 (gw u_l 217 0 0)) (fun r_l => r_l.2.1 = gI w_l 218 (16 + 3 * x_l.toNat + 1) ∧ r_l.2.2.2 = gw u_l 217 0 0) := fun x_l hx r_l hr2 => by
    obtain ⟨q1_l, q2_l⟩ := m_155 (s := gw u_l 217 0 0) (x := x_l) (j := 1) h8 hx (by decide) r_l hr2
    exact ⟨q1_l.trans ((m8 _).trans (e8 _)), q2_l⟩
  by_cases c1 : x2_l < gI w_l 218 3
  · rw [if_pos c1]
    by_cases c2 : x1_l = -1
    · rw [if_pos c2]
      refine gQ_ret ?_
      show gQ (sb_251_9 217 x1_l x2_l (gw u_l 217 0 0)) _
      unfold sb_251_9 fb_251_39
      rw [e1_l, if_pos c1, if_pos c2]
      refine gQ_ret ⟨rfl, rfl, ?_, rfl⟩
      dsimp only
      omega
    · rw [if_neg c2]
      refine gQ_chk (gQ_chk ?_)
      rw [show gI w_l 11 x1_l.toNat = gI w_l 218 (16 + 3 * x1_l.toNat + 1) from ce_s h (i := x1_l.toNat) (by omega) (j := 1) (by decide), show gI w_l 11 x2_l.toNat = gI w_l 218 (16 + 3 * x2_l.toNat + 1) from ce_s h (i := x2_l.toNat) (by omega) (j := 1) (by decide)]
      have mm : ∀ a_l : (Nat × Int × Int × gS) ⊕ gO, (gI w_l 218 (16 + 3 * x1_l.toNat + 1) < gI w_l 218 (16 + 3 * x2_l.toNat + 1) → a_l = Sum.inl (0, x2_l, g32 (x2_l + 1), w_l)) → (¬ gI w_l 218 (16 + 3 * x1_l.toNat + 1) < gI w_l 218 (16 + 3 * x2_l.toNat + 1) → a_l = Sum.inl (0, x1_l, g32 (x2_l + 1), w_l)) → gQ (st_251_9 (217, x1_l, x2_l, gw u_l 217 0 0)) (SR (fun y_l z_l => y_l.1 = 0 ∧ y_l.2.2.2 = w_l ∧ (-1 ≤ y_l.2.1 ∧ 0 ≤ y_l.2.2.1 ∧ y_l.2.1 < y_l.2.2.1 ∧ y_l.2.2.1 ≤ 8) ∧ z_l = (217, y_l.2.1, y_l.2.2.1, gw u_l 217 0 0)) (fun (q_l q' : gO) => q'.2.1 = q_l.2.1) a_l) := fun a_l ha_l hb_l => by
        show gQ (sb_251_9 217 x1_l x2_l (gw u_l 217 0 0)) _
        unfold sb_251_9 fb_251_39
        rw [e1_l, if_pos c1, if_neg c2]
        refine gQ_w1 (A := fun v_l z_l => v_l = gI w_l 218 (16 + 3 * x2_l.toNat + 1) ∧ z_l = gw u_l 217 0 0) (m5_l x2_l (by omega)) (fun v_l z_l hz => ?_)
        obtain ⟨z1, z2⟩ := hz
        rw [z1, z2]
        refine gQ_w1 (A := fun v_l z_l => v_l = gI w_l 218 (16 + 3 * x1_l.toNat + 1) ∧ z_l = gw u_l 217 0 0) (m5_l x1_l (by omega)) (fun v_l z_l hz => ?_)
        obtain ⟨z1, z2⟩ := hz
        rw [z1, z2]
        by_cases c3 : gI w_l 218 (16 + 3 * x1_l.toNat + 1) < gI w_l 218 (16 + 3 * x2_l.toNat + 1)
        · rw [if_pos c3, ha_l c3]
          refine gQ_ret ⟨rfl, rfl, ?_, rfl⟩
          dsimp only
          omega
        · rw [if_neg c3, hb_l c3]
          refine gQ_ret ⟨rfl, rfl, ?_, rfl⟩
          dsimp only
          omega
      by_cases c3 : gI w_l 218 (16 + 3 * x1_l.toNat + 1) < gI w_l 218 (16 + 3 * x2_l.toNat + 1)
      · rw [if_pos c3]
        exact gQ_ret (mm _ (fun _ => rfl) (fun z_l => absurd c3 z_l))
      · rw [if_neg c3]
        exact gQ_ret (mm _ (fun z_l => absurd z_l c3) (fun _ => rfl))
  · rw [if_neg c1]
    refine gQ_map (gQ_ret ?_)
    show gQ (sb_251_9 217 x1_l x2_l (gw u_l 217 0 0)) _
    unfold sb_251_9
    rw [e1_l, if_neg c1]
    exact gQ_map (gQ_ret rfl)
end Ge
