/-! mates -/
section Ma
variable {s t : gS} {p : gP}
theorem cd_121 (hJ : J p s) (h : Rt s) : gQ (f_121 0 s) (Cd (f_249 217) s) := by
  have hg : RF s := hJ.1.2.1
  have hv := (Jv hJ).2.1
  have r5_l : gR s 0 5 = 15 := (rr_0_5 hg).2
  have r15 : gR s 15 0 = 16 := (rr_15_0 hg).2
  unfold f_121
  intro r_l hr u_l p e8 hu hR
  have h8 : gR u_l 217 1 = 218 := (rr_217_1 hu.1.2.1).2
  unfold f_249
  dsimp only
  have e1_l : gI (gw u_l 217 0 0) (gR (gw u_l 217 0 0) 217 1) 4 = gI s 218 4 := by
    rw [show gR (gw u_l 217 0 0) 217 1 = 218 from h8]
    exact (m8 4).trans (e8 4)
  have m5_l : ∀ x_l : Int, 0 ≤ x_l ∧ x_l < 6 → gQ (f_156 217 x_l 2 (gw u_l 217 0 0)) (fun r_l => r_l.2.1 = gI s 218 (42 + 6 * x_l.toNat) ∧ r_l.2.2.2 = gw u_l 217 0 0) := fun x_l hx r_l hr2 => by
    obtain ⟨q1_l, q2_l⟩ := m_156 (s := gw u_l 217 0 0) (x := x_l) (j := 2) h8 hx (by decide) r_l hr2
    refine ⟨q1_l.trans ?_, q2_l⟩
    rw [show 40 + 6 * x_l.toNat + (2 : Int).toNat = 42 + 6 * x_l.toNat by omega]
    exact (m8 _).trans (e8 _)
  refine gQ_lk (P := fun (q_l q' : gO) => q'.2.1 = q_l.2.1) (fun y_l z_l => y_l.1 = 0 ∧ y_l.2.2.2 = s ∧ (0 ≤ y_l.2.2.1 ∧ y_l.2.2.1 ≤ 6 ∧ 0 ≤ y_l.2.1 ∧ y_l.2.1 ≤ 6 * y_l.2.2.1) ∧ z_l = (217, y_l.2.1, y_l.2.2.1, gw u_l 217 0 0)) (fun y_l z_l hy => ?_) ⟨rfl, rfl, by dsimp only; omega, rfl⟩ r_l hr
  obtain ⟨y0, x1_l, x2_l, w_l⟩ := y_l
  obtain ⟨q0, q2_l, q3_l, q4_l⟩ := hy
  dsimp only at q0 q2_l q3_l q4_l
  subst q0 q2_l q4_l
  show gQ (sb_121_4 0 x1_l x2_l w_l) _
  unfold sb_121_4
  rw [r5_l, (ce_n h).2.1]
  by_cases c1 : x2_l < gI w_l 218 4
  · rw [if_pos c1]
    intro a_l ha_l
    show gQ (sb_249_9 217 x1_l x2_l (gw u_l 217 0 0)) _
    unfold sb_249_9
    rw [e1_l, if_pos c1]
    refine gQ_lk (P := fun q_l q' => SR (fun (y_l : Nat × Int × Int × gS) (z_l : Nat × Int × Int × gS) => y_l.1 = 0 ∧ y_l.2.2.2 = w_l ∧ (0 ≤ y_l.2.2.1 ∧ y_l.2.2.1 ≤ 6 ∧ 0 ≤ y_l.2.1 ∧ y_l.2.1 ≤ 6 * y_l.2.2.1) ∧ z_l = (217, y_l.2.1, y_l.2.2.1, gw u_l 217 0 0)) (fun (q_l q' : gO) => q'.2.1 = q_l.2.1) q_l q') (fun y_l z_l => y_l.1 = 0 ∧ y_l.2.2.1 = x2_l ∧ y_l.2.2.2.2 = w_l ∧ (0 ≤ y_l.2.2.2.1 ∧ y_l.2.2.2.1 ≤ 6 ∧ 0 ≤ y_l.2.1 ∧ y_l.2.1 ≤ 6 * x2_l + (y_l.2.2.2.1 - 1)) ∧ z_l = (217, y_l.2.1, x2_l, y_l.2.2.2.1, gw u_l 217 0 0)) (fun y_l z_l hy => ?_) ⟨rfl, rfl, rfl, ?_, rfl⟩ a_l ha_l
    · obtain ⟨y0, y1, y2, x3, w2_l⟩ := y_l
      obtain ⟨q0, q1_l, q2_l, q5_l, q4_l⟩ := hy
      dsimp only at q0 q1_l q2_l q5_l q4_l
      subst q0 q1_l q2_l q4_l
      show gQ (sb_121_19 0 y1 y2 x3 w2_l) _
      unfold sb_121_19
      rw [r5_l, r15, (ce_n h).2.1]
      by_cases c2 : x3 < gI w2_l 218 4
      · rw [if_pos c2, rr_16 hg (i := y2.toNat) (by omega), ce_m h (i := y2.toNat) (by omega), rr_16 hg (i := x3.toNat) (by omega), ce_m h (i := x3.toNat) (by omega)]
        have eg : g32 (x3 + 1) = x3 + 1 := g32_eq (by omega) (by omega)
        have eh : g32 (y1 + 1) = y1 + 1 := g32_eq (by omega) (by omega)
        have ei : g32 (y1 + 0) = y1 := (g32_eq (v := y1 + 0) (by omega) (by omega)).trans (by omega)
        refine gQ_chk (gQ_chk ?_)
        by_cases c3 : gI w2_l 218 (42 + 6 * y2.toNat) = gI w2_l 218 (42 + 6 * x3.toNat)
        · rw [if_pos c3]
          refine gQ_ret ?_
          show gQ (sb_249_23 217 y1 y2 x3 (gw u_l 217 0 0)) _
          unfold sb_249_23
          rw [e1_l, if_pos c2]
          refine gQ_w1 (A := fun v_l z_l => v_l = gI w2_l 218 (42 + 6 * y2.toNat) ∧ z_l = gw u_l 217 0 0) (m5_l y2 (by omega)) (fun v_l z_l hz => ?_)
          obtain ⟨z1, z2⟩ := hz
          rw [z1, z2]
          refine gQ_w1 (A := fun v_l z_l => v_l = gI w2_l 218 (42 + 6 * x3.toNat) ∧ z_l = gw u_l 217 0 0) (m5_l x3 (by omega)) (fun v_l z_l hz => ?_)
          obtain ⟨z1, z2⟩ := hz
          rw [z1, z2, if_pos c3]
          refine gQ_ret ⟨rfl, rfl, rfl, ?_, rfl⟩
          dsimp only
          omega
        · rw [if_neg c3]
          refine gQ_ret ?_
          show gQ (sb_249_23 217 y1 y2 x3 (gw u_l 217 0 0)) _
          unfold sb_249_23
          rw [e1_l, if_pos c2]
          refine gQ_w1 (A := fun v_l z_l => v_l = gI w2_l 218 (42 + 6 * y2.toNat) ∧ z_l = gw u_l 217 0 0) (m5_l y2 (by omega)) (fun v_l z_l hz => ?_)
          obtain ⟨z1, z2⟩ := hz
          rw [z1, z2]
          refine gQ_w1 (A := fun v_l z_l => v_l = gI w2_l 218 (42 + 6 * x3.toNat) ∧ z_l = gw u_l 217 0 0) (m5_l x3 (by omega)) (fun v_l z_l hz => ?_)
          obtain ⟨z1, z2⟩ := hz
          rw [z1, z2, if_neg c3, ei]
          refine gQ_ret ⟨rfl, rfl, rfl, ?_, rfl⟩
          dsimp only
          omega
      · rw [if_neg c2]
        refine gQ_map (gQ_ret ?_)
        show gQ (sb_249_23 217 y1 y2 x3 (gw u_l 217 0 0)) _
        unfold sb_249_23
        rw [e1_l, if_neg c2]
        have eg : g32 (y2 + 1) = y2 + 1 := g32_eq (by omega) (by omega)
        refine gQ_map (gQ_ret ⟨rfl, rfl, ?_, rfl⟩)
        dsimp only
        omega
    · have eg : g32 (x2_l + 1) = x2_l + 1 := g32_eq (by omega) (by omega)
      dsimp only
      omega
  · rw [if_neg c1]
    refine gQ_map (gQ_ret ?_)
    show gQ (sb_249_9 217 x1_l x2_l (gw u_l 217 0 0)) _
    unfold sb_249_9
    rw [e1_l, if_neg c1]
    exact gQ_map (gQ_ret rfl)
end Ma
