/-! slips, fewest, cheapest -/
section Se
variable {s u : gS} {p : gP} {m T a1 a2 : Int} {n : Nat}
theorem gor0 {x : Int} (hx : 0 ≤ x ∧ x < 64) : gor x 0 = x := by
  have h_l : ∀ k : Nat, k < 64 → gor (k : Int) 0 = (k : Int) := by decide +kernel
  have h1 := h_l x.toNat (by omega)
  rw [show ((x.toNat : Nat) : Int) = x by omega] at h1
  exact h1
theorem p_4 (hJ : J p s) (h : Rt s) (hm : 0 ≤ m ∧ m < gI s 218 5) : gQ (f_4 9 m T s) (fun r => r.2.1 = (if gand T (gxor (gI s 218 (76 + 2 * m.toNat + 1)) (-1)) = 0 then 1 else 0) ∧ r.2.2.2 = s) := by
  have hg : RF s := hJ.1.2.1
  have hv := (Jv hJ).2.2.1
  unfold f_4
  rw [(rr_9 hg).2.2.2.2, show gI s 14 m.toNat = gI s 218 (76 + 2 * m.toNat + 1) from ce_t h (i := m.toNat) (by omega) (j := 1) (by decide)]
  by_cases c : gand T (gxor (gI s 218 (76 + 2 * m.toNat + 1)) (-1)) = 0
  · rw [if_pos c, if_pos c]
    exact gQ_chk (gQ_ret ⟨rfl, rfl⟩)
  · rw [if_neg c, if_neg c]
    exact gQ_chk (gQ_ret ⟨rfl, rfl⟩)
theorem p_212 (hr : gR u 217 1 = 218) (hm : 0 ≤ m ∧ m < 6) : gQ (f_212 217 m T u) (fun r => r.2.1 = (if gand T (gxor (gI u 218 (76 + 2 * m.toNat + 1)) (-1)) = 0 then 1 else 0) ∧ r.2.2.2 = u) := by
  unfold f_212
  refine gQ_w1 (A := fun v_l z_l => v_l = gI u 218 (76 + 2 * m.toNat + 1) ∧ z_l = u) (m_159 hr hm) (fun v_l z_l hz => ?_)
  obtain ⟨z1, z2⟩ := hz
  rw [z1, z2]
  by_cases c : gand T (gxor (gI u 218 (76 + 2 * m.toNat + 1)) (-1)) = 0
  · rw [if_pos c, if_pos c]
    exact gQ_ret ⟨rfl, rfl⟩
  · rw [if_neg c, if_neg c]
    exact gQ_ret ⟨rfl, rfl⟩
/-- what a man knows, by the model -/
theorem mt_156 (e8 : E8 s u) (hr : gR u 217 1 = 218) (ha : 0 ≤ a1 ∧ a1 < 6) : gQ (f_156 217 a1 2 u) (fun r => r.2.1 = gI s 218 (42 + 6 * a1.toNat) ∧ r.2.2.2 = u) := fun r hr2 => by
  obtain ⟨q1_l, q2_l⟩ := m_156 (s := u) (x := a1) (j := 2) hr ha (by decide) r hr2
  refine ⟨q1_l.trans ?_, q2_l⟩
  rw [show 40 + 6 * a1.toNat + (2 : Int).toNat = 42 + 6 * a1.toNat by omega]
  exact e8 _
/-- slips -/
theorem co_113 (hJ : J p s) (h : Rt s) : gQ (f_113 0 a1 s) (Co st5 (f_237 217 a1) s) := by
  have hg : RF s := hJ.1.2.1
  have hv := (Jv hJ).2.1
  have hv5 := (Jv hJ).2.2.1
  have r4 : gR s 0 4 = 9 := (rr_0_4 hg).2
  have r5_l : gR s 0 5 = 15 := (rr_0_5 hg).2
  have r15 : gR s 15 0 = 16 := (rr_15_0 hg).2
  unfold f_113
  refine n_gt (by decide) (n_135 hg h) (fun c_l => ?_) (fun c_l => ?_)
  · intro r_l hr u_l p e8 hu hR
    have h8 : gR u_l 217 1 = 218 := (rr_217_1 hu.1.2.1).2
    have e8w : E8 s (gw u_l 217 0 0) := E8_t e8 m8
    have e5_l : gI (gw u_l 217 0 0) (gR (gw u_l 217 0 0) 217 1) 5 = gI s 218 5 := by
      rw [show gR (gw u_l 217 0 0) 217 1 = 218 from h8]
      exact e8w 5
    unfold f_237 f_162
    rw [h8, e8 4]
    refine m_n (by omega) (fun _ => ?_) (fun c2_l => absurd c_l c2_l)
    rw [if_neg (by decide)]
    unfold fb_237_14
    dsimp only
    refine gQ_lk (P := fun (q_l q' : gO) => gI q'.2.2.2 217 0 = st5 q_l.1 ∧ (q_l.1 = 1 → q'.2.1 = q_l.2.1)) (fun y_l z_l => y_l.1 = 0 ∧ y_l.2.1 = a1 ∧ y_l.2.2.2.2 = s ∧ (0 ≤ y_l.2.2.2.1 ∧ (0 ≤ y_l.2.2.1 ∧ y_l.2.2.1 < 64)) ∧ z_l = (217, a1, y_l.2.2.1, y_l.2.2.2.1, gw u_l 217 0 0)) (fun y_l z_l hy => ?_) ⟨rfl, rfl, rfl, by dsimp only; omega, rfl⟩ r_l hr
    obtain ⟨y0, y1, x2_l, x3, w_l⟩ := y_l
    obtain ⟨q0, q1_l, q2_l, q3_l, q4_l⟩ := hy
    dsimp only at q0 q1_l q2_l q3_l q4_l
    subst q0 q1_l q2_l q4_l
    show gQ (sb_113_9 0 y1 x2_l x3 w_l) _
    unfold sb_113_9
    rw [r4, r5_l, r15, (ce_n h).2.2.1, rr_16 hg (i := y1.toNat) (by omega), ce_m h (i := y1.toNat) (by omega)]
    by_cases c1 : x3 < gI w_l 218 5
    · rw [if_pos c1]
      refine gQ_chk (gQ_w1 (A := fun v_l z_l => v_l = (if gand (gI w_l 218 (42 + 6 * y1.toNat)) (gxor (gI w_l 218 (76 + 2 * x3.toNat + 1)) (-1)) = 0 then 1 else 0) ∧ z_l = w_l) (p_4 hJ h (by omega)) (fun v_l z_l hz => ?_))
      obtain ⟨z1, z2⟩ := hz
      rw [z1, z2]
      have eg : g32 (x3 + 1) = x3 + 1 := g32_eq (by omega) (by omega)
      have mm : gQ (sb_237_21 217 y1 x2_l x3 (gw u_l 217 0 0)) (fun a_l => a_l = Sum.inl (217, y1, (if gand (gI w_l 218 (42 + 6 * y1.toNat)) (gxor (gI w_l 218 (76 + 2 * x3.toNat + 1)) (-1)) = 0 then x2_l else gor x2_l (gshl 1 x3)), g32 (x3 + 1), gw u_l 217 0 0)) := by
        unfold sb_237_21
        rw [e5_l, if_pos c1, m0, if_pos rfl]
        refine gQ_w1 (A := fun v_l z_l => v_l = gI w_l 218 (42 + 6 * y1.toNat) ∧ z_l = gw u_l 217 0 0) (mt_156 e8w h8 (by omega)) (fun v_l z_l hz => ?_)
        obtain ⟨z1, z2⟩ := hz
        rw [z1, z2]
        refine gQ_w1 (A := fun v_l z_l => v_l = (if gand (gI w_l 218 (42 + 6 * y1.toNat)) (gxor (gI w_l 218 (76 + 2 * x3.toNat + 1)) (-1)) = 0 then 1 else 0) ∧ z_l = gw u_l 217 0 0) (fun r_l hr2 => ?_) (fun v_l z_l hz => ?_)
        · obtain ⟨q1_l, q2_l⟩ := p_212 (u := gw u_l 217 0 0) (m := x3) (T := gI w_l 218 (42 + 6 * y1.toNat)) h8 (by omega) r_l hr2
          refine ⟨q1_l.trans ?_, q2_l⟩
          rw [e8w]
        obtain ⟨z1, z2⟩ := hz
        rw [z1, z2]
        by_cases c3 : gand (gI w_l 218 (42 + 6 * y1.toNat)) (gxor (gI w_l 218 (76 + 2 * x3.toNat + 1)) (-1)) = 0
        · rw [if_pos c3, if_pos c3, if_neg (by decide), gor0 q3_l.2]
          exact gQ_ret rfl
        · rw [if_neg c3, if_neg c3, if_pos rfl]
          exact gQ_ret rfl
      have hb_l := gshl_5 (x := x3) (by omega)
      have hlt := gor_lt (x := x2_l) (y := gshl 1 x3) 6 (by decide) ⟨q3_l.2.1, q3_l.2.2⟩ ⟨by omega, by show gshl 1 x3 < 64; omega⟩
      have hlt2 : gor x2_l (gshl 1 x3) < 64 := hlt.2
      by_cases c3 : gand (gI w_l 218 (42 + 6 * y1.toNat)) (gxor (gI w_l 218 (76 + 2 * x3.toNat + 1)) (-1)) = 0
      · rw [if_pos c3, if_neg (by decide)]
        refine gQ_ret (fun a_l ha_l => ?_)
        rw [mm a_l ha_l, if_pos c3]
        refine ⟨rfl, rfl, rfl, ?_, rfl⟩
        dsimp only
        omega
      · rw [if_neg c3, if_pos rfl]
        refine gQ_ret (fun a_l ha_l => ?_)
        rw [mm a_l ha_l, if_neg c3]
        refine ⟨rfl, rfl, rfl, ?_, rfl⟩
        dsimp only
        omega
    · rw [if_neg c1]
      refine gQ_map (gQ_ret ?_)
      show gQ (sb_237_21 217 y1 x2_l x3 (gw u_l 217 0 0)) _
      unfold sb_237_21
      rw [e5_l, if_neg c1]
      exact gQ_map (gQ_ret ⟨m0, fun _ => rfl⟩)
  · intro u_l p e8 hu hR
    have h8 : gR u_l 217 1 = 218 := (rr_217_1 hu.1.2.1).2
    unfold f_237 f_162
    rw [h8, e8 4]
    refine m_n (by omega) (fun c2_l => absurd c2_l c_l) (fun _ => ?_)
    rw [if_pos rfl]
    unfold fb_237_14
    dsimp only
    refine gQ_loop (fun y_l => y_l.1 = 217 ∧ y_l.2.2.2.2 = gw u_l 217 0 1) (fun y_l hy => ?_) ⟨rfl, rfl⟩
    obtain ⟨y0, y1, x2_l, x3, w_l⟩ := y_l
    obtain ⟨q0, q1_l⟩ := hy
    dsimp only at q0 q1_l
    subst q0 q1_l
    show gQ (sb_237_21 217 y1 x2_l x3 (gw u_l 217 0 1)) _
    unfold sb_237_21
    rw [m0]
    rw [if_neg (show ¬ (1 : Int) = 0 by decide)]
    exact gQ_ite (gQ_map (gQ_ret ⟨m0, fun z_l => by cases z_l⟩)) (gQ_map (gQ_ret ⟨m0, fun z_l => by cases z_l⟩))
/-- a step of the model's search -/
theorem s_234 {fl x3 x4 : Int} (e8 : E8 s u) (hr : gR u 217 1 = 218) (hv5 : 0 ≤ gI s 218 5 ∧ gI s 218 5 ≤ 6) (hV : ∀ i, i < 6 → 0 ≤ gI s 218 (76 + 2 * i) ∧ gI s 218 (76 + 2 * i) ≤ 100) (ha : 0 ≤ a1 ∧ a1 < 6) (hx : 0 ≤ x4) (c : x4 < gshl 1 (gI s 218 5)) : gQ (sb_234_5 217 a1 fl x3 x4 u) (fun a => a = Sum.inl (217, a1, fl, (if stp (gI s 218) x4 (gI s 218 (42 + 6 * a1.toNat)) then (if x3 = -1 then x4 else if (if fl = 0 then csn (gI s 218) x4 (gI s 218 5).toNat < csn (gI s 218) x3 (gI s 218 5).toNat else pcs x4 31 < pcs x3 31) then x4 else x3) else x3), g32 (x4 + 1), u)) := by
  have eu : gI u 218 = gI s 218 := funext e8
  unfold sb_234_5 fb_234_77
  rw [hr, e8 5, if_pos c]
  refine gQ_w1 (A := fun v_l z_l => v_l = gI s 218 (42 + 6 * a1.toNat) ∧ z_l = u) (mt_156 e8 hr ha) (fun v_l z_l hz => ?_)
  obtain ⟨z1, z2⟩ := hz
  rw [z1, z2]
  have o : ∀ m_l, gQ (f_231 217 m_l u) (fun r_l => r_l.2.1 = orn (gI s 218) m_l (gI s 218 5).toNat ∧ r_l.2.2.2 = u) := fun m_l => by
    have h1 := p_231 (u := u) (m := m_l) hr (by rw [eu]; exact hv5)
    rw [eu] at h1
    exact h1
  have cs : ∀ m_l, gQ (f_232 217 m_l u) (fun r_l => r_l.2.1 = csn (gI s 218) m_l (gI s 218 5).toNat ∧ r_l.2.2.2 = u) := fun m_l => by
    have h1 := p_232 (u := u) (m := m_l) hr (by rw [eu]; exact hv5) (by rw [eu]; exact hV)
    rw [eu] at h1
    exact h1
  refine gQ_w1 (A := fun v_l z_l => v_l = orn (gI s 218) x4 (gI s 218 5).toNat ∧ z_l = u) (o x4) (fun v_l z_l hz => ?_)
  obtain ⟨z1, z2⟩ := hz
  rw [z1, z2]
  by_cases c1 : stp (gI s 218) x4 (gI s 218 (42 + 6 * a1.toNat))
  · rw [if_pos c1]
    have c1' := c1
    unfold stp at c1'
    rw [if_pos c1']
    by_cases c2 : x3 = -1
    · rw [if_pos c2, if_pos c2]
      exact gQ_ret rfl
    rw [if_neg c2, if_neg c2]
    by_cases c3 : fl = 0
    · rw [if_pos c3]
      refine gQ_w1 (A := fun v_l z_l => v_l = csn (gI s 218) x4 (gI s 218 5).toNat ∧ z_l = u) (cs x4) (fun v_l z_l hz => ?_)
      obtain ⟨z1, z2⟩ := hz
      rw [z1, z2]
      refine gQ_w1 (A := fun v_l z_l => v_l = csn (gI s 218) x3 (gI s 218 5).toNat ∧ z_l = u) (cs x3) (fun v_l z_l hz => ?_)
      obtain ⟨z1, z2⟩ := hz
      rw [z1, z2]
      simp only [if_pos c3]
      by_cases c4 : csn (gI s 218) x4 (gI s 218 5).toNat < csn (gI s 218) x3 (gI s 218 5).toNat
      · rw [if_pos c4, if_pos c4]
        exact gQ_ret rfl
      · rw [if_neg c4, if_neg c4]
        exact gQ_ret rfl
    · rw [if_neg c3]
      refine gQ_w1 (A := fun v_l z_l => v_l = pcs x4 31 ∧ z_l = u) p_154 (fun v_l z_l hz => ?_)
      obtain ⟨z1, z2⟩ := hz
      rw [z1, z2]
      refine gQ_w1 (A := fun v_l z_l => v_l = pcs x3 31 ∧ z_l = u) p_154 (fun v_l z_l hz => ?_)
      obtain ⟨z1, z2⟩ := hz
      rw [z1, z2]
      simp only [if_neg c3]
      by_cases c4 : pcs x4 31 < pcs x3 31
      · rw [if_pos c4, if_pos c4]
        exact gQ_ret rfl
      · rw [if_neg c4, if_neg c4]
        exact gQ_ret rfl
  · rw [if_neg c1]
    have c1' := c1
    unfold stp at c1'
    rw [if_neg c1']
    exact gQ_ret rfl
theorem stp_dec (V : Nat → Int) (m T : Int) : stp V m T ↔ gand T (gxor (orn V m (V 5).toNat) (-1)) = 0 := Iff.rfl
end Se
