/-! fewest, cheapest -/
section Le
variable {s u : gS} {p : gP} {m T a1 a2 : Int} {n : Nat}
theorem bc_pc {x : Int} (hx : 0 ≤ x ∧ x < 64) : bcn x = pcs x 31 := by
  have h1 := bcn_64 x.toNat (by omega)
  rw [show ((x.toNat : Nat) : Int) = x by omega] at h1
  exact h1
theorem co_111 (hJ : J p s) (h : Rt s) : gQ (f_111 0 a1 s) (Co st5 (f_235 217 a1) s) := by
  have hg : RF s := hJ.1.2.1
  have hv := (Jv hJ).2.1
  have hv5 := (Jv hJ).2.2.1
  have h64 := gshl_6 (x := gI s 218 5) hv5
  have r4 : gR s 0 4 = 9 := (rr_0_4 hg).2
  have r5_l : gR s 0 5 = 15 := (rr_0_5 hg).2
  have r15 : gR s 15 0 = 16 := (rr_15_0 hg).2
  unfold f_111
  refine n_gt (by decide) (n_135 hg h) (fun c_l => ?_) (fun c_l => ?_)
  · intro r_l hr u_l p e8 hu hR
    have h8 : gR u_l 217 1 = 218 := (rr_217_1 hu.1.2.1).2
    have e8w : E8 s (gw u_l 217 0 0) := E8_t e8 m8
    unfold f_235 f_162
    rw [h8, e8 4]
    refine m_n (by omega) (fun _ => ?_) (fun c2_l => absurd c_l c2_l)
    rw [if_neg (by decide)]
    unfold fb_235_14
    dsimp only
    rw [m0, if_neg (by decide)]
    refine gQ_w1 (A := fun v_l z_l => z_l = gw u_l 217 0 0 ∧ v_l = r_l.2.1 ∧ r_l.1 = 1) ?_ (fun v_l z_l hz => ?_)
    · unfold f_234
      refine fun q_l hq => gQ_lk (P := fun (q_l q' : gO) => q'.2.2.2 = gw u_l 217 0 0 ∧ q'.2.1 = q_l.2.1 ∧ q_l.1 = 1) (fun y_l z_l => y_l.1 = 0 ∧ y_l.2.1 = a1 ∧ y_l.2.2.2.2 = s ∧ ((0 ≤ y_l.2.2.2.1 ∧ y_l.2.2.2.1 ≤ 64) ∧ (y_l.2.2.1 = -1 ∨ (0 ≤ y_l.2.2.1 ∧ y_l.2.2.1 < 64))) ∧ z_l = (217, a1, 1, y_l.2.2.1, y_l.2.2.2.1, gw u_l 217 0 0)) (fun y_l z_l hy => ?_) ⟨rfl, rfl, rfl, by dsimp only; omega, rfl⟩ r_l hr q_l hq
      obtain ⟨y0, y1, x2_l, x3, w_l⟩ := y_l
      obtain ⟨q0, q1_l, q2_l, q3_l, q4_l⟩ := hy
      dsimp only at q0 q1_l q2_l q3_l q4_l
      subst q0 q1_l q2_l q4_l
      show gQ (sb_111_9 0 y1 x2_l x3 w_l) _
      unfold sb_111_9 fb_111_61
      rw [r4, r5_l, r15, (ce_n h).2.2.1, rr_16 hg (i := y1.toNat) (by omega), ce_m h (i := y1.toNat) (by omega)]
      by_cases c1 : x3 < gshl 1 (gI w_l 218 5)
      · rw [if_pos c1]
        have eg : g32 (x3 + 1) = x3 + 1 := g32_eq (by omega) (by omega)
        have mm := s_234 (fl := 1) (x3 := x2_l) (x4 := x3) (a1 := y1) e8w h8 hv5 (tV5 h) (by omega) q3_l.1.1 c1
        refine gQ_chk (gQ_w1 (A := fun v_l z_l => v_l = (if gand (gI w_l 218 (42 + 6 * y1.toNat)) (gxor (orn (gI w_l 218) x3 (gI w_l 218 5).toNat) (-1)) = 0 then 1 else 0) ∧ z_l = w_l) (p_5 hJ h (mT h (by omega))) (fun v_l z_l hz => ?_))
        obtain ⟨z1, z2⟩ := hz
        rw [z1, z2]
        by_cases c2_l : gand (gI w_l 218 (42 + 6 * y1.toNat)) (gxor (orn (gI w_l 218) x3 (gI w_l 218 5).toNat) (-1)) = 0
        · rw [if_pos c2_l, if_neg (by decide)]
          by_cases c3 : x2_l = -1
          · rw [if_pos c3]
            refine gQ_ret (fun a_l ha_l => ?_)
            rw [mm a_l ha_l, if_pos c2_l, if_pos c3]
            refine ⟨rfl, rfl, rfl, ?_, rfl⟩
            dsimp only
            omega
          · rw [if_neg c3]
            refine gQ_w1 (A := fun v_l z_l => v_l = bcn x3 ∧ z_l = w_l) p_264 (fun v_l z_l hz => ?_)
            obtain ⟨z1, z2⟩ := hz
            rw [z1, z2]
            refine gQ_w1 (A := fun v_l z_l => v_l = bcn x2_l ∧ z_l = w_l) p_264 (fun v_l z_l hz => ?_)
            obtain ⟨z1, z2⟩ := hz
            rw [z1, z2, bc_pc (by omega), bc_pc (by omega)]
            by_cases c4 : pcs x3 31 < pcs x2_l 31
            · rw [if_pos c4]
              refine gQ_ret (fun a_l ha_l => ?_)
              rw [mm a_l ha_l, if_pos c2_l, if_neg c3, if_pos (by rw [if_neg (by decide)]; exact c4)]
              refine ⟨rfl, rfl, rfl, ?_, rfl⟩
              dsimp only
              omega
            · rw [if_neg c4]
              refine gQ_ret (fun a_l ha_l => ?_)
              rw [mm a_l ha_l, if_pos c2_l, if_neg c3, if_neg (by rw [if_neg (by decide)]; exact c4)]
              refine ⟨rfl, rfl, rfl, ?_, rfl⟩
              dsimp only
              omega
        · rw [if_neg c2_l, if_pos rfl]
          refine gQ_ret (fun a_l ha_l => ?_)
          rw [mm a_l ha_l, if_neg c2_l]
          refine ⟨rfl, rfl, rfl, ?_, rfl⟩
          dsimp only
          omega
      · rw [if_neg c1]
        refine gQ_map (gQ_ret ?_)
        show gQ (sb_234_5 217 y1 1 x2_l x3 (gw u_l 217 0 0)) _
        unfold sb_234_5
        rw [show gR (gw u_l 217 0 0) 217 1 = 218 from h8, e8w 5, if_neg c1]
        exact gQ_map (gQ_ret ⟨rfl, rfl, rfl⟩)
    · obtain ⟨z1, z2, z3⟩ := hz
      refine gQ_ret ⟨?_, fun _ => z2⟩
      dsimp only
      rw [z1, m0, z3]
      rfl
  · intro u_l p e8 hu hR
    have h8 : gR u_l 217 1 = 218 := (rr_217_1 hu.1.2.1).2
    unfold f_235 f_162
    rw [h8, e8 4]
    refine m_n (by omega) (fun c2_l => absurd c2_l c_l) (fun _ => ?_)
    rw [if_pos rfl]
    unfold fb_235_14
    dsimp only
    rw [m0, if_pos (by decide)]
    exact gQ_ret ⟨m0, fun z_l => by cases z_l⟩
/-- cheapest -/
theorem co_112 (hJ : J p s) (h : Rt s) : gQ (f_112 0 a1 a2 s) (Co st5 (f_236 217 a1 a2) s) := by
  have hg : RF s := hJ.1.2.1
  have hv := (Jv hJ).2.1
  have hv5 := (Jv hJ).2.2.1
  have h64 := gshl_6 (x := gI s 218 5) hv5
  have r4 : gR s 0 4 = 9 := (rr_0_4 hg).2
  have r5_l : gR s 0 5 = 15 := (rr_0_5 hg).2
  have r15 : gR s 15 0 = 16 := (rr_15_0 hg).2
  unfold f_112
  refine n_gt (by decide) (n_135 hg h) (fun c_l => ?_) (fun c_l => ?_)
  · intro r_l hr u_l p e8 hu hR
    have h8 : gR u_l 217 1 = 218 := (rr_217_1 hu.1.2.1).2
    have e8w : E8 s (gw u_l 217 0 0) := E8_t e8 m8
    unfold f_236 f_162
    rw [h8, e8 4]
    refine m_n (by omega) (fun _ => ?_) (fun c2_l => absurd c_l c2_l)
    rw [if_neg (by decide)]
    unfold fb_236_14
    dsimp only
    rw [m0, if_neg (by decide)]
    refine gQ_w1 (A := fun v_l z_l => z_l = gw u_l 217 0 0 ∧ r_l.1 = 1 ∧ r_l.2.1 = (if a2 = 0 then v_l else if v_l = -1 then -1 else csn (gI s 218) v_l (gI s 218 5).toNat)) ?_ (fun v_l z_l hz => ?_)
    · unfold f_234
      refine fun q_l hq => gQ_lk (P := fun (q_l q' : gO) => q'.2.2.2 = gw u_l 217 0 0 ∧ q_l.1 = 1 ∧ q_l.2.1 = (if a2 = 0 then q'.2.1 else if q'.2.1 = -1 then -1 else csn (gI s 218) q'.2.1 (gI s 218 5).toNat)) (fun y_l z_l => y_l.1 = 0 ∧ y_l.2.1 = a1 ∧ y_l.2.2.1 = a2 ∧ y_l.2.2.2.2.2.2 = s ∧ ((0 ≤ y_l.2.2.2.2.2.1 ∧ y_l.2.2.2.2.2.1 ≤ 64) ∧ (y_l.2.2.2.1 = -1 ∨ (0 ≤ y_l.2.2.2.1 ∧ y_l.2.2.2.1 < 64))) ∧ y_l.2.2.2.2.1 = (if y_l.2.2.2.1 = -1 then -1 else csn (gI s 218) y_l.2.2.2.1 (gI s 218 5).toNat) ∧ z_l = (217, a1, 0, y_l.2.2.2.1, y_l.2.2.2.2.2.1, gw u_l 217 0 0)) (fun y_l z_l hy => ?_) ⟨rfl, rfl, rfl, rfl, by dsimp only; omega, rfl, rfl⟩ r_l hr q_l hq
      obtain ⟨y0, y1, y2, x3, x4_l, x5_l, w_l⟩ := y_l
      obtain ⟨q0, q1_l, q1b, q2_l, q3_l, q5_l, q4_l⟩ := hy
      dsimp only at q0 q1_l q1b q2_l q3_l q5_l q4_l
      subst q0 q1_l q1b q2_l q4_l
      show gQ (sb_112_13 0 y1 y2 x3 x4_l x5_l w_l) _
      unfold sb_112_13 fb_112_74
      rw [r4, r5_l, r15, (ce_n h).2.2.1, rr_16 hg (i := y1.toNat) (by omega), ce_m h (i := y1.toNat) (by omega)]
      by_cases c1 : x5_l < gshl 1 (gI w_l 218 5)
      · rw [if_pos c1]
        have eg : g32 (x5_l + 1) = x5_l + 1 := g32_eq (by omega) (by omega)
        have mm := s_234 (fl := 0) (x3 := x3) (x4 := x5_l) (a1 := y1) e8w h8 hv5 (tV5 h) (by omega) q3_l.1.1 c1
        refine gQ_chk (gQ_w1 (A := fun v_l z_l => v_l = (if gand (gI w_l 218 (42 + 6 * y1.toNat)) (gxor (orn (gI w_l 218) x5_l (gI w_l 218 5).toNat) (-1)) = 0 then 1 else 0) ∧ z_l = w_l) (p_5 hJ h (mT h (by omega))) (fun v_l z_l hz => ?_))
        obtain ⟨z1, z2⟩ := hz
        rw [z1, z2]
        by_cases c2_l : gand (gI w_l 218 (42 + 6 * y1.toNat)) (gxor (orn (gI w_l 218) x5_l (gI w_l 218 5).toNat) (-1)) = 0
        · rw [if_pos c2_l, if_neg (by decide), r4]
          refine gQ_w1 (A := fun v_l z_l => v_l = csn (gI w_l 218) x5_l (gI w_l 218 5).toNat ∧ z_l = w_l) (p_6 hJ h) (fun v_l z_l hz => ?_)
          obtain ⟨z1, z2⟩ := hz
          rw [z1, z2]
          have nx : (if x5_l = -1 then (-1 : Int) else csn (gI w_l 218) x5_l (gI w_l 218 5).toNat) = csn (gI w_l 218) x5_l (gI w_l 218 5).toNat := if_neg (by omega)
          by_cases c3 : x3 = -1
          · rw [if_pos c3]
            refine gQ_ret (fun a_l ha_l => ?_)
            rw [mm a_l ha_l, if_pos c2_l, if_pos c3]
            refine ⟨rfl, rfl, rfl, rfl, ?_, nx.symm, rfl⟩
            dsimp only
            omega
          · rw [if_neg c3]
            rw [if_neg c3] at q5_l
            rw [q5_l]
            by_cases c4 : csn (gI w_l 218) x5_l (gI w_l 218 5).toNat < csn (gI w_l 218) x3 (gI w_l 218 5).toNat
            · rw [if_pos c4]
              refine gQ_ret (fun a_l ha_l => ?_)
              rw [mm a_l ha_l, if_pos c2_l, if_neg c3, if_pos (by rw [if_pos rfl]; exact c4)]
              refine ⟨rfl, rfl, rfl, rfl, ?_, nx.symm, rfl⟩
              dsimp only
              omega
            · rw [if_neg c4]
              refine gQ_ret (fun a_l ha_l => ?_)
              rw [mm a_l ha_l, if_pos c2_l, if_neg c3, if_neg (by rw [if_pos rfl]; exact c4)]
              refine ⟨rfl, rfl, rfl, rfl, ?_, (if_neg c3).symm, rfl⟩
              dsimp only
              omega
        · rw [if_neg c2_l, if_pos rfl]
          refine gQ_ret (fun a_l ha_l => ?_)
          rw [mm a_l ha_l, if_neg c2_l]
          refine ⟨rfl, rfl, rfl, rfl, ?_, q5_l, rfl⟩
          dsimp only
          omega
      · rw [if_neg c1]
        refine gQ_map ?_
        have mm : gQ (sb_234_5 217 y1 0 x3 x5_l (gw u_l 217 0 0)) (fun a_l => a_l = Sum.inr (1, x3, 0, gw u_l 217 0 0)) := by
          unfold sb_234_5
          rw [show gR (gw u_l 217 0 0) 217 1 = 218 from h8, e8w 5, if_neg c1]
          exact gQ_map (gQ_ret rfl)
        by_cases c2_l : y2 = 0
        · rw [if_pos c2_l]
          refine gQ_ret (fun a_l ha_l => ?_)
          rw [mm a_l ha_l]
          refine ⟨rfl, rfl, ?_⟩
          dsimp only
          rw [if_pos c2_l]
        · rw [if_neg c2_l]
          refine gQ_ret (fun a_l ha_l => ?_)
          rw [mm a_l ha_l]
          refine ⟨rfl, rfl, ?_⟩
          dsimp only
          rw [if_neg c2_l]
          exact q5_l
    · obtain ⟨z1, z2, z3⟩ := hz
      rw [z1]
      have eu : gI (gw u_l 217 0 0) 218 = gI s 218 := funext e8w
      unfold fb_236_50
      by_cases c2_l : a2 = 0
      · rw [if_pos c2_l] at z3 ⊢
        refine gQ_ret ⟨?_, fun _ => z3.symm⟩
        dsimp only
        rw [m0, z2]
        rfl
      · rw [if_neg c2_l] at z3 ⊢
        by_cases c3 : v_l = -1
        · rw [if_pos c3] at z3 ⊢
          refine gQ_ret ⟨?_, fun _ => ?_⟩
          · dsimp only
            rw [m0, z2]
            rfl
          · dsimp only
            rw [z3, c3]
        · rw [if_neg c3] at z3 ⊢
          have h1 := p_232 (u := gw u_l 217 0 0) (m := v_l) h8 (by rw [eu]; exact hv5) (by rw [eu]; exact tV5 h)
          rw [eu] at h1
          refine gQ_w1 (A := fun x_l z_l => x_l = csn (gI s 218) v_l (gI s 218 5).toNat ∧ z_l = gw u_l 217 0 0) h1 (fun x_l z_l hz => ?_)
          obtain ⟨y1, y2⟩ := hz
          rw [y2]
          refine gQ_ret ⟨?_, fun _ => y1.trans z3.symm⟩
          dsimp only
          rw [m0, z2]
          rfl
  · intro u_l p e8 hu hR
    have h8 : gR u_l 217 1 = 218 := (rr_217_1 hu.1.2.1).2
    unfold f_236 f_162
    rw [h8, e8 4]
    refine m_n (by omega) (fun c2_l => absurd c2_l c_l) (fun _ => ?_)
    rw [if_pos rfl]
    unfold fb_236_14
    dsimp only
    rw [m0, if_pos (by decide)]
    exact gQ_ret ⟨m0, fun z_l => by cases z_l⟩
end Le
