/-! law: answers alike -/
noncomputable def E9 (s u : gS) : Prop := ∀ a k, 217 ≤ a → a < 231 → gI u a k = gI s a k
section L5
variable {s t u : gS} {p : gP}
theorem Tp_R (hJ : J p s) (h : Rt s) : Tp s (gI s 222) p.2.1.toNat := by
  have hl : gI s 1 1 = p.2.1 := hJ.2.2.1
  have hb_l := J_f hJ (kd := 10) (a := 1) (i := 1) t10 rfl (fun z_l => by cases z_l) (x := 0) (y := 400) rfl
  exact ⟨(hJ.1.2.1 1 0 (by decide) (by decide +kernel)).trans (by decide +kernel), by omega, by omega, fun j_l => h.2.1 j_l⟩
theorem c_90 (hJ : J p s) (h : Rt s) : gQ (f_90 0 s) (fun r => E9 s r.2.2.2 ∧ ((r.1 = 2 ∧ ∃ q, lwp (gI s 222) p.2.1.toNat = Sum.inl q) ∨ (r.1 = 1 ∧ ∃ y k, lwp (gI s 222) p.2.1.toNat = Sum.inr (y, k) ∧ r.2.1 = (k : Int)))) := by
  have hg : RF s := hJ.1.2.1
  have hn : 232 ≤ gn s := hJ.1.1
  unfold f_90
  rw [(rr_0_3 hg).2]
  refine gQ_wr (A := fun v_l u_l => Fw WR s u_l ∧ Dz s u_l ∧ ((v_l = 0 ∧ ∃ q : Nat, lwp (gI s 222) p.2.1.toNat = Sum.inl q) ∨ (v_l ≠ 0 ∧ gn s ≤ v_l ∧ ∃ y k, lwp (gI s 222) p.2.1.toNat = Sum.inr (y, k) ∧ gI u_l v_l 0 = (k : Int)))) (fun r hr => ?_) (fun v_l u_l hu => ?_)
  · obtain ⟨x1_l, x2_l⟩ := c_44 (Tp_R hJ h) ⟨(rr_7_0 hg).2, (rr_7_1 hg).2⟩ hn r hr
    refine ⟨o_44 hg uq rfl (Fw_rf hn) r hr, x1_l, ?_⟩
    rcases x2_l with ⟨y1, q, y2, -⟩ | ⟨y1, y2, y, k, y3, y4⟩
    · exact Or.inl ⟨y1, q, y2⟩
    · exact Or.inr ⟨y1, y2, y, k, y3, y4.1⟩
  obtain ⟨hF, hD, hv⟩ := hu
  have key_l : ∀ w0_l : Int, gQ (fb_90_24 0 v_l w0_l 0 u_l) (fun r => E9 s r.2.2.2 ∧ ((r.1 = 2 ∧ ∃ q, lwp (gI s 222) p.2.1.toNat = Sum.inl q) ∨ (r.1 = 1 ∧ ∃ y k, lwp (gI s 222) p.2.1.toNat = Sum.inr (y, k) ∧ r.2.1 = (k : Int)))) := fun w0_l => by
    unfold fb_90_24
    dsimp only
    have h2 : Fw WR s (gw u_l 0 16 w0_l) := Fw_w hF rfl rfl
    rw [fr_r h2 rfl (rr_0_0 hg)]
    have hn4 : 232 ≤ gn (gw (gw u_l 0 16 w0_l) 1 1 0) := Nat.le_trans hn hF.1.2.1
    have e4_l : ∀ a_l k, a_l ≠ 0 → a_l ≠ 1 → gI (gw (gw u_l 0 16 w0_l) 1 1 0) a_l k = gI u_l a_l k := fun a_l k c1_l c2_l => by
      show (if a_l = 1 ∧ k = 1 then _ else if a_l = 0 ∧ k = 16 then _ else gI u_l a_l k) = _
      rw [if_neg (by omega), if_neg (by omega)]
    have e9_l : E9 s u_l := fun a_l k c1_l c2_l => hD a_l k (by omega) (by omega) (by omega) (by omega)
    generalize gw (gw u_l 0 16 w0_l) 1 1 0 = s4 at *
    rcases hv with ⟨v0_l, hq⟩ | ⟨v1_l, v2, y, k, hq, hk⟩
    · rw [if_pos v0_l]
      exact gQ_ret ⟨fun a_l j_l c1_l c2_l => (gI_nw hn4 (by omega)).trans ((e4_l a_l j_l (by omega) (by omega)).trans (e9_l a_l j_l c1_l c2_l)), Or.inl ⟨rfl, hq⟩⟩
    · rw [if_neg v1_l]
      have e6_l : ∀ a_l j_l, a_l ≠ 0 → gI (gw (gwr s4 (gR s4 0 4) 11 v_l) 0 14 0) a_l j_l = gI s4 a_l j_l := fun a_l j_l c_l => by
        show (if a_l = 0 ∧ j_l = 14 then _ else gI s4 a_l j_l) = _
        rw [if_neg (by omega)]
      refine gQ_ite gQ_none (gQ_ret ⟨fun a_l j_l c1_l c2_l => ?_, Or.inr ⟨rfl, y, k, hq, ?_⟩⟩)
      · exact (e6_l a_l j_l (by omega)).trans ((e4_l a_l j_l (by omega) (by omega)).trans (e9_l a_l j_l c1_l c2_l))
      · exact (e6_l v_l 0 (by omega)).trans ((e4_l v_l 0 (by omega) (by omega)).trans hk)
  exact gQ_ite (key_l _) (key_l _)
/-- the model's half -/
theorem j195 {L : Nat → Int} {e : Nat} (hJ : J p u) (hL : gI u 222 = L) (he : gI u 217 8 = (e : Int)) : gQ (f_195 217 u) (fun q => gI q.2.2.2 231 0 = gI u 231 0 ∧ ((gI q.2.2.2 217 0 = 1 ∧ ∃ c, lwp L e = Sum.inl c) ∨ (gI q.2.2.2 217 0 = 0 ∧ ∃ y k, lwp L e = Sum.inr (y, k) ∧ q.2.1 = (k : Int)))) := by
  have hg : RF u := hJ.1.2.1
  have hb8 := J_f hJ (kd := 12) (a := 217) (i := 8) t217 rfl (fun z_l => by cases z_l) (x := 0) (y := 400) rfl
  have hB_l : ∀ k, 0 ≤ L k ∧ L k ≤ 255 := fun k => by
    rw [← hL]
    exact J_ra hJ (a := 222) (k := k) (by decide) (by rw [k0_sp.2.1]; decide) rfl
  unfold f_195
  refine gQ_v0 (A := fun z_l => Sm u z_l ∧ (gI z_l 217 12 = -1 ∧ gI z_l 217 9 = -1 ∧ gI z_l 217 10 = gI u 217 8 ∧ gI z_l 217 11 = 0 ∧ gI z_l 217 13 = 0) ∧ ∀ a_l k, ¬ (a_l = 217 ∧ 8 ≤ k) → gI z_l a_l k = gI u a_l k) (fun r_l hr => ?_) (fun s1_l h1 => ?_)
  · unfold f_183 at hr
    dsimp only at hr
    cases hr
    dsimp only
    refine ⟨⟨rfl, rfl, rfl⟩, ⟨?_, ?_, ?_, ?_, ?_⟩, fun a_l k hz => ?_⟩
    · simp only [rdw]
      rfl
    · simp only [rdw]
      rfl
    · simp only [rdw]
      rfl
    · simp only [rdw]
      rfl
    · simp only [rdw]
      rfl
    · simp only [rdw]
      rw [if_neg (by omega), if_neg (by omega), if_neg (by omega), if_neg (by omega), if_neg (by omega), if_neg (by omega)]
  obtain ⟨y1, ⟨y2, y3, y4, y5, y6⟩, y7⟩ := h1
  have hg1 : RF s1_l := RF_sm hg y1.2.2
  have hM_l : Mp s1_l L e := by
    refine ⟨⟨y4.trans he, by omega⟩, ⟨(rr_217_1 hg1).2, (rr_217_7 hg1).2⟩, fun k hk => ?_⟩
    unfold f_168
    rw [if_pos y3, (rr_217_7 hg1).2, Int.toNat_natCast]
    unfold gchk
    rw [if_pos (by omega), y7 222 k (by omega), hL]
  have hb_l := sk_b (L := L) (e := e) (a := 0) (Nat.zero_le e)
  have hk : Mk s1_l L e (sk L e 0) (fun i_l => if i_l < 7 then gI s1_l 223 i_l else if i_l = 7 then gI s1_l 217 15 else gI s1_l 217 16) := by
    refine ⟨⟨⟨hM_l, y2, 0, y5, Nat.zero_le e, rfl⟩, hb_l.2, by omega, hB_l⟩, (rr_217_14 hg1).2, fun i_l hi_l => ?_, rfl, rfl⟩
    dsimp only
    rw [if_pos hi_l]
  refine gQ_w1 (A := fun v_l z_l => Fl7 s1_l z_l ∧ ((∃ q : Nat, lwp L e = Sum.inl q ∧ gI z_l 217 12 = (q : Int)) ∨ (∃ y k, lwp L e = Sum.inr (y, k) ∧ gI z_l 217 12 = -1 ∧ v_l = (k : Int)))) (fun r_l hr => ?_) (fun v4_l s3_l h3 => ?_)
  · obtain ⟨x1_l, x2_l⟩ := j184 hk y6 r_l hr
    refine ⟨x1_l, ?_⟩
    rcases x2_l with hq | ⟨y, k, q1_l, q2_l, q3_l, -⟩
    · exact Or.inl hq
    · exact Or.inr ⟨y, k, q1_l, q2_l, q3_l⟩
  obtain ⟨hF3, hv⟩ := h3
  have b3 : gI s3_l 231 0 = gI u 231 0 := (hF3.2 231 0 (by omega)).trans (y7 231 0 (by omega))
  have r3 : gR s3_l 217 1 = 218 := (hF3.1.2.2 217 1).trans (rr_217_1 hg1).2
  unfold fb_195_24
  dsimp only
  rcases hv with ⟨q, q1_l, q2_l⟩ | ⟨y, k, q1_l, q2_l, q3_l⟩
  · rw [if_neg (by omega), m0, if_pos (by decide)]
    exact gQ_ret ⟨(rd_a rfl (by decide)).trans b3, Or.inl ⟨m0, q, q1_l⟩⟩
  · rw [if_pos q2_l, m0, if_neg (by decide)]
    have r5_l : gR (gw s3_l 217 0 0) 217 1 = 218 := r3
    have e5_l : gI (gw s3_l 217 0 0) 217 0 = 0 := m0
    have b5 : gI (gw s3_l 217 0 0) 231 0 = gI u 231 0 := (rd_a rfl (by decide)).trans b3
    generalize gw s3_l 217 0 0 = s5 at *
    have r6 : gR (gw s5 218 1 v4_l) 217 1 = 218 := r5_l
    rw [r5_l, r6]
    refine gQ_loop (fun y => y.1 = 217 ∧ y.2.1 = v4_l ∧ y.2.2.2.2.2.2 = s5.2.2.2 ∧ gI y.2.2.2 217 0 = 0 ∧ gI y.2.2.2 231 0 = gI u 231 0) (fun y hy => ?_) ⟨rfl, rfl, rfl, ?_, ?_⟩
    · obtain ⟨z0, z1, x2_l, t_l⟩ := y
      obtain ⟨p0_l, p1_l, p2_l, p3_l, p4_l⟩ := hy
      dsimp only at p0_l p1_l p2_l p3_l p4_l
      subst p0_l p1_l
      have rt : gR t_l 217 1 = 218 := by
        show t_l.2.2.2 217 1 = 218
        rw [p2_l]
        exact r5_l
      show gQ (sb_195_55 217 z1 x2_l t_l) _
      unfold sb_195_55
      dsimp only
      rw [rt]
      refine gQ_ite (gQ_chk (gQ_chk (gQ_ret ⟨rfl, rfl, p2_l, (rd_a rfl (by decide)).trans p3_l, (rd_a rfl (by decide)).trans p4_l⟩))) (gQ_map (gQ_ret ⟨(rd_a rfl (by decide)).trans p4_l, Or.inr ⟨(rd_k (a := 217) (k := 0) rfl (by decide)).trans p3_l, _, k, q1_l, q3_l⟩⟩))
    · exact (rd_a (a := 217) rfl (by decide)).trans ((rd_a (a := 217) rfl (by decide)).trans e5_l)
    · exact (rd_a (a := 231) rfl (by decide)).trans ((rd_a (a := 231) rfl (by decide)).trans b5)
theorem an_277 (hl : p.2.1 = p.2.2.1) (hJ : J p s) (h : Rt s) : gQ (f_277 0 231 s) (fun r => An2 (f_195 217) r.2.1 r.2.2.2) := by
  have hb8 := J_f hJ (kd := 12) (a := 217) (i := 8) t217 rfl (fun z_l => by cases z_l) (x := 0) (y := 400) rfl
  have hl8 : gI s 217 8 = p.2.2.1 := hJ.2.2.2.1
  suffices hh : gQ (f_277 0 231 s) (fun r => ∀ p', J p' r.2.2.2 → Rt r.2.2.2 → gQ (f_195 217 r.2.2.2) (Bm2 r.2.1)) from fun r hr => ⟨rs_277 hJ h r hr, fun p' hj => hh r hr p' hj (rs_277 hJ h r hr)⟩
  have fin_l : ∀ (u_l : gS) (p' : gP), E9 s u_l → J p' u_l → Rt u_l → ∀ v_l : Int, ((v_l = 1 ∧ ∃ q_l, lwp (gI s 222) p.2.1.toNat = Sum.inl q_l) ∨ (v_l = 0 ∧ ∃ y_l k_l, lwp (gI s 222) p.2.1.toNat = Sum.inr (y_l, k_l) ∧ gI u_l 231 0 = (k_l : Int))) → gQ (f_195 217 u_l) (Bm2 v_l) := fun u_l p' e9_l hj hR v_l hv q_l hq => by
    obtain ⟨hw, hx⟩ := j195 (L := gI s 222) (e := p.2.1.toNat) hj (funext fun k_l => e9_l 222 k_l (by decide) (by decide)) (by rw [e9_l 217 8 (by decide) (by decide), hl8, ← hl]; omega) q_l hq
    refine ⟨rs_195 hj hR q_l hq, ?_, fun z_l => ?_⟩
    · rcases hx with ⟨x1_l, c_l, x2_l⟩ | ⟨x1_l, y_l, k_l, x2_l, x3⟩
      · rcases hv with ⟨v1_l, -⟩ | ⟨-, y_l, k_l, z2, -⟩
        · rw [x1_l, v1_l]
        · rw [x2_l] at z2
          cases z2
      · rcases hv with ⟨-, c_l, z2⟩ | ⟨v0_l, -⟩
        · rw [x2_l] at z2
          cases z2
        · rw [x1_l, v0_l]
    · rcases hx with ⟨x1_l, c_l, x2_l⟩ | ⟨x1_l, y_l, k_l, x2_l, x3⟩
      · rcases hv with ⟨v1_l, -⟩ | ⟨-, y_l, k_l, z2, -⟩
        · omega
        · rw [x2_l] at z2
          cases z2
      · rcases hv with ⟨-, c_l, z2⟩ | ⟨v0_l, y', k', z2, z3⟩
        · rw [x2_l] at z2
          cases z2
        · rw [x2_l] at z2
          cases z2
          rw [hw, z3, x3]
  unfold f_277
  refine gQ_d1 (c_90 hJ h) (fun r hr c_l => ?_) (fun r hr c_l => ?_)
  · obtain ⟨e9_l, ⟨z_l, -⟩ | ⟨-, y_l, k_l, hq, hk⟩⟩ := hr
    · omega
    refine gQ_chk (gQ_ret (fun p' hj hR => ?_))
    refine fin_l _ p' (fun a_l j_l c1_l c2_l => (rd_a rfl (by omega)).trans (e9_l a_l j_l c1_l c2_l)) hj hR 0 (Or.inr ⟨rfl, y_l, k_l, hq, ?_⟩)
    exact (rd_same rfl).trans hk
  · obtain ⟨e9_l, ⟨z_l, q_l, hq⟩ | ⟨z_l, -⟩⟩ := hr
    · rw [if_pos (by omega)]
      exact gQ_ret (fun p' hj hR => fin_l _ p' e9_l hj hR 1 (Or.inl ⟨rfl, q_l, hq⟩))
    · omega
end L5
