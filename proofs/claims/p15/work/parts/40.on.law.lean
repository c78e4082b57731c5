/-! a law read keeps the full relation -/
section Lw
variable {s t u v : gS} {p : gP} {k e : Nat} {y : LX} {L : Nat → Int}
/-- the class's half of a law that was read -/
noncomputable def Lhf (s t : gS) (y : LX) (k : Nat) : Prop := (gn s ≤ gn t ∧ ∀ a, a < gn s → gK t a = gK s a) ∧ (∀ a j, a < gn s → ¬ (a = 9 ∧ j = 11) → gR t a j = gR s a j) ∧ (∀ a j, a < gn s → csa a = false → ¬ (a = 0 ∧ (j = 14 ∨ j = 16)) → a ≠ 231 → gI t a j = gI s a j) ∧ gI t 0 14 = 0 ∧ gn s ≤ gR t 9 11 ∧ (232 ≤ gR t (gR t 9 11) 1 → Lob t (gR t 9 11) y.1 k)
theorem c_90x (hJ : J p s) (h : Rt s) : gQ (f_90 0 s) (fun r => (r.1 = 2 ∧ (∃ q, lwp (gI s 222) p.2.1.toNat = Sum.inl q) ∧ Fw WX s r.2.2.2 ∧ ∀ a j, 217 ≤ a → a < 231 → gI r.2.2.2 a j = gI s a j) ∨ (r.1 = 1 ∧ ∃ y k, lwp (gI s 222) p.2.1.toNat = Sum.inr (y, k) ∧ r.2.1 = (k : Int) ∧ Lhf s r.2.2.2 y k)) := by
  have hg : RF s := hJ.1.2.1
  have hn : 232 ≤ gn s := hJ.1.1
  unfold f_90
  rw [(rr_0_3 hg).2]
  refine gQ_wr (A := fun v_l u_l => Fw csq s u_l ∧ ((v_l = 0 ∧ ∃ q : Nat, lwp (gI s 222) p.2.1.toNat = Sum.inl q) ∨ (v_l ≠ 0 ∧ gn s ≤ v_l ∧ ∃ y k, lwp (gI s 222) p.2.1.toNat = Sum.inr (y, k) ∧ Lob u_l v_l y.1 k))) (fun r hr => ?_) (fun v_l u_l hu => ?_)
  · obtain ⟨x1_l, x2_l⟩ := c_44 (Tp_R hJ h) ⟨(rr_7_0 hg).2, (rr_7_1 hg).2⟩ hn r hr
    refine ⟨o_44 hg cid rfl (Fw_rf hn) r hr, ?_⟩
    rcases x2_l with ⟨y1, q, y2, -⟩ | ⟨y1, y2, y, k, y3, y4⟩
    · exact Or.inl ⟨y1, q, y2⟩
    · exact Or.inr ⟨y1, y2, y, k, y3, y4⟩
  obtain ⟨hF, hv⟩ := hu
  have key_l : ∀ w0_l : Int, gQ (fb_90_24 0 v_l w0_l 0 u_l) (fun r => (r.1 = 2 ∧ (∃ q, lwp (gI s 222) p.2.1.toNat = Sum.inl q) ∧ Fw WX s r.2.2.2 ∧ ∀ a j, 217 ≤ a → a < 231 → gI r.2.2.2 a j = gI s a j) ∨ (r.1 = 1 ∧ ∃ y k, lwp (gI s 222) p.2.1.toNat = Sum.inr (y, k) ∧ r.2.1 = (k : Int) ∧ Lhf s r.2.2.2 y k)) := fun w0_l => by
    unfold fb_90_24
    dsimp only
    have r0 : gR (gw u_l 0 16 w0_l) 0 0 = 1 := show gR u_l 0 0 = 1 from fr_r hF rfl (rr_0_0 hg)
    rw [r0]
    have hX : Fw WX s u_l := Fw_tr (Fw_rf hn) hF uqX
    have e4_l : ∀ a j, ¬ (a = 0 ∧ j = 16) → ¬ (a = 1 ∧ j = 1) → gI (gw (gw u_l 0 16 w0_l) 1 1 0) a j = gI u_l a j := fun a j c1_l c2_l => by
      show (if a = 1 ∧ j = 1 then _ else if a = 0 ∧ j = 16 then _ else gI u_l a j) = _
      rw [if_neg c2_l, if_neg c1_l]
    have hX4 : Fw WX s (gw (gw u_l 0 16 w0_l) 1 1 0) := Fw_wv (Fw_wv hX rfl) rfl
    have hS4 : Sm u_l (gw (gw u_l 0 16 w0_l) 1 1 0) := ⟨rfl, rfl, rfl⟩
    rcases hv with ⟨v0_l, hq⟩ | ⟨v1_l, v2, y, k, hq, hL⟩
    · rw [if_pos v0_l]
      exact gQ_ret (Or.inl ⟨rfl, hq, Fw_n hX4, fun a j c1_l c2_l => (gI_nw (Nat.le_trans hn hX4.1.2.1) (by omega)).trans ((e4_l a j (by omega) (by omega)).trans (hF.2.2 a j (by omega) (csa_n (by omega))))⟩)
    · rw [if_neg v1_l]
      generalize gw (gw u_l 0 16 w0_l) 1 1 0 = s4 at *
      have r4 : gR s4 0 4 = 9 := by
        show s4.2.2.2 0 4 = 9
        rw [hS4.2.2]
        exact fr_r hF rfl (rr_0_4 hg)
      have rR : ∀ a j, gR s4 a j = gR u_l a j := fun a j => by
        show s4.2.2.2 a j = u_l.2.2.2 a j
        rw [hS4.2.2]
      have kR : ∀ a, gK s4 a = gK u_l a := fun a => by
        show s4.2.1 a = u_l.2.1 a
        rw [hS4.2.1]
      rw [r4]
      have e6_l : ∀ a j, ¬ (a = 0 ∧ j = 14) → gI (gw (gwr s4 9 11 v_l) 0 14 0) a j = gI s4 a j := fun a j c_l => by
        show (if a = 0 ∧ j = 14 then _ else gI s4 a j) = _
        rw [if_neg c_l]
      have er : ∀ a j, gR (gw (gwr s4 9 11 v_l) 0 14 0) a j = if a = 9 ∧ j = 11 then v_l else gR s4 a j := fun a j => rfl
      have ek : ∀ a, gK (gw (gwr s4 9 11 v_l) 0 14 0) a = gK s4 a := fun a => rfl
      have eN_l : gn (gw (gwr s4 9 11 v_l) 0 14 0) = gn u_l := hS4.1
      have e14_l : gI (gw (gwr s4 9 11 v_l) 0 14 0) 0 14 = 0 := rd_same rfl
      have e7_l : ∀ a j, a ≠ 0 → a ≠ 1 → gI (gw (gwr s4 9 11 v_l) 0 14 0) a j = gI u_l a j := fun a j c1_l c2_l => (e6_l a j (by omega)).trans (e4_l a j (by omega) (by omega))
      refine gQ_ite gQ_none (gQ_ret (Or.inr ⟨rfl, y, k, hq, ?_, ⟨by rw [eN_l]; exact hF.1.2.1, fun a ha_l => (ek a).trans ((kR a).trans (hF.1.2.2 a ha_l))⟩, fun a j ha_l hz => ?_, fun a j ha_l hc_l hz _ => ?_, e14_l, ?_⟩))
      · exact (e7_l v_l 0 (by omega) (by omega)).trans hL.1
      · rw [er, if_neg hz, rR]
        exact hF.2.1 a j ha_l
      · have ha1 : a ≠ 1 := fun z_l => by
          rw [z_l] at hc_l
          cases hc_l
        exact (e6_l a j (by omega)).trans ((e4_l a j (by omega) (by omega)).trans (hF.2.2 a j ha_l hc_l))
      · have e9_l : gR (gw (gwr s4 9 11 v_l) 0 14 0) 9 11 = v_l := by
          rw [er, if_pos ⟨rfl, rfl⟩]
        rw [e9_l]
        obtain ⟨l1, l2, l3, l4⟩ := hL
        have rv1 : gR (gw (gwr s4 9 11 v_l) 0 14 0) v_l 1 = gR u_l v_l 1 := by
          rw [er, if_neg (by omega), rR]
        refine ⟨v2, fun h32 => ?_⟩
        rw [rv1] at h32
        refine ⟨(e7_l v_l 0 (by omega) (by omega)).trans l1, ?_, ?_, by rw [rv1]; exact l4⟩
        · rw [rv1]
          exact Eq.trans (List.map_congr_left (fun j _ => e7_l _ _ (by omega) (by omega))) l2
        · rw [rv1, ek, kR]
          exact l3
  exact gQ_ite (key_l _) (key_l _)
/-- the model's half -/
theorem j195x (hJ : J p u) (hL : gI u 222 = L) (he : gI u 217 8 = (e : Int)) : gQ (f_195 217 u) (fun q => Sm u q.2.2.2 ∧ ((gI q.2.2.2 217 0 = 1 ∧ (∃ c, lwp L e = Sum.inl c) ∧ Fw WX u q.2.2.2) ∨ (gI q.2.2.2 217 0 = 0 ∧ ∃ y k, lwp L e = Sum.inr (y, k) ∧ q.2.1 = (k : Int) ∧ (gI q.2.2.2 218 1 = (k : Int) ∧ gI q.2.2.2 218 2 = (e : Int) ∧ e ≤ 400 ∧ (∀ j, j < e → gI q.2.2.2 218 (340 + j) = L j) ∧ ∀ j, 0 ≤ L j ∧ L j ≤ 255) ∧ gI q.2.2.2 217 6 = 0 ∧ ∀ a j, ¬ (a = 217 ∧ j ≠ 3) → ¬ (a = 218 ∧ (j = 1 ∨ j = 2 ∨ 340 ≤ j)) → gI q.2.2.2 a j = gI u a j))) := by
  have hg : RF u := hJ.1.2.1
  have hn := hJ.1.1
  have hb8 := J_f hJ (kd := 12) (a := 217) (i := 8) t217 rfl (fun z_l => by cases z_l) (x := 0) (y := 400) rfl
  have hB_l : ∀ k, 0 ≤ L k ∧ L k ≤ 255 := fun k => by
    rw [← hL]
    exact J_ra hJ (a := 222) (k := k) (by decide) (by rw [k0_sp.2.1]; decide) rfl
  unfold f_195
  refine gQ_v0 (A := fun z_l => Sm u z_l ∧ (gI z_l 217 12 = -1 ∧ gI z_l 217 9 = -1 ∧ gI z_l 217 10 = gI u 217 8 ∧ gI z_l 217 11 = 0 ∧ gI z_l 217 13 = 0) ∧ ∀ a k, ¬ (a = 217 ∧ 8 ≤ k) → gI z_l a k = gI u a k) (fun r_l hr => ?_) (fun s1_l h1 => ?_)
  · unfold f_183 at hr
    dsimp only at hr
    cases hr
    dsimp only
    refine ⟨⟨rfl, rfl, rfl⟩, ⟨?_, ?_, ?_, ?_, ?_⟩, fun a k hz => ?_⟩
    · simp only [rdw]
      rfl
    · simp only [rdw]
      rfl
    · simp only [rdw]
      rfl
    · simp only [rdw]
      rfl
    · simp only [rdw]
      rfl
    · simp only [rdw]
      rw [if_neg (by omega), if_neg (by omega), if_neg (by omega), if_neg (by omega), if_neg (by omega), if_neg (by omega)]
  obtain ⟨y1, ⟨y2, y3, y4, y5, y6⟩, y7⟩ := h1
  have hg1 : RF s1_l := RF_sm hg y1.2.2
  have hM_l : Mp s1_l L e := by
    refine ⟨⟨y4.trans he, by omega⟩, ⟨(rr_217_1 hg1).2, (rr_217_7 hg1).2⟩, fun k hk => ?_⟩
    unfold f_168
    rw [if_pos y3, (rr_217_7 hg1).2, Int.toNat_natCast]
    unfold gchk
    rw [if_pos (by omega), y7 222 k (by omega), hL]
  have hb_l := sk_b (L := L) (e := e) (a := 0) (Nat.zero_le e)
  have hk : Mk s1_l L e (sk L e 0) (fun i_l => if i_l < 7 then gI s1_l 223 i_l else if i_l = 7 then gI s1_l 217 15 else gI s1_l 217 16) := by
    refine ⟨⟨⟨hM_l, y2, 0, y5, Nat.zero_le e, rfl⟩, hb_l.2, by omega, hB_l⟩, (rr_217_14 hg1).2, fun i_l hi_l => ?_, rfl, rfl⟩
    dsimp only
    rw [if_pos hi_l]
  refine gQ_w1 (A := fun v_l z_l => Fl7 s1_l z_l ∧ ((∃ q : Nat, lwp L e = Sum.inl q ∧ gI z_l 217 12 = (q : Int)) ∨ (∃ y k, lwp L e = Sum.inr (y, k) ∧ gI z_l 217 12 = -1 ∧ v_l = (k : Int)))) (fun r_l hr => ?_) (fun v4_l s3_l h3 => ?_)
  · obtain ⟨x1_l, x2_l⟩ := j184 hk y6 r_l hr
    refine ⟨x1_l, ?_⟩
    rcases x2_l with hq | ⟨y, k, q1_l, q2_l, q3_l, -⟩
    · exact Or.inl hq
    · exact Or.inr ⟨y, k, q1_l, q2_l, q3_l⟩
  obtain ⟨hF3, hv⟩ := h3
  have r3 : gR s3_l 217 1 = 218 := (hF3.1.2.2 217 1).trans (rr_217_1 hg1).2
  have r7 : gR s3_l 217 7 = 222 := (hF3.1.2.2 217 7).trans (rr_217_7 hg1).2
  have f3_l : ∀ a j, ¬ (a = 217 ∧ 8 ≤ j) → gI s3_l a j = gI u a j := fun a j c => (hF3.2 a j (by omega)).trans (y7 a j c)
  have e10_l : gI s3_l 217 10 = (e : Int) := (hF3.2 217 10 (by omega)).trans (y4.trans he)
  have hS3 : Sm u s3_l := ⟨hF3.1.1.trans y1.1, (funext hF3.1.2.1).trans y1.2.1, (funext fun a => funext fun k => hF3.1.2.2 a k).trans y1.2.2⟩
  unfold fb_195_24
  dsimp only
  rcases hv with ⟨q, q1_l, q2_l⟩ | ⟨y, k, q1_l, q2_l, q3_l⟩
  · rw [if_neg (by omega), m0, if_pos (by decide)]
    refine gQ_ret ⟨hS3, Or.inl ⟨m0, ⟨q, q1_l⟩, ?_⟩⟩
    refine Fw_sm (Fw_rf hn) hS3 (fun a j _ hf => ?_)
    by_cases c : a = 217 ∧ (j = 0 ∨ 8 ≤ j)
    · have : WX a j = true := umX a j (by
        unfold mss
        simp only [Bool.or_eq_true, Bool.and_eq_true, Nat.ble_eq, es_beq, Bool.not_eq_true', Bool.or_eq_false_iff, es_beqf]
        omega)
      rw [this] at hf
      cases hf
    · exact (show (if a = 217 ∧ j = 0 then _ else gI s3_l a j) = _ by rw [if_neg (by omega)]; exact f3_l a j (by omega))
  · rw [if_pos q2_l, m0, if_neg (by decide)]
    have r5_l : gR (gw s3_l 217 0 0) 217 1 = 218 := r3
    have r57 : gR (gw s3_l 217 0 0) 217 7 = 222 := r7
    have e5_l : gI (gw s3_l 217 0 0) 217 0 = 0 := m0
    have e51 : gI (gw s3_l 217 0 0) 217 10 = (e : Int) := (rd_k rfl (by decide)).trans e10_l
    have f5_l : ∀ a j, ¬ (a = 217 ∧ (j = 0 ∨ 8 ≤ j)) → gI (gw s3_l 217 0 0) a j = gI u a j := fun a j c => by
      show (if a = 217 ∧ j = 0 then _ else gI s3_l a j) = _
      rw [if_neg (by omega)]
      exact f3_l a j (by omega)
    have hS5 : Sm u (gw s3_l 217 0 0) := hS3
    generalize gw s3_l 217 0 0 = s5 at *
    have r6 : gR (gw s5 218 1 v4_l) 217 1 = 218 := r5_l
    have e61 : gI (gw s5 218 1 v4_l) 217 10 = (e : Int) := (rd_a rfl (by decide)).trans e51
    rw [r5_l, r6, e61]
    refine gQ_loop (fun y => (y.1 = 217 ∧ y.2.1 = v4_l) ∧ (0 ≤ y.2.2.1 ∧ y.2.2.1 ≤ (e : Int)) ∧ Sm u y.2.2.2 ∧ gI y.2.2.2 217 0 = 0 ∧ gI y.2.2.2 217 10 = (e : Int) ∧ (gI y.2.2.2 218 1 = v4_l ∧ gI y.2.2.2 218 2 = (e : Int) ∧ ∀ j : Nat, (j : Int) < y.2.2.1 → gI y.2.2.2 218 (340 + j) = L j) ∧ ∀ a j, ¬ (a = 217 ∧ (j = 0 ∨ 8 ≤ j)) → ¬ (a = 218 ∧ (j = 1 ∨ j = 2 ∨ 340 ≤ j)) → gI y.2.2.2 a j = gI u a j) (fun y hy => ?_) ⟨⟨rfl, rfl⟩, ⟨Int.le_refl 0, by dsimp only; omega⟩, hS5, ?_, ?_, ⟨?_, ?_, fun j hj => by dsimp only at hj; omega⟩, fun a j c1_l c2_l => ?_⟩
    · obtain ⟨z0, z1, x2_l, t_l⟩ := y
      obtain ⟨⟨p0_l, p1_l⟩, pb, ps_l, p3_l, p4_l, ⟨p5_l, p6_l, p7_l⟩, p8_l⟩ := hy
      dsimp only at p0_l p1_l pb ps_l p3_l p4_l p5_l p6_l p7_l p8_l
      subst p0_l p1_l
      have rt : gR t_l 217 1 = 218 := by
        show t_l.2.2.2 217 1 = 218
        rw [ps_l.2.2]
        exact (rr_217_1 hg).2
      have rt7 : gR t_l 217 7 = 222 := by
        show t_l.2.2.2 217 7 = 222
        rw [ps_l.2.2]
        exact (rr_217_7 hg).2
      show gQ (sb_195_55 217 z1 x2_l t_l) _
      unfold sb_195_55
      dsimp only
      rw [rt, rt7, p4_l]
      by_cases c : x2_l < (e : Int)
      · rw [if_pos c, g32_eq (v := 340 + x2_l) (by omega) (by omega), g32_eq (v := x2_l + 1) (by omega) (by omega), show (340 + x2_l).toNat = 340 + x2_l.toNat by omega]
        have e22_l : gI t_l 222 x2_l.toNat = L x2_l.toNat := by
          rw [p8_l 222 _ (by omega) (by omega), hL]
        rw [e22_l]
        refine gQ_chk (gQ_chk (gQ_ret ⟨⟨rfl, rfl⟩, by dsimp only; omega, ps_l, (rd_a rfl (by decide)).trans p3_l, (rd_a rfl (by decide)).trans p4_l, ⟨(rd_k rfl (by omega)).trans p5_l, (rd_k rfl (by omega)).trans p6_l, fun j hj => ?_⟩, fun a j c1_l c2_l => ?_⟩))
        · dsimp only at hj ⊢
          show (if 218 = 218 ∧ 340 + j = 340 + x2_l.toNat then L x2_l.toNat else gI t_l 218 (340 + j)) = _
          by_cases cj : j = x2_l.toNat
          · rw [if_pos ⟨rfl, by omega⟩, cj]
          · rw [if_neg (by omega)]
            exact p7_l j (by omega)
        · dsimp only
          show (if a = 218 ∧ j = 340 + x2_l.toNat then _ else gI t_l a j) = _
          rw [if_neg (by omega)]
          exact p8_l a j c1_l c2_l
      · rw [if_neg c]
        refine gQ_map (gQ_ret ⟨ps_l, Or.inr ⟨(rd_k rfl (by decide)).trans p3_l, _, k, q1_l, q3_l, ⟨?_, ?_, by omega, fun j hj => ?_, hB_l⟩, rd_same rfl, fun a j c1_l c2_l => ?_⟩⟩)
        · dsimp only
          rw [rd_a rfl (by decide), p5_l, q3_l]
        · dsimp only
          rw [rd_a rfl (by decide), p6_l]
        · dsimp only
          rw [rd_a rfl (by decide)]
          exact p7_l j (by omega)
        · dsimp only
          show (if a = 217 ∧ j = 6 then _ else gI t_l a j) = _
          rw [if_neg (by omega)]
          exact p8_l a j (by omega) c2_l
    · exact (rd_a (a := 217) rfl (by decide)).trans ((rd_a (a := 217) rfl (by decide)).trans e5_l)
    · exact (rd_a (a := 217) rfl (by decide)).trans e61
    · exact (rd_k rfl (by decide)).trans (rd_same rfl)
    · exact rd_same rfl
    · dsimp only
      show (if a = 218 ∧ j = 2 then _ else if a = 218 ∧ j = 1 then _ else gI s5 a j) = _
      rw [if_neg (by omega), if_neg (by omega)]
      exact f5_l a j c1_l
theorem ax_277 (hl : p.2.1 = p.2.2.1) (hJ : J p s) (h : Rt s) (hX : Rx s) : gQ (f_277 0 231 s) (fun r => ∀ p', J p' r.2.2.2 → gQ (f_195 217 r.2.2.2) (fun q => Rx q.2.2.2)) := by
  have hn := hJ.1.1
  have hb8 := J_f hJ (kd := 12) (a := 217) (i := 8) t217 rfl (fun z_l => by cases z_l) (x := 0) (y := 400) rfl
  have hl8 : gI s 217 8 = p.2.2.1 := hJ.2.2.2.1
  unfold f_277
  refine gQ_d1 (c_90x hJ h) (fun r hr c_l => ?_) (fun r hr c_l => ?_)
  · rcases hr with ⟨z_l, -⟩ | ⟨-, y_l, k_l, hq, hk, hL⟩
    · omega
    refine gQ_chk (gQ_ret (fun p' hj => ?_))
    dsimp only at hj ⊢
    obtain ⟨l1, l2, l3, l4, l5, l6⟩ := hL
    have e9_l : ∀ a_l j_l, a_l ≠ 231 → gI (gw r.2.2.2 231 (0 : Int).toNat r.2.1) a_l j_l = gI r.2.2.2 a_l j_l := fun a_l j_l c_l => rd_a rfl c_l
    have e8 : ∀ a_l j_l, a_l < gn s → csa a_l = false → ¬ (a_l = 0 ∧ (j_l = 14 ∨ j_l = 16)) → a_l ≠ 231 → gI (gw r.2.2.2 231 (0 : Int).toNat r.2.1) a_l j_l = gI s a_l j_l := fun a_l j_l c1_l c2_l c3_l c4_l => (e9_l a_l j_l c4_l).trans (l3 a_l j_l c1_l c2_l c3_l c4_l)
    have eR : ∀ a_l j_l, gR (gw r.2.2.2 231 (0 : Int).toNat r.2.1) a_l j_l = gR r.2.2.2 a_l j_l := fun a_l j_l => rfl
    have eK : ∀ a_l, gK (gw r.2.2.2 231 (0 : Int).toNat r.2.1) a_l = gK r.2.2.2 a_l := fun a_l => rfl
    have e14_l : gI (gw r.2.2.2 231 (0 : Int).toNat r.2.1) 0 14 = 0 := (e9_l 0 14 (by decide)).trans l4
    generalize gw r.2.2.2 231 (0 : Int).toNat r.2.1 = v at *
    intro q hq2
    obtain ⟨x1_l, x2_l⟩ := j195x (L := gI s 222) (e := p.2.1.toNat) hj (funext fun k_l => e8 222 k_l (by omega) rfl (by omega) (by decide)) (by rw [e8 217 8 (by omega) rfl (by omega) (by decide), hl8, ← hl]; omega) q hq2
    rcases x2_l with ⟨-, ⟨c_l, z2⟩, -⟩ | ⟨-, y', k', z2, z3, ⟨z4, z5, z6, z7, z8⟩, z9, z10⟩
    · rw [hq] at z2
      cases z2
    have zz := z2
    rw [hq] at z2
    cases z2
    have rq : ∀ a_l j_l, gR q.2.2.2 a_l j_l = gR v a_l j_l := fun a_l j_l => by
      show q.2.2.2.2.2.2 a_l j_l = v.2.2.2 a_l j_l
      rw [x1_l.2.2]
    have kq : ∀ a_l, gK q.2.2.2 a_l = gK v a_l := fun a_l => by
      show q.2.2.2.2.1 a_l = v.2.1 a_l
      rw [x1_l.2.1]
    have jl := (hj.1.2.2.2 9 (by decide) k0_b.1).resolve_left (by rw [eR]; omega)
    obtain ⟨⟨j1, j2_l⟩, ⟨j3_l, j4_l⟩, j5_l⟩ := jl
    obtain ⟨y1, y2, ⟨y3, y4, y5, y6⟩, T0_l, y7⟩ := hX
    have hfq : ∀ a_l j_l, a_l < gn s → csa a_l = false → ¬ (a_l = 0 ∧ (j_l = 14 ∨ j_l = 16)) → a_l ≠ 231 → ¬ (a_l = 217 ∧ j_l ≠ 3) → ¬ (a_l = 218 ∧ (j_l = 1 ∨ j_l = 2 ∨ 340 ≤ j_l)) → gI q.2.2.2 a_l j_l = gI s a_l j_l := fun a_l j_l c1_l c2_l c3_l c4_l c5_l c6_l => (z10 a_l j_l c5_l c6_l).trans (e8 a_l j_l c1_l c2_l c3_l c4_l)
    have e14q : gI q.2.2.2 0 14 = 0 := (z10 0 14 (by omega) (by omega)).trans e14_l
    have e13q : gI q.2.2.2 0 13 = gI s 0 13 := hfq 0 13 (by omega) rfl (by omega) (by decide) (by omega) (by omega)
    have lob := l6 (by rw [← eR, ← eR]; exact j3_l)
    refine ⟨RW_l y1 (fun k_l hk _ => hfq 218 _ (by omega) rfl (by omega) (by decide) (by omega) (by omega)) (fun k_l hk => ?_) (fun i_l hi_l => hfq _ _ (by omega) rfl (by omega) (by decide) (by omega) (by omega)), fun h3 => ?_, ⟨by rw [e14q, z9], by rw [e13q]; exact y4, by rw [e14q]; decide, fun j_l hj2 => by rw [e14q] at hj2; omega⟩, y_l.2, Or.inr ⟨y_l, k_l, rfl, ⟨gI s 222, p.2.1.toNat, ⟨z4, z5, z6⟩, z8, z7, hq⟩, ?_, ?_, ?_⟩⟩
    · have hp := pa_15 k_l hk.1
      exact hfq _ _ (by omega) (csa_n (by omega)) (by omega) (by omega) (by omega) (by omega)
    · have h3s : gI s 217 3 = 1 := by
        rw [← h3]
        exact (hfq 217 3 (by omega) rfl (by omega) (by decide) (by omega) (by omega)).symm
      obtain ⟨g1, T, g2⟩ := y2 h3s
      refine ⟨RW_g g1 (fun k_l hk => hfq 219 _ (by omega) rfl (by omega) (by decide) (by omega) (by omega)) (fun k_l hk => ?_) (fun i_l hi_l => hfq _ _ (by omega) rfl (by omega) (by decide) (by omega) (by omega)), T, Tlw_g hJ ⟨by decide, k0_b.2.2.1⟩ g2 (fun k_l hk => hfq 219 k_l (by omega) rfl (by omega) (by decide) (by omega) (by omega)) ?_ (fun a_l k_l ha_l ha2 => ?_) (fun a_l ha_l ha2 => ?_) (fun a_l k_l ha_l ha2 => hfq a_l k_l ha2 (csa_n (by omega)) (by omega) (by omega) (by omega) (by omega))⟩
      · have hp := pa_15 k_l hk.1
        exact hfq _ _ (by omega) (csa_n (by omega)) (by omega) (by omega) (by omega) (by omega)
      · rw [rq, eR]
        exact l2 54 11 (by omega) (by omega)
      · rw [rq, eR]
        exact l2 a_l k_l ha2 (by omega)
      · rw [kq, eK]
        exact l1.2 a_l ha2
    · rw [rq, rq]
      exact ⟨j1, j3_l⟩
    · have eA_l : gR q.2.2.2 9 11 = gR r.2.2.2 9 11 := (rq 9 11).trans (eR 9 11)
      rw [eA_l]
      have hA : 232 ≤ gR r.2.2.2 9 11 := by
        rw [← eR]
        exact j1
      have hB_l : 232 ≤ gR r.2.2.2 (gR r.2.2.2 9 11) 1 := by
        rw [← eR, ← eR]
        exact j3_l
      have eB : gR q.2.2.2 (gR r.2.2.2 9 11) 1 = gR r.2.2.2 (gR r.2.2.2 9 11) 1 := (rq _ 1).trans (eR _ 1)
      obtain ⟨b1, b2, b3, b4⟩ := lob
      refine ⟨((z10 _ 0 (by omega) (by omega)).trans (e9_l _ 0 (by omega))).trans b1, ?_, ?_, by rw [eB]; exact b4⟩
      · rw [eB]
        exact Eq.trans (List.map_congr_left (fun j_l _ => (z10 _ j_l (by omega) (by omega)).trans (e9_l _ j_l (by omega)))) b2
      · rw [eB, kq, eK]
        exact b3
    · obtain ⟨b1, b2, b3, b4⟩ := lob
      unfold glen gL4 at j5_l
      rw [eR, eR, eK, b3] at j5_l
      omega
  · rcases hr with ⟨z_l, ⟨q0, hq⟩, hF, h9⟩ | ⟨z_l, -⟩
    · rw [if_pos (by omega)]
      refine gQ_ret (fun p' hj => ?_)
      dsimp only at hj ⊢
      intro q hq2
      obtain ⟨x1_l, x2_l⟩ := j195x (L := gI s 222) (e := p.2.1.toNat) hj (funext fun k_l => h9 222 k_l (by decide) (by decide)) (by rw [h9 217 8 (by decide) (by decide), hl8, ← hl]; omega) q hq2
      rcases x2_l with ⟨-, -, hF2⟩ | ⟨-, y', k', z2, -⟩
      · exact Rx_fw hj (Rx_fw hJ hX hF) hF2
      · rw [hq] at z2
        cases z2
    · omega
end Lw
