section
/-! getters of courts -/
def WQ (a _k : Nat) : Bool := csa a || Nat.beq a 231
def CoX (st : Nat → Int) (F : gS → Option gO) (s : gS) (r : gO) : Prop := ∀ u p, Fw WQ s u → J p u → RX u → gQ (F u) (fun q => gI q.2.2.2 217 0 = st r.1 ∧ (r.1 = 1 → q.2.1 = r.2.1))
def CdX (F : gS → Option gO) (s : gS) (r : gO) : Prop := ∀ u p, Fw WQ s u → J p u → RX u → gQ (F u) (fun q => q.2.1 = r.2.1)
def st4 (n : Nat) : Int := if n = 4 then 1 else 0
section Qa
variable {s t u g : gS} {p : gP} {a1 a2 a3 v : Int} {a k i j n : Nat} {F : gS → Option gO} {st : Nat → Int}
theorem uQ : ∀ a k, csq a k = true → WQ a k = true := fun a k h_l => by
  unfold WQ
  unfold csq at h_l
  rw [h_l]
  rfl
theorem WQ_n (h : (9 ≤ a ∧ a < 27) ∨ (54 ≤ a ∧ a ≠ 231)) : WQ a k = false := by
  unfold WQ
  rw [csa_n (by omega), es_beqf.mpr (by omega)]
  rfl
theorem xc2 {z : Option gO} {K : Nat → gS → Option gO} {E : Int → gS → Option gO} (Vk : Int → Prop) (hn : 232 ≤ gn s) (hz : gQ z (CoX st F s)) (hL : gQ z (fun r => Fw csq s r.2.2.2)) (hV : gQ z (fun r => r.1 = 1 → Vk r.2.1)) (h1 : st 1 = 0) (hE : ∀ v t, Vk v → gQ (E v t) (fun r => r.2.1 = 0 ∧ gI r.2.2.2 231 0 = v ∧ Sm t r.2.2.2 ∧ ∀ a k, a ≠ 231 → gI r.2.2.2 a k = gI t a k)) (hC : ∀ k t, gQ (K k t) (fun r => r.2.1 = st (k + 2) ∧ r.2.1 ≠ 0 ∧ r.2.2.2 = t)) (hF : ∀ u p, J p u → RX u → gQ (F u) (fun q => gI q.2.2.2 231 0 = gI u 231 0)) : gQ (z.bind (gc1 K E)) (fun r => Xc F r.2.1 r.2.2.2) := by
  refine gQ_d1 (A := fun r => CoX st F s r ∧ Fw csq s r.2.2.2 ∧ (r.1 = 1 → Vk r.2.1)) (fun r hr => ⟨hz r hr, hL r hr, hV r hr⟩) (fun r hr c_l => ?_) (fun r hr c_l => ?_)
  · obtain ⟨x1_l, x2_l, x3⟩ := hr
    intro t ht p hj hR q hq
    obtain ⟨e1_l, e2_l, e3_l, e4_l⟩ := hE _ _ (x3 c_l) t ht
    have f1_l : Fw WQ s t.2.2.2 := Fw_sm (Fw_tr (Fw_rf hn) x2_l uQ) e3_l (fun a k _ hw => e4_l a k (fun z => by
      rw [z] at hw
      cases hw))
    obtain ⟨y1, y2⟩ := x1_l _ p f1_l hj hR q hq
    rw [c_l, h1] at y1
    refine ⟨y1.trans e1_l.symm, fun _ => ?_⟩
    rw [hF _ p hj hR q hq, e2_l, y2 c_l]
  · obtain ⟨x1_l, x2_l, x3⟩ := hr
    intro t ht p hj hR q hq
    obtain ⟨e1_l, e2_l, e3_l⟩ := hC _ _ t ht
    rw [e3_l] at hq hj hR
    obtain ⟨y1, y2⟩ := x1_l _ p (Fw_tr (Fw_rf hn) x2_l uQ) hj hR q hq
    rw [show r.1 - 2 + 2 = r.1 by omega] at e1_l
    exact ⟨y1.trans e1_l.symm, fun z => absurd z e2_l⟩
theorem xc1 {z : Option gO} (hn : 232 ≤ gn s) (hz : gQ z (CdX F s)) (hL : gQ z (fun r => Fw csq s r.2.2.2)) : gQ z (fun r => Xc1 F r.2.1 r.2.2.2) := fun r hr p_l hj hR => hz r hr _ p_l (Fw_tr (Fw_rf hn) (hL r hr) uQ) hj hR
/-- rows below alike -/
theorem WQ_8 (hn : 232 ≤ gn s) (h : Fw WQ s u) : ∀ k, gI u 218 k = gI s 218 k := fun k => h.2.2 218 k (by omega) (WQ_n (by omega))
/-- cells of the class are the row's -/
theorem xr (h : Rx s) (hi : Ci 15 a j k) (hk : KK k) : gI s a j = gI s 218 k := by
  refine rd_ci (C := 15) (V := fun k => gI s 218 k) (fun k hk => ?_) hi hk
  have := h.1.1 k hk
  rw [Nat.zero_add] at this
  exact this.symm
theorem xl (h : Rx s) (hi : (i : Int) < gI s 218 13) (hj : j < 4) : gI s 20 (4 * ((gI s 218 13).toNat - 1 - i) + j) = gI s 218 (100 + 4 * i + j) := by
  have h1 := h.1.2.2.2 i j (by rw [Nat.zero_add]; exact hi) hj
  rw [Nat.zero_add] at h1
  rw [show 0 + 100 + 4 * i + j = 100 + 4 * i + j by omega] at h1
  exact h1.symm
theorem c13r (h : Rx s) : gI s 19 1 = gI s 218 13 := by
  have h1 := h.1.1 13 (by unfold KK; decide)
  rw [Nat.zero_add] at h1
  exact h1.symm
theorem r13 (h : Rx s) : 0 ≤ gI s 218 13 ∧ gI s 218 13 ≤ 60 := by
  have h1 := h.1.2.2.1
  rw [Nat.zero_add] at h1
  exact h1
/-- rival -/
theorem co_95 (hJ : J p s) (h : RX s) : gQ (f_95 0 a1 a2 s) (CoX st5 (f_208 217 a1 a2) s) := by
  have hg : RF s := hJ.1.2.1
  have hn := hJ.1.1
  have hv := (Jv hJ).2.2.2
  have mo : ∀ u_l p, Fw WQ s u_l → J p u_l → gQ (f_208 217 a1 a2 u_l) (fun q_l => ((0 ≤ a1 ∧ a1 < gI s 218 6) ∧ gI q_l.2.2.2 217 0 = 0 ∧ q_l.2.1 = gI s 218 (88 + 2 * a1.toNat + (if a2 = 0 then 0 else 1))) ∨ (¬ (0 ≤ a1 ∧ a1 < gI s 218 6) ∧ gI q_l.2.2.2 217 0 = 1)) := fun u_l p hf hu => by
    have hr := (rr_217_1 hu.1.2.1).2
    have e8 := WQ_8 hn hf
    unfold f_208 f_164
    rw [hr, e8 6]
    refine m_n (by omega) (fun c_l => ?_) (fun c_l => ?_)
    · rw [if_neg (by decide)]
      unfold fb_208_14
      dsimp only
      rw [m0, if_neg (by decide)]
      obtain ⟨j_l, hj⟩ : ∃ j_l : Nat, a1 = (j_l : Int) := ⟨a1.toNat, by omega⟩
      have hj6 : j_l < 6 := by omega
      by_cases c3 : a2 = 0
      · rw [if_pos c3]
        unfold fb_208_39
        refine gQ_w1 (A := fun w_l z_l => w_l = gI s 218 (88 + 2 * j_l) ∧ z_l = gw u_l 217 0 0) (fun r_l hr2 => ?_) (fun w_l z_l hz => ?_)
        · rw [hj] at hr2
          obtain ⟨q1_l, q2_l⟩ := v160 (z := gw u_l 217 0 0) (q := 0) hr hj6 (by decide) rfl r_l hr2
          exact ⟨q1_l.trans ((m8 _).trans (e8 _)), q2_l⟩
        · obtain ⟨z1, z2⟩ := hz
          refine gQ_ret (Or.inl ⟨c_l, ?_, ?_⟩)
          · dsimp only
            rw [z2, m0]
          · dsimp only
            rw [z1, if_pos c3, hj, Int.toNat_natCast, Nat.add_zero]
      · rw [if_neg c3]
        unfold fb_208_39
        refine gQ_w1 (A := fun w_l z_l => w_l = gI s 218 (88 + 2 * j_l + 1) ∧ z_l = gw u_l 217 0 0) (fun r_l hr2 => ?_) (fun w_l z_l hz => ?_)
        · rw [hj] at hr2
          obtain ⟨q1_l, q2_l⟩ := v160 (z := gw u_l 217 0 0) (q := 1) hr hj6 (by decide) rfl r_l hr2
          exact ⟨q1_l.trans ((m8 _).trans (e8 _)), q2_l⟩
        · obtain ⟨z1, z2⟩ := hz
          refine gQ_ret (Or.inl ⟨c_l, ?_, ?_⟩)
          · dsimp only
            rw [z2, m0]
          · dsimp only
            rw [z1, if_neg c3, hj, Int.toNat_natCast]
    · rw [if_pos rfl]
      unfold fb_208_14
      dsimp only
      rw [m0, if_pos (by decide)]
      exact gQ_ret (Or.inr ⟨c_l, m0⟩)
  unfold f_95
  refine n_gt (by decide) (n_137 hg h.1) (fun c_l => ?_) (fun c_l => ?_)
  · rw [(rr_0_5 hg).2, (rr_15_1 hg).2, (rr_15_2 hg).2]
    have key_l : ∀ x_l, x_l = gI s 218 (88 + 2 * a1.toNat + (if a2 = 0 then 0 else 1)) → CoX st5 (f_208 217 a1 a2) s (1, x_l, 0, s) := fun x_l hx u_l p hf hu _ q_l hq => by
      rcases mo u_l p hf hu q_l hq with ⟨-, h1, h2⟩ | ⟨h1, -⟩
      · exact ⟨h1, fun _ => h2.trans hx.symm⟩
      · exact absurd c_l h1
    by_cases c3 : a2 = 0
    · rw [if_pos c3]
      exact gQ_chk (gQ_ret (key_l _ (by rw [if_pos c3]; exact xr h.2 (cjv0 (i := a1.toNat) (by omega)) (KK_v0 (by omega)))))
    · rw [if_neg c3]
      exact gQ_chk (gQ_ret (key_l _ (by rw [if_neg c3]; exact xr h.2 (cjv (i := a1.toNat) (j := 1) (by omega) (by decide)) (KK_v (j := 1) (by omega) (by decide)))))
  · intro u_l p hf hu _ q_l hq
    rcases mo u_l p hf hu q_l hq with ⟨h1, -⟩ | ⟨-, h1⟩
    · exact absurd h1 c_l
    · exact ⟨h1, fun z_l => by cases z_l⟩
/-- the sets of men in a state -/
theorem lk_29 (hJ : J p s) (h : RX s) {x : Int} {p2 : gP} (hu : J p2 u) (e8 : ∀ k, gI u 218 k = gI s 218 k) : gQ (f_29 15 x s) (fun r => r.2.2.2 = s ∧ gQ (f_252 217 x u) (fun q => q.2.1 = r.2.1 ∧ q.2.2.2 = u)) := by
  have hg : RF s := hJ.1.2.1
  have hv := (Jv hJ).2.1
  have r15 : gR s 15 0 = 16 := (rr_15_0 hg).2
  have h8 : gR u 217 1 = 218 := (rr_217_1 hu.1.2.1).2
  have e4_l : gI s 15 4 = gI s 218 4 := (ce_n h.1).2.1
  unfold f_29 f_252
  have hs : gQ (gloop st_29_4 (15, x, 0, 0, s)) (fun r => r.2.2.2 = s) := by
    refine gQ_loop (fun y_l => y_l.1 = 15 ∧ y_l.2.2.2.2 = s) (fun y_l hy => ?_) ⟨rfl, rfl⟩
    obtain ⟨y0, y1, x2_l, x3, w_l⟩ := y_l
    obtain ⟨q0, q1_l⟩ := hy
    dsimp only at q0 q1_l
    subst q0 q1_l
    show gQ (sb_29_4 15 y1 x2_l x3 w_l) _
    unfold sb_29_4
    exact gQ_ite (gQ_chk (gQ_ite (gQ_ret ⟨rfl, rfl⟩) (gQ_ret ⟨rfl, rfl⟩))) (gQ_map (gQ_ret rfl))
  refine fun r hr => ⟨hs r hr, ?_⟩
  revert r
  refine gQ_lk (P := fun (q q' : gO) => q'.2.1 = q.2.1 ∧ q'.2.2.2 = u) (fun y_l z_l => y_l.1 = 15 ∧ y_l.2.1 = x ∧ y_l.2.2.2.2 = s ∧ (0 ≤ y_l.2.2.2.1 ∧ (0 ≤ y_l.2.2.1 ∧ y_l.2.2.1 < 64)) ∧ z_l = (217, x, y_l.2.2.1, y_l.2.2.2.1, u)) (fun y_l z_l hy => ?_) ⟨rfl, rfl, rfl, by dsimp only; omega, rfl⟩
  obtain ⟨y0, y1, x2_l, x3, w_l⟩ := y_l
  obtain ⟨q0, q1_l, q2_l, q3_l, q4_l⟩ := hy
  dsimp only at q0 q1_l q2_l q3_l q4_l
  subst q0 q1_l q2_l q4_l
  show gQ (sb_29_4 15 y1 x2_l x3 w_l) _
  unfold sb_29_4
  rw [r15, e4_l]
  by_cases c1 : x3 < gI w_l 218 4
  · obtain ⟨i_l, hi_l⟩ : ∃ i_l : Nat, x3 = (i_l : Int) := ⟨x3.toNat, by omega⟩
    have hi6 : i_l < 6 := by omega
    have ei : x3.toNat = i_l := by omega
    have eg : g32 (x3 + 1) = x3 + 1 := g32_eq (by omega) (by omega)
    have hb_l := gshl_5 (x := x3) (by omega)
    have hlt := gor_lt (x := x2_l) (y := gshl 1 x3) 6 (by decide) ⟨q3_l.2.1, q3_l.2.2⟩ ⟨by omega, by show gshl 1 x3 < 64; omega⟩
    have hlt2 : gor x2_l (gshl 1 x3) < 64 := hlt.2
    have e5_l : gI w_l (21 + i_l) 5 = gI w_l 218 (40 + 6 * i_l + 5) := xr h.2 (cjm hi6 (by decide)) (KK_m hi6 (by decide))
    rw [if_pos c1, ei, rr_16 hg hi6, e5_l]
    have mm : gQ (sb_252_4 217 y1 x2_l x3 u) (fun a_l => a_l = Sum.inl (217, y1, (if gI w_l 218 (40 + 6 * i_l + 5) = y1 then gor x2_l (gshl 1 x3) else x2_l), g32 (x3 + 1), u)) := by
      unfold sb_252_4
      rw [h8, e8 4, if_pos c1]
      refine gQ_w1 (A := fun v_l z_l => v_l = gI w_l 218 (40 + 6 * i_l + 5) ∧ z_l = u) (fun r hr2 => ?_) (fun v_l z_l hz => ?_)
      · rw [hi_l] at hr2
        obtain ⟨q1_l, q2_l⟩ := v156 (j := 5) h8 hi6 (by decide) rfl r hr2
        exact ⟨q1_l.trans (e8 _), q2_l⟩
      obtain ⟨z1, z2⟩ := hz
      rw [z1, z2]
      by_cases c3 : gI w_l 218 (40 + 6 * i_l + 5) = y1
      · rw [if_pos c3, if_pos c3]
        exact gQ_ret rfl
      · rw [if_neg c3, if_neg c3, gor0 q3_l.2]
        exact gQ_ret rfl
    refine gQ_chk ?_
    by_cases c3 : gI w_l 218 (40 + 6 * i_l + 5) = y1
    · rw [if_pos c3]
      refine gQ_ret (fun a_l ha_l => ?_)
      rw [mm a_l ha_l, if_pos c3]
      refine ⟨rfl, rfl, rfl, ?_, rfl⟩
      dsimp only
      omega
    · rw [if_neg c3]
      refine gQ_ret (fun a_l ha_l => ?_)
      rw [mm a_l ha_l, if_neg c3]
      refine ⟨rfl, rfl, rfl, ?_, rfl⟩
      dsimp only
      omega
  · rw [if_neg c1]
    refine gQ_map (gQ_ret ?_)
    show gQ (sb_252_4 217 y1 x2_l x3 u) _
    unfold sb_252_4
    rw [h8, e8 4, if_neg c1]
    exact gQ_map (gQ_ret ⟨rfl, rfl⟩)
theorem cd_124 (hJ : J p s) (h : RX s) : gQ (f_124 0 a1 s) (CdX (f_253 217 a1) s) := by
  have hg : RF s := hJ.1.2.1
  have hn := hJ.1.1
  intro r_l hr u_l p' hf hu hR
  have hJw : J p' (gw u_l 217 0 0) := J_wf hu t217 rfl (fun z_l => by cases z_l) rfl (fun q_l hq => by cases hq)
  have e8 : ∀ k_l, gI (gw u_l 217 0 0) 218 k_l = gI s 218 k_l := fun k_l => (m8 k_l).trans (WQ_8 hn hf k_l)
  have key_l : ∀ x_l, fb_124_13 x_l 15 s = some r_l → gQ (fb_253_15 x_l 217 (gw u_l 217 0 0)) (fun q_l => q_l.2.1 = r_l.2.1) := fun x_l hx => by
    unfold fb_124_13 at hx
    unfold fb_253_15
    revert r_l
    suffices hh : gQ ((f_29 15 x_l s).bind (gv1 (fun v2 s1_l => some ((1, v2, 0, s1_l) : gO)))) (fun r_l => gQ ((f_252 217 x_l (gw u_l 217 0 0)).bind (gv1 (fun v3 s2_l => some ((1, v3, 0, s2_l) : gO)))) (fun q_l => q_l.2.1 = r_l.2.1)) from fun r_l _ hx => hh r_l hx
    refine gQ_w1 (A := fun v_l z_l => z_l = s ∧ gQ (f_252 217 x_l (gw u_l 217 0 0)) (fun q_l => q_l.2.1 = v_l ∧ q_l.2.2.2 = gw u_l 217 0 0)) (lk_29 hJ h hJw e8) (fun v_l z_l hz => gQ_ret ?_)
    exact gQ_w1 (A := fun w_l z_l => w_l = v_l ∧ z_l = gw u_l 217 0 0) hz.2 (fun w_l z_l hw => gQ_ret hw.1)
  unfold f_124 at hr
  unfold f_253
  dsimp only
  rw [(rr_0_5 hg).2] at hr
  by_cases c : a1 = 0
  · rw [if_pos c] at hr ⊢
    exact key_l 0 hr
  · rw [if_neg c] at hr ⊢
    exact key_l 1 hr
theorem xc_124 (hJ : J p s) (h : RX s) : gQ (f_124 0 a1 s) (fun r => Xc1 (f_253 217 a1) r.2.1 r.2.2.2) := xc1 hJ.1.1 (cd_124 hJ h) (fun r hr => o_124 hJ.1.2.1 cid rfl (Fw_rf hJ.1.1) r hr)
/-- log -/
theorem v256 {x2 : Int} (hr : gR u 217 1 = 218) (hi : i < 60) (hj : j < 4) (e1 : a1 = (i : Int)) (e2 : x2 = (j : Int)) : gQ (f_256 217 a1 x2 u) (fun r => r.2.1 = gI u 218 (100 + 4 * i + j) ∧ r.2.2.2 = u) := by
  subst e1 e2
  unfold f_256
  rw [g32_eq (v := 4 * (i : Int)) (by omega) (by omega), g32_eq (v := 100 + 4 * (i : Int)) (by omega) (by omega), g32_eq (v := 100 + 4 * (i : Int) + (j : Int)) (by omega) (by omega), hr, show (100 + 4 * (i : Int) + (j : Int)).toNat = 100 + 4 * i + j by omega]
  exact gQ_chk (gQ_ret ⟨rfl, rfl⟩)
theorem co_128 (hJ : J p s) (h : RX s) : gQ (f_128 0 a1 a2 s) (CoX st4 (f_258 217 a1 a2) s) := by
  have hg : RF s := hJ.1.2.1
  have hn := hJ.1.1
  have b13 := r13 h.2
  have mo : ∀ u_l p, Fw WQ s u_l → J p u_l → gQ (f_258 217 a1 a2 u_l) (fun q_l => ((0 ≤ a2 ∧ a2 ≤ 3) ∧ gI q_l.2.2.2 217 0 = 0 ∧ q_l.2.1 = (if 0 ≤ a1 ∧ a1 ≤ gI s 218 13 - 1 then gI s 218 (100 + 4 * a1.toNat + a2.toNat) else -1)) ∨ (¬ (0 ≤ a2 ∧ a2 ≤ 3) ∧ gI q_l.2.2.2 217 0 = 1)) := fun u_l p hf hu => by
    have hr := (rr_217_1 hu.1.2.1).2
    have e8 := WQ_8 hn hf
    unfold f_258
    refine gQ_w1 (A := fun v_l z_l => v_l = (if 0 ≤ a2 ∧ a2 ≤ 3 then 1 else 0) ∧ z_l = u_l) m_150 (fun v_l z_l hz => ?_)
    obtain ⟨z1, z2⟩ := hz
    rw [z1, z2]
    by_cases c_l : 0 ≤ a2 ∧ a2 ≤ 3
    · rw [if_pos c_l, if_neg (by decide)]
      unfold fb_258_15
      dsimp only
      have hr0 : gR (gw u_l 217 0 0) 217 1 = 218 := hr
      rw [m0, if_neg (by decide), hr0, m8 13, e8 13, g32_eq (v := gI s 218 13 - 1) (by omega) (by omega)]
      refine gQ_w1 (A := fun v_l z_l => v_l = (if 0 ≤ a1 ∧ a1 ≤ gI s 218 13 - 1 then 1 else 0) ∧ z_l = gw u_l 217 0 0) m_150 (fun v_l z_l hz => ?_)
      obtain ⟨z1, z2⟩ := hz
      rw [z1, z2]
      by_cases c2 : 0 ≤ a1 ∧ a1 ≤ gI s 218 13 - 1
      · rw [if_pos c2, if_neg (by decide), if_pos c2]
        refine gQ_w1 (A := fun v_l z_l => v_l = gI s 218 (100 + 4 * a1.toNat + a2.toNat) ∧ z_l = gw u_l 217 0 0) (fun r_l hr2 => ?_) (fun v_l z_l hz => ?_)
        · obtain ⟨q1_l, q2_l⟩ := v256 (u := gw u_l 217 0 0) (i := a1.toNat) (j := a2.toNat) hr0 (by omega) (by omega) (by omega) (by omega) r_l hr2
          exact ⟨q1_l.trans ((m8 _).trans (e8 _)), q2_l⟩
        obtain ⟨z1, z2⟩ := hz
        rw [z1, z2]
        exact gQ_ret (Or.inl ⟨c_l, m0, rfl⟩)
      · rw [if_neg c2, if_pos rfl, if_neg c2]
        exact gQ_ret (Or.inl ⟨c_l, m0, rfl⟩)
    · rw [if_neg c_l, if_pos rfl]
      unfold fb_258_15
      dsimp only
      rw [m0, if_pos (by decide)]
      exact gQ_ret (Or.inr ⟨c_l, m0⟩)
  have bad_l : ¬ (0 ≤ a2 ∧ a2 ≤ 3) → gQ (fb_128_9 s) (CoX st4 (f_258 217 a1 a2) s) := fun c_l => by
    unfold fb_128_9
    refine gQ_ret (fun u_l p hf hu _ q_l hq => ?_)
    rcases mo u_l p hf hu q_l hq with ⟨h1, -⟩ | ⟨-, h1⟩
    · exact absurd h1 c_l
    · exact ⟨h1, fun z_l => by cases z_l⟩
  unfold f_128
  by_cases c1 : a2 < 0
  · rw [if_pos c1]
    exact bad_l (by omega)
  rw [if_neg c1]
  by_cases c2 : a2 < 4
  · rw [if_pos c2, (rr_0_5 hg).2, (rr_15_3 hg).2]
    have key_l : gQ (f_56 19 a1 a2 s) (fun r_l => r_l.2.1 = (if 0 ≤ a1 ∧ a1 ≤ gI s 218 13 - 1 then gI s 218 (100 + 4 * a1.toNat + a2.toNat) else -1) ∧ r_l.2.2.2 = s) := by
      unfold f_56
      rw [c13r h.2]
      by_cases d1 : a1 < 0
      · rw [if_pos d1, if_neg (by omega)]
        exact gQ_ret ⟨rfl, rfl⟩
      rw [if_neg d1]
      by_cases d2 : a1 < gI s 218 13
      · have e1_l : g32 (gI s 218 13 - 1) = gI s 218 13 - 1 := g32_eq (by omega) (by omega)
        have e2_l : g32 (gI s 218 13 - 1 - a1) = gI s 218 13 - 1 - a1 := g32_eq (by omega) (by omega)
        have e3_l : g32 ((gI s 218 13 - 1 - a1) * 4) = (gI s 218 13 - 1 - a1) * 4 := g32_eq (by omega) (by omega)
        have e4_l : g32 ((gI s 218 13 - 1 - a1) * 4 + a2) = (gI s 218 13 - 1 - a1) * 4 + a2 := g32_eq (by omega) (by omega)
        have e5_l : ((gI s 218 13 - 1 - a1) * 4 + a2).toNat = 4 * ((gI s 218 13).toNat - 1 - a1.toNat) + a2.toNat := by omega
        rw [if_pos d2, if_neg c1, if_pos c2, if_pos (by omega), e1_l, e2_l, e3_l, e4_l, e5_l, (rr_19_0 hg).2, xl h.2 (i := a1.toNat) (j := a2.toNat) (by omega) (by omega)]
        exact gQ_chk (gQ_ret ⟨rfl, rfl⟩)
      · rw [if_neg d2, if_neg (by omega)]
        exact gQ_ret ⟨rfl, rfl⟩
    refine gQ_w1 (A := fun v_l z_l => v_l = (if 0 ≤ a1 ∧ a1 ≤ gI s 218 13 - 1 then gI s 218 (100 + 4 * a1.toNat + a2.toNat) else -1) ∧ z_l = s) key_l (fun v_l z_l hz => ?_)
    refine gQ_ret (fun u_l p hf hu _ q_l hq => ?_)
    rcases mo u_l p hf hu q_l hq with ⟨-, h1, h2⟩ | ⟨h1, -⟩
    · exact ⟨h1, fun _ => h2.trans hz.1.symm⟩
    · exact absurd ⟨by omega, by omega⟩ h1
  · rw [if_neg c2]
    exact bad_l (by omega)
/-- the wrapped calls -/
theorem xc_281 (hJ : J p s) (h : RX s) : gQ (f_281 0 a1 a2 231 s) (fun r => Xc (f_208 217 a1 a2) r.2.1 r.2.2.2) := by
  unfold f_281
  refine xc2 (st := st5) (fun _ => True) hJ.1.1 (co_95 hJ h) (fun r hr => o_95 hJ.1.2.1 cid rfl (Fw_rf hJ.1.1) r hr) (fun _ _ _ => trivial) rfl (fun v_l t_l _ => aX trivial) (fun k_l t_l => ?_) (fun u_l p hu _ q_l hq => (om_208 hu.1.2.1 um rfl (JF hu) q_l hq).2.2 231 0 (Nat.lt_of_lt_of_le (by decide) hu.1.1) rfl)
  by_cases c0 : k_l = 3
  · rw [if_pos c0, c0]
    exact gQ_ret ⟨rfl, (by decide : (1 : Int) ≠ 0), rfl⟩
  rw [if_neg c0]
  exact gQ_none
theorem xc_309 (hJ : J p s) (h : RX s) : gQ (f_309 0 a1 a2 231 s) (fun r => Xc (f_258 217 a1 a2) r.2.1 r.2.2.2) := by
  unfold f_309
  refine xc2 (st := st4) (fun _ => True) hJ.1.1 (co_128 hJ h) (fun r hr => o_128 hJ.1.2.1 cid rfl (Fw_rf hJ.1.1) r hr) (fun _ _ _ => trivial) rfl (fun v_l t_l _ => aX trivial) (fun k_l t_l => ?_) (fun u_l p hu _ q_l hq => (om_258 hu.1.2.1 um rfl (JF hu) q_l hq).2.2 231 0 (Nat.lt_of_lt_of_le (by decide) hu.1.1) rfl)
  by_cases c0 : k_l = 2
  · rw [if_pos c0, c0]
    exact gQ_ret ⟨rfl, (by decide : (1 : Int) ≠ 0), rfl⟩
  rw [if_neg c0]
  exact gQ_none
end Qa

end
section
/-! days that do not count: on the court 42, and on the row that is put aside -/
/-- rows alike but for the log's length -/
def EqB (V W : Nat → Int) : Prop := ∀ k, k ≠ 13 → V k = W k
def daysC (T : (Nat → Int) → Int) (lu : Int) : Nat → (Nat → Int) → (Nat → Int)
  | 0, V => V
  | n + 1, V => dayC T lu (daysC T lu n V)
section Qb
variable {s t u g : gS} {p : gP} {a1 a2 a3 v d lu : Int} {a k i j n m : Nat} {V W : Nat → Int} {T : (Nat → Int) → Int}
/-- with the further ranges of wip/p4/next: h.2.1.2.1.1 -/
theorem RX_vg (h : RX s) : Vg (fun k => gI s 218 k) := by
  have h1 := h.2.1.2.1.1
  simp only [Nat.zero_add] at h1
  exact h1
theorem upB (h : EqB V W) : EqB (up V k v) (up W k v) := fun j_l hj => by
  unfold up
  split
  · rfl
  · exact h j_l hj
theorem worksB (h : EqB V W) (hi : i < 6) : EqB (worksF i V) (worksF i W) := by
  have hp : ∀ c_l, EqB (paysF c_l V) (paysF c_l W) := fun c_l => by
    unfold paysF
    rw [h 8 (by decide), h 9 (by decide)]
    exact upB (upB h)
  have hd_l : ∀ (a_l : Nat) (X_l Y : Nat → Int), EqB X_l Y → EqB (doneF i a_l X_l) (doneF i a_l Y) := fun a_l X_l Y hx => by
    unfold doneF
    rw [hx (40 + 6 * i) (by omega), hx (16 + 3 * a_l + 2) (by omega)]
    exact upB (upB (upB hx))
  have hh : ∀ (a_l : Nat) (X_l Y : Nat → Int), EqB X_l Y → EqB (heatF i a_l X_l) (heatF i a_l Y) := fun a_l X_l Y hx => by
    unfold heatF
    rw [hx (44 + 6 * i) (by omega), hx (16 + 3 * a_l) (by omega)]
    split
    · exact upB hx
    · exact hd_l a_l X_l Y hx
  unfold worksF
  rw [h (43 + 6 * i) (by omega), h 3 (by decide), h (44 + 6 * i) (by omega), h (16 + 3 * (W (43 + 6 * i)).toNat + 1) (by omega)]
  split
  · split
    · exact hh _ _ _ (hp _)
    · exact hh _ _ _ h
  · exact h
theorem fFB (h : EqB V W) (hi : i < 6) : fF V i = fF W i := by
  funext j
  unfold fF
  rw [h (40 + 6 * i) (by omega), h (41 + 6 * i) (by omega), h (43 + 6 * i) (by omega), h (44 + 6 * i) (by omega), h 9 (by decide), h 7 (by decide), h 3 (by decide)]
theorem midB (h : EqB V W) (hi : i < 6) : EqB (mid2 T i V) (mid2 T i W) := by
  have hw := worksB h hi
  unfold mid2 trustF
  rw [hw (40 + 6 * i) (by omega), fFB hw hi]
  exact upB hw
theorem manB (h : EqB V W) (hi : i < 6) : EqB (manF T i V) (manF T i W) := by
  have ht : EqB (trustF T i (worksF i V)) (trustF T i (worksF i W)) := midB h hi
  unfold manF barF
  rw [h (45 + 6 * i) (by omega), ht (40 + 6 * i) (by omega), ht 10 (by decide)]
  split
  · split
    · exact upB ht
    · exact ht
  · exact h
theorem menB (h : EqB V W) (n : Nat) (hn : n ≤ 6) : EqB (menF T n V) (menF T n W) := by
  induction n with
  | zero => exact h
  | succ n ih_l => exact manB (ih_l (by omega)) (by omega)
theorem keptB (h : EqB V W) (hi : i < 6) : keptF T i V = keptF T i W := by
  have ht := midB (T := T) h hi
  unfold keptF
  rw [h (45 + 6 * i) (by omega), ht (40 + 6 * i) (by omega), ht 10 (by decide)]
theorem keptSB (h : EqB V W) (n : Nat) (hn : n ≤ 6) : keptS T n V = keptS T n W := by
  induction n with
  | zero => rfl
  | succ n ih_l =>
    show keptS T n V + keptF T n (menF T n V) = keptS T n W + keptF T n (menF T n W)
    rw [ih_l (by omega), keptB (menB h n (by omega)) (by omega)]
theorem nextB (h : EqB V W) : EqB (nextF V) (nextF W) := by
  unfold nextF
  rw [h 7 (by decide)]
  exact upB h
theorem dayCB (hg : Vg W) (h : EqB V W) : EqB (dayC T lu V) (dayC T lu W) := by
  have h4 := hg.1.2
  have hm_l : EqB (menF T (W 4).toNat V) (menF T (W 4).toNat W) := menB h _ (by omega)
  unfold dayC
  rw [h 4 (by decide), hm_l 14 (by decide), hm_l 8 (by decide), keptSB (T := T) h (W 4).toNat (by omega)]
  refine nextB ?_
  split
  · exact upB (upB hm_l)
  · exact upB hm_l
theorem Vg_dayC (h : Vg V) : Vg (dayC T lu V) := by
  have h4 := h.1.2
  have hm_l := Vg_men (T := T) h (V 4).toNat (by omega)
  unfold dayC nextF
  split
  · exact Vg_o (Vg_o (Vg_o hm_l (by omega)) (by omega)) (by omega)
  · exact Vg_o (Vg_o hm_l (by omega)) (by omega)
theorem Vg_daysC (h : Vg V) (n : Nat) : Vg (daysC T lu n V) := by
  induction n with
  | zero => exact h
  | succ n ih_l => exact Vg_dayC ih_l
theorem daysCB (hg : Vg W) (h : EqB V W) (n : Nat) : EqB (daysC T lu n V) (daysC T lu n W) := by
  induction n with
  | zero => exact h
  | succ n ih_l => exact dayCB (Vg_daysC hg n) ih_l
/-- without luck: a day ahead, but for the draw -/
theorem daysC_0 (hg : Vg W) (h : Eq14 V W) (n : Nat) : Eq14 (daysC T 0 n V) (daysF T 0 n W) := by
  induction n with
  | zero => exact h
  | succ n ih_l => exact ahead_e (Vg_days hg n) ih_l
/-- with luck: the day itself -/
theorem daysC_1 (hg : Vg V) (n : Nat) : daysC T (V 11) n V = daysF T 1 n V := by
  induction n with
  | zero => rfl
  | succ n ih_l =>
    show dayC T (V 11) (daysC T (V 11) n V) = dayF T 1 (daysF T 1 n V)
    rw [ih_l]
    have e_l := dayC_F (T := T) (lu := 1) (Vg_days (T := T) (lu := 1) hg n) (by decide)
    rw [days_n hg (by decide) n] at e_l
    exact e_l
/-- the court 42 behind the copy -/
theorem c42x : ∀ k, k < 100 → (k ≠ 1 ∧ k ≠ 2 ∧ k ≠ 15) → k = 13 ∨ (pa 9 42 k = pa 9 15 k ∧ pa 9 42 k < 15) ∨ (pa 9 42 k = pa 9 15 k + 27 ∧ ((pa 9 42 k = 42 ∧ 4 ≤ pj k ∧ pj k ≤ 9) ∨ ((pa 9 42 k = 42 + 2 ∨ pa 9 42 k = 42 + 3) ∧ pj k < 6) ∨ (42 + 6 ≤ pa 9 42 k ∧ pa 9 42 k ≤ 42 + 11 ∧ pj k < 6))) := by decide +kernel
theorem CC_b {a b j : Nat} (h : CCr a b j) : a ≤ b := by
  unfold CCr at h
  omega
theorem Cr_42 (h : ∀ k, KK k → cv s 9 15 k = V k) (hc : CC 42 15 s t) : Cr t 42 (up V 13 (cv t 9 42 13)) := fun k hk => by
  by_cases c : k = 13
  · rw [c, up_s]
  rw [up_n c, ← h k hk]
  rcases c42x k hk.1 hk.2 with e_l | ⟨e1_l, e2_l⟩ | ⟨e1_l, e2_l⟩
  · exact absurd e_l c
  · show gI t (pa 9 42 k) (pj k) = gI s (pa 9 15 k) (pj k)
    rw [(hc.2 _ _).2 (fun z_l => by have := CC_b z_l; omega), e1_l]
  · show gI t (pa 9 42 k) (pj k) = gI s (pa 9 15 k) (pj k)
    have h1 : CCr 42 (pa 9 42 k) (pj k) := e2_l
    rw [(hc.2 _ _).1 h1, show pa 9 42 k - 42 + 15 = pa 9 15 k by omega]
theorem Rc9_42 (hg : RF s) : Rc9 42 s := ⟨⟨(rr_42_0 hg).2, fun i_l hi_l => (hg 43 i_l (by decide) (fun z_l => by rw [k0_m43.1] at z_l; omega)).trans (by
  have h6 : i_l = 0 ∨ i_l = 1 ∨ i_l = 2 ∨ i_l = 3 ∨ i_l = 4 ∨ i_l = 5 := by omega
  rcases h6 with rfl | rfl | rfl | rfl | rfl | rfl <;> decide +kernel)⟩, ⟨(rr_9 hg).1, (rr_9 hg).2.1, (rr_9 hg).2.2.1⟩, (rr_3_0 hg).2, (rr_3_1 hg).2⟩
theorem Fct_42 (h : Fw csq g s) (hf : Fct 42 s t) : Fw csq g t := by
  obtain ⟨⟨f1_l, f2_l, f3_l⟩, f4_l⟩ := hf
  refine ⟨⟨h.1.1, by rw [f1_l]; exact h.1.2.1, fun a_l ha_l => (f2_l a_l).trans (h.1.2.2 a_l ha_l)⟩, fun a_l k_l ha_l => (f3_l a_l k_l).trans (h.2.1 a_l k_l ha_l), fun a_l k_l ha_l hw => (f4_l a_l k_l (fun e_l => ?_) (fun e_l => ?_) (fun e_l => ?_) (fun e_l => ?_)).trans (h.2.2 a_l k_l ha_l hw)⟩
  · have h6 : a_l = 42 ∨ a_l = 48 ∨ a_l = 49 ∨ a_l = 50 ∨ a_l = 51 ∨ a_l = 52 ∨ a_l = 53 := by omega
    rcases h6 with rfl | rfl | rfl | rfl | rfl | rfl | rfl <;> cases hw
  · rw [e_l] at hw
    cases hw
  · rw [e_l] at hw
    cases hw
  · rw [e_l.1] at hw
    cases hw
theorem law_q (hJ : J p g) (hT : Tlw g 218 9 T) (hf : Fw csq g s) : Tlw s 218 9 T := law_C hJ hT (Fw_tr (Fw_rf hJ.1.1) hf uC)
theorem csq_f (h : (9 ≤ a ∧ a < 27) ∨ (36 ≤ a ∧ a < 42) ∨ 54 ≤ a) : csq a k = false := csa_n h
/-- the class's days on trial -/
theorem dc_141 (hJ : J p g) (h : RX g) (hT : Tlw g 218 9 T) (hf : Fw csq g s) (hm : m ≤ 1000) : gQ (f_141 0 (m : Int) lu d s) (fun r => (∃ W, Cr r.2.2.2 42 W ∧ EqB W (daysC T lu m (up (fun k => gI g 218 k) 14 d))) ∧ Fw csq g r.2.2.2) := by
  have hgg : RF g := hJ.1.2.1
  have hn := hJ.1.1
  have hg : RF s := RF_fw hgg hf
  have hv : Vg (fun k => gI g 218 k) := RX_vg h
  have hc_l : ∀ k, KK k → cv s 9 15 k = gI g 218 k := fun k hk => by
    have h1 := h.2.1.1 k hk
    rw [Nat.zero_add] at h1
    obtain ⟨b1, b2, -, -⟩ := pa_15 k hk.1
    rw [h1]
    exact hf.2.2 _ _ (by omega) (csq_f (Or.inl ⟨b1, b2⟩))
  have key_l : gQ (f_141 0 (m : Int) lu d s) (fun r => ∃ W, Cr r.2.2.2 42 W ∧ EqB W (daysC T lu m (up (fun k => gI g 218 k) 14 d))) := by
    unfold f_141
    rw [(rr_0_9 hg).2, (rr_0_5 hg).2]
    refine gQ_v0 (A := fun z_l => CC 42 15 s z_l ∧ Fw csq g z_l) (fun r hr => ⟨(gQ_T (s_23 hg ⟨by decide, k0_b.2.2.2.2.1⟩ ⟨by decide, k0_72.2⟩ (by decide)) r hr).2, o_23 hgg cid rfl rfl hf r hr⟩) (fun s1_l h1 => ?_)
    obtain ⟨h1, f1_l⟩ := h1
    have hg1 : RF s1_l := RF_fw hgg f1_l
    have hr1 := Cr_42 hc_l h1
    dsimp only
    rw [(rr_0_9 hg1).2]
    have hr3 := Cr_w (v := d) hr1 (cj_c (Or.inr rfl)).2.2.2
    have f3_l : Fw csq g (gw s1_l 42 9 d) := Fw_wv f1_l rfl
    have hB_l : EqB (up (up (fun k => gI g 218 k) 13 (cv s1_l 9 42 13)) 14 d) (up (fun k => gI g 218 k) 14 d) := upB (fun k hk => up_n hk)
    have hv1 : Vg (up (up (fun k => gI g 218 k) 13 (cv s1_l 9 42 13)) 14 d) := Vg_o (Vg_x hv ⟨by decide, by decide, fun i_l hi_l => by omega, fun a_l ha_l => by omega⟩) (by omega)
    generalize up (up (fun k => gI g 218 k) 13 (cv s1_l 9 42 13)) 14 d = V at hr3 hB_l hv1
    generalize gw s1_l 42 9 d = s3 at hr3 f3_l
    refine gQ_loop (fun y_l => ∃ (j_l : Nat) (t_l : gS), y_l = (0, (m : Int), lu, (j_l : Int), t_l) ∧ j_l ≤ m ∧ Cr t_l 42 (daysC T lu j_l V) ∧ Fw csq g t_l) (fun y_l hy => ?_) ⟨0, s3, rfl, Nat.zero_le _, hr3, f3_l⟩
    obtain ⟨j_l, t_l, rfl, hj, ht, ft⟩ := hy
    have hgt : RF t_l := RF_fw hgg ft
    show gQ (sb_141_22 0 (m : Int) lu (j_l : Int) t_l) _
    unfold sb_141_22
    rw [(rr_0_9 hgt).2, (rr_0_4 hgt).2, (rr_0_1 hgt).2]
    by_cases c : (j_l : Int) < (m : Int)
    · rw [if_pos c, g32_eq (v := (j_l : Int) + 1) (by omega) (by omega)]
      refine gQ_w1 (A := fun _ z_l => Cr z_l 42 (dayC T lu (daysC T lu j_l V)) ∧ Fw csq g z_l) (fun r hr => ?_) (fun v_l z_l hz => gQ_ret ⟨j_l + 1, z_l, rfl, by omega, hz.1, hz.2⟩)
      obtain ⟨-, q2_l, q3_l⟩ := dc_27 (Or.inr rfl) (Rc9_42 hgt) (fun w_l hw => law_q hJ hT (Fct_42 ft hw)) ht (Vg_daysC hv1 j_l) r hr
      exact ⟨q2_l, Fct_42 ft q3_l⟩
    · rw [if_neg c]
      have en : j_l = m := by omega
      rw [en] at ht
      exact gQ_map (gQ_ret ⟨_, ht, daysCB (Vg_o hv (by omega)) hB_l m⟩)
  exact fun r hr => ⟨key_l r hr, o_141 hgg cid rfl hf r hr⟩
/-- the model's days -/
theorem mo_day (hJ : J p u) (hT : Tlw u 218 9 T) (hm : m ≤ 1000) (hf : Fw WM u s) (hv : Mv s V) (hg : Vg V) (h0 : gI s 217 0 = 0) : gQ (f_202 217 (m : Int) lu s) (fun r => Mv r.2.2.2 (daysF T lu m V) ∧ gI r.2.2.2 217 0 = 0 ∧ Fw WM u r.2.2.2 ∧ ∀ k, gI r.2.2.2 220 k = gI s 220 k) := by
  intro r hr
  have hgu : RF u := hJ.1.2.1
  have hg5 : RF s := RF_fw hgu hf
  have hT5 : Tlw s 218 9 T := law_M hJ hT hf
  obtain ⟨q1_l, q2_l, q3_l⟩ := dm_202 (B := 9) (T := T) (lu := lu) (n := m) hm ⟨(rr_217_1 hg5).2, (rr_217_7 hg5).2, (rr_217_14 hg5).2⟩ (fun t_l ht => Tlw_v hT5 ht (by decide) (fun a_l k _ ha_l => ht.2 a_l k (by omega) (by omega) (by omega))) hv hg r hr
  have q4_l := om_202 (g := u) (W := WM) hgu uM (Jm hJ) rfl rfl hf r hr
  exact ⟨q2_l, (q3_l.2 217 0 (by omega) (by decide) (by omega)).trans h0, q4_l, fun k => q3_l.2 220 k (by omega) (by decide) (by omega)⟩
theorem mo_185 (hJ : J p u) : gQ (f_185 217 (gw u 217 0 0)) (fun r => (∀ k, k < 340 → gI r.2.2.2 220 k = gI u 218 k) ∧ (∀ k, gI r.2.2.2 218 k = gI u 218 k) ∧ gI r.2.2.2 217 0 = 0 ∧ Fw WM u r.2.2.2) := by
  intro r hr
  have hn := hJ.1.1
  have hg0 : RF (gw u 217 0 0) := RF_sm hJ.1.2.1 rfl
  obtain ⟨q1_l, q2_l, q3_l⟩ := x_185 (rr_217_1 hg0).2 (rr_217_4 hg0).2 r hr
  have e8 : ∀ k, gI r.2.2.2 218 k = gI u 218 k := fun k => (q3_l 218 k (by decide)).trans (rd_a rfl (by decide))
  refine ⟨fun k hk => (q2_l k hk).trans (e8 k), e8, (q3_l 217 0 (by decide)).trans (rd_same rfl), Fw_sm (Fw_m0 hn) q1_l (fun a_l k _ hw => q3_l a_l k (fun z_l => ?_))⟩
  rw [z_l] at hw
  cases hw
/-- the model's days on the row that is put aside -/
theorem mo_run (hJ : J p u) (h : RX u) (hT : Tlw u 218 9 T) (hm : m ≤ 1000) {F : gS → Option gO} {P : gO → Prop} (k : ∀ t, Mv t (daysF T lu m (fun k => gI u 218 k)) → gI t 217 0 = 0 → RF t → gQ (F t) P) : gQ ((f_185 217 (gw u 217 0 0)).bind (gv0 (fun s5 => (f_202 217 (m : Int) lu s5).bind (gv1 (fun _ s7 => F s7))))) P := by
  have hv : Vg (fun k => gI u 218 k) := RX_vg h
  refine gQ_v0 (A := fun z_l => (∀ k, k < 340 → gI z_l 220 k = gI u 218 k) ∧ (∀ k, gI z_l 218 k = gI u 218 k) ∧ gI z_l 217 0 = 0 ∧ Fw WM u z_l) (mo_185 hJ) (fun s5 h5 => ?_)
  obtain ⟨-, x3, x4_l, x5_l⟩ := h5
  exact gQ_w1 (A := fun _ z_l => Mv z_l (daysF T lu m (fun k => gI u 218 k)) ∧ gI z_l 217 0 = 0 ∧ Fw WM u z_l ∧ ∀ k, gI z_l 220 k = gI s5 220 k) (mo_day hJ hT hm x5_l (fun k _ => x3 k) hv x4_l) (fun v_l z_l hz => k z_l hz.1 hz.2.1 (RF_fw hJ.1.2.1 hz.2.2.1))
/-- the row is put back -/
theorem mo_back (hg : RF t) {v : Int} (h0 : gI t 217 0 = 0) : gQ ((f_186 217 t).bind (gv0 (fun s10 => some ((1, v, 0, s10) : gO)))) (fun q => gI q.2.2.2 217 0 = 0 ∧ q.2.1 = v) := by
  refine gQ_v0 (A := fun z_l => gI z_l 217 0 = 0) (fun r_l hr => ?_) (fun z_l hz => gQ_ret ⟨hz, rfl⟩)
  obtain ⟨-, -, q3_l⟩ := x_186 (rr_217_1 hg).2 (rr_217_4 hg).2 r_l hr
  exact (q3_l 217 0 (by omega)).trans h0
theorem RX_e8 (hn : 232 ≤ gn s) (h : Fw WQ s u) : (fun k => gI u 218 k) = (fun k => gI s 218 k) := funext (WQ_8 hn h)
theorem uQC : ∀ a k, WQ a k = true → WC a k = true := fun a k h_l => by
  unfold WQ at h_l
  unfold WC
  cases hc : csa a with
  | true => rfl
  | false =>
    rw [hc, Bool.false_or] at h_l
    rw [h_l]
    simp only [Bool.or_true]
theorem law_Q (hJ : J p s) (hT : Tlw s 218 9 T) (hf : Fw WQ s u) : Tlw u 218 9 T := law_C hJ hT (Fw_tr (Fw_rf hJ.1.1) hf uQC)
theorem eq_d {d : Int} (h : V 14 = d) : Eq14 (up V 14 d) V := fun k_l hk => up_n hk
theorem up_id (h : V k = d) : up V k d = V := by
  funext j
  unfold up
  split
  · rename_i e
    rw [e, h]
  · rfl
theorem RX_18 (h : RX s) : gI s 15 9 = gI s 218 14 := xr h.2 cjc.2.2.2 KK_c.2.2.2.2.2.2.2.2.2.2.2
/-- owes -/
theorem mo_220 (hJ : J p u) (h : RX u) (hT : Tlw u 218 9 T) : gQ (f_220 217 a1 u) (fun q => ((0 ≤ a1 ∧ a1 ≤ 200) ∧ gI q.2.2.2 217 0 = 0 ∧ q.2.1 = daysF T 0 a1.toNat (fun k => gI u 218 k) 9) ∨ (¬ (0 ≤ a1 ∧ a1 ≤ 200) ∧ gI q.2.2.2 217 0 = 1)) := by
  unfold f_220
  refine gQ_w1 (A := fun v_l z_l => v_l = (if 0 ≤ a1 ∧ a1 ≤ 200 then 1 else 0) ∧ z_l = u) m_150 (fun v_l z_l hz => ?_)
  obtain ⟨z1, z2⟩ := hz
  rw [z1, z2]
  unfold fb_220_17
  dsimp only
  by_cases c : 0 ≤ a1 ∧ a1 ≤ 200
  · obtain ⟨m_l, hm_l⟩ : ∃ m_l : Nat, a1 = (m_l : Int) := ⟨a1.toNat, by omega⟩
    rw [if_pos c, if_neg (by decide), m0, if_neg (by decide), hm_l, Int.toNat_natCast]
    refine mo_run hJ h hT (by omega) (fun t_l ht h0 hg => ?_)
    rw [(rr_217_1 hg).2, ht 9 (by decide)]
    exact fun q hq => Or.inl ⟨by omega, mo_back hg h0 q hq⟩
  · rw [if_neg c, if_pos rfl, m0, if_pos (by decide)]
    exact gQ_ret (Or.inr ⟨c, m0⟩)
theorem co_104 (hJ : J p s) (h : RX s) : gQ (f_104 0 a1 s) (CoX st2 (f_220 217 a1) s) := by
  have hg : RF s := hJ.1.2.1
  have hn := hJ.1.1
  obtain ⟨T, hT_l⟩ := h.2.2.2.2
  unfold f_104
  refine n_gt (by decide) n_138 (fun c_l => ?_) (fun c_l => ?_)
  · obtain ⟨m_l, hm_l⟩ : ∃ m_l : Nat, a1 = (m_l : Int) := ⟨a1.toNat, by omega⟩
    rw [(rr_0_5 hg).2]
    refine gQ_v0 (A := fun z_l => (∃ W_l, Cr z_l 42 W_l ∧ EqB W_l (daysC T 0 m_l (up (fun k_l => gI s 218 k_l) 14 (gI s 15 9)))) ∧ Fw csq s z_l) (by rw [hm_l]; exact dc_141 hJ h hT_l (Fw_rf hn) (by omega)) (fun s3_l h3 => ?_)
    obtain ⟨⟨W_l, w1_l, w2_l⟩, f3_l⟩ := h3
    rw [(rr_0_9 (RF_fw hg f3_l)).2]
    have e7_l : gI s3_l 42 7 = daysF T 0 m_l (fun k_l => gI s 218 k_l) 9 := (rd_ci w1_l (cj_c (Or.inr rfl)).2.1 KK_c.2.2.2.2.2.2.1).trans ((w2_l 9 (by decide)).trans (daysC_0 (RX_vg h) (fun k_l hk => up_n hk) m_l 9 (by decide)))
    refine gQ_ret (fun u_l p hf hu hR q_l hq => ?_)
    rcases mo_220 hu hR (law_Q hJ hT_l hf) q_l hq with ⟨-, h1, h2⟩ | ⟨h1, -⟩
    · refine ⟨h1, fun _ => ?_⟩
      rw [h2, RX_e8 hn hf, hm_l, Int.toNat_natCast]
      exact e7_l.symm
    · exact absurd c_l h1
  · intro u_l p hf hu hR q_l hq
    rcases mo_220 hu hR (law_Q hJ hT_l hf) q_l hq with ⟨h1, -⟩ | ⟨-, h1⟩
    · exact absurd h1 c_l
    · exact ⟨h1, fun z_l => by cases z_l⟩
/-- chest -/
theorem mo_221 (hJ : J p u) (h : RX u) (hT : Tlw u 218 9 T) : gQ (f_221 217 a1 u) (fun q => ((0 ≤ a1 ∧ a1 ≤ 200) ∧ gI q.2.2.2 217 0 = 0 ∧ q.2.1 = daysF T 0 a1.toNat (fun k => gI u 218 k) 8) ∨ (¬ (0 ≤ a1 ∧ a1 ≤ 200) ∧ gI q.2.2.2 217 0 = 1)) := by
  unfold f_221
  refine gQ_w1 (A := fun v_l z_l => v_l = (if 0 ≤ a1 ∧ a1 ≤ 200 then 1 else 0) ∧ z_l = u) m_150 (fun v_l z_l hz => ?_)
  obtain ⟨z1, z2⟩ := hz
  rw [z1, z2]
  unfold fb_221_17
  dsimp only
  by_cases c : 0 ≤ a1 ∧ a1 ≤ 200
  · obtain ⟨m_l, hm_l⟩ : ∃ m_l : Nat, a1 = (m_l : Int) := ⟨a1.toNat, by omega⟩
    rw [if_pos c, if_neg (by decide), m0, if_neg (by decide), hm_l, Int.toNat_natCast]
    refine mo_run hJ h hT (by omega) (fun t_l ht h0 hg => ?_)
    rw [(rr_217_1 hg).2, ht 8 (by decide)]
    exact fun q hq => Or.inl ⟨by omega, mo_back hg h0 q hq⟩
  · rw [if_neg c, if_pos rfl, m0, if_pos (by decide)]
    exact gQ_ret (Or.inr ⟨c, m0⟩)
theorem co_105 (hJ : J p s) (h : RX s) : gQ (f_105 0 a1 s) (CoX st2 (f_221 217 a1) s) := by
  have hg : RF s := hJ.1.2.1
  have hn := hJ.1.1
  obtain ⟨T, hT_l⟩ := h.2.2.2.2
  unfold f_105
  refine n_gt (by decide) n_138 (fun c_l => ?_) (fun c_l => ?_)
  · obtain ⟨m_l, hm_l⟩ : ∃ m_l : Nat, a1 = (m_l : Int) := ⟨a1.toNat, by omega⟩
    rw [(rr_0_5 hg).2]
    refine gQ_v0 (A := fun z_l => (∃ W_l, Cr z_l 42 W_l ∧ EqB W_l (daysC T 0 m_l (up (fun k_l => gI s 218 k_l) 14 (gI s 15 9)))) ∧ Fw csq s z_l) (by rw [hm_l]; exact dc_141 hJ h hT_l (Fw_rf hn) (by omega)) (fun s3_l h3 => ?_)
    obtain ⟨⟨W_l, w1_l, w2_l⟩, f3_l⟩ := h3
    rw [(rr_0_9 (RF_fw hg f3_l)).2]
    have e7_l : gI s3_l 42 6 = daysF T 0 m_l (fun k_l => gI s 218 k_l) 8 := (rd_ci w1_l (cj_c (Or.inr rfl)).1 KK_c.2.2.2.2.2.1).trans ((w2_l 8 (by decide)).trans (daysC_0 (RX_vg h) (fun k_l hk => up_n hk) m_l 8 (by decide)))
    refine gQ_ret (fun u_l p hf hu hR q_l hq => ?_)
    rcases mo_221 hu hR (law_Q hJ hT_l hf) q_l hq with ⟨-, h1, h2⟩ | ⟨h1, -⟩
    · refine ⟨h1, fun _ => ?_⟩
      rw [h2, RX_e8 hn hf, hm_l, Int.toNat_natCast]
      exact e7_l.symm
    · exact absurd c_l h1
  · intro u_l p hf hu hR q_l hq
    rcases mo_221 hu hR (law_Q hJ hT_l hf) q_l hq with ⟨h1, -⟩ | ⟨-, h1⟩
    · exact absurd h1 c_l
    · exact ⟨h1, fun z_l => by cases z_l⟩
theorem xc_291 (hJ : J p s) (h : RX s) : gQ (f_291 0 a1 231 s) (fun r => Xc (f_221 217 a1) r.2.1 r.2.2.2) := by
  unfold f_291
  refine xc2 (st := st2) (fun _ => True) hJ.1.1 (co_105 hJ h) (fun r hr => o_105 hJ.1.2.1 cid rfl (Fw_rf hJ.1.1) r hr) (fun _ _ _ => trivial) rfl (fun v_l t_l _ => aX trivial) (fun k_l t_l => ?_) (fun u_l p hu _ q_l hq => (om_221 hu.1.2.1 um uA (Jm hu) rfl rfl (JF hu) q_l hq).2.2 231 0 (Nat.lt_of_lt_of_le (by decide) hu.1.1) rfl)
  by_cases c0 : k_l = 0
  · rw [if_pos c0, c0]
    exact gQ_ret ⟨rfl, (by decide : (1 : Int) ≠ 0), rfl⟩
  rw [if_neg c0]
  exact gQ_none
theorem xc_290 (hJ : J p s) (h : RX s) : gQ (f_290 0 a1 231 s) (fun r => Xc (f_220 217 a1) r.2.1 r.2.2.2) := by
  unfold f_290
  refine xc2 (st := st2) (fun _ => True) hJ.1.1 (co_104 hJ h) (fun r hr => o_104 hJ.1.2.1 cid rfl (Fw_rf hJ.1.1) r hr) (fun _ _ _ => trivial) rfl (fun v_l t_l _ => aX trivial) (fun k_l t_l => ?_) (fun u_l p hu _ q_l hq => (om_220 hu.1.2.1 um uA (Jm hu) rfl rfl (JF hu) q_l hq).2.2 231 0 (Nat.lt_of_lt_of_le (by decide) hu.1.1) rfl)
  by_cases c0 : k_l = 0
  · rw [if_pos c0, c0]
    exact gQ_ret ⟨rfl, (by decide : (1 : Int) ≠ 0), rfl⟩
  rw [if_neg c0]
  exact gQ_none
end Qb
/-! ahead -/
def st8 (n : Nat) : Int := if n = 5 then 1 else if n = 2 then 2 else if n = 4 then 3 else 0
def ahJ (x : Int) : Nat := if x = 0 then 0 else if x = 1 then 3 else if x = 2 then 4 else 5
section Qc
variable {s t u g : gS} {p : gP} {a1 a2 a3 v d lu : Int} {a k i j n m : Nat} {V W : Nat → Int} {T : (Nat → Int) → Int}
theorem ahJ_b {x : Int} : ahJ x < 6 := by
  unfold ahJ
  split
  · decide
  · split
    · decide
    · split <;> decide
theorem mo_219 (hJ : J p u) (h : RX u) (hT : Tlw u 218 9 T) : gQ (f_219 217 a1 a2 a3 u) (fun q => ((0 ≤ a1 ∧ a1 < gI u 218 4) ∧ (0 ≤ a2 ∧ a2 ≤ 200) ∧ (0 ≤ a3 ∧ a3 ≤ 3) ∧ gI q.2.2.2 217 0 = 0 ∧ q.2.1 = daysF T 0 a2.toNat (fun k => gI u 218 k) (40 + 6 * a1.toNat + ahJ a3)) ∨ (¬ (0 ≤ a1 ∧ a1 < gI u 218 4) ∧ gI q.2.2.2 217 0 = 1) ∨ ((0 ≤ a1 ∧ a1 < gI u 218 4) ∧ ¬ (0 ≤ a2 ∧ a2 ≤ 200) ∧ gI q.2.2.2 217 0 = 2) ∨ ((0 ≤ a1 ∧ a1 < gI u 218 4) ∧ (0 ≤ a2 ∧ a2 ≤ 200) ∧ ¬ (0 ≤ a3 ∧ a3 ≤ 3) ∧ gI q.2.2.2 217 0 = 3)) := by
  have hv := (Jv hJ).2.1
  unfold f_219 f_162
  rw [(rr_217_1 hJ.1.2.1).2]
  refine m_n (by omega) (fun c1_l => ?_) (fun c1_l => ?_)
  · rw [if_neg (by decide)]
    refine gQ_w1 (A := fun v_l z_l => v_l = (if 0 ≤ a2 ∧ a2 ≤ 200 then 1 else 0) ∧ z_l = u) m_150 (fun v_l z_l hz => ?_)
    obtain ⟨z1, z2⟩ := hz
    rw [z1, z2]
    by_cases c2 : 0 ≤ a2 ∧ a2 ≤ 200
    · rw [if_pos c2, if_neg (by decide)]
      refine gQ_w1 (A := fun v_l z_l => v_l = (if 0 ≤ a3 ∧ a3 ≤ 3 then 1 else 0) ∧ z_l = u) m_150 (fun v_l z_l hz => ?_)
      obtain ⟨z3, z4⟩ := hz
      rw [z3, z4]
      by_cases c3 : 0 ≤ a3 ∧ a3 ≤ 3
      · rw [if_pos c3, if_neg (by decide)]
        obtain ⟨m_l, hm_l⟩ : ∃ m_l : Nat, a2 = (m_l : Int) := ⟨a2.toNat, by omega⟩
        obtain ⟨i_l, hi_l⟩ : ∃ i_l : Nat, a1 = (i_l : Int) := ⟨a1.toNat, by omega⟩
        have hi6 : i_l < 6 := by omega
        unfold fb_219_42
        dsimp only
        rw [m0, if_neg (by decide), hm_l, hi_l, Int.toNat_natCast, Int.toNat_natCast]
        refine mo_run hJ h hT (by omega) (fun t_l ht h0 hg => ?_)
        have fin_l : ∀ j_l : Nat, j_l < 6 → ahJ a3 = j_l → ∀ I_l : Int, I_l = (j_l : Int) → gQ ((f_156 217 (i_l : Int) I_l t_l).bind (gv1 (fun v_l z_l => fb_219_113 217 v_l z_l))) (fun q => ((0 ≤ (i_l : Int) ∧ (i_l : Int) < gI u 218 4) ∧ (0 ≤ (m_l : Int) ∧ (m_l : Int) ≤ 200) ∧ (0 ≤ a3 ∧ a3 ≤ 3) ∧ gI q.2.2.2 217 0 = 0 ∧ q.2.1 = daysF T 0 m_l (fun k => gI u 218 k) (40 + 6 * i_l + ahJ a3)) ∨ (¬ (0 ≤ (i_l : Int) ∧ (i_l : Int) < gI u 218 4) ∧ gI q.2.2.2 217 0 = 1) ∨ ((0 ≤ (i_l : Int) ∧ (i_l : Int) < gI u 218 4) ∧ ¬ (0 ≤ (m_l : Int) ∧ (m_l : Int) ≤ 200) ∧ gI q.2.2.2 217 0 = 2) ∨ ((0 ≤ (i_l : Int) ∧ (i_l : Int) < gI u 218 4) ∧ (0 ≤ (m_l : Int) ∧ (m_l : Int) ≤ 200) ∧ ¬ (0 ≤ a3 ∧ a3 ≤ 3) ∧ gI q.2.2.2 217 0 = 3)) := fun j_l hj e_l I_l eI => by
          refine gQ_w1 (A := fun v_l z_l => v_l = gI t_l 218 (40 + 6 * i_l + j_l) ∧ z_l = t_l) (v156 (rr_217_1 hg).2 hi6 hj eI) (fun v_l z_l hz => ?_)
          obtain ⟨y1, y2⟩ := hz
          rw [y1, y2, ht _ (by omega)]
          unfold fb_219_113
          refine fun q hq => Or.inl ⟨⟨by omega, by omega⟩, ⟨by omega, by omega⟩, c3, ?_⟩
          rw [e_l]
          exact mo_back hg h0 q hq
        by_cases d0 : a3 = 0
        · rw [if_pos d0]
          exact fin_l 0 (by decide) (if_pos d0) 0 rfl
        rw [if_neg d0]
        by_cases d1 : a3 = 1
        · rw [if_pos d1]
          exact fin_l 3 (by decide) ((if_neg d0).trans (if_pos d1)) 3 rfl
        rw [if_neg d1]
        by_cases d2 : a3 = 2
        · rw [if_pos d2]
          exact fin_l 4 (by decide) ((if_neg d0).trans ((if_neg d1).trans (if_pos d2))) 4 rfl
        rw [if_neg d2]
        exact fin_l 5 (by decide) ((if_neg d0).trans ((if_neg d1).trans (if_neg d2))) 5 rfl
      · rw [if_neg c3, if_pos rfl]
        unfold fb_219_42
        dsimp only
        rw [m0, if_pos (by decide)]
        exact gQ_ret (Or.inr (Or.inr (Or.inr ⟨c1_l, c2, c3, m0⟩)))
    · rw [if_neg c2, if_pos rfl]
      unfold fb_219_42
      dsimp only
      rw [m0, if_pos (by decide)]
      exact gQ_ret (Or.inr (Or.inr (Or.inl ⟨c1_l, c2, m0⟩)))
  · rw [if_pos rfl]
    unfold fb_219_42
    dsimp only
    rw [m0, if_pos (by decide)]
    exact gQ_ret (Or.inr (Or.inl ⟨c1_l, m0⟩))
theorem co_103 (hJ : J p s) (h : RX s) : gQ (f_103 0 a1 a2 a3 s) (CoX st8 (f_219 217 a1 a2 a3) s) := by
  have hg : RF s := hJ.1.2.1
  have hn := hJ.1.1
  have hv := (Jv hJ).2.1
  obtain ⟨T, hT_l⟩ := h.2.2.2.2
  unfold f_103
  refine n_gt (by decide) (n_135 hg h.1) (fun c1_l => ?_) (fun c1_l => ?_)
  · refine n_gt (by decide) n_138 (fun c2_l => ?_) (fun c2_l => ?_)
    · have bad_l : ¬ (0 ≤ a3 ∧ a3 ≤ 3) → gQ (fb_103_23 s) (CoX st8 (f_219 217 a1 a2 a3) s) := fun c3_l => by
        unfold fb_103_23
        refine gQ_ret (fun u_l p hf hu hR q_l hq => ?_)
        have e4_l := WQ_8 hn hf 4
        rcases mo_219 hu hR (law_Q hJ hT_l hf) q_l hq with ⟨-, -, h1, -⟩ | ⟨h1, -⟩ | ⟨-, h1, -⟩ | ⟨-, -, -, h1⟩
        · exact absurd h1 c3_l
        · rw [e4_l] at h1
          exact absurd c1_l h1
        · exact absurd c2_l h1
        · exact ⟨h1, fun z_l => by cases z_l⟩
      by_cases d1 : a3 < 0
      · rw [if_pos d1]
        exact bad_l (by omega)
      rw [if_neg d1]
      by_cases d2 : 3 < a3
      · rw [if_pos d2]
        exact bad_l (by omega)
      rw [if_neg d2]
      obtain ⟨m_l, hm_l⟩ : ∃ m_l : Nat, a2 = (m_l : Int) := ⟨a2.toNat, by omega⟩
      rw [(rr_0_5 hg).2]
      refine gQ_v0 (A := fun z_l => (∃ W_l, Cr z_l 42 W_l ∧ EqB W_l (daysC T 0 m_l (up (fun k_l => gI s 218 k_l) 14 (gI s 15 9)))) ∧ Fw csq s z_l) (by rw [hm_l]; exact dc_141 hJ h hT_l (Fw_rf hn) (by omega)) (fun s3_l h3 => ?_)
      obtain ⟨⟨W_l, w1_l, w2_l⟩, f3_l⟩ := h3
      have hg3 := RF_fw hg f3_l
      have hi6 : a1.toNat < 6 := by omega
      rw [(rr_0_9 hg3).2, (rr_42_0 hg3).2, (Rc9_42 hg3).1.2 a1.toNat hi6]
      refine gQ_chk ?_
      dsimp only
      have key_l : ∀ j_l, j_l < 6 → ahJ a3 = j_l → CoX st8 (f_219 217 a1 a2 a3) s (1, gI s3_l (42 + 6 + a1.toNat) j_l, 0, s3_l) := fun j_l hj e_l u_l p hf hu hR q_l hq => by
        have e4_l := WQ_8 hn hf 4
        have e7_l : gI s3_l (42 + 6 + a1.toNat) j_l = daysF T 0 m_l (fun k_l => gI s 218 k_l) (40 + 6 * a1.toNat + j_l) := (rd_m (Or.inr rfl) w1_l hi6 hj).trans ((w2_l _ (by omega)).trans (daysC_0 (RX_vg h) (fun k_l hk => up_n hk) m_l _ (by omega)))
        rcases mo_219 hu hR (law_Q hJ hT_l hf) q_l hq with ⟨-, -, -, h1, h2⟩ | ⟨h1, -⟩ | ⟨-, h1, -⟩ | ⟨-, -, h1, -⟩
        · refine ⟨h1, fun _ => ?_⟩
          rw [h2, RX_e8 hn hf, e_l, hm_l, Int.toNat_natCast]
          exact e7_l.symm
        · rw [e4_l] at h1
          exact absurd c1_l h1
        · exact absurd c2_l h1
        · exact absurd ⟨by omega, by omega⟩ h1
      rw [if_neg d1]
      by_cases g0 : a3 < 1
      · rw [if_pos g0]
        exact gQ_ret (key_l 0 (by decide) (if_pos (by omega)))
      rw [if_neg g0]
      by_cases g1 : a3 < 2
      · rw [if_pos g1]
        exact gQ_ret (key_l 3 (by decide) ((if_neg (by omega)).trans (if_pos (by omega))))
      rw [if_neg g1]
      by_cases g2 : a3 < 3
      · rw [if_pos g2]
        exact gQ_ret (key_l 4 (by decide) ((if_neg (by omega)).trans ((if_neg (by omega)).trans (if_pos (by omega)))))
      rw [if_neg g2]
      exact gQ_ret (key_l 5 (by decide) ((if_neg (by omega)).trans ((if_neg (by omega)).trans (if_neg (by omega)))))
    · intro u_l p hf hu hR q_l hq
      have e4_l := WQ_8 hn hf 4
      rcases mo_219 hu hR (law_Q hJ hT_l hf) q_l hq with ⟨-, h1, -⟩ | ⟨h1, -⟩ | ⟨-, -, h1⟩ | ⟨-, h1, -⟩
      · exact absurd h1 c2_l
      · rw [e4_l] at h1
        exact absurd c1_l h1
      · exact ⟨h1, fun z_l => by cases z_l⟩
      · exact absurd h1 c2_l
  · intro u_l p hf hu hR q_l hq
    have e4_l := WQ_8 hn hf 4
    rcases mo_219 hu hR (law_Q hJ hT_l hf) q_l hq with ⟨h1, -⟩ | ⟨-, h1⟩ | ⟨h1, -⟩ | ⟨h1, -⟩
    · rw [e4_l] at h1
      exact absurd h1 c1_l
    · exact ⟨h1, fun z_l => by cases z_l⟩
    · rw [e4_l] at h1
      exact absurd h1 c1_l
    · rw [e4_l] at h1
      exact absurd h1 c1_l
theorem xc_289 (hJ : J p s) (h : RX s) : gQ (f_289 0 a1 a2 a3 231 s) (fun r => Xc (f_219 217 a1 a2 a3) r.2.1 r.2.2.2) := by
  unfold f_289
  refine xc2 (st := st8) (fun _ => True) hJ.1.1 (co_103 hJ h) (fun r hr => o_103 hJ.1.2.1 cid rfl (Fw_rf hJ.1.1) r hr) (fun _ _ _ => trivial) rfl (fun v_l t_l _ => aX trivial) (fun k_l t_l => ?_) (fun u_l p hu _ q_l hq => (om_219 hu.1.2.1 um uA (Jm hu) rfl rfl (JF hu) q_l hq).2.2 231 0 (Nat.lt_of_lt_of_le (by decide) hu.1.1) rfl)
  by_cases c0 : k_l = 3
  · rw [if_pos c0, c0]
    exact gQ_ret ⟨rfl, (by decide : (1 : Int) ≠ 0), rfl⟩
  rw [if_neg c0]
  by_cases c1 : k_l = 0
  · rw [if_pos c1, c1]
    exact gQ_ret ⟨rfl, (by decide : (2 : Int) ≠ 0), rfl⟩
  rw [if_neg c1]
  by_cases c2 : k_l = 2
  · rw [if_pos c2, c2]
    exact gQ_ret ⟨rfl, (by decide : (3 : Int) ≠ 0), rfl⟩
  rw [if_neg c2]
  exact gQ_none
end Qc

end
section
/-! trial and span -/
/-- the mask of the men that are kept -/
def mkS (V : Nat → Int) : Nat → Int
  | 0 => 0
  | n + 1 => if V (40 + 6 * n + 5) = 0 then gor (mkS V n) (gshl 1 (n : Int)) else mkS V n
/-- the least, or the most, over the draws -/
def spF (T : (Nat → Int) → Int) (m : Nat) (V : Nat → Int) (b : Int) : Nat → Int
  | 0 => -1
  | n + 1 => if spF T m V b n = -1 then daysF T 1 m (up V 14 ((n : Int) + 1)) 8 else if b = 0 then min (spF T m V b n) (daysF T 1 m (up V 14 ((n : Int) + 1)) 8) else max (spF T m V b n) (daysF T 1 m (up V 14 ((n : Int) + 1)) 8)
section Qd
variable {s t u g : gS} {p : gP} {a1 a2 a3 v d lu : Int} {a k i j n m : Nat} {V W : Nat → Int} {T : (Nat → Int) → Int}
theorem mkS_b (n : Nat) (hn : n ≤ 6) : 0 ≤ mkS V n ∧ mkS V n < 64 := by
  induction n with
  | zero => exact ⟨Int.le_refl 0, (by decide : (0 : Int) < 64)⟩
  | succ n ih_l =>
    have h1 := ih_l (by omega)
    show 0 ≤ (if V (40 + 6 * n + 5) = 0 then gor (mkS V n) (gshl 1 (n : Int)) else mkS V n) ∧ (if V (40 + 6 * n + 5) = 0 then gor (mkS V n) (gshl 1 (n : Int)) else mkS V n) < 64
    have hb_l := gshl_5 (x := (n : Int)) (by omega)
    have hlt := gor_lt (x := mkS V n) (y := gshl 1 (n : Int)) 6 (by decide) ⟨h1.1, h1.2⟩ ⟨by omega, by show gshl 1 (n : Int) < 64; omega⟩
    have hlt2 : gor (mkS V n) (gshl 1 (n : Int)) < 64 := hlt.2
    split
    · exact ⟨hlt.1, hlt2⟩
    · exact h1
theorem mkS_e (h : EqB W V) (n : Nat) : mkS W n = mkS V n := by
  induction n with
  | zero => rfl
  | succ n ih_l =>
    show (if W (40 + 6 * n + 5) = 0 then gor (mkS W n) (gshl 1 (n : Int)) else mkS W n) = (if V (40 + 6 * n + 5) = 0 then gor (mkS V n) (gshl 1 (n : Int)) else mkS V n)
    rw [ih_l, h _ (by omega)]
theorem c29 (hg : RF t) (h : Cr t 42 W) (h4 : 0 ≤ W 4 ∧ W 4 ≤ 6) : gQ (f_29 42 0 t) (fun r => r.2.1 = mkS W (W 4).toNat ∧ r.2.2.2 = t) := by
  unfold f_29
  refine gQ_loop (fun y_l => ∃ n_l : Nat, y_l = (42, 0, mkS W n_l, (n_l : Int), t) ∧ (n_l : Int) ≤ W 4) (fun y_l hy => ?_) ⟨0, rfl, h4.1⟩
  obtain ⟨n_l, rfl, hn⟩ := hy
  show gQ (sb_29_4 42 0 (mkS W n_l) (n_l : Int) t) _
  unfold sb_29_4
  rw [(rd_b h).2.2.2]
  by_cases c : (n_l : Int) < W 4
  · have hi_l : n_l < 6 := by omega
    rw [if_pos c, Int.toNat_natCast, (rr_42_0 hg).2, (Rc9_42 hg).1.2 n_l hi_l, rd_m (Or.inr rfl) h hi_l (j := 5) (by decide)]
    refine gQ_chk ?_
    have eg : g32 ((n_l : Int) + 1) = ((n_l + 1 : Nat) : Int) := (g32_eq (v := (n_l : Int) + 1) (by omega) (by omega)).trans (by omega)
    by_cases c3 : W (40 + 6 * n_l + 5) = 0
    · rw [if_pos c3, eg]
      refine gQ_ret ⟨n_l + 1, ?_, by omega⟩
      show _ = (42, 0, (if W (40 + 6 * n_l + 5) = 0 then gor (mkS W n_l) (gshl 1 (n_l : Int)) else mkS W n_l), ((n_l + 1 : Nat) : Int), t)
      rw [if_pos c3]
    · rw [if_neg c3, eg]
      refine gQ_ret ⟨n_l + 1, ?_, by omega⟩
      show _ = (42, 0, (if W (40 + 6 * n_l + 5) = 0 then gor (mkS W n_l) (gshl 1 (n_l : Int)) else mkS W n_l), ((n_l + 1 : Nat) : Int), t)
      rw [if_neg c3]
  · rw [if_neg c]
    have en : (W 4).toNat = n_l := by omega
    rw [en]
    exact gQ_map (gQ_ret ⟨rfl, rfl⟩)
theorem m252 (hg : RF t) (h : Mv t V) (h4 : 0 ≤ V 4 ∧ V 4 ≤ 6) : gQ (f_252 217 0 t) (fun r => r.2.1 = mkS V (V 4).toNat ∧ r.2.2.2 = t) := by
  unfold f_252
  refine gQ_loop (fun y_l => ∃ n_l : Nat, y_l = (217, 0, mkS V n_l, (n_l : Int), t) ∧ (n_l : Int) ≤ V 4) (fun y_l hy => ?_) ⟨0, rfl, h4.1⟩
  obtain ⟨n_l, rfl, hn⟩ := hy
  show gQ (sb_252_4 217 0 (mkS V n_l) (n_l : Int) t) _
  unfold sb_252_4
  rw [(rr_217_1 hg).2, h 4 (by decide)]
  by_cases c : (n_l : Int) < V 4
  · have hi_l : n_l < 6 := by omega
    rw [if_pos c]
    have eg : g32 ((n_l : Int) + 1) = ((n_l + 1 : Nat) : Int) := (g32_eq (v := (n_l : Int) + 1) (by omega) (by omega)).trans (by omega)
    refine gQ_w1 (A := fun v_l z_l => v_l = V (40 + 6 * n_l + 5) ∧ z_l = t) (fun r hr => ?_) (fun v_l z_l hz => ?_)
    · obtain ⟨q1_l, q2_l⟩ := v156 (j := 5) (rr_217_1 hg).2 hi_l (by decide) rfl r hr
      exact ⟨q1_l.trans (h _ (by omega)), q2_l⟩
    obtain ⟨z1, z2⟩ := hz
    rw [z1, z2]
    by_cases c3 : V (40 + 6 * n_l + 5) = 0
    · rw [if_pos c3, eg]
      refine gQ_ret ⟨n_l + 1, ?_, by omega⟩
      show _ = (217, 0, (if V (40 + 6 * n_l + 5) = 0 then gor (mkS V n_l) (gshl 1 (n_l : Int)) else mkS V n_l), ((n_l + 1 : Nat) : Int), t)
      rw [if_pos c3]
    · rw [if_neg c3, eg, gor0 (mkS_b n_l (by omega))]
      refine gQ_ret ⟨n_l + 1, ?_, by omega⟩
      show _ = (217, 0, (if V (40 + 6 * n_l + 5) = 0 then gor (mkS V n_l) (gshl 1 (n_l : Int)) else mkS V n_l), ((n_l + 1 : Nat) : Int), t)
      rw [if_neg c3]
  · rw [if_neg c]
    have en : (V 4).toNat = n_l := by omega
    rw [en]
    exact gQ_map (gQ_ret ⟨rfl, rfl⟩)
/-- trial -/
theorem mo_254 (hJ : J p u) (h : RX u) (hT : Tlw u 218 9 T) : gQ (f_254 217 a1 a2 u) (fun q => ((0 ≤ a1 ∧ a1 ≤ 200) ∧ gI q.2.2.2 217 0 = 0 ∧ q.2.1 = (if a2 = 0 then daysF T 1 a1.toNat (fun k => gI u 218 k) 8 else pcs (mkS (daysF T 1 a1.toNat (fun k => gI u 218 k)) (daysF T 1 a1.toNat (fun k => gI u 218 k) 4).toNat) 31)) ∨ (¬ (0 ≤ a1 ∧ a1 ≤ 200) ∧ gI q.2.2.2 217 0 = 1)) := by
  unfold f_254
  refine gQ_w1 (A := fun v_l z_l => v_l = (if 0 ≤ a1 ∧ a1 ≤ 200 then 1 else 0) ∧ z_l = u) m_150 (fun v_l z_l hz => ?_)
  obtain ⟨z1, z2⟩ := hz
  rw [z1, z2]
  unfold fb_254_17
  dsimp only
  by_cases c : 0 ≤ a1 ∧ a1 ≤ 200
  · obtain ⟨m_l, hm_l⟩ : ∃ m_l : Nat, a1 = (m_l : Int) := ⟨a1.toNat, by omega⟩
    rw [if_pos c, if_neg (by decide), m0, if_neg (by decide), hm_l, Int.toNat_natCast]
    refine mo_run hJ h hT (by omega) (fun t_l ht h0 hg => ?_)
    have h4 := (Vg_days (T := T) (lu := 1) (RX_vg h) m_l).1.2
    by_cases c2 : a2 = 0
    · rw [if_pos c2, if_pos c2, (rr_217_1 hg).2, ht 8 (by decide)]
      unfold fb_254_62
      exact fun q hq => Or.inl ⟨by omega, mo_back hg h0 q hq⟩
    · rw [if_neg c2, if_neg c2]
      refine gQ_w1 (A := fun v_l z_l => v_l = mkS (daysF T 1 m_l (fun k => gI u 218 k)) (daysF T 1 m_l (fun k => gI u 218 k) 4).toNat ∧ z_l = t_l) (m252 hg ht h4) (fun v_l z_l hz => ?_)
      obtain ⟨y1, y2⟩ := hz
      rw [y1, y2]
      refine gQ_w1 (A := fun v_l z_l => v_l = pcs (mkS (daysF T 1 m_l (fun k => gI u 218 k)) (daysF T 1 m_l (fun k => gI u 218 k) 4).toNat) 31 ∧ z_l = t_l) p_154 (fun v_l z_l hz => ?_)
      obtain ⟨y3, y4⟩ := hz
      rw [y3, y4]
      unfold fb_254_62
      exact fun q hq => Or.inl ⟨by omega, mo_back hg h0 q hq⟩
  · rw [if_neg c, if_pos rfl, m0, if_pos (by decide)]
    exact gQ_ret (Or.inr ⟨c, m0⟩)
theorem lu_9 (hJ : J p g) (h : RX g) (hf : Fw csq g s) : gI s 9 8 = gI g 218 11 := (hf.2.2 9 8 (Nat.lt_of_lt_of_le (by decide) hJ.1.1) rfl).trans (ce_n h.1).2.2.2.2
theorem co_125 (hJ : J p s) (h : RX s) : gQ (f_125 0 a1 a2 s) (CoX st2 (f_254 217 a1 a2) s) := by
  have hg : RF s := hJ.1.2.1
  have hn := hJ.1.1
  obtain ⟨T, hT_l⟩ := h.2.2.2.2
  unfold f_125
  refine n_gt (by decide) n_138 (fun c_l => ?_) (fun c_l => ?_)
  · obtain ⟨m_l, hm_l⟩ : ∃ m_l : Nat, a1 = (m_l : Int) := ⟨a1.toNat, by omega⟩
    rw [(rr_0_5 hg).2, (rr_0_4 hg).2, lu_9 hJ h (Fw_rf hn), RX_18 h]
    have ev_l : daysC T (gI s 218 11) m_l (up (fun k_l => gI s 218 k_l) 14 (gI s 218 14)) = daysF T 1 m_l (fun k_l => gI s 218 k_l) := by
      rw [up_id (V := fun k_l => gI s 218 k_l) (k := 14) rfl]
      exact daysC_1 (V := fun k_l => gI s 218 k_l) (RX_vg h) m_l
    refine gQ_v0 (A := fun z_l => (∃ W_l, Cr z_l 42 W_l ∧ EqB W_l (daysF T 1 m_l (fun k_l => gI s 218 k_l))) ∧ Fw csq s z_l) (by rw [hm_l, ← ev_l]; exact dc_141 hJ h hT_l (Fw_rf hn) (by omega)) (fun s3_l h3 => ?_)
    obtain ⟨⟨W_l, w1_l, w2_l⟩, f3_l⟩ := h3
    have hg3 := RF_fw hg f3_l
    have h4 := (Vg_days (T := T) (lu := 1) (RX_vg h) m_l).1.2
    rw [(rr_0_9 hg3).2]
    have key_l : ∀ x_l (k_l : Nat) (z_l : gS), x_l = (if a2 = 0 then daysF T 1 m_l (fun k_l => gI s 218 k_l) 8 else pcs (mkS (daysF T 1 m_l (fun k_l => gI s 218 k_l)) (daysF T 1 m_l (fun k_l => gI s 218 k_l) 4).toNat) 31) → CoX st2 (f_254 217 a1 a2) s (1, x_l, 0, z_l) := fun x_l k_l z_l hx u_l p hf hu hR q_l hq => by
      rcases mo_254 hu hR (law_Q hJ hT_l hf) q_l hq with ⟨-, h1, h2⟩ | ⟨h1, -⟩
      · refine ⟨h1, fun _ => ?_⟩
        rw [h2, RX_e8 hn hf, hm_l, Int.toNat_natCast]
        exact hx.symm
      · exact absurd c_l h1
    by_cases c2 : a2 = 0
    · rw [if_pos c2]
      refine gQ_ret (key_l _ 0 _ ?_)
      rw [if_pos c2]
      exact (rd_ci w1_l (cj_c (Or.inr rfl)).1 KK_c.2.2.2.2.2.1).trans (w2_l 8 (by decide))
    · rw [if_neg c2]
      have e4_l : W_l 4 = daysF T 1 m_l (fun k_l => gI s 218 k_l) 4 := w2_l 4 (by decide)
      refine gQ_w1 (A := fun v_l z_l => v_l = mkS (daysF T 1 m_l (fun k_l => gI s 218 k_l)) (daysF T 1 m_l (fun k_l => gI s 218 k_l) 4).toNat ∧ z_l = s3_l) (fun r_l hr => ?_) (fun v_l z_l hz => ?_)
      · obtain ⟨q1_l, q2_l⟩ := c29 hg3 w1_l (by rw [e4_l]; exact h4) r_l hr
        exact ⟨by rw [q1_l, e4_l, mkS_e w2_l], q2_l⟩
      obtain ⟨y1, y2⟩ := hz
      rw [y1, y2]
      refine gQ_w1 (A := fun v_l _ => v_l = bcn (mkS (daysF T 1 m_l (fun k_l => gI s 218 k_l)) (daysF T 1 m_l (fun k_l => gI s 218 k_l) 4).toNat)) (fun r_l hr => (p_264 r_l hr).1) (fun v_l z_l hz => gQ_ret (key_l _ 0 _ ?_))
      rw [if_neg c2, hz]
      exact bc_pc (mkS_b _ (by omega))
  · intro u_l p hf hu hR q_l hq
    rcases mo_254 hu hR (law_Q hJ hT_l hf) q_l hq with ⟨h1, -⟩ | ⟨-, h1⟩
    · exact absurd h1 c_l
    · exact ⟨h1, fun z_l => by cases z_l⟩
theorem xc_306 (hJ : J p s) (h : RX s) : gQ (f_306 0 a1 a2 231 s) (fun r => Xc (f_254 217 a1 a2) r.2.1 r.2.2.2) := by
  unfold f_306
  refine xc2 (st := st2) (fun _ => True) hJ.1.1 (co_125 hJ h) (fun r hr => o_125 hJ.1.2.1 cid rfl (Fw_rf hJ.1.1) r hr) (fun _ _ _ => trivial) rfl (fun v_l t_l _ => aX trivial) (fun k_l t_l => ?_) (fun u_l p hu _ q_l hq => (om_254 hu.1.2.1 um uA (Jm hu) rfl rfl (JF hu) q_l hq).2.2 231 0 (Nat.lt_of_lt_of_le (by decide) hu.1.1) rfl)
  by_cases c0 : k_l = 0
  · rw [if_pos c0, c0]
    exact gQ_ret ⟨rfl, (by decide : (1 : Int) ≠ 0), rfl⟩
  rw [if_neg c0]
  exact gQ_none
/-- span -/
theorem mo_255 (hJ : J p u) (h : RX u) (hT : Tlw u 218 9 T) : gQ (f_255 217 a1 a2 u) (fun q => ((0 ≤ a1 ∧ a1 ≤ 200) ∧ gI q.2.2.2 217 0 = 0 ∧ q.2.1 = spF T a1.toNat (fun k => gI u 218 k) a2 6) ∨ (¬ (0 ≤ a1 ∧ a1 ≤ 200) ∧ gI q.2.2.2 217 0 = 1)) := by
  have hv := RX_vg h
  unfold f_255
  refine gQ_w1 (A := fun v_l z_l => v_l = (if 0 ≤ a1 ∧ a1 ≤ 200 then 1 else 0) ∧ z_l = u) m_150 (fun v_l z_l hz => ?_)
  obtain ⟨z1, z2⟩ := hz
  rw [z1, z2]
  unfold fb_255_17
  dsimp only
  by_cases c : 0 ≤ a1 ∧ a1 ≤ 200
  · obtain ⟨m_l, hm_l⟩ : ∃ m_l : Nat, a1 = (m_l : Int) := ⟨a1.toNat, by omega⟩
    rw [if_pos c, if_neg (by decide), m0, if_neg (by decide), hm_l, Int.toNat_natCast]
    refine gQ_v0 (A := fun z_l => (∀ k, k < 340 → gI z_l 220 k = gI u 218 k) ∧ (∀ k, gI z_l 218 k = gI u 218 k) ∧ gI z_l 217 0 = 0 ∧ Fw WM u z_l) (mo_185 hJ) (fun s5 h5 => ?_)
    obtain ⟨x2_l, x3, x4_l, x5_l⟩ := h5
    refine gQ_loop (fun y_l => ∃ (n_l : Nat) (t_l : gS), y_l = (217, (m_l : Int), a2, spF T m_l (fun k => gI u 218 k) a2 n_l, (n_l : Int) + 1, t_l) ∧ n_l ≤ 6 ∧ (∀ k, k < 340 → gI t_l 220 k = gI u 218 k) ∧ (∀ k, k < 340 → gI t_l 218 k = gI u 218 k) ∧ gI t_l 217 0 = 0 ∧ Fw WM u t_l) (fun y_l hy => ?_) ⟨0, s5, rfl, by decide, x2_l, fun k _ => x3 k, x4_l, x5_l⟩
    obtain ⟨n_l, t_l, rfl, hn, t1_l, t2_l, t3_l, t4_l⟩ := hy
    show gQ (sb_255_38 217 (m_l : Int) a2 (spF T m_l (fun k => gI u 218 k) a2 n_l) ((n_l : Int) + 1) t_l) _
    unfold sb_255_38
    by_cases c6 : 6 < (n_l : Int) + 1
    · rw [if_pos c6]
      have en : n_l = 6 := by omega
      rw [en]
      exact gQ_map (gQ_ret (Or.inl ⟨by omega, t3_l, rfl⟩))
    · rw [if_neg c6]
      have hle : n_l + 1 ≤ 6 := by omega
      have hgt : RF t_l := RF_fw hJ.1.2.1 t4_l
      dsimp only
      rw [(rr_217_1 hgt).2]
      have hv7 : Mv (gw t_l 218 14 ((n_l : Int) + 1)) (up (fun k => gI u 218 k) 14 ((n_l : Int) + 1)) := Mv_w (fun k hk => t2_l k (by omega))
      have f7_l : Fw WM u (gw t_l 218 14 ((n_l : Int) + 1)) := Fw_wv t4_l (WM_8 rfl)
      have o7 : gI (gw t_l 218 14 ((n_l : Int) + 1)) 217 0 = 0 := (rd_a rfl (by decide)).trans t3_l
      have e7_l : ∀ k, gI (gw t_l 218 14 ((n_l : Int) + 1)) 220 k = gI t_l 220 k := fun k => rd_a rfl (by decide)
      generalize gw t_l 218 14 ((n_l : Int) + 1) = s7 at hv7 f7_l o7 e7_l
      refine gQ_w1 (A := fun _ z_l => Mv z_l (daysF T 1 m_l (up (fun k => gI u 218 k) 14 ((n_l : Int) + 1))) ∧ gI z_l 217 0 = 0 ∧ Fw WM u z_l ∧ ∀ k, gI z_l 220 k = gI s7 220 k) (mo_day hJ hT (by omega) f7_l hv7 (Vg_o hv (by omega)) o7) (fun v_l z_l hz => ?_)
      obtain ⟨y1, y2, y3, y4⟩ := hz
      have hgz : RF z_l := RF_fw hJ.1.2.1 y3
      rw [(rr_217_1 hgz).2, y1 8 (by decide)]
      refine gQ_v0 (A := fun w_l => (∀ k, k < 340 → gI w_l 220 k = gI u 218 k) ∧ (∀ k, k < 340 → gI w_l 218 k = gI u 218 k) ∧ gI w_l 217 0 = 0 ∧ Fw WM u w_l) (fun r_l hr => ?_) (fun w_l hw => ?_)
      · obtain ⟨q1_l, q2_l, q3_l⟩ := x_186 (rr_217_1 hgz).2 (rr_217_4 hgz).2 r_l hr
        have e220 : ∀ k, k < 340 → gI z_l 220 k = gI u 218 k := fun k hk => (y4 k).trans ((e7_l k).trans (t1_l k hk))
        exact ⟨fun k hk => (q3_l 220 k (by omega)).trans (e220 k hk), fun k hk => (q2_l k hk).trans (e220 k hk), (q3_l 217 0 (by omega)).trans y2, Fw_sm y3 q1_l (fun a_l k ha_l hw => by
          by_cases e : a_l = 218 ∧ k < 340
          · obtain ⟨rfl, hk⟩ := e
            exact ((q2_l k hk).trans (e220 k hk)).trans (y3.2.2 218 k ha_l hw).symm
          · exact q3_l a_l k e)⟩
      obtain ⟨w1_l, w2_l, w3_l, w4_l⟩ := hw
      have eg : g32 ((n_l : Int) + 1 + 1) = ((n_l + 1 : Nat) : Int) + 1 := (g32_eq (v := (n_l : Int) + 1 + 1) (by omega) (by omega)).trans (by omega)
      rw [eg]
      have fin_l : ∀ x_l, x_l = spF T m_l (fun k => gI u 218 k) a2 (n_l + 1) → gQ (some (Sum.inl (217, (m_l : Int), a2, x_l, ((n_l + 1 : Nat) : Int) + 1, w_l)) : Option ((Nat × Int × Int × Int × Int × gS) ⊕ gO)) (Sum.elim (fun y_l => ∃ (n_l : Nat) (t_l : gS), y_l = (217, (m_l : Int), a2, spF T m_l (fun k => gI u 218 k) a2 n_l, (n_l : Int) + 1, t_l) ∧ n_l ≤ 6 ∧ (∀ k, k < 340 → gI t_l 220 k = gI u 218 k) ∧ (∀ k, k < 340 → gI t_l 218 k = gI u 218 k) ∧ gI t_l 217 0 = 0 ∧ Fw WM u t_l) (fun q => ((0 ≤ (m_l : Int) ∧ (m_l : Int) ≤ 200) ∧ gI q.2.2.2 217 0 = 0 ∧ q.2.1 = spF T m_l (fun k => gI u 218 k) a2 6) ∨ (¬ (0 ≤ (m_l : Int) ∧ (m_l : Int) ≤ 200) ∧ gI q.2.2.2 217 0 = 1))) := fun x_l hx => gQ_ret ⟨n_l + 1, w_l, by rw [hx], hle, w1_l, w2_l, w3_l, w4_l⟩
      have es : spF T m_l (fun k => gI u 218 k) a2 (n_l + 1) = (if spF T m_l (fun k => gI u 218 k) a2 n_l = -1 then daysF T 1 m_l (up (fun k => gI u 218 k) 14 ((n_l : Int) + 1)) 8 else if a2 = 0 then min (spF T m_l (fun k => gI u 218 k) a2 n_l) (daysF T 1 m_l (up (fun k => gI u 218 k) 14 ((n_l : Int) + 1)) 8) else max (spF T m_l (fun k => gI u 218 k) a2 n_l) (daysF T 1 m_l (up (fun k => gI u 218 k) 14 ((n_l : Int) + 1)) 8)) := rfl
      by_cases d1 : spF T m_l (fun k => gI u 218 k) a2 n_l = -1
      · rw [if_pos d1]
        exact fin_l _ (by rw [es, if_pos d1])
      rw [if_neg d1]
      by_cases d2 : a2 = 0
      · rw [if_pos d2]
        refine gQ_w1 (A := fun x_l y_l => x_l = min (spF T m_l (fun k => gI u 218 k) a2 n_l) (daysF T 1 m_l (up (fun k => gI u 218 k) 14 ((n_l : Int) + 1)) 8) ∧ y_l = w_l) dm_151 (fun x_l y_l hy => ?_)
        rw [hy.2]
        exact fin_l _ (by rw [hy.1, es, if_neg d1, if_pos d2])
      · rw [if_neg d2]
        refine gQ_w1 (A := fun x_l y_l => x_l = max (spF T m_l (fun k => gI u 218 k) a2 n_l) (daysF T 1 m_l (up (fun k => gI u 218 k) 14 ((n_l : Int) + 1)) 8) ∧ y_l = w_l) dm_152 (fun x_l y_l hy => ?_)
        rw [hy.2]
        exact fin_l _ (by rw [hy.1, es, if_neg d1, if_neg d2])
  · rw [if_neg c, if_pos rfl, m0, if_pos (by decide)]
    exact gQ_ret (Or.inr ⟨c, m0⟩)
theorem co_126 (hJ : J p s) (h : RX s) : gQ (f_126 0 a1 a2 s) (CoX st2 (f_255 217 a1 a2) s) := by
  have hg : RF s := hJ.1.2.1
  have hn := hJ.1.1
  have hv := RX_vg h
  obtain ⟨T, hT_l⟩ := h.2.2.2.2
  unfold f_126
  refine n_gt (by decide) n_138 (fun c_l => ?_) (fun c_l => ?_)
  · obtain ⟨m_l, hm_l⟩ : ∃ m_l : Nat, a1 = (m_l : Int) := ⟨a1.toNat, by omega⟩
    rw [hm_l]
    suffices hh : gQ (gloop st_126_14 (0, (m_l : Int), a2, -1, 1, s)) (fun r_l => r_l.1 = 1 ∧ r_l.2.1 = spF T m_l (fun k_l => gI s 218 k_l) a2 6) from fun r_l hr u_l p hf hu hR q_l hq => by
      obtain ⟨h1, h2⟩ := hh r_l hr
      rcases mo_255 hu hR (law_Q hJ hT_l hf) q_l hq with ⟨-, y1, y2⟩ | ⟨y1, -⟩
      · refine ⟨by rw [h1]; exact y1, fun _ => ?_⟩
        rw [y2, h2, RX_e8 hn hf, Int.toNat_natCast]
      · exact absurd ⟨by omega, by omega⟩ y1
    refine gQ_loop (fun y_l => ∃ (n_l : Nat) (t_l : gS), y_l = (0, (m_l : Int), a2, spF T m_l (fun k_l => gI s 218 k_l) a2 n_l, (n_l : Int) + 1, t_l) ∧ n_l ≤ 6 ∧ Fw csq s t_l) (fun y_l hy => ?_) ⟨0, s, rfl, by decide, Fw_rf hn⟩
    obtain ⟨n_l, t_l, rfl, hn6, ft⟩ := hy
    have hgt := RF_fw hg ft
    show gQ (sb_126_14 0 (m_l : Int) a2 (spF T m_l (fun k_l => gI s 218 k_l) a2 n_l) ((n_l : Int) + 1) t_l) _
    unfold sb_126_14
    by_cases c6 : 6 < (n_l : Int) + 1
    · rw [if_pos c6]
      have en : n_l = 6 := by omega
      rw [en]
      exact gQ_map (gQ_ret ⟨rfl, rfl⟩)
    · rw [if_neg c6, (rr_0_4 hgt).2, lu_9 hJ h ft]
      have hv1 : Vg (up (fun k_l => gI s 218 k_l) 14 ((n_l : Int) + 1)) := Vg_o hv (by omega)
      have ev_l : daysC T (gI s 218 11) m_l (up (fun k_l => gI s 218 k_l) 14 ((n_l : Int) + 1)) = daysF T 1 m_l (up (fun k_l => gI s 218 k_l) 14 ((n_l : Int) + 1)) := daysC_1 (V := up (fun k_l => gI s 218 k_l) 14 ((n_l : Int) + 1)) hv1 m_l
      refine gQ_v0 (A := fun z_l => (∃ W_l, Cr z_l 42 W_l ∧ EqB W_l (daysF T 1 m_l (up (fun k_l => gI s 218 k_l) 14 ((n_l : Int) + 1)))) ∧ Fw csq s z_l) (by rw [← ev_l]; exact dc_141 hJ h hT_l ft (by omega)) (fun s3_l h3 => ?_)
      obtain ⟨⟨W_l, w1_l, w2_l⟩, f3_l⟩ := h3
      have hg3 := RF_fw hg f3_l
      have e6_l : gI s3_l 42 6 = daysF T 1 m_l (up (fun k_l => gI s 218 k_l) 14 ((n_l : Int) + 1)) 8 := (rd_ci w1_l (cj_c (Or.inr rfl)).1 KK_c.2.2.2.2.2.1).trans (w2_l 8 (by decide))
      have eg : g32 ((n_l : Int) + 1 + 1) = ((n_l + 1 : Nat) : Int) + 1 := (g32_eq (v := (n_l : Int) + 1 + 1) (by omega) (by omega)).trans (by omega)
      have es : spF T m_l (fun k_l => gI s 218 k_l) a2 (n_l + 1) = (if spF T m_l (fun k_l => gI s 218 k_l) a2 n_l = -1 then daysF T 1 m_l (up (fun k_l => gI s 218 k_l) 14 ((n_l : Int) + 1)) 8 else if a2 = 0 then min (spF T m_l (fun k_l => gI s 218 k_l) a2 n_l) (daysF T 1 m_l (up (fun k_l => gI s 218 k_l) 14 ((n_l : Int) + 1)) 8) else max (spF T m_l (fun k_l => gI s 218 k_l) a2 n_l) (daysF T 1 m_l (up (fun k_l => gI s 218 k_l) 14 ((n_l : Int) + 1)) 8)) := rfl
      generalize daysF T 1 m_l (up (fun k_l => gI s 218 k_l) 14 ((n_l : Int) + 1)) 8 = e at e6_l es
      have fin_l : ∀ x_l, (if a2 = 0 then min x_l e else max x_l e) = spF T m_l (fun k_l => gI s 218 k_l) a2 (n_l + 1) → gQ (fb_126_48 0 (m_l : Int) a2 x_l ((n_l : Int) + 1) s3_l) (Sum.elim (fun y_l => ∃ (n_l : Nat) (t_l : gS), y_l = (0, (m_l : Int), a2, spF T m_l (fun k_l => gI s 218 k_l) a2 n_l, (n_l : Int) + 1, t_l) ∧ n_l ≤ 6 ∧ Fw csq s t_l) (fun r_l => r_l.1 = 1 ∧ r_l.2.1 = spF T m_l (fun k_l => gI s 218 k_l) a2 6)) := fun x_l hx => by
        unfold fb_126_48
        rw [(rr_0_9 hg3).2, e6_l, eg]
        by_cases d2 : a2 = 0
        · rw [if_pos d2] at hx ⊢
          exact gQ_ret ⟨n_l + 1, s3_l, by rw [hx], by omega, f3_l⟩
        · rw [if_neg d2] at hx ⊢
          exact gQ_ret ⟨n_l + 1, s3_l, by rw [hx], by omega, f3_l⟩
      dsimp only
      rw [(rr_0_9 hg3).2, e6_l]
      by_cases d1 : spF T m_l (fun k_l => gI s 218 k_l) a2 n_l = -1
      · rw [if_pos d1]
        refine fin_l e ?_
        rw [es, if_pos d1]
        split
        · exact Int.min_self e
        · exact Int.max_self e
      · rw [if_neg d1]
        refine fin_l _ ?_
        rw [es, if_neg d1]
  · intro u_l p hf hu hR q_l hq
    rcases mo_255 hu hR (law_Q hJ hT_l hf) q_l hq with ⟨h1, -⟩ | ⟨-, h1⟩
    · exact absurd h1 c_l
    · exact ⟨h1, fun z_l => by cases z_l⟩
theorem xc_307 (hJ : J p s) (h : RX s) : gQ (f_307 0 a1 a2 231 s) (fun r => Xc (f_255 217 a1 a2) r.2.1 r.2.2.2) := by
  unfold f_307
  refine xc2 (st := st2) (fun _ => True) hJ.1.1 (co_126 hJ h) (fun r hr => o_126 hJ.1.2.1 cid rfl (Fw_rf hJ.1.1) r hr) (fun _ _ _ => trivial) rfl (fun v_l t_l _ => aX trivial) (fun k_l t_l => ?_) (fun u_l p hu _ q_l hq => (om_255 hu.1.2.1 um uA (Jm hu) rfl rfl (JF hu) q_l hq).2.2 231 0 (Nat.lt_of_lt_of_le (by decide) hu.1.1) rfl)
  by_cases c0 : k_l = 0
  · rw [if_pos c0, c0]
    exact gQ_ret ⟨rfl, (by decide : (1 : Int) ≠ 0), rfl⟩
  rw [if_neg c0]
  exact gQ_none
end Qd

end
section
/-! lives and done: the first day -/
def hitF (T : (Nat → Int) → Int) (V : Nat → Int) (i : Nat) (b : Int) (j : Nat) : Prop := if b = 0 then daysF T 0 j V (40 + 6 * i + 5) = 1 else (daysF T 0 j V (40 + 6 * i + 5) = 0 ∧ ¬ daysF T 0 j V (40 + 6 * i + 3) < daysF T 0 j V 3)
def fstR (H : Nat → Prop) (r : Int) : Prop := (r = -1 ∧ ∀ j, j ≤ 200 → ¬ H j) ∨ ∃ j : Nat, r = (j : Int) ∧ j ≤ 200 ∧ H j ∧ ∀ l, l < j → ¬ H l
def resR (x : Int) (H : Nat → Prop) (r : Int) : Prop := (x ≠ 0 ∧ r = -1) ∨ (x = 0 ∧ fstR H r)
section Qe
variable {s t u g : gS} {p : gP} {a1 a2 a3 v d lu x y : Int} {a k i j n m : Nat} {V W : Nat → Int} {T : (Nat → Int) → Int} {H : Nat → Prop}
theorem res_u (h1 : resR x H v) (h2 : resR x H y) : v = y := by
  rcases h1 with ⟨a1_l, a2⟩ | ⟨a1_l, a2⟩
  · rcases h2 with ⟨-, b2⟩ | ⟨b1, -⟩
    · rw [a2, b2]
    · exact absurd b1 a1_l
  · rcases h2 with ⟨b1, -⟩ | ⟨-, b2⟩
    · exact absurd a1_l b1
    · rcases a2 with ⟨c1_l, c2_l⟩ | ⟨j_l, c1_l, c2_l, c3_l, c4_l⟩
      · rcases b2 with ⟨d1_l, -⟩ | ⟨l, d1_l, d2_l, d3_l, d4_l⟩
        · rw [c1_l, d1_l]
        · exact absurd d3_l (c2_l l d2_l)
      · rcases b2 with ⟨-, d2_l⟩ | ⟨l, d1_l, d2_l, d3_l, d4_l⟩
        · exact absurd c3_l (d2_l j_l c2_l)
        · rcases Nat.lt_trichotomy j_l l with e_l | e_l | e_l
          · exact absurd c3_l (d4_l j_l e_l)
          · rw [c1_l, d1_l, e_l]
          · exact absurd d3_l (c4_l l e_l)
theorem works5 : worksF n V (40 + 6 * i + 5) = V (40 + 6 * i + 5) := by
  have hd_l : ∀ a_l X_l, doneF n a_l X_l (40 + 6 * i + 5) = X_l (40 + 6 * i + 5) := fun a_l X_l => by
    unfold doneF
    rw [up_n (by omega), up_n (by omega), up_n (by omega)]
  have hh : ∀ a_l X_l, heatF n a_l X_l (40 + 6 * i + 5) = X_l (40 + 6 * i + 5) := fun a_l X_l => by
    unfold heatF
    split
    · rw [up_n (by omega)]
    · exact hd_l a_l X_l
  unfold worksF
  split
  · split
    · rw [hh, pays_n (by omega)]
    · rw [hh]
  · rfl
theorem man5 : manF T n V (40 + 6 * i + 5) = V (40 + 6 * i + 5) ∨ (V (40 + 6 * i + 5) = 0 ∧ manF T n V (40 + 6 * i + 5) = 1) := by
  have ht : trustF T n (worksF n V) (40 + 6 * i + 5) = V (40 + 6 * i + 5) := by
    unfold trustF
    rw [up_n (by omega)]
    exact works5
  unfold manF
  by_cases c : V (45 + 6 * n) = 0
  · rw [if_pos c]
    unfold barF
    split
    · by_cases e : n = i
      · rw [e] at c ⊢
        exact Or.inr ⟨by rw [show 40 + 6 * i + 5 = 45 + 6 * i by omega]; exact c, by rw [show 40 + 6 * i + 5 = 45 + 6 * i by omega]; exact up_s⟩
      · exact Or.inl (by rw [up_n (by omega)]; exact ht)
    · exact Or.inl ht
  · rw [if_neg c]
    exact Or.inl rfl
theorem men5 (n : Nat) : menF T n V (40 + 6 * i + 5) = V (40 + 6 * i + 5) ∨ (V (40 + 6 * i + 5) = 0 ∧ menF T n V (40 + 6 * i + 5) = 1) := by
  induction n with
  | zero => exact Or.inl rfl
  | succ n ih_l =>
    have hm_l := man5 (T := T) (n := n) (i := i) (V := menF T n V)
    show manF T n (menF T n V) (40 + 6 * i + 5) = _ ∨ (_ ∧ manF T n (menF T n V) (40 + 6 * i + 5) = 1)
    omega
theorem day5 : daysF T 0 (j + 1) V (40 + 6 * i + 5) = daysF T 0 j V (40 + 6 * i + 5) ∨ (daysF T 0 j V (40 + 6 * i + 5) = 0 ∧ daysF T 0 (j + 1) V (40 + 6 * i + 5) = 1) := by
  have e_l : daysF T 0 (j + 1) V (40 + 6 * i + 5) = menF T (daysF T 0 j V 4).toNat (daysF T 0 j V) (40 + 6 * i + 5) := by
    show dayF T 0 (daysF T 0 j V) (40 + 6 * i + 5) = _
    unfold dayF nextF
    rw [if_pos rfl, up_n (by omega)]
  rw [e_l]
  exact men5 _
theorem stay5 (h : daysF T 0 j V (40 + 6 * i + 5) ≠ 0) (l : Nat) : daysF T 0 (j + l) V (40 + 6 * i + 5) = daysF T 0 j V (40 + 6 * i + 5) := by
  induction l with
  | zero => rfl
  | succ l ih_l =>
    have h1 := day5 (T := T) (j := j + l) (V := V) (i := i)
    rw [Nat.add_assoc] at h1
    omega
theorem dv_0 (hg : Vg V) (x : Int) (hk : k ≠ 13 ∧ k ≠ 14) : daysC T 0 j (up V 13 x) k = daysF T 0 j V k := (daysCB hg (fun k hk => up_n hk) j k hk.1).trans (daysC_0 hg (fun _ _ => rfl) j k hk.2)
/-- the model's search -/
theorem mo_222 (hJ : J p u) (h : RX u) (hT : Tlw u 218 9 T) (hi : i < 6) (hb : a2 = 0 ∨ a2 = 1) : gQ (f_222 217 (i : Int) a2 (gw u 217 0 0)) (fun q => gI q.2.2.2 217 0 = 0 ∧ resR (gI u 218 (40 + 6 * i + 5)) (hitF T (fun k => gI u 218 k) i a2) q.2.1) := by
  have hg : RF u := hJ.1.2.1
  have hv := RX_vg h
  have hg0 : RF (gw u 217 0 0) := RF_sm hg rfl
  unfold f_222
  refine gQ_w1 (A := fun v_l z_l => v_l = (if gI u 218 (40 + 6 * i + 5) = 0 then 1 else 0) ∧ z_l = gw u 217 0 0) (v165 (c := (fun k => gI u 218 k, fun _ _ => 0)) (rr_217_1 hg0).2 (fun k => m8 k) hi) (fun v_l z_l hz => ?_)
  obtain ⟨z1, z2⟩ := hz
  rw [z1, z2]
  by_cases c : gI u 218 (40 + 6 * i + 5) = 0
  · rw [if_pos c, if_neg (by decide)]
    refine gQ_v0 (A := fun z_l => (∀ k, k < 340 → gI z_l 220 k = gI u 218 k) ∧ (∀ k, gI z_l 218 k = gI u 218 k) ∧ gI z_l 217 0 = 0 ∧ Fw WM u z_l) (mo_185 hJ) (fun s5 h5 => ?_)
    obtain ⟨x2_l, x3, x4_l, x5_l⟩ := h5
    generalize hH : hitF T (fun k => gI u 218 k) i a2 = H
    refine gQ_loop (fun y_l => ∃ (n_l : Nat) (x3 : Int) (t_l : gS), y_l = (217, (i : Int), a2, x3, (n_l : Int), t_l) ∧ n_l ≤ 201 ∧ gI t_l 217 0 = 0 ∧ Fw WM u t_l ∧ ((x3 = -1 ∧ (∀ l, l < n_l → ¬ H l) ∧ Mv t_l (daysF T 0 n_l (fun k => gI u 218 k))) ∨ ∃ j_l : Nat, x3 = (j_l : Int) ∧ j_l ≤ 200 ∧ H j_l ∧ ∀ l, l < j_l → ¬ H l)) (fun y_l hy => ?_) ⟨0, -1, s5, rfl, by decide, x4_l, x5_l, Or.inl ⟨rfl, fun l hl => absurd hl (Nat.not_lt_zero l), fun k _ => x3 k⟩⟩
    obtain ⟨n_l, x3, t_l, rfl, hn, t0_l, tf, ht⟩ := hy
    have hgt : RF t_l := RF_fw hg tf
    show gQ (sb_222_19 217 (i : Int) a2 x3 (n_l : Int) t_l) _
    unfold sb_222_19
    have out_l : fstR H x3 → gQ (Option.map Sum.inr (fb_222_89 217 x3 t_l) : Option ((Nat × Int × Int × Int × Int × gS) ⊕ gO)) (Sum.elim (fun y_l => ∃ (n_l : Nat) (x3 : Int) (t_l : gS), y_l = (217, (i : Int), a2, x3, (n_l : Int), t_l) ∧ n_l ≤ 201 ∧ gI t_l 217 0 = 0 ∧ Fw WM u t_l ∧ ((x3 = -1 ∧ (∀ l, l < n_l → ¬ H l) ∧ Mv t_l (daysF T 0 n_l (fun k => gI u 218 k))) ∨ ∃ j_l : Nat, x3 = (j_l : Int) ∧ j_l ≤ 200 ∧ H j_l ∧ ∀ l, l < j_l → ¬ H l)) (fun q => gI q.2.2.2 217 0 = 0 ∧ resR (gI u 218 (40 + 6 * i + 5)) H q.2.1)) := fun hx => by
      refine gQ_map ?_
      unfold fb_222_89
      intro q hq
      obtain ⟨q1_l, q2_l⟩ := mo_back hgt t0_l q hq
      exact ⟨q1_l, Or.inr ⟨c, by rw [q2_l]; exact hx⟩⟩
    by_cases c2 : 200 < (n_l : Int)
    · rw [if_pos c2]
      refine out_l ?_
      rcases ht with ⟨e1_l, e2_l, -⟩ | hj
      · exact Or.inl ⟨e1_l, fun j_l hj => e2_l j_l (by omega)⟩
      · exact Or.inr hj
    rw [if_neg c2]
    rcases ht with ⟨e1_l, e2_l, e3_l⟩ | hj
    · rw [if_pos e1_l]
      have go_l : ∀ y_l : Int, ((y_l = -1 ∧ ¬ H n_l) ∨ (y_l = (n_l : Int) ∧ H n_l)) → gQ (fb_222_75 217 (i : Int) a2 y_l (n_l : Int) t_l) (Sum.elim (fun y_l => ∃ (n_l : Nat) (x3 : Int) (t_l : gS), y_l = (217, (i : Int), a2, x3, (n_l : Int), t_l) ∧ n_l ≤ 201 ∧ gI t_l 217 0 = 0 ∧ Fw WM u t_l ∧ ((x3 = -1 ∧ (∀ l, l < n_l → ¬ H l) ∧ Mv t_l (daysF T 0 n_l (fun k => gI u 218 k))) ∨ ∃ j_l : Nat, x3 = (j_l : Int) ∧ j_l ≤ 200 ∧ H j_l ∧ ∀ l, l < j_l → ¬ H l)) (fun q => gI q.2.2.2 217 0 = 0 ∧ resR (gI u 218 (40 + 6 * i + 5)) H q.2.1)) := fun y_l hy => by
        unfold fb_222_75
        rw [g32_eq (v := (n_l : Int) + 1) (by omega) (by omega)]
        refine gQ_w1 (A := fun _ z_l => Mv z_l (daysF T 0 (n_l + 1) (fun k => gI u 218 k)) ∧ gI z_l 217 0 = 0 ∧ Fw WM u z_l) (fun r_l hr => ?_) (fun v_l z_l hz => gQ_ret ⟨n_l + 1, y_l, z_l, rfl, by omega, hz.2.1, hz.2.2, ?_⟩)
        · obtain ⟨q1_l, q2_l, q3_l, -⟩ := mo_day (m := 1) (lu := 0) hJ hT (by decide) tf e3_l (Vg_days hv n_l) t0_l r_l hr
          exact ⟨q1_l, q2_l, q3_l⟩
        · rcases hy with ⟨y1, y2⟩ | ⟨y1, y2⟩
          · exact Or.inl ⟨y1, fun l hl => by
              by_cases e_l : l = n_l
              · rw [e_l]
                exact y2
              · exact e2_l l (by omega), hz.1⟩
          · exact Or.inr ⟨n_l, y1, by omega, y2, e2_l⟩
      have h5 : ∀ (j_l : Nat), j_l < 6 → ∀ I_l : Int, I_l = (j_l : Int) → gQ (f_156 217 (i : Int) I_l t_l) (fun r_l => r_l.2.1 = daysF T 0 n_l (fun k => gI u 218 k) (40 + 6 * i + j_l) ∧ r_l.2.2.2 = t_l) := fun j_l hj I_l eI r_l hr => by
        obtain ⟨q1_l, q2_l⟩ := v156 (rr_217_1 hgt).2 hi hj eI r_l hr
        exact ⟨q1_l.trans (e3_l _ (by omega)), q2_l⟩
      rcases hb with rfl | rfl
      · rw [if_pos rfl]
        refine gQ_w1 (A := fun v_l z_l => v_l = daysF T 0 n_l (fun k => gI u 218 k) (40 + 6 * i + 5) ∧ z_l = t_l) (h5 5 (by decide) 5 rfl) (fun v_l z_l hz => ?_)
        obtain ⟨z3, z4⟩ := hz
        rw [z3, z4]
        have eH : H n_l = (daysF T 0 n_l (fun k => gI u 218 k) (40 + 6 * i + 5) = 1) := by
          rw [← hH]
          exact if_pos rfl
        by_cases c3 : daysF T 0 n_l (fun k => gI u 218 k) (40 + 6 * i + 5) = 1
        · rw [if_pos c3]
          unfold fb_222_72
          exact go_l _ (Or.inr ⟨rfl, by rw [eH]; exact c3⟩)
        · rw [if_neg c3]
          exact go_l _ (Or.inl ⟨e1_l, by rw [eH]; exact c3⟩)
      · rw [if_neg (by decide)]
        refine gQ_w1 (A := fun v_l z_l => v_l = (if daysF T 0 n_l (fun k => gI u 218 k) (40 + 6 * i + 5) = 0 then 1 else 0) ∧ z_l = t_l) (fun r_l hr => ?_) (fun v_l z_l hz => ?_)
        · have h1 := dm_165 (V := daysF T 0 n_l (fun k => gI u 218 k)) (rr_217_1 hgt).2 e3_l hi r_l hr
          rw [show 45 + 6 * i = 40 + 6 * i + 5 by omega] at h1
          exact h1
        obtain ⟨z3, z4⟩ := hz
        rw [z3, z4]
        have eH : H n_l = (daysF T 0 n_l (fun k => gI u 218 k) (40 + 6 * i + 5) = 0 ∧ ¬ daysF T 0 n_l (fun k => gI u 218 k) (40 + 6 * i + 3) < daysF T 0 n_l (fun k => gI u 218 k) 3) := by
          rw [← hH]
          exact if_neg (by decide)
        by_cases c3 : daysF T 0 n_l (fun k => gI u 218 k) (40 + 6 * i + 5) = 0
        · rw [if_pos c3, if_neg (by decide)]
          refine gQ_w1 (A := fun v_l z_l => v_l = daysF T 0 n_l (fun k => gI u 218 k) (40 + 6 * i + 3) ∧ z_l = t_l) (h5 3 (by decide) 3 rfl) (fun v_l z_l hz => ?_)
          obtain ⟨z5, z6⟩ := hz
          rw [z5, z6, (rr_217_1 hgt).2, e3_l 3 (by decide)]
          by_cases c4 : daysF T 0 n_l (fun k => gI u 218 k) (40 + 6 * i + 3) < daysF T 0 n_l (fun k => gI u 218 k) 3
          · rw [if_pos c4]
            exact go_l _ (Or.inl ⟨e1_l, by rw [eH]; exact fun z_l => z_l.2 c4⟩)
          · rw [if_neg c4]
            unfold fb_222_72
            exact go_l _ (Or.inr ⟨rfl, by rw [eH]; exact ⟨c3, c4⟩⟩)
        · rw [if_neg c3, if_pos rfl]
          exact go_l _ (Or.inl ⟨e1_l, by rw [eH]; exact fun z_l => c3 z_l.1⟩)
    · have hne : x3 ≠ -1 := by
        obtain ⟨j_l, e_l, -⟩ := hj
        omega
      rw [if_neg hne]
      exact out_l (Or.inr hj)
  · rw [if_neg c, if_pos rfl]
    exact gQ_ret ⟨m0, Or.inl ⟨c, rfl⟩⟩
theorem mo_223 (hJ : J p u) (h : RX u) (hT : Tlw u 218 9 T) : gQ (f_223 217 a1 u) (fun q => ((0 ≤ a1 ∧ a1 < gI u 218 4) ∧ gI q.2.2.2 217 0 = 0 ∧ resR (gI u 218 (40 + 6 * a1.toNat + 5)) (hitF T (fun k => gI u 218 k) a1.toNat 0) q.2.1) ∨ (¬ (0 ≤ a1 ∧ a1 < gI u 218 4) ∧ gI q.2.2.2 217 0 = 1)) := by
  have hv := (Jv hJ).2.1
  unfold f_223 f_162
  rw [(rr_217_1 hJ.1.2.1).2]
  refine m_n (by omega) (fun c_l => ?_) (fun c_l => ?_)
  · rw [if_neg (by decide)]
    unfold fb_223_14
    dsimp only
    obtain ⟨i_l, hi_l⟩ : ∃ i_l : Nat, a1 = (i_l : Int) := ⟨a1.toNat, by omega⟩
    rw [m0, if_neg (by decide), hi_l, Int.toNat_natCast]
    exact gQ_w1 (A := fun v_l z_l => gI z_l 217 0 = 0 ∧ resR (gI u 218 (40 + 6 * i_l + 5)) (hitF T (fun k => gI u 218 k) i_l 0) v_l) (mo_222 hJ h hT (by omega) (Or.inl rfl)) (fun v_l z_l hz => gQ_ret (Or.inl ⟨by omega, hz⟩))
  · rw [if_pos rfl]
    unfold fb_223_14
    dsimp only
    rw [m0, if_pos (by decide)]
    exact gQ_ret (Or.inr ⟨c_l, m0⟩)
theorem mo_224 (hJ : J p u) (h : RX u) (hT : Tlw u 218 9 T) : gQ (f_224 217 a1 u) (fun q => ((0 ≤ a1 ∧ a1 < gI u 218 4) ∧ gI q.2.2.2 217 0 = 0 ∧ resR (gI u 218 (40 + 6 * a1.toNat + 5)) (hitF T (fun k => gI u 218 k) a1.toNat 1) q.2.1) ∨ (¬ (0 ≤ a1 ∧ a1 < gI u 218 4) ∧ gI q.2.2.2 217 0 = 1)) := by
  have hv := (Jv hJ).2.1
  unfold f_224 f_162
  rw [(rr_217_1 hJ.1.2.1).2]
  refine m_n (by omega) (fun c_l => ?_) (fun c_l => ?_)
  · rw [if_neg (by decide)]
    unfold fb_224_14
    dsimp only
    obtain ⟨i_l, hi_l⟩ : ∃ i_l : Nat, a1 = (i_l : Int) := ⟨a1.toNat, by omega⟩
    rw [m0, if_neg (by decide), hi_l, Int.toNat_natCast]
    exact gQ_w1 (A := fun v_l z_l => gI z_l 217 0 = 0 ∧ resR (gI u 218 (40 + 6 * i_l + 5)) (hitF T (fun k => gI u 218 k) i_l 1) v_l) (mo_222 hJ h hT (by omega) (Or.inr rfl)) (fun v_l z_l hz => gQ_ret (Or.inl ⟨by omega, hz⟩))
  · rw [if_pos rfl]
    unfold fb_224_14
    dsimp only
    rw [m0, if_pos (by decide)]
    exact gQ_ret (Or.inr ⟨c_l, m0⟩)
/-- the court 42 at a day -/
theorem c_start (hJ : J p s) (h : RX s) : gQ (f_23 42 15 s) (fun r => (∃ x, Cr r.2.2.2 42 (up (fun k => gI s 218 k) 13 x)) ∧ Fw csq s r.2.2.2) := by
  intro r hr
  have hg : RF s := hJ.1.2.1
  have hc_l : ∀ k, KK k → cv s 9 15 k = gI s 218 k := fun k hk => by
    have h1 := h.2.1.1 k hk
    rw [Nat.zero_add] at h1
    exact h1.symm
  exact ⟨⟨_, Cr_42 hc_l (gQ_T (s_23 hg ⟨by decide, k0_b.2.2.2.2.1⟩ ⟨by decide, k0_72.2⟩ (by decide)) r hr).2⟩, o_23 hg cid rfl rfl (Fw_rf hJ.1.1) r hr⟩
theorem c_day (hJ : J p s) (hT : Tlw s 218 9 T) (hg : RF t) (hf : Fw csq s t) (hW : Vg W) (h : Cr t 42 (daysC T 0 n W)) : gQ (f_27 42 9 3 0 t) (fun r => Cr r.2.2.2 42 (daysC T 0 (n + 1) W) ∧ Fw csq s r.2.2.2) := by
  intro r hr
  obtain ⟨-, q2_l, q3_l⟩ := dc_27 (Or.inr rfl) (Rc9_42 hg) (fun w_l hw => law_q hJ hT (Fct_42 hf hw)) h (Vg_daysC hW n) r hr
  exact ⟨q2_l, Fct_42 hf q3_l⟩
theorem co_106 (hJ : J p s) (h : RX s) : gQ (f_106 0 a1 s) (CoX st5 (f_223 217 a1) s) := by
  have hg : RF s := hJ.1.2.1
  have hn := hJ.1.1
  have hv := (Jv hJ).2.1
  obtain ⟨T, hT_l⟩ := h.2.2.2.2
  unfold f_106
  refine n_gt (by decide) (n_135 hg h.1) (fun c_l => ?_) (fun c_l => ?_)
  · obtain ⟨i_l, hi_l⟩ : ∃ i_l : Nat, a1 = (i_l : Int) := ⟨a1.toNat, by omega⟩
    have hi6 : i_l < 6 := by omega
    suffices hh : gQ ((f_23 (gR s 0 9) (gR s 0 5) s).bind (gv0 (fun s3_l => gchk a1 6 (let v5 : Nat := (gR s3_l (gR s3_l (gR s3_l 0 9) 0) (a1 : Int).toNat); gloop (st_106_28) (0, v5, 1, s3_l))))) (fun r_l => r_l.1 = 1 ∧ resR (gI s 218 (40 + 6 * i_l + 5)) (hitF T (fun k_l => gI s 218 k_l) i_l 0) r_l.2.1) from fun r_l hr u_l p hf hu hR q_l hq => by
      obtain ⟨h1, h2⟩ := hh r_l hr
      rcases mo_223 hu hR (law_Q hJ hT_l hf) q_l hq with ⟨-, y1, y2⟩ | ⟨y1, -⟩
      · refine ⟨by rw [h1]; exact y1, fun _ => ?_⟩
        rw [RX_e8 hn hf, WQ_8 hn hf, hi_l, Int.toNat_natCast] at y2
        exact res_u y2 h2
      · rw [WQ_8 hn hf 4] at y1
        exact absurd c_l y1
    rw [(rr_0_9 hg).2, (rr_0_5 hg).2, hi_l]
    refine gQ_v0 (A := fun z_l => (∃ x_l, Cr z_l 42 (up (fun k_l => gI s 218 k_l) 13 x_l)) ∧ Fw csq s z_l) (c_start hJ h) (fun s3_l h3 => ?_)
    obtain ⟨⟨x_l, w1_l⟩, f3_l⟩ := h3
    have hg3 := RF_fw hg f3_l
    have hW : Vg (up (fun k_l => gI s 218 k_l) 13 x_l) := Vg_x (RX_vg h) ⟨by decide, by decide, fun i_l hi_l => by omega, fun a_l ha_l => by omega⟩
    rw [(rr_0_9 hg3).2, (rr_42_0 hg3).2, Int.toNat_natCast, (Rc9_42 hg3).1.2 i_l hi6]
    refine gQ_chk ?_
    dsimp only
    have eH : ∀ l, hitF T (fun k_l => gI s 218 k_l) i_l 0 l = (daysF T 0 l (fun k_l => gI s 218 k_l) (40 + 6 * i_l + 5) = 1) := fun l => if_pos rfl
    have ev_l : ∀ (l : Nat) (z_l : gS), Cr z_l 42 (daysC T 0 l (up (fun k_l => gI s 218 k_l) 13 x_l)) → gI z_l (42 + 6 + i_l) 5 = daysF T 0 l (fun k_l => gI s 218 k_l) (40 + 6 * i_l + 5) := fun l z_l hz => (rd_m (Or.inr rfl) hz hi6 (by decide)).trans (dv_0 (RX_vg h) x_l (by omega))
    generalize hitF T (fun k_l => gI s 218 k_l) i_l 0 = H at eH
    refine gQ_loop (fun y_l => ∃ (n_l : Nat) (t_l : gS), y_l = (0, 42 + 6 + i_l, (n_l : Int) + 1, t_l) ∧ n_l ≤ 200 ∧ Fw csq s t_l ∧ Cr t_l 42 (daysC T 0 n_l (up (fun k_l => gI s 218 k_l) 13 x_l)) ∧ ((gI s 218 (40 + 6 * i_l + 5) ≠ 0 ∧ n_l = 0) ∨ (gI s 218 (40 + 6 * i_l + 5) = 0 ∧ daysF T 0 n_l (fun k_l => gI s 218 k_l) (40 + 6 * i_l + 5) = 0 ∧ ∀ l, l ≤ n_l → ¬ H l))) (fun y_l hy => ?_) ⟨0, s3_l, rfl, by decide, f3_l, w1_l, ?_⟩
    · obtain ⟨n_l, t_l, rfl, hn2, tf, tc_l, hx⟩ := hy
      have hgt := RF_fw hg tf
      show gQ (sb_106_28 0 (42 + 6 + i_l) ((n_l : Int) + 1) t_l) _
      unfold sb_106_28
      by_cases c2 : 200 < (n_l : Int) + 1
      · rw [if_pos c2]
        rcases hx with ⟨-, e_l⟩ | ⟨e1_l, e2_l, e3_l⟩
        · omega
        · exact gQ_map (gQ_ret ⟨rfl, Or.inr ⟨e1_l, Or.inl ⟨rfl, fun j_l hj => e3_l j_l (by omega)⟩⟩⟩)
      rw [if_neg c2, ev_l n_l t_l tc_l]
      rcases hx with ⟨e1_l, e2_l⟩ | ⟨e1_l, e2_l, e3_l⟩
      · rw [e2_l]
        have e0_l : daysF T 0 0 (fun k_l => gI s 218 k_l) (40 + 6 * i_l + 5) = gI s 218 (40 + 6 * i_l + 5) := rfl
        rw [e0_l, if_neg e1_l]
        exact gQ_map (gQ_ret ⟨rfl, Or.inl ⟨e1_l, rfl⟩⟩)
      · rw [if_pos e2_l, (rr_0_9 hgt).2, (rr_0_4 hgt).2, (rr_0_1 hgt).2, g32_eq (v := (n_l : Int) + 1 + 1) (by omega) (by omega)]
        refine gQ_w1 (A := fun _ z_l => Cr z_l 42 (daysC T 0 (n_l + 1) (up (fun k_l => gI s 218 k_l) 13 x_l)) ∧ Fw csq s z_l) (c_day hJ hT_l hgt tf hW tc_l) (fun v_l z_l hz => ?_)
        rw [ev_l (n_l + 1) z_l hz.1]
        have h5 := day5 (T := T) (j := n_l) (V := fun k_l => gI s 218 k_l) (i := i_l)
        by_cases c3 : daysF T 0 (n_l + 1) (fun k_l => gI s 218 k_l) (40 + 6 * i_l + 5) = 1
        · rw [if_pos c3]
          exact gQ_map (gQ_ret ⟨rfl, Or.inr ⟨e1_l, Or.inr ⟨n_l + 1, by dsimp only; omega, by omega, by rw [eH]; exact c3, fun l hl => e3_l l (by omega)⟩⟩⟩)
        · rw [if_neg c3]
          refine gQ_ret ⟨n_l + 1, z_l, by rw [show ((n_l + 1 : Nat) : Int) = (n_l : Int) + 1 by omega], by omega, hz.2, hz.1, Or.inr ⟨e1_l, by omega, fun l hl => ?_⟩⟩
          by_cases e_l : l = n_l + 1
          · rw [e_l, eH]
            exact c3
          · exact e3_l l (by omega)
    · by_cases e_l : gI s 218 (40 + 6 * i_l + 5) = 0
      · refine Or.inr ⟨e_l, e_l, fun l hl => ?_⟩
        rw [show l = 0 by omega, eH]
        show ¬ gI s 218 (40 + 6 * i_l + 5) = 1
        omega
      · exact Or.inl ⟨e_l, rfl⟩
  · intro u_l p hf hu hR q_l hq
    rcases mo_223 hu hR (law_Q hJ hT_l hf) q_l hq with ⟨h1, -⟩ | ⟨-, h1⟩
    · rw [WQ_8 hn hf 4] at h1
      exact absurd h1 c_l
    · exact ⟨h1, fun z_l => by cases z_l⟩
theorem co_107 (hJ : J p s) (h : RX s) : gQ (f_107 0 a1 s) (CoX st5 (f_224 217 a1) s) := by
  have hg : RF s := hJ.1.2.1
  have hn := hJ.1.1
  have hv := (Jv hJ).2.1
  obtain ⟨T, hT_l⟩ := h.2.2.2.2
  unfold f_107
  refine n_gt (by decide) (n_135 hg h.1) (fun c_l => ?_) (fun c_l => ?_)
  · obtain ⟨i_l, hi_l⟩ : ∃ i_l : Nat, a1 = (i_l : Int) := ⟨a1.toNat, by omega⟩
    have hi6 : i_l < 6 := by omega
    suffices hh : gQ ((f_23 (gR s 0 9) (gR s 0 5) s).bind (gv0 (fun s3_l => gchk a1 6 (let v5 : Nat := (gR s3_l (gR s3_l (gR s3_l 0 9) 0) (a1 : Int).toNat); gloop (st_107_28) (0, v5, 0, s3_l))))) (fun r_l => r_l.1 = 1 ∧ resR (gI s 218 (40 + 6 * i_l + 5)) (hitF T (fun k_l => gI s 218 k_l) i_l 1) r_l.2.1) from fun r_l hr u_l p hf hu hR q_l hq => by
      obtain ⟨h1, h2⟩ := hh r_l hr
      rcases mo_224 hu hR (law_Q hJ hT_l hf) q_l hq with ⟨-, y1, y2⟩ | ⟨y1, -⟩
      · refine ⟨by rw [h1]; exact y1, fun _ => ?_⟩
        rw [RX_e8 hn hf, WQ_8 hn hf, hi_l, Int.toNat_natCast] at y2
        exact res_u y2 h2
      · rw [WQ_8 hn hf 4] at y1
        exact absurd c_l y1
    rw [(rr_0_9 hg).2, (rr_0_5 hg).2, hi_l]
    refine gQ_v0 (A := fun z_l => (∃ x_l, Cr z_l 42 (up (fun k_l => gI s 218 k_l) 13 x_l)) ∧ Fw csq s z_l) (c_start hJ h) (fun s3_l h3 => ?_)
    obtain ⟨⟨x_l, w1_l⟩, f3_l⟩ := h3
    have hg3 := RF_fw hg f3_l
    have hW : Vg (up (fun k_l => gI s 218 k_l) 13 x_l) := Vg_x (RX_vg h) ⟨by decide, by decide, fun i_l hi_l => by omega, fun a_l ha_l => by omega⟩
    rw [(rr_0_9 hg3).2, (rr_42_0 hg3).2, Int.toNat_natCast, (Rc9_42 hg3).1.2 i_l hi6]
    refine gQ_chk ?_
    dsimp only
    have eH : ∀ l, hitF T (fun k_l => gI s 218 k_l) i_l 1 l = (daysF T 0 l (fun k_l => gI s 218 k_l) (40 + 6 * i_l + 5) = 0 ∧ ¬ daysF T 0 l (fun k_l => gI s 218 k_l) (40 + 6 * i_l + 3) < daysF T 0 l (fun k_l => gI s 218 k_l) 3) := fun l => if_neg (by decide)
    have ev_l : ∀ (l j_l : Nat) (z_l : gS), j_l < 6 → Cr z_l 42 (daysC T 0 l (up (fun k_l => gI s 218 k_l) 13 x_l)) → gI z_l (42 + 6 + i_l) j_l = daysF T 0 l (fun k_l => gI s 218 k_l) (40 + 6 * i_l + j_l) := fun l j_l z_l hj hz => (rd_m (Or.inr rfl) hz hi6 hj).trans (dv_0 (RX_vg h) x_l (by omega))
    have e3v : ∀ (l : Nat) (z_l : gS), Cr z_l 42 (daysC T 0 l (up (fun k_l => gI s 218 k_l) 13 x_l)) → gI z_l 9 5 = daysF T 0 l (fun k_l => gI s 218 k_l) 3 := fun l z_l hz => (rd_b hz).1.trans (dv_0 (RX_vg h) x_l (by decide))
    generalize hitF T (fun k_l => gI s 218 k_l) i_l 1 = H at eH
    refine gQ_loop (fun y_l => ∃ (n_l : Nat) (t_l : gS), y_l = (0, 42 + 6 + i_l, (n_l : Int), t_l) ∧ n_l ≤ 201 ∧ Fw csq s t_l ∧ Cr t_l 42 (daysC T 0 n_l (up (fun k_l => gI s 218 k_l) 13 x_l)) ∧ ((gI s 218 (40 + 6 * i_l + 5) ≠ 0 ∧ n_l = 0) ∨ (gI s 218 (40 + 6 * i_l + 5) = 0 ∧ ∀ l, l < n_l → ¬ H l))) (fun y_l hy => ?_) ⟨0, s3_l, rfl, by decide, f3_l, w1_l, ?_⟩
    · obtain ⟨n_l, t_l, rfl, hn2, tf, tc_l, hx⟩ := hy
      have hgt := RF_fw hg tf
      show gQ (sb_107_28 0 (42 + 6 + i_l) (n_l : Int) t_l) _
      unfold sb_107_28
      by_cases c2 : 200 < (n_l : Int)
      · rw [if_pos c2]
        rcases hx with ⟨-, e_l⟩ | ⟨e1_l, e3_l⟩
        · omega
        · exact gQ_map (gQ_ret ⟨rfl, Or.inr ⟨e1_l, Or.inl ⟨rfl, fun j_l hj => e3_l j_l (by omega)⟩⟩⟩)
      rw [if_neg c2, ev_l n_l 5 t_l (by decide) tc_l]
      by_cases c3 : daysF T 0 n_l (fun k_l => gI s 218 k_l) (40 + 6 * i_l + 5) = 0
      · rcases hx with ⟨e1_l, e2_l⟩ | ⟨e1_l, e3_l⟩
        · rw [e2_l] at c3
          exact absurd c3 e1_l
        rw [if_pos c3, (rr_0_4 hgt).2, e3v n_l t_l tc_l, ev_l n_l 3 t_l (by decide) tc_l]
        by_cases c4 : daysF T 0 n_l (fun k_l => gI s 218 k_l) (40 + 6 * i_l + 3) < daysF T 0 n_l (fun k_l => gI s 218 k_l) 3
        · rw [if_pos c4, (rr_0_9 hgt).2, (rr_0_1 hgt).2, g32_eq (v := (n_l : Int) + 1) (by omega) (by omega)]
          refine gQ_w1 (A := fun _ z_l => Cr z_l 42 (daysC T 0 (n_l + 1) (up (fun k_l => gI s 218 k_l) 13 x_l)) ∧ Fw csq s z_l) (c_day hJ hT_l hgt tf hW tc_l) (fun v_l z_l hz => gQ_ret ⟨n_l + 1, z_l, rfl, by omega, hz.2, hz.1, Or.inr ⟨e1_l, fun l hl => ?_⟩⟩)
          by_cases e_l : l = n_l
          · rw [e_l, eH]
            exact fun z_l => z_l.2 c4
          · exact e3_l l (by omega)
        · rw [if_neg c4]
          exact gQ_map (gQ_ret ⟨rfl, Or.inr ⟨e1_l, Or.inr ⟨n_l, rfl, by omega, by rw [eH]; exact ⟨c3, c4⟩, e3_l⟩⟩⟩)
      · rw [if_neg c3]
        rcases hx with ⟨e1_l, e2_l⟩ | ⟨e1_l, e3_l⟩
        · exact gQ_map (gQ_ret ⟨rfl, Or.inl ⟨e1_l, rfl⟩⟩)
        · refine gQ_map (gQ_ret ⟨rfl, Or.inr ⟨e1_l, Or.inl ⟨rfl, fun j_l hj => ?_⟩⟩⟩)
          by_cases e_l : j_l < n_l
          · exact e3_l j_l e_l
          · obtain ⟨l, rfl⟩ : ∃ l, j_l = n_l + l := ⟨j_l - n_l, by omega⟩
            rw [eH]
            intro z_l
            rw [stay5 c3 l] at z_l
            exact c3 z_l.1
    · by_cases e_l : gI s 218 (40 + 6 * i_l + 5) = 0
      · exact Or.inr ⟨e_l, fun l hl => absurd hl (Nat.not_lt_zero l)⟩
      · exact Or.inl ⟨e_l, rfl⟩
  · intro u_l p hf hu hR q_l hq
    rcases mo_224 hu hR (law_Q hJ hT_l hf) q_l hq with ⟨h1, -⟩ | ⟨-, h1⟩
    · rw [WQ_8 hn hf 4] at h1
      exact absurd h1 c_l
    · exact ⟨h1, fun z_l => by cases z_l⟩
theorem xc_292 (hJ : J p s) (h : RX s) : gQ (f_292 0 a1 231 s) (fun r => Xc (f_223 217 a1) r.2.1 r.2.2.2) := by
  unfold f_292
  refine xc2 (st := st5) (fun _ => True) hJ.1.1 (co_106 hJ h) (fun r hr => o_106 hJ.1.2.1 cid rfl (Fw_rf hJ.1.1) r hr) (fun _ _ _ => trivial) rfl (fun v_l t_l _ => aX trivial) (fun k_l t_l => ?_) (fun u_l p hu _ q_l hq => (om_223 hu.1.2.1 um uA (Jm hu) rfl rfl (JF hu) q_l hq).2.2 231 0 (Nat.lt_of_lt_of_le (by decide) hu.1.1) rfl)
  by_cases c0 : k_l = 3
  · rw [if_pos c0, c0]
    exact gQ_ret ⟨rfl, (by decide : (1 : Int) ≠ 0), rfl⟩
  rw [if_neg c0]
  exact gQ_none
theorem xc_293 (hJ : J p s) (h : RX s) : gQ (f_293 0 a1 231 s) (fun r => Xc (f_224 217 a1) r.2.1 r.2.2.2) := by
  unfold f_293
  refine xc2 (st := st5) (fun _ => True) hJ.1.1 (co_107 hJ h) (fun r hr => o_107 hJ.1.2.1 cid rfl (Fw_rf hJ.1.1) r hr) (fun _ _ _ => trivial) rfl (fun v_l t_l _ => aX trivial) (fun k_l t_l => ?_) (fun u_l p hu _ q_l hq => (om_224 hu.1.2.1 um uA (Jm hu) rfl rfl (JF hu) q_l hq).2.2 231 0 (Nat.lt_of_lt_of_le (by decide) hu.1.1) rfl)
  by_cases c0 : k_l = 3
  · rw [if_pos c0, c0]
    exact gQ_ret ⟨rfl, (by decide : (1 : Int) ≠ 0), rfl⟩
  rw [if_neg c0]
  exact gQ_none
end Qe

end
section
/-! led: entries of the log; count; step -/
def sm (f : Nat → Int) : Nat → Int
  | 0 => 0
  | n + 1 => sm f n + f n
def ledI (x b m k : Int) : Int := if m = x ∧ (b = 0 ∨ k = 2) then 1 else 0
def ledF (V : Nat → Int) (x b : Int) (i : Nat) : Int := ledI x b (V (100 + 4 * i + 1)) (V (100 + 4 * i + 2))
/-- the sum of trusts -/
def trS (V : Nat → Int) : Nat → Int
  | 0 => 0
  | n + 1 => if V (40 + 6 * n + 5) = 0 then trS V n + V (40 + 6 * n) else trS V n
def cnF (V : Nat → Int) (x a : Int) : Int := if 0 ≤ a ∧ a ≤ 3 then V (3 + a.toNat) else if a = 4 then V 0 else if a = 5 then V 1 else if a = 6 then V 7 else if 7 ≤ a ∧ a ≤ 11 then V (1 + a.toNat) else if a = 12 then trS V (V 4).toNat else if a = 13 then V 13 else if a = 14 then x else -1
def hdS (V : Nat → Int) (a : Int) : Nat → Int
  | 0 => 0
  | n + 1 => gor (hdS V a n) (gshl (gand (gshr (V (88 + 2 * n + 1)) a) 1) (n : Int))
section Qf
variable {s t u g : gS} {p : gP} {a1 a2 a3 v d lu x y : Int} {a k i j n m : Nat} {V W : Nat → Int} {T : (Nat → Int) → Int}
theorem sm_hd {f : Nat → Int} (n : Nat) : sm f (n + 1) = f 0 + sm (fun l => f (l + 1)) n := by
  induction n with
  | zero =>
    show 0 + f 0 = f 0 + 0
    omega
  | succ n ih_l =>
    show sm f (n + 1) + f (n + 1) = f 0 + (sm (fun l => f (l + 1)) n + f (n + 1))
    rw [ih_l]
    omega
theorem sm_e {f h : Nat → Int} (n : Nat) (e : ∀ l, l < n → f l = h l) : sm f n = sm h n := by
  induction n with
  | zero => rfl
  | succ n ih_l =>
    show sm f n + f n = sm h n + h n
    rw [ih_l (fun l hl => e l (by omega)), e n (by omega)]
theorem sm_rv {f : Nat → Int} (n : Nat) : sm (fun l => f (n - 1 - l)) n = sm f n := by
  induction n with
  | zero => rfl
  | succ n ih_l =>
    rw [sm_hd]
    have e1_l : sm (fun l => f (n + 1 - 1 - (l + 1))) n = sm (fun l => f (n - 1 - l)) n := sm_e n (fun l hl => by
      rw [show n + 1 - 1 - (l + 1) = n - 1 - l by omega])
    have e2_l : n + 1 - 1 - 0 = n := by omega
    show f (n + 1 - 1 - 0) + sm (fun l => f (n + 1 - 1 - (l + 1))) n = sm f n + f n
    rw [e1_l, ih_l, e2_l]
    omega
theorem sm_b {f : Nat → Int} (h : ∀ l, 0 ≤ f l ∧ f l ≤ 1) (n : Nat) : 0 ≤ sm f n ∧ sm f n ≤ n := by
  induction n with
  | zero => exact ⟨Int.le_refl 0, Int.le_refl 0⟩
  | succ n ih_l =>
    have h1 := h n
    show 0 ≤ sm f n + f n ∧ sm f n + f n ≤ ((n + 1 : Nat) : Int)
    omega
theorem ledI_b {m k : Int} : 0 ≤ ledI x y m k ∧ ledI x y m k ≤ 1 := by
  unfold ledI
  split <;> omega
/-- led: the class -/
theorem c57 (hJ : J p s) (h : RX s) : gQ (f_57 19 a1 a2 s) (fun r => r.2.1 = sm (ledF (fun k => gI s 218 k) a1 a2) (gI s 218 13).toNat ∧ r.2.2.2 = s) := by
  have hg : RF s := hJ.1.2.1
  have b13 := r13 h.2
  obtain ⟨N_l, hN_l⟩ : ∃ N_l : Nat, gI s 218 13 = (N_l : Int) := ⟨(gI s 218 13).toNat, by omega⟩
  have hN6 : N_l ≤ 60 := by omega
  rw [← sm_rv, hN_l, Int.toNat_natCast]
  have lb : ∀ n_l, 0 ≤ sm (fun l => ledF (fun k => gI s 218 k) a1 a2 (N_l - 1 - l)) n_l ∧ sm (fun l => ledF (fun k => gI s 218 k) a1 a2 (N_l - 1 - l)) n_l ≤ n_l := fun n_l => sm_b (fun l => ledI_b) n_l
  have lc : ∀ n_l, n_l < N_l → ∀ j_l, j_l < 4 → gI s 20 (4 * n_l + j_l) = gI s 218 (100 + 4 * (N_l - 1 - n_l) + j_l) := fun n_l hn j_l hj => by
    have h1 := xl h.2 (i := N_l - 1 - n_l) (j := j_l) (by omega) hj
    rw [hN_l, Int.toNat_natCast, show N_l - 1 - (N_l - 1 - n_l) = n_l by omega] at h1
    exact h1
  have le_l : ∀ n_l, sm (fun l => ledF (fun k => gI s 218 k) a1 a2 (N_l - 1 - l)) (n_l + 1) = sm (fun l => ledF (fun k => gI s 218 k) a1 a2 (N_l - 1 - l)) n_l + ledI a1 a2 (gI s 218 (100 + 4 * (N_l - 1 - n_l) + 1)) (gI s 218 (100 + 4 * (N_l - 1 - n_l) + 2)) := fun n_l => rfl
  generalize sm (fun l => ledF (fun k => gI s 218 k) a1 a2 (N_l - 1 - l)) = S at lb le_l
  unfold f_57
  refine gQ_loop (fun y_l => ∃ n_l : Nat, y_l = (19, a1, a2, S n_l, (n_l : Int), s) ∧ n_l ≤ N_l) (fun y_l hy => ?_) ⟨0, by rw [show S 0 = 0 by have := lb 0; omega]; rfl, Nat.zero_le _⟩
  obtain ⟨n_l, rfl, hn⟩ := hy
  show gQ (sb_57_5 19 a1 a2 (S n_l) (n_l : Int) s) _
  unfold sb_57_5
  rw [c13r h.2, hN_l]
  by_cases c : (n_l : Int) < (N_l : Int)
  · have bn := lb n_l
    have eg : g32 ((n_l : Int) + 1) = ((n_l + 1 : Nat) : Int) := (g32_eq (v := (n_l : Int) + 1) (by omega) (by omega)).trans (by omega)
    have e4_l : g32 ((n_l : Int) * 4) = (n_l : Int) * 4 := g32_eq (by omega) (by omega)
    have e5_l : g32 ((n_l : Int) * 4 + 1) = ((4 * n_l + 1 : Nat) : Int) := (g32_eq (by omega) (by omega)).trans (by omega)
    have e6_l : g32 ((n_l : Int) * 4 + 2) = ((4 * n_l + 2 : Nat) : Int) := (g32_eq (by omega) (by omega)).trans (by omega)
    have e7_l : g32 (S n_l + 1) = S n_l + 1 := g32_eq (by omega) (by omega)
    have key_l : ∀ z_l : Int, z_l = ledI a1 a2 (gI s 218 (100 + 4 * (N_l - 1 - n_l) + 1)) (gI s 218 (100 + 4 * (N_l - 1 - n_l) + 2)) → S n_l + z_l = S (n_l + 1) := fun z_l hz => by rw [le_l, hz]
    have no_l : (¬ (gI s 218 (100 + 4 * (N_l - 1 - n_l) + 1) = a1 ∧ (a2 = 0 ∨ gI s 218 (100 + 4 * (N_l - 1 - n_l) + 2) = 2))) → S n_l = S (n_l + 1) := fun hz => (Int.add_zero (S n_l)).symm.trans (key_l 0 (if_neg hz).symm)
    have ye : (gI s 218 (100 + 4 * (N_l - 1 - n_l) + 1) = a1 ∧ (a2 = 0 ∨ gI s 218 (100 + 4 * (N_l - 1 - n_l) + 2) = 2)) → S n_l + 1 = S (n_l + 1) := fun hz => key_l 1 (if_pos hz).symm
    rw [if_pos c, e4_l, e5_l, Int.toNat_natCast, (rr_19_0 hg).2, lc n_l (by omega) 1 (by decide)]
    refine gQ_chk ?_
    by_cases d1 : gI s 218 (100 + 4 * (N_l - 1 - n_l) + 1) = a1
    · rw [if_pos d1]
      unfold fb_57_34 fb_57_60
      rw [if_neg (by decide), e4_l, e6_l, e7_l, eg, Int.toNat_natCast, (rr_19_0 hg).2, lc n_l (by omega) 2 (by decide)]
      by_cases d2 : a2 = 0
      · rw [if_pos d2]
        exact gQ_ret ⟨n_l + 1, by rw [ye ⟨d1, Or.inl d2⟩], by omega⟩
      · rw [if_neg d2]
        refine gQ_chk ?_
        by_cases d3 : gI s 218 (100 + 4 * (N_l - 1 - n_l) + 2) = 2
        · rw [if_pos d3]
          exact gQ_ret ⟨n_l + 1, by rw [ye ⟨d1, Or.inr d3⟩], by omega⟩
        · rw [if_neg d3]
          exact gQ_ret ⟨n_l + 1, by rw [no_l (fun z_l => z_l.2.elim d2 d3)], by omega⟩
    · rw [if_neg d1]
      unfold fb_57_34
      rw [if_pos rfl, eg]
      exact gQ_ret ⟨n_l + 1, by rw [no_l (fun z_l => d1 z_l.1)], by omega⟩
  · rw [if_neg c]
    have en : n_l = N_l := by omega
    rw [en]
    exact gQ_map (gQ_ret ⟨rfl, rfl⟩)
/-- led: the model -/
theorem mo_257 (hJ : J p u) (h13 : 0 ≤ gI u 218 13 ∧ gI u 218 13 ≤ 60) : gQ (f_257 217 a1 a2 u) (fun q => ((0 ≤ a1 ∧ a1 < gI u 218 4) ∧ gI q.2.2.2 217 0 = 0 ∧ q.2.1 = sm (ledF (fun k => gI u 218 k) a1 a2) (gI u 218 13).toNat) ∨ (¬ (0 ≤ a1 ∧ a1 < gI u 218 4) ∧ gI q.2.2.2 217 0 = 1)) := by
  have hv := (Jv hJ).2.1
  have hr := (rr_217_1 hJ.1.2.1).2
  obtain ⟨N_l, hN_l⟩ : ∃ N_l : Nat, gI u 218 13 = (N_l : Int) := ⟨(gI u 218 13).toNat, by omega⟩
  unfold f_257 f_162
  rw [hr]
  refine m_n (by omega) (fun c_l => ?_) (fun c_l => ?_)
  · rw [if_neg (by decide)]
    unfold fb_257_14
    dsimp only
    have lb : ∀ n_l, 0 ≤ sm (ledF (fun k => gI u 218 k) a1 a2) n_l ∧ sm (ledF (fun k => gI u 218 k) a1 a2) n_l ≤ n_l := fun n_l => sm_b (fun l => ledI_b) n_l
    have le_l : ∀ n_l, sm (ledF (fun k => gI u 218 k) a1 a2) (n_l + 1) = sm (ledF (fun k => gI u 218 k) a1 a2) n_l + ledI a1 a2 (gI u 218 (100 + 4 * n_l + 1)) (gI u 218 (100 + 4 * n_l + 2)) := fun n_l => rfl
    rw [hN_l, Int.toNat_natCast]
    generalize sm (ledF (fun k => gI u 218 k) a1 a2) = S at lb le_l
    refine gQ_loop (fun y_l => ∃ n_l : Nat, y_l = (217, a1, a2, S n_l, (n_l : Int), gw u 217 0 0) ∧ n_l ≤ N_l) (fun y_l hy => ?_) ⟨0, by rw [show S 0 = 0 by have := lb 0; omega]; rfl, Nat.zero_le _⟩
    obtain ⟨n_l, rfl, hn⟩ := hy
    have r0 : gR (gw u 217 0 0) 217 1 = 218 := hr
    show gQ (sb_257_22 217 a1 a2 (S n_l) (n_l : Int) (gw u 217 0 0)) _
    unfold sb_257_22
    rw [r0, m8, hN_l, m0]
    by_cases c1 : (n_l : Int) < (N_l : Int)
    · have bn := lb n_l
      have eg : g32 ((n_l : Int) + 1) = ((n_l + 1 : Nat) : Int) := (g32_eq (v := (n_l : Int) + 1) (by omega) (by omega)).trans (by omega)
      have e7_l : g32 (S n_l + 1) = S n_l + 1 := g32_eq (by omega) (by omega)
      have e8 : g32 (S n_l + 0) = S n_l := (g32_eq (by omega) (by omega)).trans (Int.add_zero _)
      have key_l : ∀ z_l : Int, z_l = ledI a1 a2 (gI u 218 (100 + 4 * n_l + 1)) (gI u 218 (100 + 4 * n_l + 2)) → S n_l + z_l = S (n_l + 1) := fun z_l hz => by rw [le_l, hz]
      have no_l : (¬ (gI u 218 (100 + 4 * n_l + 1) = a1 ∧ (a2 = 0 ∨ gI u 218 (100 + 4 * n_l + 2) = 2))) → S n_l = S (n_l + 1) := fun hz => (Int.add_zero (S n_l)).symm.trans (key_l 0 (if_neg hz).symm)
      have ye : (gI u 218 (100 + 4 * n_l + 1) = a1 ∧ (a2 = 0 ∨ gI u 218 (100 + 4 * n_l + 2) = 2)) → S n_l + 1 = S (n_l + 1) := fun hz => key_l 1 (if_pos hz).symm
      rw [if_pos c1, if_pos rfl]
      refine gQ_w1 (A := fun v_l z_l => v_l = gI u 218 (100 + 4 * n_l + 1) ∧ z_l = gw u 217 0 0) (fun r_l hr2 => ?_) (fun v_l z_l hz => ?_)
      · obtain ⟨q1_l, q2_l⟩ := v256 (u := gw u 217 0 0) (i := n_l) (j := 1) r0 (by omega) (by decide) rfl rfl r_l hr2
        exact ⟨q1_l.trans (m8 _), q2_l⟩
      obtain ⟨z1, z2⟩ := hz
      rw [z1, z2]
      by_cases d1 : gI u 218 (100 + 4 * n_l + 1) = a1
      · rw [if_pos d1]
        by_cases d2 : a2 = 0
        · rw [if_pos d2, e7_l, eg]
          exact gQ_ret ⟨n_l + 1, by rw [ye ⟨d1, Or.inl d2⟩], by omega⟩
        · rw [if_neg d2]
          refine gQ_w1 (A := fun v_l z_l => v_l = gI u 218 (100 + 4 * n_l + 2) ∧ z_l = gw u 217 0 0) (fun r_l hr2 => ?_) (fun v_l z_l hz => ?_)
          · obtain ⟨q1_l, q2_l⟩ := v256 (u := gw u 217 0 0) (i := n_l) (j := 2) r0 (by omega) (by decide) rfl rfl r_l hr2
            exact ⟨q1_l.trans (m8 _), q2_l⟩
          obtain ⟨z3, z4⟩ := hz
          rw [z3, z4]
          by_cases d3 : gI u 218 (100 + 4 * n_l + 2) = 2
          · rw [if_pos d3, e7_l, eg]
            exact gQ_ret ⟨n_l + 1, by rw [ye ⟨d1, Or.inr d3⟩], by omega⟩
          · rw [if_neg d3]
            unfold fb_257_72
            rw [e8, eg]
            exact gQ_ret ⟨n_l + 1, by rw [no_l (fun z_l => z_l.2.elim d2 d3)], by omega⟩
      · rw [if_neg d1]
        unfold fb_257_72
        rw [e8, eg]
        exact gQ_ret ⟨n_l + 1, by rw [no_l (fun z_l => d1 z_l.1)], by omega⟩
    · rw [if_neg c1]
      have en : n_l = N_l := by omega
      rw [en]
      exact gQ_map (gQ_ret (Or.inl ⟨c_l, m0, rfl⟩))
  · rw [if_pos rfl]
    unfold fb_257_14
    dsimp only
    refine gQ_loop (fun y_l => y_l = (217, a1, a2, 0, 0, gw u 217 0 1)) (fun y_l hy => ?_) rfl
    subst hy
    show gQ (sb_257_22 217 a1 a2 0 0 (gw u 217 0 1)) _
    unfold sb_257_22
    have fin_l : gQ (Option.map Sum.inr (some ((1, 0, 0, gw u 217 0 1) : gO)) : Option ((Nat × Int × Int × Int × Int × gS) ⊕ gO)) (Sum.elim (fun y_l => y_l = (217, a1, a2, 0, 0, gw u 217 0 1)) (fun q => ((0 ≤ a1 ∧ a1 < gI u 218 4) ∧ gI q.2.2.2 217 0 = 0 ∧ q.2.1 = sm (ledF (fun k => gI u 218 k) a1 a2) (gI u 218 13).toNat) ∨ (¬ (0 ≤ a1 ∧ a1 < gI u 218 4) ∧ gI q.2.2.2 217 0 = 1))) := gQ_map (gQ_ret (Or.inr ⟨c_l, m0⟩))
    rw [m0]
    split
    · rw [if_neg (by decide)]
      exact fin_l
    · exact fin_l
theorem co_127 (hJ : J p s) (h : RX s) : gQ (f_127 0 a1 a2 s) (CoX st5 (f_257 217 a1 a2) s) := by
  have hg : RF s := hJ.1.2.1
  have hn := hJ.1.1
  unfold f_127
  refine n_gt (by decide) (n_135 hg h.1) (fun c_l => ?_) (fun c_l => ?_)
  · rw [(rr_0_5 hg).2, (rr_15_3 hg).2]
    refine gQ_w1 (A := fun v_l z_l => v_l = sm (ledF (fun k_l => gI s 218 k_l) a1 a2) (gI s 218 13).toNat ∧ z_l = s) (c57 hJ h) (fun v_l z_l hz => gQ_ret (fun u_l p hf hu hR q_l hq => ?_))
    rcases mo_257 hu (r13 hR.2) q_l hq with ⟨-, h1, h2⟩ | ⟨h1, -⟩
    · refine ⟨h1, fun _ => ?_⟩
      rw [h2, RX_e8 hn hf, WQ_8 hn hf 13]
      exact hz.1.symm
    · rw [WQ_8 hn hf 4] at h1
      exact absurd c_l h1
  · intro u_l p hf hu hR q_l hq
    rcases mo_257 hu (r13 hR.2) q_l hq with ⟨h1, -⟩ | ⟨-, h1⟩
    · rw [WQ_8 hn hf 4] at h1
      exact absurd h1 c_l
    · exact ⟨h1, fun z_l => by cases z_l⟩
theorem xc_308 (hJ : J p s) (h : RX s) : gQ (f_308 0 a1 a2 231 s) (fun r => Xc (f_257 217 a1 a2) r.2.1 r.2.2.2) := by
  unfold f_308
  refine xc2 (st := st5) (fun _ => True) hJ.1.1 (co_127 hJ h) (fun r hr => o_127 hJ.1.2.1 cid rfl (Fw_rf hJ.1.1) r hr) (fun _ _ _ => trivial) rfl (fun v_l t_l _ => aX trivial) (fun k_l t_l => ?_) (fun u_l p hu _ q_l hq => (om_257 hu.1.2.1 um rfl (JF hu) q_l hq).2.2 231 0 (Nat.lt_of_lt_of_le (by decide) hu.1.1) rfl)
  by_cases c0 : k_l = 3
  · rw [if_pos c0, c0]
    exact gQ_ret ⟨rfl, (by decide : (1 : Int) ≠ 0), rfl⟩
  rw [if_neg c0]
  exact gQ_none
/-- count -/
theorem trS_b (hg : Vg V) (n : Nat) (hn : n ≤ 6) : 0 ≤ trS V n ∧ trS V n ≤ 99 * n := by
  induction n with
  | zero => exact ⟨Int.le_refl 0, Int.le_refl 0⟩
  | succ n ih_l =>
    have h1 := ih_l (by omega)
    have h2 := (hg.2.1 n (by omega)).1
    show 0 ≤ (if V (40 + 6 * n + 5) = 0 then trS V n + V (40 + 6 * n) else trS V n) ∧ (if V (40 + 6 * n + 5) = 0 then trS V n + V (40 + 6 * n) else trS V n) ≤ 99 * ((n + 1 : Nat) : Int)
    split <;> omega
theorem c30 (hJ : J p s) (h : RX s) : gQ (f_30 15 s) (fun r => r.2.1 = trS (fun k => gI s 218 k) (gI s 218 4).toNat ∧ r.2.2.2 = s) := by
  have hg : RF s := hJ.1.2.1
  have hv := (Jv hJ).2.1
  have e4_l : gI s 15 4 = gI s 218 4 := (ce_n h.1).2.1
  unfold f_30
  refine gQ_loop (fun y_l => ∃ n_l : Nat, y_l = (15, trS (fun k => gI s 218 k) n_l, (n_l : Int), s) ∧ (n_l : Int) ≤ gI s 218 4) (fun y_l hy => ?_) ⟨0, rfl, hv.1⟩
  obtain ⟨n_l, rfl, hn⟩ := hy
  show gQ (sb_30_4 15 (trS (fun k => gI s 218 k) n_l) (n_l : Int) s) _
  unfold sb_30_4
  rw [e4_l]
  by_cases c : (n_l : Int) < gI s 218 4
  · have hn6 : n_l < 6 := by omega
    have bt_l := trS_b (RX_vg h) n_l (by omega)
    have bv_l := ((RX_vg h).2.1 n_l hn6).1
    dsimp only at bv_l
    have eS : g32 (trS (fun k => gI s 218 k) n_l + gI s 218 (40 + 6 * n_l)) = trS (fun k => gI s 218 k) n_l + gI s 218 (40 + 6 * n_l) := g32_eq (by omega) (by omega)
    have hle : ((n_l + 1 : Nat) : Int) ≤ gI s 218 4 := by omega
    have eg : g32 ((n_l : Int) + 1) = ((n_l + 1 : Nat) : Int) := (g32_eq (v := (n_l : Int) + 1) (by omega) (by omega)).trans (by omega)
    have e5_l : gI s (21 + n_l) 5 = gI s 218 (40 + 6 * n_l + 5) := xr h.2 (cjm hn6 (by decide)) (KK_m hn6 (by decide))
    have e0_l : gI s (21 + n_l) 0 = gI s 218 (40 + 6 * n_l) := xr h.2 (cjm hn6 (j := 0) (by decide)) (KK_m hn6 (j := 0) (by decide))
    rw [if_pos c, Int.toNat_natCast, (rr_15_0 hg).2, rr_16 hg hn6, e5_l, e0_l, eg]
    refine gQ_chk ?_
    by_cases d : gI s 218 (40 + 6 * n_l + 5) = 0
    · rw [if_pos d]
      refine gQ_chk (gQ_ret ⟨n_l + 1, ?_, hle⟩)
      show _ = (15, (if gI s 218 (40 + 6 * n_l + 5) = 0 then trS (fun k => gI s 218 k) n_l + gI s 218 (40 + 6 * n_l) else trS (fun k => gI s 218 k) n_l), ((n_l + 1 : Nat) : Int), s)
      rw [if_pos d, eS]
    · rw [if_neg d]
      refine gQ_ret ⟨n_l + 1, ?_, hle⟩
      show _ = (15, (if gI s 218 (40 + 6 * n_l + 5) = 0 then trS (fun k => gI s 218 k) n_l + gI s 218 (40 + 6 * n_l) else trS (fun k => gI s 218 k) n_l), ((n_l + 1 : Nat) : Int), s)
      rw [if_neg d]
  · rw [if_neg c]
    have en : (gI s 218 4).toNat = n_l := by omega
    rw [en]
    exact gQ_map (gQ_ret ⟨rfl, rfl⟩)
theorem mo_263 (hJ : J p u) (hg : Vg (fun k => gI u 218 k)) : gQ (f_263 217 a1 u) (fun q => q.2.1 = cnF (fun k => gI u 218 k) (gI u 217 6) a1) := by
  have hr : gR (gw u 217 0 0) 217 1 = 218 := (rr_217_1 hJ.1.2.1).2
  have hv := (Jv hJ).2.1
  have e6_l : gI (gw u 217 0 0) 217 6 = gI u 217 6 := rd_k (a := 217) (k := 6) rfl (by decide)
  unfold f_263
  dsimp only
  refine gQ_w1 (A := fun v_l z_l => v_l = (if 0 ≤ a1 ∧ a1 ≤ 3 then 1 else 0) ∧ z_l = gw u 217 0 0) m_150 (fun v_l z_l hz => ?_)
  obtain ⟨z1, z2⟩ := hz
  rw [z1, z2]
  unfold cnF
  by_cases c : 0 ≤ a1 ∧ a1 ≤ 3
  · rw [if_pos c, if_neg (by decide), if_pos c, hr, g32_eq (v := 3 + a1) (by omega) (by omega), show (3 + a1).toNat = 3 + a1.toNat by omega, m8]
    exact gQ_chk (gQ_ret rfl)
  rw [if_neg c, if_pos rfl, if_neg c, hr, m8, m8, m8]
  by_cases c4 : a1 = 4
  · rw [if_pos c4, if_pos c4]
    exact gQ_ret rfl
  rw [if_neg c4, if_neg c4]
  by_cases c5 : a1 = 5
  · rw [if_pos c5, if_pos c5]
    exact gQ_ret rfl
  rw [if_neg c5, if_neg c5]
  by_cases c6 : a1 = 6
  · rw [if_pos c6, if_pos c6]
    exact gQ_ret rfl
  rw [if_neg c6, if_neg c6]
  refine gQ_w1 (A := fun v_l z_l => v_l = (if 7 ≤ a1 ∧ a1 ≤ 11 then 1 else 0) ∧ z_l = gw u 217 0 0) m_150 (fun v_l z_l hz => ?_)
  obtain ⟨z3, z4⟩ := hz
  rw [z3, z4]
  by_cases c7 : 7 ≤ a1 ∧ a1 ≤ 11
  · rw [if_pos c7, if_neg (by decide), if_pos c7, hr, g32_eq (v := 8 + a1) (by omega) (by omega), g32_eq (v := 8 + a1 - 7) (by omega) (by omega), show (8 + a1 - 7).toNat = 1 + a1.toNat by omega, m8]
    exact gQ_chk (gQ_ret rfl)
  rw [if_neg c7, if_pos rfl, if_neg c7]
  by_cases c12 : a1 = 12
  · rw [if_pos c12, if_pos c12]
    refine gQ_loop (fun y_l => ∃ n_l : Nat, y_l = (217, trS (fun k => gI u 218 k) n_l, (n_l : Int), gw u 217 0 0) ∧ (n_l : Int) ≤ gI u 218 4) (fun y_l hy => ?_) ⟨0, rfl, hv.1⟩
    obtain ⟨n_l, rfl, hn⟩ := hy
    show gQ (sb_263_95 217 (trS (fun k => gI u 218 k) n_l) (n_l : Int) (gw u 217 0 0)) _
    unfold sb_263_95
    rw [hr, m8]
    by_cases d : (n_l : Int) < gI u 218 4
    · have hn6 : n_l < 6 := by omega
      have hle : ((n_l + 1 : Nat) : Int) ≤ gI u 218 4 := by omega
      have bt_l := trS_b hg n_l (by omega)
      have bv_l := (hg.2.1 n_l hn6).1
      dsimp only at bv_l
      have eS : g32 (trS (fun k => gI u 218 k) n_l + gI u 218 (40 + 6 * n_l)) = trS (fun k => gI u 218 k) n_l + gI u 218 (40 + 6 * n_l) := g32_eq (by omega) (by omega)
      have eT : g32 (trS (fun k => gI u 218 k) n_l + 0) = trS (fun k => gI u 218 k) n_l := (g32_eq (by omega) (by omega)).trans (Int.add_zero _)
      have eg : g32 ((n_l : Int) + 1) = ((n_l + 1 : Nat) : Int) := (g32_eq (v := (n_l : Int) + 1) (by omega) (by omega)).trans (by omega)
      rw [if_pos d]
      refine gQ_w1 (A := fun v_l z_l => v_l = (if gI u 218 (40 + 6 * n_l + 5) = 0 then 1 else 0) ∧ z_l = gw u 217 0 0) (v165 (c := (fun k => gI u 218 k, fun _ _ => 0)) hr (fun k => m8 k) hn6) (fun v_l z_l hz => ?_)
      obtain ⟨y1, y2⟩ := hz
      rw [y1, y2]
      by_cases d5 : gI u 218 (40 + 6 * n_l + 5) = 0
      · rw [if_pos d5, if_neg (by decide)]
        refine gQ_w1 (A := fun v_l z_l => v_l = gI u 218 (40 + 6 * n_l) ∧ z_l = gw u 217 0 0) (fun r_l hr2 => ?_) (fun v_l z_l hz => ?_)
        · obtain ⟨q1_l, q2_l⟩ := v156 (z := gw u 217 0 0) (j := 0) hr hn6 (by decide) rfl r_l hr2
          exact ⟨q1_l.trans (m8 _), q2_l⟩
        obtain ⟨y3, y4⟩ := hz
        rw [y3, y4, eg]
        refine gQ_ret ⟨n_l + 1, ?_, hle⟩
        show _ = (217, (if gI u 218 (40 + 6 * n_l + 5) = 0 then trS (fun k => gI u 218 k) n_l + gI u 218 (40 + 6 * n_l) else trS (fun k => gI u 218 k) n_l), ((n_l + 1 : Nat) : Int), gw u 217 0 0)
        rw [if_pos d5, eS]
      · rw [if_neg d5, if_pos rfl, eg]
        refine gQ_ret ⟨n_l + 1, ?_, hle⟩
        show _ = (217, (if gI u 218 (40 + 6 * n_l + 5) = 0 then trS (fun k => gI u 218 k) n_l + gI u 218 (40 + 6 * n_l) else trS (fun k => gI u 218 k) n_l), ((n_l + 1 : Nat) : Int), gw u 217 0 0)
        rw [if_neg d5, eT]
    · rw [if_neg d]
      have en : (gI u 218 4).toNat = n_l := by omega
      rw [en]
      exact gQ_map (gQ_ret rfl)
  rw [if_neg c12, if_neg c12]
  by_cases c13 : a1 = 13
  · rw [if_pos c13, if_pos c13, hr, m8]
    exact gQ_ret rfl
  rw [if_neg c13, if_neg c13]
  by_cases c14 : a1 = 14
  · rw [if_pos c14, if_pos c14, e6_l]
    exact gQ_ret rfl
  rw [if_neg c14, if_neg c14]
  exact gQ_ret rfl
theorem xk (h : Rx s) (hk : KK k) : cv s 9 15 k = gI s 218 k := by
  have h1 := h.1.1 k hk
  rw [Nat.zero_add] at h1
  exact h1.symm

theorem c133 (hJ : J p s) (h : RX s) : gQ (f_133 0 a1 s) (fun r => r.2.1 = cnF (fun k => gI s 218 k) (gI s 217 6) a1) := by
  have hg : RF s := hJ.1.2.1
  have out_l : a1 < 0 ∨ 14 < a1 → cnF (fun k => gI s 218 k) (gI s 217 6) a1 = -1 := fun hx => by
    unfold cnF
    rw [if_neg (by omega), if_neg (by omega), if_neg (by omega), if_neg (by omega), if_neg (by omega), if_neg (by omega), if_neg (by omega), if_neg (by omega)]
  have i03 : ∀ (e_l : Nat), e_l ≤ 3 → a1 = (e_l : Int) → cnF (fun k => gI s 218 k) (gI s 217 6) a1 = gI s 218 (3 + e_l) := fun e_l he ea => by
    unfold cnF
    rw [if_pos (by omega), show a1.toNat = e_l by omega]
  have i7_l : ∀ (e_l : Nat), 7 ≤ e_l → e_l ≤ 11 → a1 = (e_l : Int) → cnF (fun k => gI s 218 k) (gI s 217 6) a1 = gI s 218 (1 + e_l) := fun e_l he hf ea => by
    unfold cnF
    rw [if_neg (by omega), if_neg (by omega), if_neg (by omega), if_neg (by omega), if_pos (by omega), show a1.toNat = e_l by omega]
  unfold f_133
  rw [(rr_0_4 hg).2, (rr_0_5 hg).2]
  by_cases c : a1 < 0
  · rw [if_pos c]
    exact gQ_ret (out_l (Or.inl c)).symm
  rw [if_neg c]
  by_cases c0 : a1 < 1
  · rw [if_pos c0]
    exact gQ_ret ((xk h.2 (k := 3) (by unfold KK; decide) : gI s 9 5 = gI s 218 3).trans (i03 0 (by decide) (by omega)).symm)
  rw [if_neg c0]
  by_cases c1 : a1 < 2
  · rw [if_pos c1]
    exact gQ_ret ((xk h.2 (k := 4) (by unfold KK; decide) : gI s 15 4 = gI s 218 4).trans (i03 1 (by decide) (by omega)).symm)
  rw [if_neg c1]
  by_cases c2 : a1 < 3
  · rw [if_pos c2]
    exact gQ_ret ((xk h.2 (k := 5) (by unfold KK; decide) : gI s 9 6 = gI s 218 5).trans (i03 2 (by decide) (by omega)).symm)
  rw [if_neg c2]
  by_cases c3 : a1 < 4
  · rw [if_pos c3]
    exact gQ_ret ((xk h.2 (k := 6) (by unfold KK; decide) : gI s 15 5 = gI s 218 6).trans (i03 3 (by decide) (by omega)).symm)
  rw [if_neg c3]
  by_cases c4 : a1 < 5
  · rw [if_pos c4]
    refine gQ_ret ((xk h.2 (k := 0) (by unfold KK; decide) : gI s 9 10 = gI s 218 0).trans ?_)
    unfold cnF
    rw [if_neg (by omega), if_pos (by omega)]
  rw [if_neg c4]
  by_cases c5 : a1 < 6
  · rw [if_pos c5]
    have hv : cnF (fun k => gI s 218 k) (gI s 217 6) a1 = gI s 218 1 := by
      unfold cnF
      rw [if_neg (by omega), if_neg (by omega), if_pos (by omega)]
    obtain ⟨T, hT_l⟩ := h.2.2.2.2
    rcases hT_l with ⟨-, t2_l, t3_l⟩ | ⟨y_l, k, -, ⟨L_l, e_l, ⟨l1, -, -⟩, -⟩, ⟨t3_l, -⟩, t5_l, -⟩
    · rw [if_pos t3_l]
      exact gQ_ret (t2_l.symm.trans hv.symm)
    · have hne : ¬ gR s 9 11 = 0 := by omega
      rw [if_neg hne, if_neg hne]
      exact gQ_ret ((t5_l.1.trans l1.symm).trans hv.symm)
  rw [if_neg c5]
  by_cases c6 : a1 < 7
  · rw [if_pos c6]
    refine gQ_ret ((xk h.2 (k := 7) (by unfold KK; decide) : gI s 15 8 = gI s 218 7).trans ?_)
    unfold cnF
    rw [if_neg (by omega), if_neg (by omega), if_neg (by omega), if_pos (by omega)]
  rw [if_neg c6]
  by_cases c7 : a1 < 8
  · rw [if_pos c7]
    exact gQ_ret ((xk h.2 (k := 8) (by unfold KK; decide) : gI s 15 6 = gI s 218 8).trans (i7_l 7 (by decide) (by decide) (by omega)).symm)
  rw [if_neg c7]
  by_cases c8 : a1 < 9
  · rw [if_pos c8]
    exact gQ_ret ((xk h.2 (k := 9) (by unfold KK; decide) : gI s 15 7 = gI s 218 9).trans (i7_l 8 (by decide) (by decide) (by omega)).symm)
  rw [if_neg c8]
  by_cases c9 : a1 < 10
  · rw [if_pos c9]
    exact gQ_ret ((xk h.2 (k := 10) (by unfold KK; decide) : gI s 9 7 = gI s 218 10).trans (i7_l 9 (by decide) (by decide) (by omega)).symm)
  rw [if_neg c9]
  by_cases c10 : a1 < 11
  · rw [if_pos c10]
    exact gQ_ret ((xk h.2 (k := 11) (by unfold KK; decide) : gI s 9 8 = gI s 218 11).trans (i7_l 10 (by decide) (by decide) (by omega)).symm)
  rw [if_neg c10]
  by_cases c11 : a1 < 12
  · rw [if_pos c11]
    exact gQ_ret ((xk h.2 (k := 12) (by unfold KK; decide) : gI s 9 9 = gI s 218 12).trans (i7_l 11 (by decide) (by decide) (by omega)).symm)
  rw [if_neg c11]
  by_cases c12 : a1 < 13
  · rw [if_pos c12]
    refine gQ_w1 (A := fun v_l _ => v_l = trS (fun k => gI s 218 k) (gI s 218 4).toNat) (fun r hr => (c30 hJ h r hr).1) (fun v_l z_l hz => gQ_ret (hz.trans ?_))
    unfold cnF
    rw [if_neg (by omega), if_neg (by omega), if_neg (by omega), if_neg (by omega), if_neg (by omega), if_pos (by omega)]
  rw [if_neg c12]
  by_cases c13 : a1 < 14
  · rw [if_pos c13]
    rw [(rr_15_3 hg).2]
    refine gQ_ret ((xk h.2 (k := 13) (by unfold KK; decide) : gI s 19 1 = gI s 218 13).trans ?_)
    unfold cnF
    rw [if_neg (by omega), if_neg (by omega), if_neg (by omega), if_neg (by omega), if_neg (by omega), if_neg (by omega), if_pos (by omega)]
  rw [if_neg c13]
  by_cases c14 : a1 < 15
  · rw [if_pos c14]
    refine gQ_ret (h.2.2.2.1.1.trans ?_)
    unfold cnF
    rw [if_neg (by omega), if_neg (by omega), if_neg (by omega), if_neg (by omega), if_neg (by omega), if_neg (by omega), if_neg (by omega), if_pos (by omega)]
  rw [if_neg c14]
  exact gQ_ret (out_l (Or.inr (by omega))).symm
theorem cd_133 (hJ : J p s) (h : RX s) : gQ (f_133 0 a1 s) (CdX (f_263 217 a1) s) := fun r_l hr u_l p' hf hu hR q_l hq => by
  have h1 : r_l.2.1 = cnF (fun k_l => gI s 218 k_l) (gI s 217 6) a1 := c133 hJ h r_l hr
  have h2 := mo_263 hu (RX_vg hR) q_l hq
  have hn := hJ.1.1
  have e6_l : gI u_l 217 6 = gI s 217 6 := hf.2.2 217 6 (by omega) (WQ_n (by omega))
  rw [RX_e8 hn hf, e6_l] at h2
  exact h2.trans h1.symm
theorem xc_133 (hJ : J p s) (h : RX s) : gQ (f_133 0 a1 s) (fun r => Xc1 (f_263 217 a1) r.2.1 r.2.2.2) := xc1 hJ.1.1 (cd_133 hJ h) (fun r hr => o_133 hJ.1.2.1 cid rfl (Fw_rf hJ.1.1) r hr)
end Qf

end
section
/-! rests -/
def rsC (c k x y : Int) : Int := if y = 0 ∧ (x = 1 ∨ k = 0) then (if x = 0 then c else 0) + 50 else (if x = 0 then c else 0)
def rsT (t k x y : Int) : Int := if y = 1 then 10 else if x = 0 then (if k = 0 then 30 else -t) else 30
def rsS (c t k : Int) : Nat → Int
  | 0 => 0
  | n + 1 => if rsC c k (1 - ((n / 2 : Nat) : Int)) ((n % 2 : Nat) : Int) < rsC c k ((n / 2 : Nat) : Int) ((n % 2 : Nat) : Int) then rsS c t k n else if rsT t k ((n / 2 : Nat) : Int) ((n % 2 : Nat) : Int) < rsT t k ((n / 2 : Nat) : Int) (1 - ((n % 2 : Nat) : Int)) then rsS c t k n else gor (rsS c t k n) (gshl 1 (n : Int))
section Qg
variable {s t u g z : gS} {p : gP} {a1 a2 a3 v d lu x y : Int} {a i j n m : Nat} {k c w : Int} {V W : Nat → Int}
theorem q17 (hw : 0 ≤ w ∧ w ≤ 100) (hx : x = 0 ∨ x = 1) : gQ (fb_146_17 x y k w s) (fun r => r.2.1 = (if y = 0 ∧ (x = 1 ∨ k = 0) then w + 50 else w) ∧ r.2.2.2 = s) := by
  have e_l : g32 (w + 50) = w + 50 := g32_eq (by omega) (by omega)
  have f1_l : gQ (fb_146_38 w 1 s) (fun r => r.2.1 = w + 50 ∧ r.2.2.2 = s) := by
    unfold fb_146_38
    rw [if_neg (by decide)]
    exact gQ_ret ⟨e_l, rfl⟩
  have f0_l : gQ (fb_146_37 w s) (fun r => r.2.1 = w ∧ r.2.2.2 = s) := by
    unfold fb_146_37 fb_146_38
    rw [if_pos rfl]
    exact gQ_ret ⟨rfl, rfl⟩
  unfold fb_146_17
  by_cases c1 : y = 0
  · rw [if_pos c1]
    by_cases c2 : x = 1
    · rw [if_pos c2, if_pos ⟨c1, Or.inl c2⟩]
      exact f1_l
    · rw [if_neg c2]
      by_cases c3 : k = 0
      · rw [if_pos c3, if_pos ⟨c1, Or.inr c3⟩]
        exact f1_l
      · rw [if_neg c3, if_neg (fun z_l => z_l.2.elim c2 c3)]
        exact f0_l
  · rw [if_neg c1, if_neg (fun z_l => c1 z_l.1)]
    exact f0_l
theorem q146 (hJ : J p s) (h : Rt s) (hj : j < 6) (hx : x = 0 ∨ x = 1) : gQ (f_146 0 x y (j : Int) k s) (fun r => r.2.1 = rsC (gI s 218 (76 + 2 * j)) k x y ∧ r.2.2.2 = s) := by
  have hg : RF s := hJ.1.2.1
  have e_l : gI s 13 j = gI s 218 (76 + 2 * j) := ce_t h hj (j := 0) (by decide)
  have hb_l := tV5 h j hj
  unfold f_146 rsC
  by_cases c : x = 0
  · rw [if_pos c, if_pos c, (rr_0_4 hg).2, (rr_9 hg).2.2.2.1, Int.toNat_natCast, e_l]
    exact gQ_chk (q17 hb_l hx)
  · rw [if_neg c, if_neg c]
    exact q17 (by decide) hx
theorem q147 (ht : 0 ≤ v ∧ v ≤ 99) : gQ (f_147 x y v k s) (fun r => r.2.1 = rsT v k x y ∧ r.2.2.2 = s) := by
  have e_l : g32 (-v) = -v := g32_eq (by omega) (by omega)
  unfold f_147 fb_147_21 rsT
  by_cases c1 : y = 1
  · rw [if_pos c1, if_pos c1]
    exact gQ_ret ⟨rfl, rfl⟩
  rw [if_neg c1, if_neg c1]
  by_cases c2 : x = 0
  · rw [if_pos c2, if_pos c2]
    by_cases c3 : k = 0
    · rw [if_pos c3, if_pos c3]
      exact gQ_ret ⟨rfl, rfl⟩
    · rw [if_neg c3, if_neg c3]
      exact gQ_ret ⟨e_l, rfl⟩
  · rw [if_neg c2, if_neg c2]
    exact gQ_ret ⟨rfl, rfl⟩
theorem m212 (hr : gR z 217 1 = 218) (h8 : ∀ k, gI z 218 k = V k) (hj : j < 6) : gQ (f_212 217 (j : Int) v z) (fun r => r.2.1 = (if gand v (gxor (V (76 + 2 * j + 1)) (-1)) = 0 then 1 else 0) ∧ r.2.2.2 = z) := by
  unfold f_212
  refine gQ_w1 (A := fun w_l y_l => w_l = V (76 + 2 * j + 1) ∧ y_l = z) (fun r hr2 => ?_) (fun w_l y_l hy => ?_)
  · obtain ⟨q1_l, q2_l⟩ := m_159 (x := (j : Int)) hr (by omega) r hr2
    rw [Int.toNat_natCast] at q1_l
    exact ⟨q1_l.trans (h8 _), q2_l⟩
  obtain ⟨y1, y2⟩ := hy
  rw [y1, y2]
  by_cases c : gand v (gxor (V (76 + 2 * j + 1)) (-1)) = 0
  · rw [if_pos c, if_pos c]
    exact gQ_ret ⟨rfl, rfl⟩
  · rw [if_neg c, if_neg c]
    exact gQ_ret ⟨rfl, rfl⟩
theorem m241 (hr : gR z 217 1 = 218) (h8 : ∀ k, gI z 218 k = V k) (hi : i < 6) (hj : j < 6) (hk : k = (if gand (V (40 + 6 * i + 2)) (gxor (V (76 + 2 * j + 1)) (-1)) = 0 then 1 else 0)) (hx : x = 0 ∨ x = 1) (hc : 0 ≤ V (76 + 2 * j) ∧ V (76 + 2 * j) ≤ 100) : gQ (f_241 217 (i : Int) (j : Int) x y z) (fun r => r.2.1 = rsC (V (76 + 2 * j)) k x y ∧ r.2.2.2 = z) := by
  have f1_l : ∀ w_l, (0 ≤ w_l ∧ w_l ≤ 100) → gQ (fb_241_44 w_l 1 z) (fun r => r.2.1 = w_l + 50 ∧ r.2.2.2 = z) := fun w_l hw => by
    unfold fb_241_44
    rw [if_neg (by decide)]
    exact gQ_ret ⟨g32_eq (by omega) (by omega), rfl⟩
  have f0_l : ∀ w_l, (0 ≤ w_l ∧ w_l ≤ 100) → gQ (fb_241_43 w_l z) (fun r => r.2.1 = w_l ∧ r.2.2.2 = z) := fun w_l hw => by
    unfold fb_241_43 fb_241_44
    rw [if_pos rfl]
    exact gQ_ret ⟨(g32_eq (by omega) (by omega)).trans (Int.add_zero w_l), rfl⟩
  have go_l : ∀ w_l, (0 ≤ w_l ∧ w_l ≤ 100) → gQ (fb_241_13 217 (i : Int) (j : Int) x y w_l z) (fun r => r.2.1 = (if y = 0 ∧ (x = 1 ∨ k = 0) then w_l + 50 else w_l) ∧ r.2.2.2 = z) := fun w_l hw => by
    unfold fb_241_13
    by_cases c1 : y = 0
    · rw [if_pos c1]
      by_cases c2 : x = 1
      · rw [if_pos c2, if_pos ⟨c1, Or.inl c2⟩]
        exact f1_l w_l hw
      · rw [if_neg c2]
        refine gQ_w1 (A := fun v_l y => v_l = V (40 + 6 * i + 2) ∧ y = z) (fun r hr2 => ?_) (fun v_l y hy => ?_)
        · obtain ⟨q1_l, q2_l⟩ := v156 (j := 2) hr hi (by decide) rfl r hr2
          exact ⟨q1_l.trans (h8 _), q2_l⟩
        obtain ⟨y1, y2⟩ := hy
        rw [y1, y2]
        refine gQ_w1 (A := fun v_l y => v_l = k ∧ y = z) (fun r hr2 => ?_) (fun v_l y hy => ?_)
        · obtain ⟨q1_l, q2_l⟩ := m212 hr h8 hj r hr2
          exact ⟨q1_l.trans hk.symm, q2_l⟩
        obtain ⟨y3, y4⟩ := hy
        rw [y3, y4]
        by_cases c3 : k = 0
        · rw [if_pos c3, if_pos ⟨c1, Or.inr c3⟩]
          exact f1_l w_l hw
        · rw [if_neg c3, if_neg (fun z => z.2.elim c2 c3)]
          exact f0_l w_l hw
    · rw [if_neg c1, if_neg (fun z => c1 z.1)]
      exact f0_l w_l hw
  unfold f_241 rsC
  by_cases c : x = 0
  · rw [if_pos c, if_pos c]
    refine gQ_w1 (A := fun v_l y => v_l = V (76 + 2 * j) ∧ y = z) (fun r hr2 => ?_) (fun v_l y hy => ?_)
    · obtain ⟨q1_l, q2_l⟩ := m_158 (x := (j : Int)) hr (by omega) r hr2
      rw [Int.toNat_natCast] at q1_l
      exact ⟨q1_l.trans (h8 _), q2_l⟩
    obtain ⟨y1, y2⟩ := hy
    rw [y1, y2]
    exact go_l _ hc
  · rw [if_neg c, if_neg c]
    exact go_l 0 (by decide)
theorem m242 (hr : gR z 217 1 = 218) (h8 : ∀ k, gI z 218 k = V k) (hi : i < 6) (hj : j < 6) (hk : k = (if gand (V (40 + 6 * i + 2)) (gxor (V (76 + 2 * j + 1)) (-1)) = 0 then 1 else 0)) (ht : 0 ≤ V (40 + 6 * i) ∧ V (40 + 6 * i) ≤ 99) : gQ (f_242 217 (i : Int) (j : Int) x y z) (fun r => r.2.1 = rsT (V (40 + 6 * i)) k x y ∧ r.2.2.2 = z) := by
  unfold f_242 fb_242_37 rsT
  by_cases c1 : y = 1
  · rw [if_pos c1, if_pos c1]
    exact gQ_ret ⟨rfl, rfl⟩
  rw [if_neg c1, if_neg c1]
  by_cases c2 : x = 0
  · rw [if_pos c2, if_pos c2]
    refine gQ_w1 (A := fun v_l y => v_l = V (40 + 6 * i + 2) ∧ y = z) (fun r hr2 => ?_) (fun v_l y hy => ?_)
    · obtain ⟨q1_l, q2_l⟩ := v156 (j := 2) hr hi (by decide) rfl r hr2
      exact ⟨q1_l.trans (h8 _), q2_l⟩
    obtain ⟨y1, y2⟩ := hy
    rw [y1, y2]
    refine gQ_w1 (A := fun v_l y => v_l = k ∧ y = z) (fun r hr2 => ?_) (fun v_l y hy => ?_)
    · obtain ⟨q1_l, q2_l⟩ := m212 hr h8 hj r hr2
      exact ⟨q1_l.trans hk.symm, q2_l⟩
    obtain ⟨y3, y4⟩ := hy
    rw [y3, y4]
    by_cases c3 : k = 0
    · rw [if_pos c3, if_pos c3]
      exact gQ_ret ⟨rfl, rfl⟩
    · rw [if_neg c3, if_neg c3]
      refine gQ_w1 (A := fun v_l y => v_l = V (40 + 6 * i) ∧ y = z) (fun r hr2 => ?_) (fun v_l y hy => ?_)
      · obtain ⟨q1_l, q2_l⟩ := v156 (j := 0) hr hi (by decide) rfl r hr2
        exact ⟨q1_l.trans (h8 _), q2_l⟩
      obtain ⟨y5, y6⟩ := hy
      rw [y5, y6]
      exact gQ_ret ⟨g32_eq (by omega) (by omega), rfl⟩
  · rw [if_neg c2, if_neg c2]
    exact gQ_ret ⟨rfl, rfl⟩
theorem n4s : ∀ n : Nat, n < 4 → (gshr (n : Int) 1 = ((n / 2 : Nat) : Int) ∧ gand (n : Int) 1 = ((n % 2 : Nat) : Int)) ∧ (gdiv (n : Int) 2 = ((n / 2 : Nat) : Int) ∧ grem (n : Int) 2 = ((n % 2 : Nat) : Int)) ∧ g32 (1 - ((n / 2 : Nat) : Int)) = 1 - ((n / 2 : Nat) : Int) ∧ g32 (1 - ((n % 2 : Nat) : Int)) = 1 - ((n % 2 : Nat) : Int) := by decide +kernel
theorem rest_m (hJ : J p u) (h : RX u) (c1 : 0 ≤ a1 ∧ a1 < gI u 218 4) (c2 : 0 ≤ a2 ∧ a2 < gI u 218 5) (hk : k = (if gand (gI u 218 (40 + 6 * a1.toNat + 2)) (gxor (gI u 218 (76 + 2 * a2.toNat + 1)) (-1)) = 0 then 1 else 0)) : gQ (fb_243_22 217 a1 a2 0 217 u) (fun q => gI q.2.2.2 217 0 = 0 ∧ q.2.1 = rsS (gI u 218 (76 + 2 * a2.toNat)) (gI u 218 (40 + 6 * a1.toNat)) k 4) := by
  have hv := (Jv hJ).2
  obtain ⟨i_l, hi_l⟩ : ∃ i_l : Nat, a1 = (i_l : Int) := ⟨a1.toNat, by omega⟩
  obtain ⟨j_l, hj⟩ : ∃ j_l : Nat, a2 = (j_l : Int) := ⟨a2.toNat, by omega⟩
  have hi6 : i_l < 6 := by omega
  have hj6 : j_l < 6 := by omega
  have ht := ((RX_vg h).2.1 i_l hi6).1
  have hc_l := tV5 h.1 j_l hj6
  have hr : gR (gw u 217 0 0) 217 1 = 218 := (rr_217_1 hJ.1.2.1).2
  subst hi_l hj
  rw [Int.toNat_natCast, Int.toNat_natCast] at hk
  rw [Int.toNat_natCast, Int.toNat_natCast]
  unfold fb_243_22
  dsimp only
  refine gQ_loop (fun y_l => ∃ n_l : Nat, y_l = (217, (i_l : Int), (j_l : Int), rsS (gI u 218 (76 + 2 * j_l)) (gI u 218 (40 + 6 * i_l)) k n_l, (n_l : Int), gw u 217 0 0) ∧ n_l ≤ 4) (fun y_l hy => ?_) ⟨0, rfl, by decide⟩
  obtain ⟨n_l, rfl, hn⟩ := hy
  show gQ (sb_243_30 217 (i_l : Int) (j_l : Int) (rsS (gI u 218 (76 + 2 * j_l)) (gI u 218 (40 + 6 * i_l)) k n_l) (n_l : Int) (gw u 217 0 0)) _
  unfold sb_243_30
  by_cases c4 : (n_l : Int) < 4
  · have hle : n_l + 1 ≤ 4 := by omega
    obtain ⟨-, ⟨e3_l, e4_l⟩, e5_l, e6_l⟩ := n4s n_l (by omega)
    have hx : ((n_l / 2 : Nat) : Int) = 0 ∨ ((n_l / 2 : Nat) : Int) = 1 := by omega
    have hx2 : 1 - ((n_l / 2 : Nat) : Int) = 0 ∨ 1 - ((n_l / 2 : Nat) : Int) = 1 := by omega
    have eg : g32 ((n_l : Int) + 1) = ((n_l + 1 : Nat) : Int) := (g32_eq (v := (n_l : Int) + 1) (by omega) (by omega)).trans (by omega)
    have es : rsS (gI u 218 (76 + 2 * j_l)) (gI u 218 (40 + 6 * i_l)) k (n_l + 1) = (if rsC (gI u 218 (76 + 2 * j_l)) k (1 - ((n_l / 2 : Nat) : Int)) ((n_l % 2 : Nat) : Int) < rsC (gI u 218 (76 + 2 * j_l)) k ((n_l / 2 : Nat) : Int) ((n_l % 2 : Nat) : Int) then rsS (gI u 218 (76 + 2 * j_l)) (gI u 218 (40 + 6 * i_l)) k n_l else if rsT (gI u 218 (40 + 6 * i_l)) k ((n_l / 2 : Nat) : Int) ((n_l % 2 : Nat) : Int) < rsT (gI u 218 (40 + 6 * i_l)) k ((n_l / 2 : Nat) : Int) (1 - ((n_l % 2 : Nat) : Int)) then rsS (gI u 218 (76 + 2 * j_l)) (gI u 218 (40 + 6 * i_l)) k n_l else gor (rsS (gI u 218 (76 + 2 * j_l)) (gI u 218 (40 + 6 * i_l)) k n_l) (gshl 1 (n_l : Int))) := rfl
    rw [if_pos c4, m0, if_pos rfl, e3_l, e4_l, e5_l, e6_l, eg]
    refine gQ_w1 (A := fun v_l y_l => v_l = rsC (gI u 218 (76 + 2 * j_l)) k (1 - ((n_l / 2 : Nat) : Int)) ((n_l % 2 : Nat) : Int) ∧ y_l = gw u 217 0 0) (m241 (V := fun k => gI u 218 k) hr (fun k => m8 k) hi6 hj6 hk hx2 hc_l) (fun v_l y_l hy => ?_)
    obtain ⟨y1, y2⟩ := hy
    rw [y1, y2]
    refine gQ_w1 (A := fun v_l y_l => v_l = rsC (gI u 218 (76 + 2 * j_l)) k ((n_l / 2 : Nat) : Int) ((n_l % 2 : Nat) : Int) ∧ y_l = gw u 217 0 0) (m241 (V := fun k => gI u 218 k) hr (fun k => m8 k) hi6 hj6 hk hx hc_l) (fun v_l y_l hy => ?_)
    obtain ⟨y3, y4⟩ := hy
    rw [y3, y4]
    by_cases d1 : rsC (gI u 218 (76 + 2 * j_l)) k (1 - ((n_l / 2 : Nat) : Int)) ((n_l % 2 : Nat) : Int) < rsC (gI u 218 (76 + 2 * j_l)) k ((n_l / 2 : Nat) : Int) ((n_l % 2 : Nat) : Int)
    · rw [if_pos d1] at es ⊢
      exact gQ_ret ⟨n_l + 1, by rw [es], hle⟩
    rw [if_neg d1] at es ⊢
    refine gQ_w1 (A := fun v_l y_l => v_l = rsT (gI u 218 (40 + 6 * i_l)) k ((n_l / 2 : Nat) : Int) (1 - ((n_l % 2 : Nat) : Int)) ∧ y_l = gw u 217 0 0) (m242 (V := fun k => gI u 218 k) hr (fun k => m8 k) hi6 hj6 hk ht) (fun v_l y_l hy => ?_)
    obtain ⟨y5, y6⟩ := hy
    rw [y5, y6]
    refine gQ_w1 (A := fun v_l y_l => v_l = rsT (gI u 218 (40 + 6 * i_l)) k ((n_l / 2 : Nat) : Int) ((n_l % 2 : Nat) : Int) ∧ y_l = gw u 217 0 0) (m242 (V := fun k => gI u 218 k) hr (fun k => m8 k) hi6 hj6 hk ht) (fun v_l y_l hy => ?_)
    obtain ⟨y7, y8⟩ := hy
    rw [y7, y8]
    by_cases d2 : rsT (gI u 218 (40 + 6 * i_l)) k ((n_l / 2 : Nat) : Int) ((n_l % 2 : Nat) : Int) < rsT (gI u 218 (40 + 6 * i_l)) k ((n_l / 2 : Nat) : Int) (1 - ((n_l % 2 : Nat) : Int))
    · rw [if_pos d2] at es ⊢
      exact gQ_ret ⟨n_l + 1, by rw [es], hle⟩
    · rw [if_neg d2] at es ⊢
      exact gQ_ret ⟨n_l + 1, by rw [es], hle⟩
  · rw [if_neg c4]
    have en : n_l = 4 := by omega
    rw [en]
    exact gQ_map (gQ_ret ⟨m0, rfl⟩)
theorem rest_x : gQ (fb_243_22 217 a1 a2 1 217 u) (fun q => gI q.2.2.2 217 0 = 1) := by
  unfold fb_243_22
  dsimp only
  refine gQ_loop (fun y_l => y_l = (217, a1, a2, 0, 0, gw u 217 0 1)) (fun y_l hy => ?_) rfl
  subst hy
  show gQ (sb_243_30 217 a1 a2 0 0 (gw u 217 0 1)) _
  unfold sb_243_30
  rw [if_pos (by decide), m0, if_neg (by decide)]
  exact gQ_map (gQ_ret m0)
theorem mo_243 (hJ : J p u) (h : RX u) (hk : (0 ≤ a1 ∧ a1 < gI u 218 4) ∧ (0 ≤ a2 ∧ a2 < gI u 218 5) → k = (if gand (gI u 218 (40 + 6 * a1.toNat + 2)) (gxor (gI u 218 (76 + 2 * a2.toNat + 1)) (-1)) = 0 then 1 else 0)) : gQ (f_243 217 a1 a2 u) (fun q => (((0 ≤ a1 ∧ a1 < gI u 218 4) ∧ (0 ≤ a2 ∧ a2 < gI u 218 5)) ∧ gI q.2.2.2 217 0 = 0 ∧ q.2.1 = rsS (gI u 218 (76 + 2 * a2.toNat)) (gI u 218 (40 + 6 * a1.toNat)) k 4) ∨ (¬ ((0 ≤ a1 ∧ a1 < gI u 218 4) ∧ (0 ≤ a2 ∧ a2 < gI u 218 5)) ∧ gI q.2.2.2 217 0 = 1)) := by
  have hv := (Jv hJ).2
  have hr := (rr_217_1 hJ.1.2.1).2
  unfold f_243 f_162 f_163
  rw [hr]
  refine m_n (by omega) (fun c1_l => ?_) (fun c1_l => ?_)
  · rw [if_neg (by decide)]
    rw [hr]
    refine m_n (by omega) (fun c2_l => ?_) (fun c2_l => ?_)
    · rw [if_neg (by decide)]
      exact fun q hq => Or.inl ⟨⟨c1_l, c2_l⟩, rest_m hJ h c1_l c2_l (hk ⟨c1_l, c2_l⟩) q hq⟩
    · rw [if_pos rfl]
      exact fun q hq => Or.inr ⟨fun z_l => c2_l z_l.2, rest_x q hq⟩
  · rw [if_pos rfl]
    exact fun q hq => Or.inr ⟨fun z_l => c1_l z_l.1, rest_x q hq⟩
theorem rest_c (hJ : J p s) (h : RX s) (hi : i < 6) (hj : j < 6) : gQ (gloop st_116_40 (0, (j : Int), 21 + i, k, 0, 0, s)) (fun r => r.1 = 1 ∧ r.2.1 = rsS (gI s 218 (76 + 2 * j)) (gI s 218 (40 + 6 * i)) k 4) := by
  have ht := ((RX_vg h).2.1 i hi).1
  have e0_l : gI s (21 + i) 0 = gI s 218 (40 + 6 * i) := xr h.2 (cjm hi (j := 0) (by decide)) (KK_m hi (j := 0) (by decide))
  refine gQ_loop (fun y_l => ∃ n_l : Nat, y_l = (0, (j : Int), 21 + i, k, rsS (gI s 218 (76 + 2 * j)) (gI s 218 (40 + 6 * i)) k n_l, (n_l : Int), s) ∧ n_l ≤ 4) (fun y_l hy => ?_) ⟨0, rfl, by decide⟩
  obtain ⟨n_l, rfl, hn⟩ := hy
  show gQ (sb_116_40 0 (j : Int) (21 + i) k (rsS (gI s 218 (76 + 2 * j)) (gI s 218 (40 + 6 * i)) k n_l) (n_l : Int) s) _
  unfold sb_116_40
  by_cases c4 : (n_l : Int) < 4
  · have hle : n_l + 1 ≤ 4 := by omega
    obtain ⟨⟨e3_l, e4_l⟩, -, e5_l, e6_l⟩ := n4s n_l (by omega)
    have hx : ((n_l / 2 : Nat) : Int) = 0 ∨ ((n_l / 2 : Nat) : Int) = 1 := by omega
    have hx2 : 1 - ((n_l / 2 : Nat) : Int) = 0 ∨ 1 - ((n_l / 2 : Nat) : Int) = 1 := by omega
    have eg : g32 ((n_l : Int) + 1) = ((n_l + 1 : Nat) : Int) := (g32_eq (v := (n_l : Int) + 1) (by omega) (by omega)).trans (by omega)
    have es : rsS (gI s 218 (76 + 2 * j)) (gI s 218 (40 + 6 * i)) k (n_l + 1) = (if rsC (gI s 218 (76 + 2 * j)) k (1 - ((n_l / 2 : Nat) : Int)) ((n_l % 2 : Nat) : Int) < rsC (gI s 218 (76 + 2 * j)) k ((n_l / 2 : Nat) : Int) ((n_l % 2 : Nat) : Int) then rsS (gI s 218 (76 + 2 * j)) (gI s 218 (40 + 6 * i)) k n_l else if rsT (gI s 218 (40 + 6 * i)) k ((n_l / 2 : Nat) : Int) ((n_l % 2 : Nat) : Int) < rsT (gI s 218 (40 + 6 * i)) k ((n_l / 2 : Nat) : Int) (1 - ((n_l % 2 : Nat) : Int)) then rsS (gI s 218 (76 + 2 * j)) (gI s 218 (40 + 6 * i)) k n_l else gor (rsS (gI s 218 (76 + 2 * j)) (gI s 218 (40 + 6 * i)) k n_l) (gshl 1 (n_l : Int))) := rfl
    have fin_l : ∀ w9 w0_l : Int, (if w9 = 0 then rsS (gI s 218 (76 + 2 * j)) (gI s 218 (40 + 6 * i)) k n_l else if w0_l = 0 then rsS (gI s 218 (76 + 2 * j)) (gI s 218 (40 + 6 * i)) k n_l else gor (rsS (gI s 218 (76 + 2 * j)) (gI s 218 (40 + 6 * i)) k n_l) (gshl 1 (n_l : Int))) = rsS (gI s 218 (76 + 2 * j)) (gI s 218 (40 + 6 * i)) k (n_l + 1) → gQ (fb_116_128 0 (j : Int) (21 + i) k (rsS (gI s 218 (76 + 2 * j)) (gI s 218 (40 + 6 * i)) k n_l) (n_l : Int) w9 w0_l s) (Sum.elim (fun y_l => ∃ n_l : Nat, y_l = (0, (j : Int), 21 + i, k, rsS (gI s 218 (76 + 2 * j)) (gI s 218 (40 + 6 * i)) k n_l, (n_l : Int), s) ∧ n_l ≤ 4) (fun r => r.1 = 1 ∧ r.2.1 = rsS (gI s 218 (76 + 2 * j)) (gI s 218 (40 + 6 * i)) k 4)) := fun w9 w0_l hw => by
      unfold fb_116_128
      rw [eg]
      by_cases d9 : w9 = 0
      · rw [if_pos d9] at hw ⊢
        exact gQ_ret ⟨n_l + 1, by rw [hw], hle⟩
      rw [if_neg d9] at hw ⊢
      by_cases d0 : w0_l = 0
      · rw [if_pos d0] at hw ⊢
        exact gQ_ret ⟨n_l + 1, by rw [hw], hle⟩
      · rw [if_neg d0] at hw ⊢
        exact gQ_ret ⟨n_l + 1, by rw [hw], hle⟩
    have mid_l : ∀ w9 : Int, (w9 = 0 ∨ w9 = 1) → (w9 = 0 ↔ rsC (gI s 218 (76 + 2 * j)) k (1 - ((n_l / 2 : Nat) : Int)) ((n_l % 2 : Nat) : Int) < rsC (gI s 218 (76 + 2 * j)) k ((n_l / 2 : Nat) : Int) ((n_l % 2 : Nat) : Int)) → gQ (fb_116_90 0 (j : Int) (21 + i) k (rsS (gI s 218 (76 + 2 * j)) (gI s 218 (40 + 6 * i)) k n_l) (n_l : Int) ((n_l / 2 : Nat) : Int) ((n_l % 2 : Nat) : Int) w9 s) (Sum.elim (fun y_l => ∃ n_l : Nat, y_l = (0, (j : Int), 21 + i, k, rsS (gI s 218 (76 + 2 * j)) (gI s 218 (40 + 6 * i)) k n_l, (n_l : Int), s) ∧ n_l ≤ 4) (fun r => r.1 = 1 ∧ r.2.1 = rsS (gI s 218 (76 + 2 * j)) (gI s 218 (40 + 6 * i)) k 4)) := fun w9 hw hw2 => by
      unfold fb_116_90
      rw [e0_l, e6_l]
      refine gQ_w1 (A := fun v_l y_l => v_l = rsT (gI s 218 (40 + 6 * i)) k ((n_l / 2 : Nat) : Int) ((n_l % 2 : Nat) : Int) ∧ y_l = s) (q147 ht) (fun v_l y_l hy => ?_)
      obtain ⟨y1, y2⟩ := hy
      rw [y1, y2, e0_l]
      refine gQ_w1 (A := fun v_l y_l => v_l = rsT (gI s 218 (40 + 6 * i)) k ((n_l / 2 : Nat) : Int) (1 - ((n_l % 2 : Nat) : Int)) ∧ y_l = s) (q147 ht) (fun v_l y_l hy => ?_)
      obtain ⟨y3, y4⟩ := hy
      rw [y3, y4]
      by_cases d1 : w9 = 0
      · have es2 : rsS (gI s 218 (76 + 2 * j)) (gI s 218 (40 + 6 * i)) k (n_l + 1) = rsS (gI s 218 (76 + 2 * j)) (gI s 218 (40 + 6 * i)) k n_l := by
          rw [es, if_pos (hw2.mp d1)]
        split
        · exact fin_l _ _ (by rw [if_pos d1, es2])
        · exact fin_l _ _ (by rw [if_pos d1, es2])
      · rw [if_neg (fun z_l => d1 (hw2.mpr z_l))] at es
        by_cases d2 : rsT (gI s 218 (40 + 6 * i)) k ((n_l / 2 : Nat) : Int) ((n_l % 2 : Nat) : Int) < rsT (gI s 218 (40 + 6 * i)) k ((n_l / 2 : Nat) : Int) (1 - ((n_l % 2 : Nat) : Int))
        · rw [if_pos d2] at es ⊢
          exact fin_l _ _ (by rw [if_neg d1, if_pos rfl, es])
        · rw [if_neg d2] at es ⊢
          exact fin_l _ _ (by rw [if_neg d1, if_neg (by decide), es])
    rw [if_pos c4, e3_l, e4_l, e5_l]
    refine gQ_w1 (A := fun v_l y_l => v_l = rsC (gI s 218 (76 + 2 * j)) k ((n_l / 2 : Nat) : Int) ((n_l % 2 : Nat) : Int) ∧ y_l = s) (q146 hJ h.1 hj hx) (fun v_l y_l hy => ?_)
    obtain ⟨y1, y2⟩ := hy
    rw [y1, y2]
    refine gQ_w1 (A := fun v_l y_l => v_l = rsC (gI s 218 (76 + 2 * j)) k (1 - ((n_l / 2 : Nat) : Int)) ((n_l % 2 : Nat) : Int) ∧ y_l = s) (q146 hJ h.1 hj hx2) (fun v_l y_l hy => ?_)
    obtain ⟨y3, y4⟩ := hy
    rw [y3, y4]
    by_cases d1 : rsC (gI s 218 (76 + 2 * j)) k (1 - ((n_l / 2 : Nat) : Int)) ((n_l % 2 : Nat) : Int) < rsC (gI s 218 (76 + 2 * j)) k ((n_l / 2 : Nat) : Int) ((n_l % 2 : Nat) : Int)
    · rw [if_pos d1]
      exact mid_l 0 (Or.inl rfl) ⟨fun _ => d1, fun _ => rfl⟩
    · rw [if_neg d1]
      exact mid_l 1 (Or.inr rfl) ⟨fun z_l => absurd z_l (by decide), fun z_l => absurd z_l d1⟩
  · rw [if_neg c4]
    have en : n_l = 4 := by omega
    rw [en]
    exact gQ_map (gQ_ret ⟨rfl, rfl⟩)
theorem co_116 (hJ : J p s) (h : RX s) : gQ (f_116 0 a1 a2 s) (CoX st5 (f_243 217 a1 a2) s) := by
  have hg : RF s := hJ.1.2.1
  have hn := hJ.1.1
  have hv := (Jv hJ).2
  obtain ⟨k_l, hk⟩ : ∃ k_l : Int, k_l = (if gand (gI s 218 (40 + 6 * a1.toNat + 2)) (gxor (gI s 218 (76 + 2 * a2.toNat + 1)) (-1)) = 0 then 1 else 0) := ⟨_, rfl⟩
  have mo : ∀ u_l p, Fw WQ s u_l → J p u_l → RX u_l → gQ (f_243 217 a1 a2 u_l) (fun q_l => (((0 ≤ a1 ∧ a1 < gI s 218 4) ∧ (0 ≤ a2 ∧ a2 < gI s 218 5)) ∧ gI q_l.2.2.2 217 0 = 0 ∧ q_l.2.1 = rsS (gI s 218 (76 + 2 * a2.toNat)) (gI s 218 (40 + 6 * a1.toNat)) k_l 4) ∨ (¬ ((0 ≤ a1 ∧ a1 < gI s 218 4) ∧ (0 ≤ a2 ∧ a2 < gI s 218 5)) ∧ gI q_l.2.2.2 217 0 = 1)) := fun u_l p hf hu hR => by
    have h1 := mo_243 (a1 := a1) (a2 := a2) (k := k_l) hu hR (fun _ => by rw [WQ_8 hn hf, WQ_8 hn hf]; exact hk)
    rw [WQ_8 hn hf, WQ_8 hn hf, WQ_8 hn hf, WQ_8 hn hf] at h1
    exact h1
  unfold f_116
  refine n_gt (by decide) (n_135 hg h.1) (fun c1_l => ?_) (fun c1_l => ?_)
  · refine n_gt (by decide) (n_136 hg h.1) (fun c2_l => ?_) (fun c2_l => ?_)
    · obtain ⟨i_l, hi_l⟩ : ∃ i_l : Nat, a1 = (i_l : Int) := ⟨a1.toNat, by omega⟩
      obtain ⟨j_l, hj⟩ : ∃ j_l : Nat, a2 = (j_l : Int) := ⟨a2.toNat, by omega⟩
      have hi6 : i_l < 6 := by omega
      have hj6 : j_l < 6 := by omega
      refine gQ_chk ?_
      dsimp only
      have e2_l : gI s (21 + i_l) 2 = gI s 218 (40 + 6 * i_l + 2) := xr h.2 (cjm hi6 (by decide)) (KK_m hi6 (by decide))
      have ei : a1.toNat = i_l := by omega
      rw [(rr_0_5 hg).2, (rr_15_0 hg).2, ei, rr_16 hg hi6, (rr_0_4 hg).2, e2_l]
      refine gQ_w1 (A := fun v_l y_l => v_l = k_l ∧ y_l = s) (fun r_l hr => ?_) (fun v_l y_l hy => ?_)
      · obtain ⟨q1_l, q2_l⟩ := p_4 hJ h.1 c2_l r_l hr
        rw [ei] at hk
        exact ⟨q1_l.trans hk.symm, q2_l⟩
      obtain ⟨y1, y2⟩ := hy
      rw [y1, y2, hj]
      intro r_l hr u_l p hf hu hR q_l hq
      rw [← hj] at hq
      obtain ⟨r1_l, r2⟩ := rest_c hJ h hi6 hj6 r_l hr
      rcases mo u_l p hf hu hR q_l hq with ⟨-, h1, h2⟩ | ⟨h1, -⟩
      · refine ⟨by rw [r1_l]; exact h1, fun _ => ?_⟩
        rw [h2, r2, ei, show a2.toNat = j_l by omega]
      · exact absurd ⟨c1_l, c2_l⟩ h1
    · intro u_l p hf hu hR q_l hq
      rcases mo u_l p hf hu hR q_l hq with ⟨h1, -⟩ | ⟨-, h1⟩
      · exact absurd h1.2 c2_l
      · exact ⟨h1, fun z_l => by cases z_l⟩
  · intro u_l p hf hu hR q_l hq
    rcases mo u_l p hf hu hR q_l hq with ⟨h1, -⟩ | ⟨-, h1⟩
    · exact absurd h1.1 c1_l
    · exact ⟨h1, fun z_l => by cases z_l⟩
theorem xc_302 (hJ : J p s) (h : RX s) : gQ (f_302 0 a1 a2 231 s) (fun r => Xc (f_243 217 a1 a2) r.2.1 r.2.2.2) := by
  unfold f_302
  refine xc2 (st := st5) (fun _ => True) hJ.1.1 (co_116 hJ h) (fun r hr => o_116 hJ.1.2.1 cid rfl (Fw_rf hJ.1.1) r hr) (fun _ _ _ => trivial) rfl (fun v_l t_l _ => aX trivial) (fun k_l t_l => ?_) (fun u_l p hu _ q_l hq => (om_243 hu.1.2.1 um rfl (JF hu) q_l hq).2.2 231 0 (Nat.lt_of_lt_of_le (by decide) hu.1.1) rfl)
  by_cases c0 : k_l = 3
  · rw [if_pos c0, c0]
    exact gQ_ret ⟨rfl, (by decide : (1 : Int) ≠ 0), rfl⟩
  rw [if_neg c0]
  exact gQ_none
end Qg

end
section
/-! step -/
def st9 (n : Nat) : Int := if n = 5 then 1 else if n = 4 then 2 else 0
section Qh
variable {s t u g : gS} {p : gP} {a1 a2 a3 v d lu x y : Int} {a k i j n m : Nat} {V W : Nat → Int}
theorem gsh0 : ∀ n : Nat, n < 6 → gshl 0 (n : Int) = 0 := by decide +kernel
theorem hd_b (hn : n < 6) : 0 ≤ gshl (gand x 1) (n : Int) ∧ gshl (gand x 1) (n : Int) < 64 := by
  have h1 := gand_le (x := x) (m := 1) (by decide) (by decide)
  have hb_l := gshl_5 (x := (n : Int)) (by omega)
  have e_l : gand x 1 = 0 ∨ gand x 1 = 1 := by omega
  rcases e_l with e_l | e_l
  · rw [e_l, gsh0 n hn]
    decide
  · rw [e_l]
    exact ⟨by omega, by omega⟩
theorem hdS_b (n : Nat) (hn : n ≤ 6) : 0 ≤ hdS V x n ∧ hdS V x n < 64 := by
  induction n with
  | zero => exact ⟨Int.le_refl 0, (by decide : (0 : Int) < 64)⟩
  | succ n ih_l =>
    have h1 := ih_l (by omega)
    have h2 := hd_b (x := gshr (V (88 + 2 * n + 1)) x) (n := n) (by omega)
    have hlt := gor_lt (x := hdS V x n) (y := gshl (gand (gshr (V (88 + 2 * n + 1)) x) 1) (n : Int)) 6 (by decide) ⟨h1.1, h1.2⟩ ⟨h2.1, h2.2⟩
    exact ⟨hlt.1, hlt.2⟩
theorem c31 (hJ : J p s) (h : RX s) : gQ (f_31 15 a1 s) (fun r => r.2.1 = hdS (fun k => gI s 218 k) a1 (gI s 218 6).toNat ∧ r.2.2.2 = s) := by
  have hg : RF s := hJ.1.2.1
  have hv := (Jv hJ).2.2.2
  have e5_l : gI s 15 5 = gI s 218 6 := (ce_n h.1).2.2.2.1
  unfold f_31
  refine gQ_loop (fun y_l => ∃ n_l : Nat, y_l = (15, a1, hdS (fun k => gI s 218 k) a1 n_l, (n_l : Int), s) ∧ (n_l : Int) ≤ gI s 218 6) (fun y_l hy => ?_) ⟨0, rfl, hv.1⟩
  obtain ⟨n_l, rfl, hn⟩ := hy
  show gQ (sb_31_4 15 a1 (hdS (fun k => gI s 218 k) a1 n_l) (n_l : Int) s) _
  unfold sb_31_4
  rw [e5_l]
  by_cases c : (n_l : Int) < gI s 218 6
  · have hn6 : n_l < 6 := by omega
    have eg : g32 ((n_l : Int) + 1) = ((n_l + 1 : Nat) : Int) := (g32_eq (v := (n_l : Int) + 1) (by omega) (by omega)).trans (by omega)
    have e1_l : gI s 18 n_l = gI s 218 (88 + 2 * n_l + 1) := xr h.2 (cjv (i := n_l) (j := 1) hn6 (by decide)) (KK_v (j := 1) hn6 (by decide))
    rw [if_pos c, Int.toNat_natCast, (rr_15_2 hg).2, e1_l, eg]
    exact gQ_chk (gQ_ret ⟨n_l + 1, rfl, by omega⟩)
  · rw [if_neg c]
    have en : (gI s 218 6).toNat = n_l := by omega
    rw [en]
    exact gQ_map (gQ_ret ⟨rfl, rfl⟩)
theorem mo_203 (hJ : J p u) : gQ (f_203 217 a1 a2 u) (fun q => ((0 ≤ a1 ∧ a1 < gI u 218 3) ∧ (0 ≤ a2 ∧ a2 ≤ 3) ∧ gI q.2.2.2 217 0 = 0 ∧ q.2.1 = (if a2 < 3 then gI u 218 (16 + 3 * a1.toNat + a2.toNat) else hdS (fun k => gI u 218 k) a1 (gI u 218 6).toNat)) ∨ (¬ (0 ≤ a1 ∧ a1 < gI u 218 3) ∧ gI q.2.2.2 217 0 = 1) ∨ ((0 ≤ a1 ∧ a1 < gI u 218 3) ∧ ¬ (0 ≤ a2 ∧ a2 ≤ 3) ∧ gI q.2.2.2 217 0 = 2)) := by
  have hv := (Jv hJ).1
  have hv6 := (Jv hJ).2.2.2
  have hr : gR u 217 1 = 218 := (rr_217_1 hJ.1.2.1).2
  have hr0 : gR (gw u 217 0 0) 217 1 = 218 := hr
  unfold f_203 f_161
  rw [hr]
  refine m_n (by omega) (fun c1_l => ?_) (fun c1_l => ?_)
  · rw [if_neg (by decide)]
    refine gQ_w1 (A := fun v_l z_l => v_l = (if 0 ≤ a2 ∧ a2 ≤ 3 then 1 else 0) ∧ z_l = u) m_150 (fun v_l z_l hz => ?_)
    obtain ⟨z1, z2⟩ := hz
    rw [z1, z2]
    by_cases c2 : 0 ≤ a2 ∧ a2 ≤ 3
    · rw [if_pos c2, if_neg (by decide)]
      unfold fb_203_27
      dsimp only
      rw [m0, if_neg (by decide)]
      by_cases c3 : a2 < 3
      · rw [if_pos c3]
        refine gQ_w1 (A := fun v_l z_l => v_l = gI u 218 (16 + 3 * a1.toNat + a2.toNat) ∧ z_l = gw u 217 0 0) (fun r_l hr2 => ?_) (fun v_l z_l hz => ?_)
        · obtain ⟨q1_l, q2_l⟩ := m_155 (s := gw u 217 0 0) (x := a1) (j := a2) hr0 (by omega) (by omega) r_l hr2
          exact ⟨q1_l.trans (m8 _), q2_l⟩
        obtain ⟨z3, z4⟩ := hz
        rw [z3, z4]
        refine gQ_ret (Or.inl ⟨c1_l, c2, m0, ?_⟩)
        rw [if_pos c3]
      · rw [if_neg c3]
        refine gQ_loop (fun y_l => ∃ n_l : Nat, y_l = (217, a1, hdS (fun k => gI u 218 k) a1 n_l, (n_l : Int), gw u 217 0 0) ∧ (n_l : Int) ≤ gI u 218 6) (fun y_l hy => ?_) ⟨0, rfl, hv6.1⟩
        obtain ⟨n_l, rfl, hn⟩ := hy
        show gQ (sb_203_56 217 a1 (hdS (fun k => gI u 218 k) a1 n_l) (n_l : Int) (gw u 217 0 0)) _
        unfold sb_203_56
        rw [hr0, m8]
        by_cases c : (n_l : Int) < gI u 218 6
        · have hn6 : n_l < 6 := by omega
          have eg : g32 ((n_l : Int) + 1) = ((n_l + 1 : Nat) : Int) := (g32_eq (v := (n_l : Int) + 1) (by omega) (by omega)).trans (by omega)
          have hle := gand_le (x := gshr (gI u 218 (88 + 2 * n_l + 1)) a1) (m := 1) (by decide) (by decide)
          have es : hdS (fun k => gI u 218 k) a1 (n_l + 1) = gor (hdS (fun k => gI u 218 k) a1 n_l) (gshl (gand (gshr (gI u 218 (88 + 2 * n_l + 1)) a1) 1) (n_l : Int)) := rfl
          rw [if_pos c]
          refine gQ_w1 (A := fun v_l z_l => v_l = gI u 218 (88 + 2 * n_l + 1) ∧ z_l = gw u 217 0 0) (fun r_l hr2 => ?_) (fun v_l z_l hz => ?_)
          · obtain ⟨q1_l, q2_l⟩ := v160 (z := gw u 217 0 0) (j := n_l) (q := 1) hr0 hn6 (by decide) rfl r_l hr2
            exact ⟨q1_l.trans (m8 _), q2_l⟩
          obtain ⟨z3, z4⟩ := hz
          rw [z3, z4]
          refine gQ_w1 (A := fun v_l z_l => v_l = (if gand (gshr (gI u 218 (88 + 2 * n_l + 1)) a1) 1 = 1 then 1 else 0) ∧ z_l = gw u 217 0 0) m_153 (fun v_l z_l hz => ?_)
          obtain ⟨z5, z6⟩ := hz
          rw [z5, z6]
          by_cases d : gand (gshr (gI u 218 (88 + 2 * n_l + 1)) a1) 1 = 1
          · rw [if_pos d, if_neg (by decide), eg]
            rw [d] at es
            exact gQ_ret ⟨n_l + 1, by rw [es], by omega⟩
          · have d0_l : gand (gshr (gI u 218 (88 + 2 * n_l + 1)) a1) 1 = 0 := by omega
            rw [if_neg d, if_pos rfl, eg]
            rw [d0_l, gsh0 n_l hn6] at es
            exact gQ_ret ⟨n_l + 1, by rw [es], by omega⟩
        · rw [if_neg c]
          have en : (gI u 218 6).toNat = n_l := by omega
          refine gQ_map (gQ_ret (Or.inl ⟨c1_l, c2, m0, ?_⟩))
          rw [if_neg c3, en]
    · rw [if_neg c2, if_pos rfl]
      unfold fb_203_27
      dsimp only
      rw [m0, if_pos (by decide)]
      exact gQ_ret (Or.inr (Or.inr ⟨c1_l, c2, m0⟩))
  · rw [if_pos rfl]
    unfold fb_203_27
    dsimp only
    rw [m0, if_pos (by decide)]
    exact gQ_ret (Or.inr (Or.inl ⟨c1_l, m0⟩))
theorem co_92 (hJ : J p s) (h : RX s) : gQ (f_92 0 a1 a2 s) (CoX st9 (f_203 217 a1 a2) s) := by
  have hg : RF s := hJ.1.2.1
  have hn := hJ.1.1
  have hv := (Jv hJ).1
  unfold f_92
  refine n_gt (by decide) (n_134 hg h.1) (fun c1_l => ?_) (fun c1_l => ?_)
  · have bad_l : ¬ (0 ≤ a2 ∧ a2 ≤ 3) → gQ (some ((4, 0, 0, gnw s 99) : gO)) (CoX st9 (f_203 217 a1 a2) s) := fun c2_l => by
      refine gQ_ret (fun u_l p hf hu hR q_l hq => ?_)
      rcases mo_203 hu q_l hq with ⟨-, h1, -⟩ | ⟨h1, -⟩ | ⟨-, -, h1⟩
      · exact absurd h1 c2_l
      · rw [WQ_8 hn hf 3] at h1
        exact absurd c1_l h1
      · exact ⟨h1, fun z_l => by cases z_l⟩
    have key_l : (0 ≤ a2 ∧ a2 ≤ 3) → ∀ w_l, w_l = (if a2 < 3 then gI s 218 (16 + 3 * a1.toNat + a2.toNat) else hdS (fun k_l => gI s 218 k_l) a1 (gI s 218 6).toNat) → CoX st9 (f_203 217 a1 a2) s (1, w_l, 0, s) := fun c2_l w_l hw u_l p hf hu hR q_l hq => by
      rcases mo_203 hu q_l hq with ⟨-, -, h1, h2⟩ | ⟨h1, -⟩ | ⟨-, h1, -⟩
      · refine ⟨h1, fun _ => ?_⟩
        rw [h2, WQ_8 hn hf, WQ_8 hn hf, RX_e8 hn hf]
        exact hw.symm
      · rw [WQ_8 hn hf 3] at h1
        exact absurd c1_l h1
      · exact absurd c2_l h1
    have cell_l : ∀ j_l, j_l < 3 → gI s (10 + j_l) a1.toNat = gI s 218 (16 + 3 * a1.toNat + j_l) := fun j_l hj => rd_st (C := 15) (V := fun k_l => gI s 218 k_l) (fun k_l hk => xk h.2 hk) (by omega) hj
    rw [(rr_0_4 hg).2, (rr_9 hg).1, (rr_9 hg).2.1, (rr_9 hg).2.2.1, (rr_0_5 hg).2]
    by_cases d : a2 < 0
    · rw [if_pos d]
      exact bad_l (by omega)
    rw [if_neg d]
    by_cases d0 : a2 < 1
    · rw [if_pos d0]
      refine gQ_chk (gQ_ret (key_l (by omega) _ ?_))
      rw [if_pos (by omega), show a2.toNat = 0 by omega]
      exact cell_l 0 (by decide)
    rw [if_neg d0]
    by_cases d1 : a2 < 2
    · rw [if_pos d1]
      refine gQ_chk (gQ_ret (key_l (by omega) _ ?_))
      rw [if_pos (by omega), show a2.toNat = 1 by omega]
      exact cell_l 1 (by decide)
    rw [if_neg d1]
    by_cases d2 : a2 < 3
    · rw [if_pos d2]
      refine gQ_chk (gQ_ret (key_l (by omega) _ ?_))
      rw [if_pos (by omega), show a2.toNat = 2 by omega]
      exact cell_l 2 (by decide)
    rw [if_neg d2]
    by_cases d3 : a2 < 4
    · rw [if_pos d3]
      refine gQ_w1 (A := fun v_l z_l => v_l = hdS (fun k_l => gI s 218 k_l) a1 (gI s 218 6).toNat ∧ z_l = s) (c31 hJ h) (fun v_l z_l hz => ?_)
      obtain ⟨z1, z2⟩ := hz
      rw [z1, z2]
      refine gQ_ret (key_l (by omega) _ ?_)
      rw [if_neg d2]
    · rw [if_neg d3]
      exact bad_l (by omega)
  · intro u_l p hf hu hR q_l hq
    rcases mo_203 hu q_l hq with ⟨h1, -⟩ | ⟨-, h1⟩ | ⟨h1, -⟩
    · rw [WQ_8 hn hf 3] at h1
      exact absurd h1 c1_l
    · exact ⟨h1, fun z_l => by cases z_l⟩
    · rw [WQ_8 hn hf 3] at h1
      exact absurd h1 c1_l
theorem xc_278 (hJ : J p s) (h : RX s) : gQ (f_278 0 a1 a2 231 s) (fun r => Xc (f_203 217 a1 a2) r.2.1 r.2.2.2) := by
  unfold f_278
  refine xc2 (st := st9) (fun _ => True) hJ.1.1 (co_92 hJ h) (fun r hr => o_92 hJ.1.2.1 cid rfl (Fw_rf hJ.1.1) r hr) (fun _ _ _ => trivial) rfl (fun v_l t_l _ => aX trivial) (fun k_l t_l => ?_) (fun u_l p hu _ q_l hq => (om_203 hu.1.2.1 um rfl (JF hu) q_l hq).2.2 231 0 (Nat.lt_of_lt_of_le (by decide) hu.1.1) rfl)
  by_cases c0 : k_l = 3
  · rw [if_pos c0, c0]
    exact gQ_ret ⟨rfl, (by decide : (1 : Int) ≠ 0), rfl⟩
  rw [if_neg c0]
  by_cases c1 : k_l = 2
  · rw [if_pos c1, c1]
    exact gQ_ret ⟨rfl, (by decide : (2 : Int) ≠ 0), rfl⟩
  rw [if_neg c1]
  exact gQ_none
end Qh

end
section
/-! man (wants RX_vp: the further ranges of the row that now counts) -/
/-- costs, days or shows of n steps from the a-th on -/
def sgF (V : Nat → Int) (j a : Nat) : Nat → Int
  | 0 => 0
  | n + 1 => sgF V j a n + V (16 + 3 * (a + n) + j)
def outF (V : Nat → Int) (i : Nat) : Int := if 0 < V (40 + 6 * i + 4) then sgF V 1 ((V (40 + 6 * i + 3)).toNat + 1) ((V 3).toNat - ((V (40 + 6 * i + 3)).toNat + 1)) else sgF V 1 (V (40 + 6 * i + 3)).toNat ((V 3).toNat - (V (40 + 6 * i + 3)).toNat)
def manG (T : (Nat → Int) → Int) (V : Nat → Int) (i : Nat) (b : Int) : Int := if b < 6 then V (40 + 6 * i + b.toNat) else if b = 6 then T (fF V i) else if b = 7 then outF V i else if b = 8 then sgF V 0 (V (40 + 6 * i + 3)).toNat ((V 3).toNat - (V (40 + 6 * i + 3)).toNat) - V (40 + 6 * i + 4) else sgF V 2 (V (40 + 6 * i + 3)).toNat ((V 3).toNat - (V (40 + 6 * i + 3)).toNat) - outF V i
section Qi
variable {s t u g z : gS} {p : gP} {a1 a2 a3 v d lu x y : Int} {a k i j n m : Nat} {V W : Nat → Int} {T : (Nat → Int) → Int}
theorem ar1 {a n m : Nat} (h : ((a + n : Nat) : Int) < (m : Int)) (hm : m ≤ 8) : (0 ≤ ((a + n : Nat) : Int) ∧ ((a + n : Nat) : Int) < 8) ∧ a + n < 8 ∧ a + n ≤ 8 ∧ a + (n + 1) ≤ m := by omega
theorem ar2 {x y : Int} {n : Nat} (hb : 0 ≤ x ∧ x ≤ 100 * n) (hc : 0 ≤ y ∧ y ≤ 100) (hn : n ≤ 8) : g32 (x + y) = x + y := g32_eq (by omega) (by omega)
theorem ar3 {x y z : Int} {n : Nat} (hb : 0 ≤ x ∧ x ≤ 100 * n) (hc : 0 ≤ y ∧ y ≤ 100) (hn : n ≤ 8) (hz : 0 ≤ z ∧ z ≤ 30) : g32 (x - z + y) = x - z + y := g32_eq (by omega) (by omega)
theorem ar4 {k : Nat} (h : k ≤ 9) : g32 ((k : Int) + 1) = ((k + 1 : Nat) : Int) := (g32_eq (by omega) (by omega)).trans (by omega)
theorem ar5 {a n m : Nat} (h : ¬ ((a + n : Nat) : Int) < (m : Int)) (h2 : a + n ≤ m) : m - a = n := by omega
def Sg (V : Nat → Int) : Prop := ∀ a, a < 8 → ∀ j, j < 3 → 0 ≤ V (16 + 3 * a + j) ∧ V (16 + 3 * a + j) ≤ 100
theorem Sg_R (h : Rt s) : Sg (fun k => gI s 218 k) := fun a_l ha_l j_l hj => (h.1 _ (tx_s a_l ha_l j_l hj).1).2.2
theorem sg_b (h : Sg V) (hj : j < 3) (n : Nat) (hn : a + n ≤ 8) : 0 ≤ sgF V j a n ∧ sgF V j a n ≤ 100 * n := by
  induction n with
  | zero => exact ⟨Int.le_refl 0, Int.le_refl 0⟩
  | succ n ih_l =>
    have h1 := ih_l (by omega)
    have h2 := h (a + n) (by omega) j hj
    show 0 ≤ sgF V j a n + V (16 + 3 * (a + n) + j) ∧ sgF V j a n + V (16 + 3 * (a + n) + j) ≤ 100 * ((n + 1 : Nat) : Int)
    omega
theorem sg_hd (n : Nat) : sgF V j a (n + 1) = V (16 + 3 * a + j) + sgF V j (a + 1) n := by
  induction n with
  | zero =>
    show 0 + V (16 + 3 * (a + 0) + j) = V (16 + 3 * a + j) + 0
    rw [Nat.add_zero]
    omega
  | succ n ih_l =>
    show sgF V j a (n + 1) + V (16 + 3 * (a + (n + 1)) + j) = V (16 + 3 * a + j) + (sgF V j (a + 1) n + V (16 + 3 * (a + 1 + n) + j))
    rw [ih_l, show a + (n + 1) = a + 1 + n by omega]
    omega
/-- the class's sums -/
theorem cl_7 (hJ : J p s) (h : RX s) (ha : a ≤ 9) (h3 : gI s 218 3 = (m : Int)) (hm : m ≤ 8) : gQ (gloop st_7_23 (9, 0, (a : Int), s)) (fun r => r.2.1 = sgF (fun k => gI s 218 k) 1 a (m - a) ∧ r.2.2.2 = s) := by
  have hg : RF s := hJ.1.2.1
  have e5_l : gI s 9 5 = (m : Int) := (ce_n h.1).1.trans h3
  refine gQ_loop (fun y_l => ∃ n_l : Nat, y_l = (9, sgF (fun k => gI s 218 k) 1 a n_l, ((a + n_l : Nat) : Int), s) ∧ (n_l = 0 ∨ a + n_l ≤ m)) (fun y_l hy => ?_) ⟨0, rfl, Or.inl rfl⟩
  obtain ⟨n_l, rfl, hn⟩ := hy
  show gQ (sb_7_23 9 (sgF (fun k => gI s 218 k) 1 a n_l) ((a + n_l : Nat) : Int) s) _
  unfold sb_7_23
  rw [e5_l]
  by_cases c : ((a + n_l : Nat) : Int) < (m : Int)
  · obtain ⟨k1_l, k2_l, k3_l, k4_l⟩ := ar1 c hm
    have n8 : n_l ≤ 8 := Nat.le_trans (Nat.le_add_left n_l a) k3_l
    have hb_l := sg_b (a := a) (Sg_R h.1) (j := 1) (by decide) n_l (by omega)
    have hc_l := Sg_R h.1 (a + n_l) (by omega) 1 (by decide)
    have e1_l : gI s 11 (a + n_l) = gI s 218 (16 + 3 * (a + n_l) + 1) := ce_s h.1 k2_l (j := 1) (by decide)
    have eg : g32 (((a + n_l : Nat) : Int) + 1) = ((a + (n_l + 1) : Nat) : Int) := ar4 (by omega)
    rw [if_pos c, Int.toNat_natCast, (rr_9 hg).2.1, e1_l, eg, ar2 hb_l hc_l n8]
    exact gQ_chk (gQ_ret ⟨n_l + 1, rfl, Or.inr k4_l⟩)
  · rw [if_neg c]
    have en : m - a = n_l := by omega
    rw [en]
    exact gQ_map (gQ_ret ⟨rfl, rfl⟩)
theorem cl_8 (hJ : J p s) (h : RX s) (ha : a ≤ m) (h3 : gI s 218 3 = (m : Int)) (hm : m ≤ 8) (hx : 0 ≤ x ∧ x ≤ 30) : gQ (gloop st_8_11 (9, -x, (a : Int), s)) (fun r => r.2.1 = sgF (fun k => gI s 218 k) 0 a (m - a) - x ∧ r.2.2.2 = s) := by
  have hg : RF s := hJ.1.2.1
  have e5_l : gI s 9 5 = (m : Int) := (ce_n h.1).1.trans h3
  refine gQ_loop (fun y_l => ∃ n_l : Nat, y_l = (9, sgF (fun k => gI s 218 k) 0 a n_l - x, ((a + n_l : Nat) : Int), s) ∧ a + n_l ≤ m) (fun y_l hy => ?_) ⟨0, by rw [show sgF (fun k => gI s 218 k) 0 a 0 - x = -x from Int.zero_sub x]; rfl, ha⟩
  obtain ⟨n_l, rfl, hn⟩ := hy
  show gQ (sb_8_11 9 (sgF (fun k => gI s 218 k) 0 a n_l - x) ((a + n_l : Nat) : Int) s) _
  unfold sb_8_11
  rw [e5_l]
  by_cases c : ((a + n_l : Nat) : Int) < (m : Int)
  · obtain ⟨k1_l, k2_l, k3_l, k4_l⟩ := ar1 c hm
    have n8 : n_l ≤ 8 := Nat.le_trans (Nat.le_add_left n_l a) k3_l
    have hb_l := sg_b (a := a) (Sg_R h.1) (j := 0) (by decide) n_l (by omega)
    have hc_l := Sg_R h.1 (a + n_l) (by omega) 0 (by decide)
    have e1_l : gI s 10 (a + n_l) = gI s 218 (16 + 3 * (a + n_l) + 0) := ce_s h.1 k2_l (j := 0) (by decide)
    have eg : g32 (((a + n_l : Nat) : Int) + 1) = ((a + (n_l + 1) : Nat) : Int) := ar4 (by omega)
    rw [if_pos c, Int.toNat_natCast, (rr_9 hg).1, e1_l, eg, ar3 hb_l hc_l n8 hx]
    refine gQ_chk (gQ_ret ⟨n_l + 1, ?_, k4_l⟩)
    rw [show sgF (fun k => gI s 218 k) 0 a (n_l + 1) - x = sgF (fun k => gI s 218 k) 0 a n_l - x + gI s 218 (16 + 3 * (a + n_l) + 0) by
      show sgF (fun k => gI s 218 k) 0 a n_l + gI s 218 (16 + 3 * (a + n_l) + 0) - x = _
      omega]
  · rw [if_neg c]
    have en : m - a = n_l := by omega
    rw [en]
    exact gQ_map (gQ_ret ⟨rfl, rfl⟩)
theorem cl_9 (hJ : J p s) (h : RX s) (ha : a ≤ m) (h3 : gI s 218 3 = (m : Int)) (hm : m ≤ 8) : gQ (gloop st_9_7 (9, 0, (a : Int), s)) (fun r => r.2.1 = sgF (fun k => gI s 218 k) 2 a (m - a) ∧ r.2.2.2 = s) := by
  have hg : RF s := hJ.1.2.1
  have e5_l : gI s 9 5 = (m : Int) := (ce_n h.1).1.trans h3
  refine gQ_loop (fun y_l => ∃ n_l : Nat, y_l = (9, sgF (fun k => gI s 218 k) 2 a n_l, ((a + n_l : Nat) : Int), s) ∧ a + n_l ≤ m) (fun y_l hy => ?_) ⟨0, rfl, ha⟩
  obtain ⟨n_l, rfl, hn⟩ := hy
  show gQ (sb_9_7 9 (sgF (fun k => gI s 218 k) 2 a n_l) ((a + n_l : Nat) : Int) s) _
  unfold sb_9_7
  rw [e5_l]
  by_cases c : ((a + n_l : Nat) : Int) < (m : Int)
  · obtain ⟨k1_l, k2_l, k3_l, k4_l⟩ := ar1 c hm
    have n8 : n_l ≤ 8 := Nat.le_trans (Nat.le_add_left n_l a) k3_l
    have hb_l := sg_b (a := a) (Sg_R h.1) (j := 2) (by decide) n_l (by omega)
    have hc_l := Sg_R h.1 (a + n_l) (by omega) 2 (by decide)
    have e1_l : gI s 12 (a + n_l) = gI s 218 (16 + 3 * (a + n_l) + 2) := ce_s h.1 k2_l (j := 2) (by decide)
    have eg : g32 (((a + n_l : Nat) : Int) + 1) = ((a + (n_l + 1) : Nat) : Int) := ar4 (by omega)
    rw [if_pos c, Int.toNat_natCast, (rr_9 hg).2.2.1, e1_l, eg, ar2 hb_l hc_l n8]
    exact gQ_chk (gQ_ret ⟨n_l + 1, rfl, k4_l⟩)
  · rw [if_neg c]
    have en : m - a = n_l := by omega
    rw [en]
    exact gQ_map (gQ_ret ⟨rfl, rfl⟩)
/-- the model's sum -/
theorem mo_204 (hr : gR z 217 1 = 218) (h8 : ∀ k, gI z 218 k = V k) (hS : Sg V) (hi : i < 6) (hj : j < 3) (h3 : V 3 = (m : Int)) (hm : m ≤ 8) (ha : V (40 + 6 * i + 3) = (a : Int)) (ham : a ≤ m) (eI : x = (j : Int)) : gQ (f_204 217 (i : Int) x z) (fun r => r.2.1 = sgF V j a (m - a) ∧ r.2.2.2 = z) := by
  subst eI
  unfold f_204
  refine gQ_w1 (A := fun v_l y_l => v_l = (a : Int) ∧ y_l = z) (fun r hr2 => ?_) (fun v_l y_l hy => ?_)
  · obtain ⟨q1_l, q2_l⟩ := v156 (j := 3) hr hi (by decide) rfl r hr2
    exact ⟨q1_l.trans ((h8 _).trans ha), q2_l⟩
  obtain ⟨y1, y2⟩ := hy
  rw [y1, y2]
  refine gQ_loop (fun y_l => ∃ n_l : Nat, y_l = (217, (j : Int), sgF V j a n_l, ((a + n_l : Nat) : Int), z) ∧ a + n_l ≤ m) (fun y_l hy => ?_) ⟨0, rfl, ham⟩
  obtain ⟨n_l, rfl, hn⟩ := hy
  show gQ (sb_204_10 217 (j : Int) (sgF V j a n_l) ((a + n_l : Nat) : Int) z) _
  unfold sb_204_10
  rw [hr, h8, h3]
  by_cases c : ((a + n_l : Nat) : Int) < (m : Int)
  · obtain ⟨k1_l, k2_l, k3_l, k4_l⟩ := ar1 c hm
    have n8 : n_l ≤ 8 := Nat.le_trans (Nat.le_add_left n_l a) k3_l
    have hb_l := sg_b (a := a) hS hj n_l (by omega)
    have hc_l := hS (a + n_l) (by omega) j hj
    have eg : g32 (((a + n_l : Nat) : Int) + 1) = ((a + (n_l + 1) : Nat) : Int) := ar4 (Nat.le_succ_of_le k3_l)
    rw [if_pos c]
    refine gQ_w1 (A := fun v_l y_l => v_l = V (16 + 3 * (a + n_l) + j) ∧ y_l = z) (fun r hr2 => ?_) (fun v_l y_l hy => ?_)
    · obtain ⟨q1_l, q2_l⟩ := m_155 (s := z) (x := ((a + n_l : Nat) : Int)) (j := (j : Int)) hr k1_l ⟨Int.natCast_nonneg j, Int.ofNat_lt.mpr hj⟩ r hr2
      rw [Int.toNat_natCast, Int.toNat_natCast] at q1_l
      exact ⟨q1_l.trans (h8 _), q2_l⟩
    obtain ⟨y3, y4⟩ := hy
    rw [y3, y4, eg, ar2 hb_l hc_l n8]
    exact gQ_ret ⟨n_l + 1, rfl, k4_l⟩
  · rw [if_neg c]
    have en : m - a = n_l := ar5 c hn
    rw [en]
    exact gQ_map (gQ_ret ⟨rfl, rfl⟩)
theorem mo_205 (hr : gR z 217 1 = 218) (h8 : ∀ k, gI z 218 k = V k) (hS : Sg V) (hi : i < 6) (h3 : V 3 = (m : Int)) (hm : m ≤ 8) (ha : V (40 + 6 * i + 3) = (a : Int)) (ham : a ≤ m) (hh : V (40 + 6 * i + 4) ≤ 0 ∨ a < m) : gQ (f_205 217 (i : Int) z) (fun r => r.2.1 = outF V i ∧ r.2.2.2 = z) := by
  have hb_l := sg_b (a := a) hS (j := 1) (by decide) (m - a) (by omega)
  have eo : outF V i = (if 0 < V (40 + 6 * i + 4) then sgF V 1 (a + 1) (m - (a + 1)) else sgF V 1 a (m - a)) := by
    unfold outF
    rw [ha, h3, Int.toNat_natCast, Int.toNat_natCast]
  unfold f_205
  refine gQ_w1 (A := fun v_l y_l => v_l = sgF V 1 a (m - a) ∧ y_l = z) (mo_204 hr h8 hS hi (j := 1) (by decide) h3 hm ha ham rfl) (fun v_l y_l hy => ?_)
  obtain ⟨y1, y2⟩ := hy
  rw [y1, y2]
  refine gQ_w1 (A := fun v_l y_l => v_l = V (40 + 6 * i + 4) ∧ y_l = z) (fun r hr2 => ?_) (fun v_l y_l hy => ?_)
  · obtain ⟨q1_l, q2_l⟩ := v156 (j := 4) hr hi (by decide) rfl r hr2
    exact ⟨q1_l.trans (h8 _), q2_l⟩
  obtain ⟨y3, y4⟩ := hy
  rw [y3, y4]
  by_cases c : 0 < V (40 + 6 * i + 4)
  · rw [if_pos c] at eo ⊢
    have hc_l := hS a (by omega) 1 (by decide)
    have es : sgF V 1 a (m - a) = V (16 + 3 * a + 1) + sgF V 1 (a + 1) (m - (a + 1)) := by
      rw [show m - a = m - (a + 1) + 1 by omega]
      exact sg_hd _
    refine gQ_w1 (A := fun v_l y_l => v_l = (a : Int) ∧ y_l = z) (fun r hr2 => ?_) (fun v_l y_l hy => ?_)
    · obtain ⟨q1_l, q2_l⟩ := v156 (j := 3) hr hi (by decide) rfl r hr2
      exact ⟨q1_l.trans ((h8 _).trans ha), q2_l⟩
    obtain ⟨y5, y6⟩ := hy
    rw [y5, y6]
    refine gQ_w1 (A := fun v_l y_l => v_l = V (16 + 3 * a + 1) ∧ y_l = z) (fun r hr2 => ?_) (fun v_l y_l hy => ?_)
    · obtain ⟨q1_l, q2_l⟩ := m_155 (s := z) (x := (a : Int)) (j := 1) hr (by omega) (by omega) r hr2
      rw [Int.toNat_natCast] at q1_l
      exact ⟨q1_l.trans (h8 _), q2_l⟩
    obtain ⟨y7, y8⟩ := hy
    rw [y7, y8, eo, g32_eq (by omega) (by omega)]
    exact gQ_ret ⟨by dsimp only; omega, rfl⟩
  · rw [if_neg c] at eo ⊢
    rw [eo, g32_eq (by omega) (by omega)]
    exact gQ_ret ⟨Int.sub_zero _, rfl⟩
theorem manv (hJ : J p u) (h : RX u) (hi : i < 6) (h4 : (i : Int) < gI u 218 4) : ∃ m a : Nat, gI u 218 3 = (m : Int) ∧ m ≤ 8 ∧ gI u 218 (40 + 6 * i + 3) = (a : Int) ∧ a ≤ m ∧ (gI u 218 (40 + 6 * i + 4) ≤ 0 ∨ a < m) ∧ (0 ≤ gI u 218 (40 + 6 * i + 4) ∧ gI u 218 (40 + 6 * i + 4) ≤ 30) := by
  have hv := (RX_vg h).1.1
  have hm_l := (RX_vg h).2.1 i hi
  have hp := (RX_vp h).1 i hi h4
  dsimp only at hv hm_l hp
  rw [show 43 + 6 * i = 40 + 6 * i + 3 by omega, show 44 + 6 * i = 40 + 6 * i + 4 by omega] at hm_l hp
  exact ⟨(gI u 218 3).toNat, (gI u 218 (40 + 6 * i + 3)).toNat, by omega, by omega, by omega, by omega, by omega, by omega⟩
theorem mo_206 (hJ : J p u) (h : RX u) (hT : Tlw u 218 9 T) : gQ (f_206 217 a1 a2 u) (fun q => ((0 ≤ a1 ∧ a1 < gI u 218 4) ∧ (0 ≤ a2 ∧ a2 ≤ 9) ∧ gI q.2.2.2 217 0 = 0 ∧ q.2.1 = manG T (fun k => gI u 218 k) a1.toNat a2) ∨ (¬ (0 ≤ a1 ∧ a1 < gI u 218 4) ∧ gI q.2.2.2 217 0 = 1) ∨ ((0 ≤ a1 ∧ a1 < gI u 218 4) ∧ ¬ (0 ≤ a2 ∧ a2 ≤ 9) ∧ gI q.2.2.2 217 0 = 2)) := by
  have hv := (Jv hJ).2.1
  have hg : RF u := hJ.1.2.1
  have hn := hJ.1.1
  have hr : gR u 217 1 = 218 := (rr_217_1 hg).2
  have hr0 : gR (gw u 217 0 0) 217 1 = 218 := hr
  unfold f_206 f_162
  rw [hr]
  refine m_n (by omega) (fun c1_l => ?_) (fun c1_l => ?_)
  · rw [if_neg (by decide)]
    refine gQ_w1 (A := fun v_l z_l => v_l = (if 0 ≤ a2 ∧ a2 ≤ 9 then 1 else 0) ∧ z_l = u) m_150 (fun v_l z_l hz => ?_)
    obtain ⟨z1, z2⟩ := hz
    rw [z1, z2]
    by_cases c2 : 0 ≤ a2 ∧ a2 ≤ 9
    · rw [if_pos c2, if_neg (by decide)]
      obtain ⟨i_l, hi_l⟩ : ∃ i_l : Nat, a1 = (i_l : Int) := ⟨a1.toNat, by omega⟩
      have hi6 : i_l < 6 := by omega
      obtain ⟨m_l, a_l, h3, hm_l, ha_l, ham, hh, hx⟩ := manv hJ h hi6 (by omega)
      have h8 : ∀ k, gI (gw u 217 0 0) 218 k = (fun k => gI u 218 k) k := fun k => m8 k
      have hS_l := Sg_R h.1
      have l4 := fun (x : Int) (j : Nat) (hj : j < 3) (e : x = (j : Int)) => mo_204 (V := fun k => gI u 218 k) (x := x) hr0 h8 hS_l hi6 hj h3 hm_l ha_l ham e
      have l5 := mo_205 (V := fun k => gI u 218 k) hr0 h8 hS_l hi6 h3 hm_l ha_l ham hh
      have b1 := sg_b (a := a_l) hS_l (j := 1) (by decide) (m_l - a_l) (by omega)
      have b2 := sg_b (a := a_l) hS_l (j := 2) (by decide) (m_l - a_l) (by omega)
      have b0 := sg_b (a := a_l) hS_l (j := 0) (by decide) (m_l - a_l) (by omega)
      have eo : 0 ≤ outF (fun k => gI u 218 k) i_l ∧ outF (fun k => gI u 218 k) i_l ≤ 800 := by
        unfold outF
        dsimp only
        rw [ha_l, h3, Int.toNat_natCast, Int.toNat_natCast]
        split
        · by_cases e : a_l + 1 ≤ m_l
          · have b3 := sg_b (a := a_l + 1) hS_l (j := 1) (by decide) (m_l - (a_l + 1)) (by omega)
            omega
          · rw [show m_l - (a_l + 1) = 0 by omega]
            exact ⟨Int.le_refl 0, (by decide : (0 : Int) ≤ 800)⟩
        · omega
      unfold fb_206_28
      dsimp only
      rw [m0, if_neg (by decide), hi_l, Int.toNat_natCast]
      have fin_l : ∀ (w_l : Int) (z_l : gS), gI z_l 217 0 = 0 → w_l = manG T (fun k => gI u 218 k) i_l a2 → gQ (some ((1, w_l, 0, z_l) : gO)) (fun q => ((0 ≤ (i_l : Int) ∧ (i_l : Int) < gI u 218 4) ∧ (0 ≤ a2 ∧ a2 ≤ 9) ∧ gI q.2.2.2 217 0 = 0 ∧ q.2.1 = manG T (fun k => gI u 218 k) i_l a2) ∨ (¬ (0 ≤ (i_l : Int) ∧ (i_l : Int) < gI u 218 4) ∧ gI q.2.2.2 217 0 = 1) ∨ ((0 ≤ (i_l : Int) ∧ (i_l : Int) < gI u 218 4) ∧ ¬ (0 ≤ a2 ∧ a2 ≤ 9) ∧ gI q.2.2.2 217 0 = 2)) := fun w_l z_l h0 hw => gQ_ret (Or.inl ⟨by omega, c2, h0, hw⟩)
      by_cases d0 : a2 < 6
      · rw [if_pos d0]
        refine gQ_w1 (A := fun v_l z_l => v_l = gI u 218 (40 + 6 * i_l + a2.toNat) ∧ z_l = gw u 217 0 0) (fun r_l hr2 => ?_) (fun v_l z_l hz => ?_)
        · obtain ⟨q1_l, q2_l⟩ := v156 (z := gw u 217 0 0) (j := a2.toNat) hr0 hi6 (by omega) (by omega) r_l hr2
          exact ⟨q1_l.trans (m8 _), q2_l⟩
        obtain ⟨y1, y2⟩ := hz
        rw [y1, y2]
        exact fin_l _ _ m0 (if_pos d0).symm
      rw [if_neg d0]
      by_cases d1 : a2 = 6
      · rw [if_pos d1]
        refine gQ_w1 (A := fun v_l z_l => v_l = T (fF (fun k => gI u 218 k) i_l) ∧ gI z_l 217 0 = 0) (fun r_l hr2 => ?_) (fun v_l z_l hz => fin_l _ _ hz.2 ?_)
        · have hg0 : RF (gw u 217 0 0) := RF_sm hg rfl
          obtain ⟨q1_l, q2_l⟩ := j_198 (law_M hJ hT (Fw_m0 hn)) ⟨hr0, (rr_217_7 hg0).2, (rr_217_14 hg0).2⟩ hi6 r_l hr2
          exact ⟨q2_l.trans (congrArg T (fF_e (fun k _ => m8 k) hi6)), (q1_l.2 217 0 (by decide) (by omega)).trans m0⟩
        · rw [hz.1]
          unfold manG
          rw [if_neg d0, if_pos d1]
      rw [if_neg d1]
      by_cases d2 : a2 = 7
      · rw [if_pos d2]
        refine gQ_w1 (A := fun v_l z_l => v_l = outF (fun k => gI u 218 k) i_l ∧ z_l = gw u 217 0 0) l5 (fun v_l z_l hz => ?_)
        obtain ⟨y1, y2⟩ := hz
        rw [y1, y2]
        refine fin_l _ _ m0 ?_
        unfold manG
        rw [if_neg d0, if_neg d1, if_pos d2]
      rw [if_neg d2]
      by_cases d3 : a2 = 8
      · rw [if_pos d3]
        refine gQ_w1 (A := fun v_l z_l => v_l = sgF (fun k => gI u 218 k) 0 a_l (m_l - a_l) ∧ z_l = gw u 217 0 0) (l4 0 0 (by decide) rfl) (fun v_l z_l hz => ?_)
        obtain ⟨y1, y2⟩ := hz
        rw [y1, y2]
        refine gQ_w1 (A := fun v_l z_l => v_l = gI u 218 (40 + 6 * i_l + 4) ∧ z_l = gw u 217 0 0) (fun r_l hr2 => ?_) (fun v_l z_l hz => ?_)
        · obtain ⟨q1_l, q2_l⟩ := v156 (z := gw u 217 0 0) (j := 4) hr0 hi6 (by decide) rfl r_l hr2
          exact ⟨q1_l.trans (m8 _), q2_l⟩
        obtain ⟨y3, y4⟩ := hz
        rw [y3, y4, g32_eq (by omega) (by omega)]
        refine fin_l _ _ m0 ?_
        unfold manG
        dsimp only
        rw [if_neg d0, if_neg d1, if_neg d2, if_pos d3, ha_l, h3, Int.toNat_natCast, Int.toNat_natCast]
      rw [if_neg d3]
      refine gQ_w1 (A := fun v_l z_l => v_l = sgF (fun k => gI u 218 k) 2 a_l (m_l - a_l) ∧ z_l = gw u 217 0 0) (l4 2 2 (by decide) rfl) (fun v_l z_l hz => ?_)
      obtain ⟨y1, y2⟩ := hz
      rw [y1, y2]
      refine gQ_w1 (A := fun v_l z_l => v_l = outF (fun k => gI u 218 k) i_l ∧ z_l = gw u 217 0 0) l5 (fun v_l z_l hz => ?_)
      obtain ⟨y3, y4⟩ := hz
      rw [y3, y4, g32_eq (by omega) (by omega)]
      refine fin_l _ _ m0 ?_
      unfold manG
      dsimp only
      rw [if_neg d0, if_neg d1, if_neg d2, if_neg d3, ha_l, h3, Int.toNat_natCast, Int.toNat_natCast]
    · rw [if_neg c2, if_pos rfl]
      unfold fb_206_28
      dsimp only
      rw [m0, if_pos (by decide)]
      exact gQ_ret (Or.inr (Or.inr ⟨c1_l, c2, m0⟩))
  · rw [if_pos rfl]
    unfold fb_206_28
    dsimp only
    rw [m0, if_pos (by decide)]
    exact gQ_ret (Or.inr (Or.inl ⟨c1_l, m0⟩))
theorem cl_out (hJ : J p s) (h : RX s) (hi : i < 6) (h4 : (i : Int) < gI s 218 4) : gQ (f_7 9 (21 + i) s) (fun r => r.2.1 = outF (fun k => gI s 218 k) i ∧ r.2.2.2 = s) := by
  obtain ⟨m_l, a_l, h3, hm_l, ha_l, ham, hh, hx⟩ := manv hJ h hi h4
  have e4_l : gI s (21 + i) 4 = gI s 218 (40 + 6 * i + 4) := xr h.2 (cjm hi (by decide)) (KK_m hi (by decide))
  have e3_l : gI s (21 + i) 3 = gI s 218 (40 + 6 * i + 3) := xr h.2 (cjm hi (by decide)) (KK_m hi (by decide))
  have eo : outF (fun k => gI s 218 k) i = (if 0 < gI s 218 (40 + 6 * i + 4) then sgF (fun k => gI s 218 k) 1 (a_l + 1) (m_l - (a_l + 1)) else sgF (fun k => gI s 218 k) 1 a_l (m_l - a_l)) := by
    unfold outF
    dsimp only
    rw [ha_l, h3, Int.toNat_natCast, Int.toNat_natCast]
  unfold f_7 fb_7_22
  rw [e4_l, e3_l, ha_l]
  by_cases c : 0 < gI s 218 (40 + 6 * i + 4)
  · rw [if_pos c] at eo ⊢
    rw [eo, show g32 ((a_l : Int) + 1) = ((a_l + 1 : Nat) : Int) from (g32_eq (by omega) (by omega)).trans (by omega)]
    exact cl_7 hJ h (by omega) h3 hm_l
  · rw [if_neg c] at eo ⊢
    rw [eo]
    exact cl_7 hJ h (by omega) h3 hm_l
theorem co_93 (hJ : J p s) (h : RX s) : gQ (f_93 0 a1 a2 s) (CoX st9 (f_206 217 a1 a2) s) := by
  have hg : RF s := hJ.1.2.1
  have hn := hJ.1.1
  have hv := (Jv hJ).2.1
  obtain ⟨T, hT_l⟩ := h.2.2.2.2
  unfold f_93
  refine n_gt (by decide) (n_135 hg h.1) (fun c1_l => ?_) (fun c1_l => ?_)
  · obtain ⟨i_l, hi_l⟩ : ∃ i_l : Nat, a1 = (i_l : Int) := ⟨a1.toNat, by omega⟩
    have hi6 : i_l < 6 := by omega
    have ei : a1.toNat = i_l := by omega
    obtain ⟨m_l, a_l, h3, hm_l, ha_l, ham, hh, hx⟩ := manv hJ h hi6 (by omega)
    have hS_l := Sg_R h.1
    have bad_l : ¬ (0 ≤ a2 ∧ a2 ≤ 9) → gQ (some ((4, 0, 0, gnw s 99) : gO)) (CoX st9 (f_206 217 a1 a2) s) := fun c2_l => by
      refine gQ_ret (fun u_l p hf hu hR q_l hq => ?_)
      rcases mo_206 hu hR (law_Q hJ hT_l hf) q_l hq with ⟨-, h1, -⟩ | ⟨h1, -⟩ | ⟨-, -, h1⟩
      · exact absurd h1 c2_l
      · rw [WQ_8 hn hf 4] at h1
        exact absurd c1_l h1
      · exact ⟨h1, fun z_l => by cases z_l⟩
    have key_l : (0 ≤ a2 ∧ a2 ≤ 9) → ∀ (w_l : Int) (z_l : gS), w_l = manG T (fun k_l => gI s 218 k_l) i_l a2 → CoX st9 (f_206 217 a1 a2) s (1, w_l, 0, z_l) := fun c2_l w_l z_l hw u_l p hf hu hR q_l hq => by
      rcases mo_206 hu hR (law_Q hJ hT_l hf) q_l hq with ⟨-, -, h1, h2⟩ | ⟨h1, -⟩ | ⟨-, h1, -⟩
      · refine ⟨h1, fun _ => ?_⟩
        rw [h2, RX_e8 hn hf, ei]
        exact hw.symm
      · rw [WQ_8 hn hf 4] at h1
        exact absurd c1_l h1
      · exact absurd c2_l h1
    have ec : ∀ j_l, j_l < 6 → gI s (21 + i_l) j_l = gI s 218 (40 + 6 * i_l + j_l) := fun j_l hj => xr h.2 (cjm hi6 hj) (KK_m hi6 hj)
    have cell_l : ∀ j_l : Nat, j_l < 6 → a2 = (j_l : Int) → gQ (some ((1, gI s (21 + i_l) j_l, 0, s) : gO)) (CoX st9 (f_206 217 a1 a2) s) := fun j_l hj e_l => gQ_ret (key_l (by omega) _ _ (by
      unfold manG
      rw [if_pos (by omega), show a2.toNat = j_l by omega]
      exact ec j_l hj))
    have b2 := sg_b (a := a_l) hS_l (j := 2) (by decide) (m_l - a_l) (by omega)
    refine gQ_chk ?_
    dsimp only
    rw [(rr_0_5 hg).2, (rr_15_0 hg).2, ei, rr_16 hg hi6, (rr_0_4 hg).2, (rr_0_1 hg).2]
    by_cases d : a2 < 0
    · rw [if_pos d]
      exact bad_l (by omega)
    rw [if_neg d]
    by_cases d0 : a2 < 1
    · rw [if_pos d0]
      exact cell_l 0 (by decide) (by omega)
    rw [if_neg d0]
    by_cases d1 : a2 < 2
    · rw [if_pos d1]
      exact cell_l 1 (by decide) (by omega)
    rw [if_neg d1]
    by_cases d2 : a2 < 3
    · rw [if_pos d2]
      exact cell_l 2 (by decide) (by omega)
    rw [if_neg d2]
    by_cases d3 : a2 < 4
    · rw [if_pos d3]
      exact cell_l 3 (by decide) (by omega)
    rw [if_neg d3]
    by_cases d4 : a2 < 5
    · rw [if_pos d4]
      exact cell_l 4 (by decide) (by omega)
    rw [if_neg d4]
    by_cases d5 : a2 < 6
    · rw [if_pos d5]
      exact cell_l 5 (by decide) (by omega)
    rw [if_neg d5]
    by_cases d6 : a2 < 7
    · rw [if_pos d6, hi_l]
      have hCr : Cr s 15 (fun k_l => gI s 218 k_l) := fun k_l hk => xk h.2 hk
      have mc_l : ∀ j_l, j_l < 6 → cv s 9 15 (40 + 6 * i_l + j_l) = gI s (15 + 6 + i_l) j_l := fun j_l hj => (xk h.2 (KK_m hi6 hj)).trans (rd_m (Or.inl rfl) hCr hi6 hj).symm
      refine gQ_w1 (A := fun v_l _ => v_l = T (fF (fun k_l => gI s 218 k_l) i_l)) (fun r_l hr => ?_) (fun v_l z_l hz => gQ_ret ?_)
      · obtain ⟨-, q2_l⟩ := q_34 (C := 15) (i := i_l) hT_l ⟨(rr_3_0 hg).2, (rr_3_1 hg).2⟩ (by rw [(rr_15_0 hg).2]; exact rr_16 hg hi6) (by decide) hi6 ⟨mc_l 0 (by decide), by rw [show 41 + 6 * i_l = 40 + 6 * i_l + 1 by omega]; exact mc_l 1 (by decide), by rw [show 43 + 6 * i_l = 40 + 6 * i_l + 3 by omega]; exact mc_l 3 (by decide), by rw [show 44 + 6 * i_l = 40 + 6 * i_l + 4 by omega]; exact mc_l 4 (by decide)⟩ ⟨rfl, rfl, rfl⟩ r_l hr
        exact q2_l.trans (congrArg T (fF_k (fun k_l hk => xk h.2 hk) hi6))
      · rw [← hi_l]
        refine key_l (by omega) _ _ ?_
        unfold manG
        rw [if_neg d5, if_pos (by omega)]
        exact hz
    rw [if_neg d6]
    by_cases d7 : a2 < 8
    · rw [if_pos d7]
      refine gQ_w1 (A := fun v_l z_l => v_l = outF (fun k_l => gI s 218 k_l) i_l ∧ z_l = s) (cl_out hJ h hi6 (by omega)) (fun v_l z_l hz => gQ_ret (key_l (by omega) _ _ ?_))
      unfold manG
      rw [if_neg d5, if_neg (by omega), if_pos (by omega)]
      exact hz.1
    rw [if_neg d7]
    by_cases d8 : a2 < 9
    · rw [if_pos d8]
      refine gQ_w1 (A := fun v_l z_l => v_l = sgF (fun k_l => gI s 218 k_l) 0 a_l (m_l - a_l) - gI s 218 (40 + 6 * i_l + 4) ∧ z_l = s) ?_ (fun v_l z_l hz => gQ_ret (key_l (by omega) _ _ ?_))
      · unfold f_8
        dsimp only
        rw [ec 4 (by decide), ec 3 (by decide), ha_l, show g32 (-gI s 218 (40 + 6 * i_l + 4)) = -gI s 218 (40 + 6 * i_l + 4) from g32_eq (by omega) (by omega)]
        exact cl_8 hJ h ham h3 hm_l hx
      · unfold manG
        dsimp only
        rw [if_neg d5, if_neg (by omega), if_neg (by omega), if_pos (by omega), ha_l, h3, Int.toNat_natCast, Int.toNat_natCast]
        exact hz.1
    rw [if_neg d8]
    by_cases d9 : a2 < 10
    · rw [if_pos d9]
      refine gQ_w1 (A := fun v_l z_l => v_l = sgF (fun k_l => gI s 218 k_l) 2 a_l (m_l - a_l) ∧ z_l = s) ?_ (fun v_l z_l hz => ?_)
      · unfold f_9
        rw [ec 3 (by decide), ha_l]
        exact cl_9 hJ h ham h3 hm_l
      obtain ⟨y1, y2⟩ := hz
      rw [y1, y2, (rr_0_4 hg).2]
      refine gQ_w1 (A := fun v_l z_l => v_l = outF (fun k_l => gI s 218 k_l) i_l ∧ z_l = s) (cl_out hJ h hi6 (by omega)) (fun v_l z_l hz => gQ_ret (key_l (by omega) _ _ ?_))
      have eo : 0 ≤ outF (fun k_l => gI s 218 k_l) i_l ∧ outF (fun k_l => gI s 218 k_l) i_l ≤ 800 := by
        unfold outF
        dsimp only
        rw [ha_l, h3, Int.toNat_natCast, Int.toNat_natCast]
        have b1 := sg_b (a := a_l) hS_l (j := 1) (by decide) (m_l - a_l) (by omega)
        split
        · by_cases e_l : a_l + 1 ≤ m_l
          · have b3 := sg_b (a := a_l + 1) hS_l (j := 1) (by decide) (m_l - (a_l + 1)) (by omega)
            omega
          · rw [show m_l - (a_l + 1) = 0 by omega]
            exact ⟨Int.le_refl 0, (by decide : (0 : Int) ≤ 800)⟩
        · omega
      unfold manG
      dsimp only
      rw [if_neg d5, if_neg (by omega), if_neg (by omega), if_neg (by omega), ha_l, h3, Int.toNat_natCast, Int.toNat_natCast, hz.1]
      exact g32_eq (by omega) (by omega)
    · rw [if_neg d9]
      exact bad_l (by omega)
  · intro u_l p hf hu hR q_l hq
    rcases mo_206 hu hR (law_Q hJ hT_l hf) q_l hq with ⟨h1, -⟩ | ⟨-, h1⟩ | ⟨h1, -⟩
    · rw [WQ_8 hn hf 4] at h1
      exact absurd h1 c1_l
    · exact ⟨h1, fun z_l => by cases z_l⟩
    · rw [WQ_8 hn hf 4] at h1
      exact absurd h1 c1_l
theorem xc_279 (hJ : J p s) (h : RX s) : gQ (f_279 0 a1 a2 231 s) (fun r => Xc (f_206 217 a1 a2) r.2.1 r.2.2.2) := by
  unfold f_279
  refine xc2 (st := st9) (fun _ => True) hJ.1.1 (co_93 hJ h) (fun r hr => o_93 hJ.1.2.1 cid rfl (Fw_rf hJ.1.1) r hr) (fun _ _ _ => trivial) rfl (fun v_l t_l _ => aX trivial) (fun k_l t_l => ?_) (fun u_l p hu _ q_l hq => (om_206 hu.1.2.1 um rfl (JF hu) q_l hq).2.2 231 0 (Nat.lt_of_lt_of_le (by decide) hu.1.1) rfl)
  by_cases c0 : k_l = 3
  · rw [if_pos c0, c0]
    exact gQ_ret ⟨rfl, (by decide : (1 : Int) ≠ 0), rfl⟩
  rw [if_neg c0]
  by_cases c1 : k_l = 2
  · rw [if_pos c1, c1]
    exact gQ_ret ⟨rfl, (by decide : (2 : Int) ≠ 0), rfl⟩
  rw [if_neg c1]
  exact gQ_none
end Qi

end
section
/-! bids (wants RX_vp) -/
/-- the first rival of the most -/
def bst (P : Nat → Int) : Nat → Int
  | 0 => -1
  | n + 1 => if bst P n = -1 then (n : Int) else if P (bst P n).toNat < P n then (n : Int) else bst P n
/-- the most of the others -/
def oth (P : Nat → Int) (b : Int) : Nat → Int
  | 0 => 0
  | n + 1 => if (n : Int) = b then oth P b n else max (oth P b n) (P n)
def puR (V : Nat → Int) (r : Nat) : Int := V (88 + 2 * r)
section Qj
variable {s t u g z : gS} {p : gP} {a1 a2 a3 v d lu x y : Int} {a k i j n m : Nat} {V W P : Nat → Int}
theorem bst_b (n : Nat) : (n = 0 ∧ bst P n = -1) ∨ (0 < n ∧ 0 ≤ bst P n ∧ bst P n < n) := by
  induction n with
  | zero => exact Or.inl ⟨rfl, rfl⟩
  | succ n ih_l =>
    refine Or.inr ⟨by omega, ?_⟩
    show 0 ≤ (if bst P n = -1 then (n : Int) else if P (bst P n).toNat < P n then (n : Int) else bst P n) ∧ (if bst P n = -1 then (n : Int) else if P (bst P n).toNat < P n then (n : Int) else bst P n) < ((n + 1 : Nat) : Int)
    split
    · omega
    · split
      · omega
      · omega
theorem oth_f {b c : Int} (hb : ∀ l : Nat, l < n → ((l : Int) = b ↔ (l : Int) = c)) : oth P b n = oth P c n := by
  induction n with
  | zero => rfl
  | succ n ih_l =>
    have h1 := ih_l (fun l hl => hb l (by omega))
    have h2 := hb n (by omega)
    show (if (n : Int) = b then oth P b n else max (oth P b n) (P n)) = (if (n : Int) = c then oth P c n else max (oth P c n) (P n))
    rw [h1]
    by_cases e : (n : Int) = b
    · rw [if_pos e, if_pos (h2.mp e)]
    · rw [if_neg e, if_neg (fun q_l => e (h2.mpr q_l))]
/-- all of them: what the first of the most has -/
theorem oth_a (hP : ∀ l, l < n → 0 ≤ P l) (hn : 0 < n) : oth P (-1) n = P (bst P n).toNat := by
  induction n with
  | zero => omega
  | succ n ih_l =>
    show (if (n : Int) = -1 then oth P (-1) n else max (oth P (-1) n) (P n)) = P (if bst P n = -1 then (n : Int) else if P (bst P n).toNat < P n then (n : Int) else bst P n).toNat
    rw [if_neg (by omega)]
    have h0 := hP n (by omega)
    rcases bst_b (P := P) n with ⟨e1_l, e2_l⟩ | ⟨e1_l, e2_l, e3_l⟩
    · rw [if_pos e2_l, e1_l]
      rw [e1_l] at h0
      show max 0 (P 0) = P ((0 : Nat) : Int).toNat
      rw [Int.toNat_natCast]
      omega
    · have h1 := ih_l (fun l hl => hP l (by omega)) e1_l
      rw [h1, if_neg (by omega)]
      by_cases c : P (bst P n).toNat < P n
      · rw [if_pos c, Int.toNat_natCast]
        omega
      · rw [if_neg c]
        omega
theorem cd_118 (hJ : J p s) (h : RX s) : gQ (f_118 0 a1 s) (CdX (f_245 217 a1) s) := by
  have hg : RF s := hJ.1.2.1
  have hn := hJ.1.1
  have hv := (Jv hJ).2.2.2
  obtain ⟨N_l, hN_l⟩ : ∃ N_l : Nat, gI s 218 6 = (N_l : Int) := ⟨(gI s 218 6).toNat, by omega⟩
  have hN6 : N_l ≤ 6 := by omega
  have hP : ∀ l, l < N_l → 0 ≤ puR (fun k_l => gI s 218 k_l) l := fun l hl => ((RX_vp h).2 l (by omega) (by dsimp only; omega)).1.1
  have ec : ∀ l, l < 6 → gI s 17 l = puR (fun k_l => gI s 218 k_l) l := fun l hl => xr h.2 (cjv0 (i := l) hl) (KK_v0 hl)
  have e5_l : gI s 15 5 = (N_l : Int) := (ce_n h.1).2.2.2.1.trans hN_l
  generalize hp : puR (fun k_l => gI s 218 k_l) = P at hP ec
  have cl_l : gQ (f_118 0 a1 s) (fun r_l => r_l.2.1 = (if a1 = 0 then bst P N_l else oth P (bst P N_l) N_l)) := by
    unfold f_118
    refine gQ_loop (fun y_l => ∃ n_l : Nat, y_l = (0, a1, bst P n_l, oth P (bst P n_l) n_l, (n_l : Int), s) ∧ n_l ≤ N_l) (fun y_l hy => ?_) ⟨0, rfl, Nat.zero_le _⟩
    obtain ⟨n_l, rfl, hnN_l⟩ := hy
    show gQ (sb_118_7 0 a1 (bst P n_l) (oth P (bst P n_l) n_l) (n_l : Int) s) _
    unfold sb_118_7
    rw [(rr_0_5 hg).2, e5_l, (rr_15_1 hg).2]
    by_cases c : (n_l : Int) < (N_l : Int)
    · have eg : g32 ((n_l : Int) + 1) = ((n_l + 1 : Nat) : Int) := (g32_eq (v := (n_l : Int) + 1) (by omega) (by omega)).trans (by omega)
      have eb : bst P (n_l + 1) = (if bst P n_l = -1 then (n_l : Int) else if P (bst P n_l).toNat < P n_l then (n_l : Int) else bst P n_l) := rfl
      have eo : ∀ b_l, oth P b_l (n_l + 1) = (if (n_l : Int) = b_l then oth P b_l n_l else max (oth P b_l n_l) (P n_l)) := fun b_l => rfl
      have ne_l : ∀ l : Nat, l < n_l → ((l : Int) = (n_l : Int) ↔ (l : Int) = -1) := fun l hl => by omega
      rw [if_pos c, Int.toNat_natCast, ec n_l (by omega), eg]
      refine gQ_chk ?_
      dsimp only
      rcases bst_b (P := P) n_l with ⟨e1_l, e2_l⟩ | ⟨e1_l, e2_l, e3_l⟩
      · rw [if_pos e2_l]
        rw [if_pos e2_l] at eb
        refine gQ_ret ⟨n_l + 1, ?_, by omega⟩
        rw [eb, eo, if_pos rfl, oth_f ne_l, e2_l]
      · rw [if_neg (by omega), ec (bst P n_l).toNat (by omega)]
        rw [if_neg (by omega)] at eb
        refine gQ_chk ?_
        by_cases c2 : P (bst P n_l).toNat < P n_l
        · rw [if_pos c2] at eb ⊢
          refine gQ_chk (gQ_ret ⟨n_l + 1, ?_, by omega⟩)
          rw [eb, eo, if_pos rfl, oth_f ne_l, oth_a (fun l hl => hP l (by omega)) e1_l]
        · rw [if_neg c2] at eb ⊢
          refine gQ_ret ⟨n_l + 1, ?_, by omega⟩
          rw [eb, eo, if_neg (by omega)]
    · rw [if_neg c]
      have en : n_l = N_l := by omega
      rw [en]
      refine gQ_map ?_
      by_cases c0 : a1 = 0
      · rw [if_pos c0, if_pos c0]
        exact gQ_ret rfl
      · rw [if_neg c0, if_neg c0]
        exact gQ_ret rfl
  intro r_l hr u_l p' hf hu hR
  have hr0 : gR (gw u_l 217 0 0) 217 1 = 218 := (rr_217_1 hu.1.2.1).2
  have e8 := WQ_8 hn hf
  have e6_l : gI (gw u_l 217 0 0) 218 6 = (N_l : Int) := (m8 6).trans ((e8 6).trans hN_l)
  have mp_l : ∀ l : Nat, l < 6 → ∀ x_l : Int, x_l = (l : Int) → gQ (f_160 217 x_l 0 (gw u_l 217 0 0)) (fun q_l => q_l.2.1 = P l ∧ q_l.2.2.2 = gw u_l 217 0 0) := fun l hl x_l ex_l q_l hq => by
    subst ex_l
    obtain ⟨q1_l, q2_l⟩ := v160 (z := gw u_l 217 0 0) (j := l) (q := 0) hr0 hl (by decide) rfl q_l hq
    refine ⟨q1_l.trans ((m8 _).trans ((e8 _).trans ?_)), q2_l⟩
    rw [← hp]
    rfl
  rw [cl_l r_l hr]
  unfold f_245
  dsimp only
  refine gQ_loop (fun y_l => ∃ n_l : Nat, y_l = (217, a1, bst P n_l, (n_l : Int), gw u_l 217 0 0) ∧ n_l ≤ N_l) (fun y_l hy => ?_) ⟨0, rfl, Nat.zero_le _⟩
  obtain ⟨n_l, rfl, hnN_l⟩ := hy
  show gQ (sb_245_9 217 a1 (bst P n_l) (n_l : Int) (gw u_l 217 0 0)) _
  unfold sb_245_9
  rw [hr0, e6_l]
  by_cases c : (n_l : Int) < (N_l : Int)
  · have eg : g32 ((n_l : Int) + 1) = ((n_l + 1 : Nat) : Int) := (g32_eq (v := (n_l : Int) + 1) (by omega) (by omega)).trans (by omega)
    have eb : bst P (n_l + 1) = (if bst P n_l = -1 then (n_l : Int) else if P (bst P n_l).toNat < P n_l then (n_l : Int) else bst P n_l) := rfl
    rw [if_pos c]
    rcases bst_b (P := P) n_l with ⟨e1_l, e2_l⟩ | ⟨e1_l, e2_l, e3_l⟩
    · rw [if_pos e2_l] at eb ⊢
      unfold fb_245_40
      rw [eg]
      exact gQ_ret ⟨n_l + 1, by rw [eb], by omega⟩
    · rw [if_neg (by omega)] at eb ⊢
      refine gQ_w1 (A := fun v_l y_l => v_l = P n_l ∧ y_l = gw u_l 217 0 0) (mp_l n_l (by omega) _ rfl) (fun v_l y_l hy => ?_)
      obtain ⟨y1, y2⟩ := hy
      rw [y1, y2]
      refine gQ_w1 (A := fun v_l y_l => v_l = P (bst P n_l).toNat ∧ y_l = gw u_l 217 0 0) (mp_l (bst P n_l).toNat (by omega) _ (by omega)) (fun v_l y_l hy => ?_)
      obtain ⟨y3, y4⟩ := hy
      rw [y3, y4]
      by_cases c2 : P (bst P n_l).toNat < P n_l
      · rw [if_pos c2] at eb ⊢
        unfold fb_245_40
        rw [eg]
        exact gQ_ret ⟨n_l + 1, by rw [eb], by omega⟩
      · rw [if_neg c2] at eb ⊢
        rw [eg]
        exact gQ_ret ⟨n_l + 1, by rw [eb], by omega⟩
  · rw [if_neg c]
    have en : n_l = N_l := by omega
    rw [en]
    refine gQ_map ?_
    by_cases c0 : a1 = 0
    · rw [if_pos c0, if_pos c0]
      exact gQ_ret rfl
    · rw [if_neg c0, if_neg c0]
      generalize bst P N_l = b_l
      refine gQ_loop (fun y_l => ∃ n_l : Nat, y_l = (217, b_l, oth P b_l n_l, (n_l : Int), gw u_l 217 0 0) ∧ n_l ≤ N_l) (fun y_l hy => ?_) ⟨0, rfl, Nat.zero_le _⟩
      obtain ⟨n_l, rfl, hnN_l⟩ := hy
      show gQ (sb_245_59 217 b_l (oth P b_l n_l) (n_l : Int) (gw u_l 217 0 0)) _
      unfold sb_245_59
      rw [hr0, e6_l]
      by_cases c : (n_l : Int) < (N_l : Int)
      · have eg : g32 ((n_l : Int) + 1) = ((n_l + 1 : Nat) : Int) := (g32_eq (v := (n_l : Int) + 1) (by omega) (by omega)).trans (by omega)
        have eo : oth P b_l (n_l + 1) = (if (n_l : Int) = b_l then oth P b_l n_l else max (oth P b_l n_l) (P n_l)) := rfl
        rw [if_pos c]
        by_cases c2 : (n_l : Int) = b_l
        · rw [if_pos c2] at eo ⊢
          rw [eg]
          exact gQ_ret ⟨n_l + 1, by rw [eo], by omega⟩
        · rw [if_neg c2] at eo ⊢
          refine gQ_w1 (A := fun v_l y_l => v_l = P n_l ∧ y_l = gw u_l 217 0 0) (mp_l n_l (by omega) _ rfl) (fun v_l y_l hy => ?_)
          obtain ⟨y1, y2⟩ := hy
          rw [y1, y2]
          refine gQ_w1 (A := fun v_l y_l => v_l = max (oth P b_l n_l) (P n_l) ∧ y_l = gw u_l 217 0 0) dm_152 (fun v_l y_l hy => ?_)
          obtain ⟨y3, y4⟩ := hy
          rw [y3, y4, eg]
          exact gQ_ret ⟨n_l + 1, by rw [eo], by omega⟩
      · rw [if_neg c]
        have en : n_l = N_l := by omega
        rw [en]
        exact gQ_map (gQ_ret rfl)
theorem xc_118 (hJ : J p s) (h : RX s) : gQ (f_118 0 a1 s) (fun r => Xc1 (f_245 217 a1) r.2.1 r.2.2.2) := xc1 hJ.1.1 (cd_118 hJ h) (fun r hr => o_118 hJ.1.2.1 cid rfl (Fw_rf hJ.1.1) r hr)
end Qj

end
section
/-! secret: the fewest rivals that hold all parts (wants RX_vp) -/
def orR (P : Nat → Int) (m : Int) : Nat → Int
  | 0 => 0
  | n + 1 => if gand (gshr m (n : Int)) 1 = 0 then orR P m n else gor (orR P m n) (P n)
def sel (N : Nat) (P : Nat → Int) (M : Int) : Nat → Int
  | 0 => -1
  | n + 1 => if orR P (n : Int) N = M then (if sel N P M n = -1 then (n : Int) else if pcs (n : Int) 31 < pcs (sel N P M n) 31 then (n : Int) else sel N P M n) else sel N P M n
section Qk
variable {s t u g z : gS} {p : gP} {a1 a2 a3 v d lu x y M : Int} {a b k i j n m N : Nat} {V W P : Nat → Int}
theorem g1p : ∀ n : Nat, n ≤ 8 → gshl 1 (n : Int) = ((2 ^ n : Nat) : Int) := by decide +kernel
theorem full_i : ∀ b : Nat, b < 9 → ∀ n : Nat, n < 2 ^ b → (gand (((2 ^ b : Nat) : Int) - 1) (gxor (n : Int) (-1)) = 0 ↔ (n : Int) = ((2 ^ b : Nat) : Int) - 1) := by decide +kernel
theorem p2_6 : ∀ n : Nat, n ≤ 6 → 2 ^ n ≤ 64 := by decide
theorem gor0_k : ∀ n : Nat, n < 256 → gor (n : Int) 0 = (n : Int) := by decide +kernel
theorem gor0_g (b : Nat) (hb : b < 9) (hx : 0 ≤ x ∧ x < 2 ^ b) : gor x 0 = x := by
  have h1 : 2 ^ b ≤ 2 ^ 8 := Nat.pow_le_pow_right (by decide) (by omega)
  have h3 : ((2 ^ b : Nat) : Int) = (2 : Int) ^ b := by
    rw [Int.natCast_pow]
    rfl
  have h2 := gor0_k x.toNat (by omega)
  rw [show ((x.toNat : Nat) : Int) = x by omega] at h2
  exact h2
theorem orR_b (hb : b < 9) (hP : ∀ l, l < N → 0 ≤ P l ∧ P l < 2 ^ b) (n : Nat) (hn : n ≤ N) : 0 ≤ orR P x n ∧ orR P x n < 2 ^ b := by
  induction n with
  | zero => exact ⟨Int.le_refl 0, by
      show (0 : Int) < 2 ^ b
      exact Int.pow_pos (by decide)⟩
  | succ n ih_l =>
    have h1 := ih_l (by omega)
    show 0 ≤ (if gand (gshr x (n : Int)) 1 = 0 then orR P x n else gor (orR P x n) (P n)) ∧ (if gand (gshr x (n : Int)) 1 = 0 then orR P x n else gor (orR P x n) (P n)) < 2 ^ b
    split
    · exact h1
    · exact gor_lt b (by omega) h1 (hP n (by omega))
theorem sel_b (n : Nat) : sel N P M n = -1 ∨ (0 ≤ sel N P M n ∧ sel N P M n < n) := by
  induction n with
  | zero => exact Or.inl rfl
  | succ n ih_l =>
    show (if orR P (n : Int) N = M then (if sel N P M n = -1 then (n : Int) else if pcs (n : Int) 31 < pcs (sel N P M n) 31 then (n : Int) else sel N P M n) else sel N P M n) = -1 ∨ (0 ≤ (if orR P (n : Int) N = M then (if sel N P M n = -1 then (n : Int) else if pcs (n : Int) 31 < pcs (sel N P M n) 31 then (n : Int) else sel N P M n) else sel N P M n) ∧ (if orR P (n : Int) N = M then (if sel N P M n = -1 then (n : Int) else if pcs (n : Int) 31 < pcs (sel N P M n) 31 then (n : Int) else sel N P M n) else sel N P M n) < ((n + 1 : Nat) : Int))
    split
    · split
      · exact Or.inr ⟨by omega, by omega⟩
      · split
        · exact Or.inr ⟨by omega, by omega⟩
        · omega
    · omega
theorem c32 (hg : RF s) (e5 : gI s 15 5 = (N : Int)) (hN : N ≤ 6) (ec : ∀ l, l < 6 → gI s 18 l = P l) : gQ (f_32 15 x s) (fun r => r.2.1 = orR P x N ∧ r.2.2.2 = s) := by
  unfold f_32
  refine gQ_loop (fun y_l => ∃ n_l : Nat, y_l = (15, x, orR P x n_l, (n_l : Int), s) ∧ n_l ≤ N) (fun y_l hy => ?_) ⟨0, rfl, Nat.zero_le _⟩
  obtain ⟨n_l, rfl, hn⟩ := hy
  show gQ (sb_32_4 15 x (orR P x n_l) (n_l : Int) s) _
  unfold sb_32_4
  rw [e5]
  by_cases c : (n_l : Int) < (N : Int)
  · have eg : g32 ((n_l : Int) + 1) = ((n_l + 1 : Nat) : Int) := (g32_eq (v := (n_l : Int) + 1) (by omega) (by omega)).trans (by omega)
    have eo : orR P x (n_l + 1) = (if gand (gshr x (n_l : Int)) 1 = 0 then orR P x n_l else gor (orR P x n_l) (P n_l)) := rfl
    rw [if_pos c, eg]
    by_cases d : gand (gshr x (n_l : Int)) 1 = 0
    · rw [if_pos d] at eo ⊢
      exact gQ_ret ⟨n_l + 1, by rw [eo], by omega⟩
    · rw [if_neg d] at eo ⊢
      rw [Int.toNat_natCast, (rr_15_2 hg).2, ec n_l (by omega)]
      exact gQ_chk (gQ_ret ⟨n_l + 1, by rw [eo], by omega⟩)
  · rw [if_neg c]
    have en : n_l = N := by omega
    rw [en]
    exact gQ_map (gQ_ret ⟨rfl, rfl⟩)
theorem cd_120 (hJ : J p s) (h : RX s) : gQ (f_120 0 s) (CdX (f_248 217) s) := by
  have hg : RF s := hJ.1.2.1
  have hn := hJ.1.1
  have hv := (Jv hJ).2.2.2
  have hv3 := (Jv hJ).1
  obtain ⟨N_l, hN_l⟩ : ∃ N_l : Nat, gI s 218 6 = (N_l : Int) := ⟨(gI s 218 6).toNat, by omega⟩
  obtain ⟨b_l, hb_l⟩ : ∃ b_l : Nat, gI s 218 3 = (b_l : Int) := ⟨(gI s 218 3).toNat, by omega⟩
  have hN6 : N_l ≤ 6 := by omega
  have hb9 : b_l < 9 := by omega
  have ec : ∀ l, l < 6 → gI s 18 l = gI s 218 (88 + 2 * l + 1) := fun l hl => xr h.2 (cjv (i := l) (j := 1) hl (by decide)) (KK_v (j := 1) hl (by decide))
  have e5_l : gI s 15 5 = (N_l : Int) := (ce_n h.1).2.2.2.1.trans hN_l
  have e3_l : gI s 9 5 = (b_l : Int) := (ce_n h.1).1.trans hb_l
  have e2b : (1 : Int) ≤ ((2 ^ b_l : Nat) : Int) ∧ ((2 ^ b_l : Nat) : Int) ≤ 256 := by
    have h1 : 2 ^ b_l ≤ 2 ^ 8 := Nat.pow_le_pow_right (by decide) (by omega)
    have h2 : 0 < 2 ^ b_l := Nat.pow_pos (by decide)
    omega
  have eM_l : g32 (gshl 1 (b_l : Int) - 1) = ((2 ^ b_l : Nat) : Int) - 1 := by
    rw [g1p b_l (by omega), g32_eq (by omega) (by omega)]
  have e64 : 2 ^ N_l ≤ 64 := p2_6 N_l hN6
  obtain ⟨P_l, hPd⟩ : ∃ P_l : Nat → Int, P_l = fun l => gI s 218 (88 + 2 * l + 1) := ⟨_, rfl⟩
  have hP2 : ∀ l, l < N_l → 0 ≤ P_l l ∧ P_l l < 2 ^ b_l := fun l hl => by
    have h1 := ((RX_vp h).2 l (by omega) (by dsimp only; omega)).2
    dsimp only at h1
    rw [hb_l, Int.toNat_natCast] at h1
    rw [hPd]
    exact h1
  have ec2 : ∀ l, l < 6 → gI s 18 l = P_l l := fun l hl => by
    rw [hPd]
    exact ec l hl
  have cl_l : gQ (f_120 0 s) (fun r_l => r_l.2.1 = sel N_l P_l (((2 ^ b_l : Nat) : Int) - 1) (2 ^ N_l)) := by
    unfold f_120
    dsimp only
    rw [(rr_0_4 hg).2, e3_l, eM_l]
    generalize ((2 ^ b_l : Nat) : Int) - 1 = M
    refine gQ_loop (fun y_l => ∃ n_l : Nat, y_l = (0, M, sel N_l P_l M n_l, (n_l : Int), s) ∧ n_l ≤ 2 ^ N_l) (fun y_l hy => ?_) ⟨0, rfl, Nat.zero_le _⟩
    obtain ⟨n_l, rfl, hnN_l⟩ := hy
    show gQ (sb_120_16 0 M (sel N_l P_l M n_l) (n_l : Int) s) _
    unfold sb_120_16
    rw [(rr_0_5 hg).2, e5_l, g1p N_l (by omega)]
    by_cases c : (n_l : Int) < ((2 ^ N_l : Nat) : Int)
    · have eg : g32 ((n_l : Int) + 1) = ((n_l + 1 : Nat) : Int) := (g32_eq (v := (n_l : Int) + 1) (by omega) (by omega)).trans (by omega)
      have hle : n_l + 1 ≤ 2 ^ N_l := Int.ofNat_lt.mp c
      have hn64 : 0 ≤ (n_l : Int) ∧ (n_l : Int) < 64 := ⟨Int.natCast_nonneg n_l, Int.ofNat_lt.mpr (Nat.lt_of_lt_of_le (Int.ofNat_lt.mp c) e64)⟩
      have hsb : sel N_l P_l M n_l = -1 ∨ (0 ≤ sel N_l P_l M n_l ∧ sel N_l P_l M n_l < 64) := by
        exact (sel_b (N := N_l) (P := P_l) (M := M) n_l).imp_right (fun q_l => ⟨q_l.1, Int.lt_trans q_l.2 hn64.2⟩)
      rw [if_pos c]
      refine gQ_w1 (A := fun v_l z_l => v_l = orR P_l (n_l : Int) N_l ∧ z_l = s) (c32 hg e5_l hN6 ec2) (fun v_l z_l hz => ?_)
      obtain ⟨z1, z2⟩ := hz
      rw [z1, z2]
      have es : sel N_l P_l M (n_l + 1) = (if orR P_l (n_l : Int) N_l = M then (if sel N_l P_l M n_l = -1 then (n_l : Int) else if pcs (n_l : Int) 31 < pcs (sel N_l P_l M n_l) 31 then (n_l : Int) else sel N_l P_l M n_l) else sel N_l P_l M n_l) := rfl
      by_cases d : orR P_l (n_l : Int) N_l = M
      · rw [if_pos d] at es ⊢
        by_cases d2 : sel N_l P_l M n_l = -1
        · rw [if_pos d2] at es ⊢
          unfold fb_120_57
          rw [eg]
          exact gQ_ret ⟨n_l + 1, by rw [es], hle⟩
        · rw [if_neg d2] at es ⊢
          refine gQ_w1 (A := fun v_l z_l => v_l = pcs (n_l : Int) 31 ∧ z_l = s) (fun r_l hr => ?_) (fun v_l z_l hz => ?_)
          · obtain ⟨q1_l, q2_l⟩ := p_264 r_l hr
            exact ⟨q1_l.trans (bc_pc hn64), q2_l⟩
          obtain ⟨y1, y2⟩ := hz
          rw [y1, y2]
          refine gQ_w1 (A := fun v_l z_l => v_l = pcs (sel N_l P_l M n_l) 31 ∧ z_l = s) (fun r_l hr => ?_) (fun v_l z_l hz => ?_)
          · obtain ⟨q1_l, q2_l⟩ := p_264 r_l hr
            exact ⟨q1_l.trans (bc_pc (hsb.resolve_left d2)), q2_l⟩
          obtain ⟨y3, y4⟩ := hz
          rw [y3, y4]
          by_cases d3 : pcs (n_l : Int) 31 < pcs (sel N_l P_l M n_l) 31
          · rw [if_pos d3] at es ⊢
            unfold fb_120_57
            rw [eg]
            exact gQ_ret ⟨n_l + 1, by rw [es], hle⟩
          · rw [if_neg d3] at es ⊢
            rw [eg]
            exact gQ_ret ⟨n_l + 1, by rw [es], hle⟩
      · rw [if_neg d] at es ⊢
        rw [eg]
        exact gQ_ret ⟨n_l + 1, by rw [es], hle⟩
    · rw [if_neg c]
      have en : n_l = 2 ^ N_l := by omega
      rw [en]
      exact gQ_map (gQ_ret rfl)
  intro r_l hr u_l p' hf hu hR
  have hr0 : gR (gw u_l 217 0 0) 217 1 = 218 := (rr_217_1 hu.1.2.1).2
  have e8 := WQ_8 hn hf
  have e6_l : gI (gw u_l 217 0 0) 218 6 = (N_l : Int) := (m8 6).trans ((e8 6).trans hN_l)
  have e3u : gI (gw u_l 217 0 0) 218 3 = (b_l : Int) := (m8 3).trans ((e8 3).trans hb_l)
  have mp_l : ∀ l : Nat, l < 6 → ∀ x_l : Int, x_l = (l : Int) → gQ (f_160 217 x_l 1 (gw u_l 217 0 0)) (fun q_l => q_l.2.1 = P_l l ∧ q_l.2.2.2 = gw u_l 217 0 0) := fun l hl x_l ex_l q_l hq => by
    subst ex_l
    obtain ⟨q1_l, q2_l⟩ := v160 (z := gw u_l 217 0 0) (j := l) (q := 1) hr0 hl (by decide) rfl q_l hq
    refine ⟨q1_l.trans ((m8 _).trans ((e8 _).trans ?_)), q2_l⟩
    rw [hPd]
  rw [cl_l r_l hr]
  unfold f_248
  dsimp only
  rw [hr0, e3u, eM_l]
  have full_l : ∀ n_l : Nat, (gand (((2 ^ b_l : Nat) : Int) - 1) (gxor (orR P_l (n_l : Int) N_l) (-1)) = 0 ↔ orR P_l (n_l : Int) N_l = ((2 ^ b_l : Nat) : Int) - 1) := fun n_l => by
    have h1 := orR_b (x := (n_l : Int)) hb9 hP2 N_l (Nat.le_refl N_l)
    have h2 := full_i b_l hb9 (orR P_l (n_l : Int) N_l).toNat (by
      have h3 : ((2 ^ b_l : Nat) : Int) = (2 : Int) ^ b_l := by
        rw [Int.natCast_pow]
        rfl
      omega)
    rw [show (((orR P_l (n_l : Int) N_l).toNat : Nat) : Int) = orR P_l (n_l : Int) N_l by omega] at h2
    exact h2
  generalize ((2 ^ b_l : Nat) : Int) - 1 = M at full_l
  refine gQ_loop (fun y_l => ∃ n_l : Nat, y_l = (217, M, sel N_l P_l M n_l, (n_l : Int), gw u_l 217 0 0) ∧ n_l ≤ 2 ^ N_l) (fun y_l hy => ?_) ⟨0, rfl, Nat.zero_le _⟩
  obtain ⟨n_l, rfl, hnN_l⟩ := hy
  show gQ (sb_248_20 217 M (sel N_l P_l M n_l) (n_l : Int) (gw u_l 217 0 0)) _
  unfold sb_248_20
  rw [hr0, e6_l, g1p N_l (by omega)]
  by_cases c : (n_l : Int) < ((2 ^ N_l : Nat) : Int)
  · have eg : g32 ((n_l : Int) + 1) = ((n_l + 1 : Nat) : Int) := (g32_eq (v := (n_l : Int) + 1) (by omega) (by omega)).trans (by omega)
    have hle : n_l + 1 ≤ 2 ^ N_l := Int.ofNat_lt.mp c
    have fl_l := full_l n_l
    rw [if_pos c]
    refine gQ_loop (fun y_l => ∃ l : Nat, y_l = (217, M, sel N_l P_l M n_l, (n_l : Int), orR P_l (n_l : Int) l, (l : Int), gw u_l 217 0 0) ∧ l ≤ N_l) (fun y_l hy => ?_) ⟨0, rfl, Nat.zero_le _⟩
    obtain ⟨l, rfl, hl⟩ := hy
    show gQ (sb_248_39 217 M (sel N_l P_l M n_l) (n_l : Int) (orR P_l (n_l : Int) l) (l : Int) (gw u_l 217 0 0)) _
    unfold sb_248_39
    rw [hr0, e6_l]
    by_cases cl_l : (l : Int) < (N_l : Int)
    · have egl : g32 ((l : Int) + 1) = ((l + 1 : Nat) : Int) := (g32_eq (v := (l : Int) + 1) (by omega) (by omega)).trans (by omega)
      have hle2 : l + 1 ≤ N_l := Int.ofNat_lt.mp cl_l
      have hl6 : l < 6 := Nat.lt_of_lt_of_le hle2 hN6
      have d01 := gand1 (x := gshr (n_l : Int) (l : Int))
      have eo : orR P_l (n_l : Int) (l + 1) = (if gand (gshr (n_l : Int) (l : Int)) 1 = 0 then orR P_l (n_l : Int) l else gor (orR P_l (n_l : Int) l) (P_l l)) := rfl
      rw [if_pos cl_l]
      refine gQ_w1 (A := fun v_l z_l => v_l = (if gand (gshr (n_l : Int) (l : Int)) 1 = 1 then 1 else 0) ∧ z_l = gw u_l 217 0 0) m_153 (fun v_l z_l hz => ?_)
      obtain ⟨z1, z2⟩ := hz
      rw [z1, z2]
      by_cases d : gand (gshr (n_l : Int) (l : Int)) 1 = 1
      · rw [if_pos d, if_neg (by decide)]
        rw [if_neg (by rw [d]; decide)] at eo
        refine gQ_w1 (A := fun v_l z_l => v_l = P_l l ∧ z_l = gw u_l 217 0 0) (mp_l l hl6 _ rfl) (fun v_l z_l hz => ?_)
        obtain ⟨z3, z4⟩ := hz
        rw [z3, z4, egl]
        exact gQ_ret ⟨l + 1, by rw [eo], hle2⟩
      · have hob := orR_b (x := (n_l : Int)) hb9 hP2 l hl
        rw [if_neg d, if_pos rfl, egl]
        rw [if_pos (d01.resolve_right d)] at eo
        have e0_l : gor (orR P_l (n_l : Int) l) 0 = orR P_l (n_l : Int) l := gor0_g b_l hb9 hob
        rw [e0_l]
        exact gQ_ret ⟨l + 1, by rw [eo], hle2⟩
    · rw [if_neg cl_l]
      have en : l = N_l := by omega
      rw [en]
      refine gQ_map ?_
      have es : sel N_l P_l M (n_l + 1) = (if orR P_l (n_l : Int) N_l = M then (if sel N_l P_l M n_l = -1 then (n_l : Int) else if pcs (n_l : Int) 31 < pcs (sel N_l P_l M n_l) 31 then (n_l : Int) else sel N_l P_l M n_l) else sel N_l P_l M n_l) := rfl
      by_cases d : orR P_l (n_l : Int) N_l = M
      · rw [if_pos d] at es
        rw [if_pos (fl_l.mpr d)]
        by_cases d2 : sel N_l P_l M n_l = -1
        · rw [if_pos d2] at es ⊢
          unfold fb_248_107
          rw [eg]
          exact gQ_ret ⟨n_l + 1, by rw [es], hle⟩
        · rw [if_neg d2] at es ⊢
          refine gQ_w1 (A := fun v_l z_l => v_l = pcs (n_l : Int) 31 ∧ z_l = gw u_l 217 0 0) p_154 (fun v_l z_l hz => ?_)
          obtain ⟨y1, y2⟩ := hz
          rw [y1, y2]
          refine gQ_w1 (A := fun v_l z_l => v_l = pcs (sel N_l P_l M n_l) 31 ∧ z_l = gw u_l 217 0 0) p_154 (fun v_l z_l hz => ?_)
          obtain ⟨y3, y4⟩ := hz
          rw [y3, y4]
          by_cases d3 : pcs (n_l : Int) 31 < pcs (sel N_l P_l M n_l) 31
          · rw [if_pos d3] at es ⊢
            unfold fb_248_107
            rw [eg]
            exact gQ_ret ⟨n_l + 1, by rw [es], hle⟩
          · rw [if_neg d3] at es ⊢
            rw [eg]
            exact gQ_ret ⟨n_l + 1, by rw [es], hle⟩
      · rw [if_neg d] at es
        rw [if_neg (fun q_l => d (fl_l.mp q_l)), eg]
        exact gQ_ret ⟨n_l + 1, by rw [es], hle⟩
  · rw [if_neg c]
    have en : n_l = 2 ^ N_l := by omega
    rw [en]
    exact gQ_map (gQ_ret rfl)
theorem xc_120 (hJ : J p s) (h : RX s) : gQ (f_120 0 s) (fun r => Xc1 (f_248 217) r.2.1 r.2.2.2) := xc1 hJ.1.1 (cd_120 hJ h) (fun r hr => o_120 hJ.1.2.1 cid rfl (Fw_rf hJ.1.1) r hr)
end Qk

end
