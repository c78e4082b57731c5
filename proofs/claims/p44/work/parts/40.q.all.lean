section
/-! getters of courts -/
def WQ (a _k : Nat) : Bool := csa a || Nat.beq a 231
def CoX (st : Nat → Int) (F : gS → Option gO) (s : gS) (r : gO) : Prop := ∀ u p, Fw WQ s u → J p u → RX u → gQ (F u) (fun q => gI q.2.2.2 217 0 = st r.1 ∧ (r.1 = 1 → q.2.1 = r.2.1))
def CdX (F : gS → Option gO) (s : gS) (r : gO) : Prop := ∀ u p, Fw WQ s u → J p u → RX u → gQ (F u) (fun q => q.2.1 = r.2.1)
def st4 (n : Nat) : Int := if n = 4 then 1 else 0
section Qa
variable {s t u g : gS} {p : gP} {a1 a2 a3 v : Int} {a k i j n : Nat} {F : gS → Option gO} {st : Nat → Int}
theorem uQ : ∀ a k, csq a k = true → WQ a k = true := fun a k h_l => by
  unfold WQ
  unfold csq at h_l
  rw [h_l]
  rfl
theorem WQ_n (h : (9 ≤ a ∧ a < 27) ∨ (54 ≤ a ∧ a ≠ 231)) : WQ a k = false := by
  unfold WQ
  rw [csa_n (by omega), es_beqf.mpr (by omega)]
  rfl
theorem xc2 {z : Option gO} {K : Nat → gS → Option gO} {E : Int → gS → Option gO} (Vk : Int → Prop) (hn : 232 ≤ gn s) (hz : gQ z (CoX st F s)) (hL : gQ z (fun r => Fw csq s r.2.2.2)) (hV : gQ z (fun r => r.1 = 1 → Vk r.2.1)) (h1 : st 1 = 0) (hE : ∀ v t, Vk v → gQ (E v t) (fun r => r.2.1 = 0 ∧ gI r.2.2.2 231 0 = v ∧ Sm t r.2.2.2 ∧ ∀ a k, a ≠ 231 → gI r.2.2.2 a k = gI t a k)) (hC : ∀ k t, gQ (K k t) (fun r => r.2.1 = st (k + 2) ∧ r.2.1 ≠ 0 ∧ r.2.2.2 = t)) (hF : ∀ u p, J p u → RX u → gQ (F u) (fun q => gI q.2.2.2 231 0 = gI u 231 0)) : gQ (z.bind (gc1 K E)) (fun r => Xc F r.2.1 r.2.2.2) := by
  refine gQ_d1 (A := fun r => CoX st F s r ∧ Fw csq s r.2.2.2 ∧ (r.1 = 1 → Vk r.2.1)) (fun r hr => ⟨hz r hr, hL r hr, hV r hr⟩) (fun r hr c_l => ?_) (fun r hr c_l => ?_)
  · obtain ⟨x1_l, x2_l, x3⟩ := hr
    intro t ht p hj hR q hq
    obtain ⟨e1_l, e2_l, e3_l, e4_l⟩ := hE _ _ (x3 c_l) t ht
    have f1_l : Fw WQ s t.2.2.2 := Fw_sm (Fw_tr (Fw_rf hn) x2_l uQ) e3_l (fun a k _ hw => e4_l a k (fun z => by
      rw [z] at hw
      cases hw))
    obtain ⟨y1, y2⟩ := x1_l _ p f1_l hj hR q hq
    rw [c_l, h1] at y1
    refine ⟨y1.trans e1_l.symm, fun _ => ?_⟩
    rw [hF _ p hj hR q hq, e2_l, y2 c_l]
  · obtain ⟨x1_l, x2_l, x3⟩ := hr
    intro t ht p hj hR q hq
    obtain ⟨e1_l, e2_l, e3_l⟩ := hC _ _ t ht
    rw [e3_l] at hq hj hR
    obtain ⟨y1, y2⟩ := x1_l _ p (Fw_tr (Fw_rf hn) x2_l uQ) hj hR q hq
    rw [show r.1 - 2 + 2 = r.1 by omega] at e1_l
    exact ⟨y1.trans e1_l.symm, fun z => absurd z e2_l⟩
theorem xc1 {z : Option gO} (hn : 232 ≤ gn s) (hz : gQ z (CdX F s)) (hL : gQ z (fun r => Fw csq s r.2.2.2)) : gQ z (fun r => Xc1 F r.2.1 r.2.2.2) := fun r hr p_l hj hR => hz r hr _ p_l (Fw_tr (Fw_rf hn) (hL r hr) uQ) hj hR
/-- rows below alike -/
theorem WQ_8 (hn : 232 ≤ gn s) (h : Fw WQ s u) : ∀ k, gI u 218 k = gI s 218 k := fun k => h.2.2 218 k (by omega) (WQ_n (by omega))
/-- cells of the class are the row's -/
theorem xr (h : Rx s) (hi : Ci 15 a j k) (hk : KK k) : gI s a j = gI s 218 k := by
  refine rd_ci (C := 15) (V := fun k => gI s 218 k) (fun k hk => ?_) hi hk
  have := h.1.1 k hk
  rw [Nat.zero_add] at this
  exact this.symm
theorem xl (h : Rx s) (hi : (i : Int) < gI s 218 13) (hj : j < 4) : gI s 20 (4 * ((gI s 218 13).toNat - 1 - i) + j) = gI s 218 (100 + 4 * i + j) := by
  have h1 := h.1.2.2.2 i j (by rw [Nat.zero_add]; exact hi) hj
  rw [Nat.zero_add] at h1
  rw [show 0 + 100 + 4 * i + j = 100 + 4 * i + j by omega] at h1
  exact h1.symm
theorem c13r (h : Rx s) : gI s 19 1 = gI s 218 13 := by
  have h1 := h.1.1 13 (by unfold KK; decide)
  rw [Nat.zero_add] at h1
  exact h1.symm
theorem r13 (h : Rx s) : 0 ≤ gI s 218 13 ∧ gI s 218 13 ≤ 60 := by
  have h1 := h.1.2.2.1
  rw [Nat.zero_add] at h1
  exact h1
/-- rival -/
theorem co_95 (hJ : J p s) (h : RX s) : gQ (f_95 0 a1 a2 s) (CoX st5 (f_208 217 a1 a2) s) := by
  have hg : RF s := hJ.1.2.1
  have hn := hJ.1.1
  have hv := (Jv hJ).2.2.2
  have mo : ∀ u_l p, Fw WQ s u_l → J p u_l → gQ (f_208 217 a1 a2 u_l) (fun q_l => ((0 ≤ a1 ∧ a1 < gI s 218 6) ∧ gI q_l.2.2.2 217 0 = 0 ∧ q_l.2.1 = gI s 218 (88 + 2 * a1.toNat + (if a2 = 0 then 0 else 1))) ∨ (¬ (0 ≤ a1 ∧ a1 < gI s 218 6) ∧ gI q_l.2.2.2 217 0 = 1)) := fun u_l p hf hu => by
    have hr := (rr_217_1 hu.1.2.1).2
    have e8 := WQ_8 hn hf
    unfold f_208 f_164
    rw [hr, e8 6]
    refine m_n (by omega) (fun c_l => ?_) (fun c_l => ?_)
    · rw [if_neg (by decide)]
      unfold fb_208_14
      dsimp only
      rw [m0, if_neg (by decide)]
      obtain ⟨j_l, hj⟩ : ∃ j_l : Nat, a1 = (j_l : Int) := ⟨a1.toNat, by omega⟩
      have hj6 : j_l < 6 := by omega
      by_cases c3 : a2 = 0
      · rw [if_pos c3]
        unfold fb_208_39
        refine gQ_w1 (A := fun w_l z_l => w_l = gI s 218 (88 + 2 * j_l) ∧ z_l = gw u_l 217 0 0) (fun r_l hr2 => ?_) (fun w_l z_l hz => ?_)
        · rw [hj] at hr2
          obtain ⟨q1_l, q2_l⟩ := v160 (z := gw u_l 217 0 0) (q := 0) hr hj6 (by decide) rfl r_l hr2
          exact ⟨q1_l.trans ((m8 _).trans (e8 _)), q2_l⟩
        · obtain ⟨z1, z2⟩ := hz
          refine gQ_ret (Or.inl ⟨c_l, ?_, ?_⟩)
          · dsimp only
            rw [z2, m0]
          · dsimp only
            rw [z1, if_pos c3, hj, Int.toNat_natCast, Nat.add_zero]
      · rw [if_neg c3]
        unfold fb_208_39
        refine gQ_w1 (A := fun w_l z_l => w_l = gI s 218 (88 + 2 * j_l + 1) ∧ z_l = gw u_l 217 0 0) (fun r_l hr2 => ?_) (fun w_l z_l hz => ?_)
        · rw [hj] at hr2
          obtain ⟨q1_l, q2_l⟩ := v160 (z := gw u_l 217 0 0) (q := 1) hr hj6 (by decide) rfl r_l hr2
          exact ⟨q1_l.trans ((m8 _).trans (e8 _)), q2_l⟩
        · obtain ⟨z1, z2⟩ := hz
          refine gQ_ret (Or.inl ⟨c_l, ?_, ?_⟩)
          · dsimp only
            rw [z2, m0]
          · dsimp only
            rw [z1, if_neg c3, hj, Int.toNat_natCast]
    · rw [if_pos rfl]
      unfold fb_208_14
      dsimp only
      rw [m0, if_pos (by decide)]
      exact gQ_ret (Or.inr ⟨c_l, m0⟩)
  unfold f_95
  refine n_gt (by decide) (n_137 hg h.1) (fun c_l => ?_) (fun c_l => ?_)
  · rw [(rr_0_5 hg).2, (rr_15_1 hg).2, (rr_15_2 hg).2]
    have key_l : ∀ x_l, x_l = gI s 218 (88 + 2 * a1.toNat + (if a2 = 0 then 0 else 1)) → CoX st5 (f_208 217 a1 a2) s (1, x_l, 0, s) := fun x_l hx u_l p hf hu _ q_l hq => by
      rcases mo u_l p hf hu q_l hq with ⟨-, h1, h2⟩ | ⟨h1, -⟩
      · exact ⟨h1, fun _ => h2.trans hx.symm⟩
      · exact absurd c_l h1
    by_cases c3 : a2 = 0
    · rw [if_pos c3]
      exact gQ_chk (gQ_ret (key_l _ (by rw [if_pos c3]; exact xr h.2 (cjv0 (i := a1.toNat) (by omega)) (KK_v0 (by omega)))))
    · rw [if_neg c3]
      exact gQ_chk (gQ_ret (key_l _ (by rw [if_neg c3]; exact xr h.2 (cjv (i := a1.toNat) (j := 1) (by omega) (by decide)) (KK_v (j := 1) (by omega) (by decide)))))
  · intro u_l p hf hu _ q_l hq
    rcases mo u_l p hf hu q_l hq with ⟨h1, -⟩ | ⟨-, h1⟩
    · exact absurd h1 c_l
    · exact ⟨h1, fun z_l => by cases z_l⟩
/-- the sets of men in a state -/
theorem lk_29 (hJ : J p s) (h : RX s) {x : Int} {p2 : gP} (hu : J p2 u) (e8 : ∀ k, gI u 218 k = gI s 218 k) : gQ (f_29 15 x s) (fun r => r.2.2.2 = s ∧ gQ (f_252 217 x u) (fun q => q.2.1 = r.2.1 ∧ q.2.2.2 = u)) := by
  have hg : RF s := hJ.1.2.1
  have hv := (Jv hJ).2.1
  have r15 : gR s 15 0 = 16 := (rr_15_0 hg).2
  have h8 : gR u 217 1 = 218 := (rr_217_1 hu.1.2.1).2
  have e4_l : gI s 15 4 = gI s 218 4 := (ce_n h.1).2.1
  unfold f_29 f_252
  have hs : gQ (gloop st_29_4 (15, x, 0, 0, s)) (fun r => r.2.2.2 = s) := by
    refine gQ_loop (fun y_l => y_l.1 = 15 ∧ y_l.2.2.2.2 = s) (fun y_l hy => ?_) ⟨rfl, rfl⟩
    obtain ⟨y0, y1, x2_l, x3, w_l⟩ := y_l
    obtain ⟨q0, q1_l⟩ := hy
    dsimp only at q0 q1_l
    subst q0 q1_l
    show gQ (sb_29_4 15 y1 x2_l x3 w_l) _
    unfold sb_29_4
    exact gQ_ite (gQ_chk (gQ_ite (gQ_ret ⟨rfl, rfl⟩) (gQ_ret ⟨rfl, rfl⟩))) (gQ_map (gQ_ret rfl))
  refine fun r hr => ⟨hs r hr, ?_⟩
  revert r
  refine gQ_lk (P := fun (q q' : gO) => q'.2.1 = q.2.1 ∧ q'.2.2.2 = u) (fun y_l z_l => y_l.1 = 15 ∧ y_l.2.1 = x ∧ y_l.2.2.2.2 = s ∧ (0 ≤ y_l.2.2.2.1 ∧ (0 ≤ y_l.2.2.1 ∧ y_l.2.2.1 < 64)) ∧ z_l = (217, x, y_l.2.2.1, y_l.2.2.2.1, u)) (fun y_l z_l hy => ?_) ⟨rfl, rfl, rfl, by dsimp only; omega, rfl⟩
  obtain ⟨y0, y1, x2_l, x3, w_l⟩ := y_l
  obtain ⟨q0, q1_l, q2_l, q3_l, q4_l⟩ := hy
  dsimp only at q0 q1_l q2_l q3_l q4_l
  subst q0 q1_l q2_l q4_l
  show gQ (sb_29_4 15 y1 x2_l x3 w_l) _
  unfold sb_29_4
  rw [r15, e4_l]
  by_cases c1 : x3 < gI w_l 218 4
  · obtain ⟨i_l, hi_l⟩ : ∃ i_l : Nat, x3 = (i_l : Int) := ⟨x3.toNat, by omega⟩
    have hi6 : i_l < 6 := by omega
    have ei : x3.toNat = i_l := by omega
    have eg : g32 (x3 + 1) = x3 + 1 := g32_eq (by omega) (by omega)
    have hb_l := gshl_5 (x := x3) (by omega)
    have hlt := gor_lt (x := x2_l) (y := gshl 1 x3) 6 (by decide) ⟨q3_l.2.1, q3_l.2.2⟩ ⟨by omega, by show gshl 1 x3 < 64; omega⟩
    have hlt2 : gor x2_l (gshl 1 x3) < 64 := hlt.2
    have e5_l : gI w_l (21 + i_l) 5 = gI w_l 218 (40 + 6 * i_l + 5) := xr h.2 (cjm hi6 (by decide)) (KK_m hi6 (by decide))
    rw [if_pos c1, ei, rr_16 hg hi6, e5_l]
    have mm : gQ (sb_252_4 217 y1 x2_l x3 u) (fun a_l => a_l = Sum.inl (217, y1, (if gI w_l 218 (40 + 6 * i_l + 5) = y1 then gor x2_l (gshl 1 x3) else x2_l), g32 (x3 + 1), u)) := by
      unfold sb_252_4
      rw [h8, e8 4, if_pos c1]
      refine gQ_w1 (A := fun v_l z_l => v_l = gI w_l 218 (40 + 6 * i_l + 5) ∧ z_l = u) (fun r hr2 => ?_) (fun v_l z_l hz => ?_)
      · rw [hi_l] at hr2
        obtain ⟨q1_l, q2_l⟩ := v156 (j := 5) h8 hi6 (by decide) rfl r hr2
        exact ⟨q1_l.trans (e8 _), q2_l⟩
      obtain ⟨z1, z2⟩ := hz
      rw [z1, z2]
      by_cases c3 : gI w_l 218 (40 + 6 * i_l + 5) = y1
      · rw [if_pos c3, if_pos c3]
        exact gQ_ret rfl
      · rw [if_neg c3, if_neg c3, gor0 q3_l.2]
        exact gQ_ret rfl
    refine gQ_chk ?_
    by_cases c3 : gI w_l 218 (40 + 6 * i_l + 5) = y1
    · rw [if_pos c3]
      refine gQ_ret (fun a_l ha_l => ?_)
      rw [mm a_l ha_l, if_pos c3]
      refine ⟨rfl, rfl, rfl, ?_, rfl⟩
      dsimp only
      omega
    · rw [if_neg c3]
      refine gQ_ret (fun a_l ha_l => ?_)
      rw [mm a_l ha_l, if_neg c3]
      refine ⟨rfl, rfl, rfl, ?_, rfl⟩
      dsimp only
      omega
  · rw [if_neg c1]
    refine gQ_map (gQ_ret ?_)
    show gQ (sb_252_4 217 y1 x2_l x3 u) _
    unfold sb_252_4
    rw [h8, e8 4, if_neg c1]
    exact gQ_map (gQ_ret ⟨rfl, rfl⟩)
theorem cd_124 (hJ : J p s) (h : RX s) : gQ (f_124 0 a1 s) (CdX (f_253 217 a1) s) := by
  have hg : RF s := hJ.1.2.1
  have hn := hJ.1.1
  intro r_l hr u_l p' hf hu hR
  have hJw : J p' (gw u_l 217 0 0) := J_wf hu t217 rfl (fun z_l => by cases z_l) rfl (fun q_l hq => by cases hq)
  have e8 : ∀ k_l, gI (gw u_l 217 0 0) 218 k_l = gI s 218 k_l := fun k_l => (m8 k_l).trans (WQ_8 hn hf k_l)
  have key_l : ∀ x_l, fb_124_13 x_l 15 s = some r_l → gQ (fb_253_15 x_l 217 (gw u_l 217 0 0)) (fun q_l => q_l.2.1 = r_l.2.1) := fun x_l hx => by
    unfold fb_124_13 at hx
    unfold fb_253_15
    revert r_l
    suffices hh : gQ ((f_29 15 x_l s).bind (gv1 (fun v2 s1_l => some ((1, v2, 0, s1_l) : gO)))) (fun r_l => gQ ((f_252 217 x_l (gw u_l 217 0 0)).bind (gv1 (fun v3 s2_l => some ((1, v3, 0, s2_l) : gO)))) (fun q_l => q_l.2.1 = r_l.2.1)) from fun r_l _ hx => hh r_l hx
    refine gQ_w1 (A := fun v_l z_l => z_l = s ∧ gQ (f_252 217 x_l (gw u_l 217 0 0)) (fun q_l => q_l.2.1 = v_l ∧ q_l.2.2.2 = gw u_l 217 0 0)) (lk_29 hJ h hJw e8) (fun v_l z_l hz => gQ_ret ?_)
    exact gQ_w1 (A := fun w_l z_l => w_l = v_l ∧ z_l = gw u_l 217 0 0) hz.2 (fun w_l z_l hw => gQ_ret hw.1)
  unfold f_124 at hr
  unfold f_253
  dsimp only
  rw [(rr_0_5 hg).2] at hr
  by_cases c : a1 = 0
  · rw [if_pos c] at hr ⊢
    exact key_l 0 hr
  · rw [if_neg c] at hr ⊢
    exact key_l 1 hr
theorem xc_124 (hJ : J p s) (h : RX s) : gQ (f_124 0 a1 s) (fun r => Xc1 (f_253 217 a1) r.2.1 r.2.2.2) := xc1 hJ.1.1 (cd_124 hJ h) (fun r hr => o_124 hJ.1.2.1 cid rfl (Fw_rf hJ.1.1) r hr)
/-- log -/
theorem v256 {x2 : Int} (hr : gR u 217 1 = 218) (hi : i < 60) (hj : j < 4) (e1 : a1 = (i : Int)) (e2 : x2 = (j : Int)) : gQ (f_256 217 a1 x2 u) (fun r => r.2.1 = gI u 218 (100 + 4 * i + j) ∧ r.2.2.2 = u) := by
  subst e1 e2
  unfold f_256
  rw [g32_eq (v := 4 * (i : Int)) (by omega) (by omega), g32_eq (v := 100 + 4 * (i : Int)) (by omega) (by omega), g32_eq (v := 100 + 4 * (i : Int) + (j : Int)) (by omega) (by omega), hr, show (100 + 4 * (i : Int) + (j : Int)).toNat = 100 + 4 * i + j by omega]
  exact gQ_chk (gQ_ret ⟨rfl, rfl⟩)
theorem co_128 (hJ : J p s) (h : RX s) : gQ (f_128 0 a1 a2 s) (CoX st4 (f_258 217 a1 a2) s) := by
  have hg : RF s := hJ.1.2.1
  have hn := hJ.1.1
  have b13 := r13 h.2
  have mo : ∀ u_l p, Fw WQ s u_l → J p u_l → gQ (f_258 217 a1 a2 u_l) (fun q_l => ((0 ≤ a2 ∧ a2 ≤ 3) ∧ gI q_l.2.2.2 217 0 = 0 ∧ q_l.2.1 = (if 0 ≤ a1 ∧ a1 ≤ gI s 218 13 - 1 then gI s 218 (100 + 4 * a1.toNat + a2.toNat) else -1)) ∨ (¬ (0 ≤ a2 ∧ a2 ≤ 3) ∧ gI q_l.2.2.2 217 0 = 1)) := fun u_l p hf hu => by
    have hr := (rr_217_1 hu.1.2.1).2
    have e8 := WQ_8 hn hf
    unfold f_258
    refine gQ_w1 (A := fun v_l z_l => v_l = (if 0 ≤ a2 ∧ a2 ≤ 3 then 1 else 0) ∧ z_l = u_l) m_150 (fun v_l z_l hz => ?_)
    obtain ⟨z1, z2⟩ := hz
    rw [z1, z2]
    by_cases c_l : 0 ≤ a2 ∧ a2 ≤ 3
    · rw [if_pos c_l, if_neg (by decide)]
      unfold fb_258_15
      dsimp only
      have hr0 : gR (gw u_l 217 0 0) 217 1 = 218 := hr
      rw [m0, if_neg (by decide), hr0, m8 13, e8 13, g32_eq (v := gI s 218 13 - 1) (by omega) (by omega)]
      refine gQ_w1 (A := fun v_l z_l => v_l = (if 0 ≤ a1 ∧ a1 ≤ gI s 218 13 - 1 then 1 else 0) ∧ z_l = gw u_l 217 0 0) m_150 (fun v_l z_l hz => ?_)
      obtain ⟨z1, z2⟩ := hz
      rw [z1, z2]
      by_cases c2 : 0 ≤ a1 ∧ a1 ≤ gI s 218 13 - 1
      · rw [if_pos c2, if_neg (by decide), if_pos c2]
        refine gQ_w1 (A := fun v_l z_l => v_l = gI s 218 (100 + 4 * a1.toNat + a2.toNat) ∧ z_l = gw u_l 217 0 0) (fun r_l hr2 => ?_) (fun v_l z_l hz => ?_)
        · obtain ⟨q1_l, q2_l⟩ := v256 (u := gw u_l 217 0 0) (i := a1.toNat) (j := a2.toNat) hr0 (by omega) (by omega) (by omega) (by omega) r_l hr2
          exact ⟨q1_l.trans ((m8 _).trans (e8 _)), q2_l⟩
        obtain ⟨z1, z2⟩ := hz
        rw [z1, z2]
        exact gQ_ret (Or.inl ⟨c_l, m0, rfl⟩)
      · rw [if_neg c2, if_pos rfl, if_neg c2]
        exact gQ_ret (Or.inl ⟨c_l, m0, rfl⟩)
    · rw [if_neg c_l, if_pos rfl]
      unfold fb_258_15
      dsimp only
      rw [m0, if_pos (by decide)]
      exact gQ_ret (Or.inr ⟨c_l, m0⟩)
  have bad_l : ¬ (0 ≤ a2 ∧ a2 ≤ 3) → gQ (fb_128_9 s) (CoX st4 (f_258 217 a1 a2) s) := fun c_l => by
    unfold fb_128_9
    refine gQ_ret (fun u_l p hf hu _ q_l hq => ?_)
    rcases mo u_l p hf hu q_l hq with ⟨h1, -⟩ | ⟨-, h1⟩
    · exact absurd h1 c_l
    · exact ⟨h1, fun z_l => by cases z_l⟩
  unfold f_128
  by_cases c1 : a2 < 0
  · rw [if_pos c1]
    exact bad_l (by omega)
  rw [if_neg c1]
  by_cases c2 : a2 < 4
  · rw [if_pos c2, (rr_0_5 hg).2, (rr_15_3 hg).2]
    have key_l : gQ (f_56 19 a1 a2 s) (fun r_l => r_l.2.1 = (if 0 ≤ a1 ∧ a1 ≤ gI s 218 13 - 1 then gI s 218 (100 + 4 * a1.toNat + a2.toNat) else -1) ∧ r_l.2.2.2 = s) := by
      unfold f_56
      rw [c13r h.2]
      by_cases d1 : a1 < 0
      · rw [if_pos d1, if_neg (by omega)]
        exact gQ_ret ⟨rfl, rfl⟩
      rw [if_neg d1]
      by_cases d2 : a1 < gI s 218 13
      · have e1_l : g32 (gI s 218 13 - 1) = gI s 218 13 - 1 := g32_eq (by omega) (by omega)
        have e2_l : g32 (gI s 218 13 - 1 - a1) = gI s 218 13 - 1 - a1 := g32_eq (by omega) (by omega)
        have e3_l : g32 ((gI s 218 13 - 1 - a1) * 4) = (gI s 218 13 - 1 - a1) * 4 := g32_eq (by omega) (by omega)
        have e4_l : g32 ((gI s 218 13 - 1 - a1) * 4 + a2) = (gI s 218 13 - 1 - a1) * 4 + a2 := g32_eq (by omega) (by omega)
        have e5_l : ((gI s 218 13 - 1 - a1) * 4 + a2).toNat = 4 * ((gI s 218 13).toNat - 1 - a1.toNat) + a2.toNat := by omega
        rw [if_pos d2, if_neg c1, if_pos c2, if_pos (by omega), e1_l, e2_l, e3_l, e4_l, e5_l, (rr_19_0 hg).2, xl h.2 (i := a1.toNat) (j := a2.toNat) (by omega) (by omega)]
        exact gQ_chk (gQ_ret ⟨rfl, rfl⟩)
      · rw [if_neg d2, if_neg (by omega)]
        exact gQ_ret ⟨rfl, rfl⟩
    refine gQ_w1 (A := fun v_l z_l => v_l = (if 0 ≤ a1 ∧ a1 ≤ gI s 218 13 - 1 then gI s 218 (100 + 4 * a1.toNat + a2.toNat) else -1) ∧ z_l = s) key_l (fun v_l z_l hz => ?_)
    refine gQ_ret (fun u_l p hf hu _ q_l hq => ?_)
    rcases mo u_l p hf hu q_l hq with ⟨-, h1, h2⟩ | ⟨h1, -⟩
    · exact ⟨h1, fun _ => h2.trans hz.1.symm⟩
    · exact absurd ⟨by omega, by omega⟩ h1
  · rw [if_neg c2]
    exact bad_l (by omega)
/-- the wrapped calls -/
theorem xc_281 (hJ : J p s) (h : RX s) : gQ (f_281 0 a1 a2 231 s) (fun r => Xc (f_208 217 a1 a2) r.2.1 r.2.2.2) := by
  unfold f_281
  refine xc2 (st := st5) (fun _ => True) hJ.1.1 (co_95 hJ h) (fun r hr => o_95 hJ.1.2.1 cid rfl (Fw_rf hJ.1.1) r hr) (fun _ _ _ => trivial) rfl (fun v_l t_l _ => aX trivial) (fun k_l t_l => ?_) (fun u_l p hu _ q_l hq => (om_208 hu.1.2.1 um rfl (JF hu) q_l hq).2.2 231 0 (Nat.lt_of_lt_of_le (by decide) hu.1.1) rfl)
  by_cases c0 : k_l = 3
  · rw [if_pos c0, c0]
    exact gQ_ret ⟨rfl, (by decide : (1 : Int) ≠ 0), rfl⟩
  rw [if_neg c0]
  exact gQ_none
theorem xc_309 (hJ : J p s) (h : RX s) : gQ (f_309 0 a1 a2 231 s) (fun r => Xc (f_258 217 a1 a2) r.2.1 r.2.2.2) := by
  unfold f_309
  refine xc2 (st := st4) (fun _ => True) hJ.1.1 (co_128 hJ h) (fun r hr => o_128 hJ.1.2.1 cid rfl (Fw_rf hJ.1.1) r hr) (fun _ _ _ => trivial) rfl (fun v_l t_l _ => aX trivial) (fun k_l t_l => ?_) (fun u_l p hu _ q_l hq => (om_258 hu.1.2.1 um rfl (JF hu) q_l hq).2.2 231 0 (Nat.lt_of_lt_of_le (by decide) hu.1.1) rfl)
  by_cases c0 : k_l = 2
  · rw [if_pos c0, c0]
    exact gQ_ret ⟨rfl, (by decide : (1 : Int) ≠ 0), rfl⟩
  rw [if_neg c0]
  exact gQ_none
end Qa

end
section
/-! days that do not count: on the court 42, and on the row that is put aside -/
/-- rows alike but for the log's length -/
def EqB (V W : Nat → Int) : Prop := ∀ k, k ≠ 13 → V k = W k
def daysC (T : (Nat → Int) → Int) (lu : Int) : Nat → (Nat → Int) → (Nat → Int)
  | 0, V => V
  | n + 1, V => dayC T lu (daysC T lu n V)
section Qb
variable {s t u g : gS} {p : gP} {a1 a2 a3 v d lu : Int} {a k i j n m : Nat} {V W : Nat → Int} {T : (Nat → Int) → Int}
theorem upB (h : EqB V W) : EqB (up V k v) (up W k v) := fun j_l hj => by
  unfold up
  split
  · rfl
  · exact h j_l hj
theorem worksB (h : EqB V W) (hi : i < 6) : EqB (worksF i V) (worksF i W) := by
  have hp : ∀ c_l, EqB (paysF c_l V) (paysF c_l W) := fun c_l => by
    unfold paysF
    rw [h 8 (by decide), h 9 (by decide)]
    exact upB (upB h)
  have hd_l : ∀ (a_l : Nat) (X_l Y : Nat → Int), EqB X_l Y → EqB (doneF i a_l X_l) (doneF i a_l Y) := fun a_l X_l Y hx => by
    unfold doneF
    rw [hx (40 + 6 * i) (by omega), hx (16 + 3 * a_l + 2) (by omega)]
    exact upB (upB (upB hx))
  have hh : ∀ (a_l : Nat) (X_l Y : Nat → Int), EqB X_l Y → EqB (heatF i a_l X_l) (heatF i a_l Y) := fun a_l X_l Y hx => by
    unfold heatF
    rw [hx (44 + 6 * i) (by omega), hx (16 + 3 * a_l) (by omega)]
    split
    · exact upB hx
    · exact hd_l a_l X_l Y hx
  unfold worksF
  rw [h (43 + 6 * i) (by omega), h 3 (by decide), h (44 + 6 * i) (by omega), h (16 + 3 * (W (43 + 6 * i)).toNat + 1) (by omega)]
  split
  · split
    · exact hh _ _ _ (hp _)
    · exact hh _ _ _ h
  · exact h
theorem fFB (h : EqB V W) (hi : i < 6) : fF V i = fF W i := by
  funext j
  unfold fF
  rw [h (40 + 6 * i) (by omega), h (41 + 6 * i) (by omega), h (43 + 6 * i) (by omega), h (44 + 6 * i) (by omega), h 9 (by decide), h 7 (by decide), h 3 (by decide)]
theorem midB (h : EqB V W) (hi : i < 6) : EqB (mid2 T i V) (mid2 T i W) := by
  have hw := worksB h hi
  unfold mid2 trustF
  rw [hw (40 + 6 * i) (by omega), fFB hw hi]
  exact upB hw
theorem manB (h : EqB V W) (hi : i < 6) : EqB (manF T i V) (manF T i W) := by
  have ht : EqB (trustF T i (worksF i V)) (trustF T i (worksF i W)) := midB h hi
  unfold manF barF
  rw [h (45 + 6 * i) (by omega), ht (40 + 6 * i) (by omega), ht 10 (by decide)]
  split
  · split
    · exact upB ht
    · exact ht
  · exact h
theorem menB (h : EqB V W) (n : Nat) (hn : n ≤ 6) : EqB (menF T n V) (menF T n W) := by
  induction n with
  | zero => exact h
  | succ n ih_l => exact manB (ih_l (by omega)) (by omega)
theorem keptB (h : EqB V W) (hi : i < 6) : keptF T i V = keptF T i W := by
  have ht := midB (T := T) h hi
  unfold keptF
  rw [h (45 + 6 * i) (by omega), ht (40 + 6 * i) (by omega), ht 10 (by decide)]
theorem keptSB (h : EqB V W) (n : Nat) (hn : n ≤ 6) : keptS T n V = keptS T n W := by
  induction n with
  | zero => rfl
  | succ n ih_l =>
    show keptS T n V + keptF T n (menF T n V) = keptS T n W + keptF T n (menF T n W)
    rw [ih_l (by omega), keptB (menB h n (by omega)) (by omega)]
theorem nextB (h : EqB V W) : EqB (nextF V) (nextF W) := by
  unfold nextF
  rw [h 7 (by decide)]
  exact upB h
theorem dayCB (hg : Vg W) (h : EqB V W) : EqB (dayC T lu V) (dayC T lu W) := by
  have h4 := hg.1.2
  have hm_l : EqB (menF T (W 4).toNat V) (menF T (W 4).toNat W) := menB h _ (by omega)
  unfold dayC
  rw [h 4 (by decide), hm_l 14 (by decide), hm_l 8 (by decide), keptSB (T := T) h (W 4).toNat (by omega)]
  refine nextB ?_
  split
  · exact upB (upB hm_l)
  · exact upB hm_l
theorem Vg_dayC (h : Vg V) : Vg (dayC T lu V) := by
  have h4 := h.1.2
  have hm_l := Vg_men (T := T) h (V 4).toNat (by omega)
  unfold dayC nextF
  split
  · exact Vg_o (Vg_o (Vg_o hm_l (by omega)) (by omega)) (by omega)
  · exact Vg_o (Vg_o hm_l (by omega)) (by omega)
theorem Vg_daysC (h : Vg V) (n : Nat) : Vg (daysC T lu n V) := by
  induction n with
  | zero => exact h
  | succ n ih_l => exact Vg_dayC ih_l
theorem daysCB (hg : Vg W) (h : EqB V W) (n : Nat) : EqB (daysC T lu n V) (daysC T lu n W) := by
  induction n with
  | zero => exact h
  | succ n ih_l => exact dayCB (Vg_daysC hg n) ih_l
/-- without luck: a day ahead, but for the draw -/
theorem daysC_0 (hg : Vg W) (h : Eq14 V W) (n : Nat) : Eq14 (daysC T 0 n V) (daysF T 0 n W) := by
  induction n with
  | zero => exact h
  | succ n ih_l => exact ahead_e (Vg_days hg n) ih_l
/-- with luck: the day itself -/
theorem daysC_1 (hg : Vg V) (n : Nat) : daysC T (V 11) n V = daysF T 1 n V := by
  induction n with
  | zero => rfl
  | succ n ih_l =>
    show dayC T (V 11) (daysC T (V 11) n V) = dayF T 1 (daysF T 1 n V)
    rw [ih_l]
    have e_l := dayC_F (T := T) (lu := 1) (Vg_days (T := T) (lu := 1) hg n) (by decide)
    rw [days_n hg (by decide) n] at e_l
    exact e_l
/-- the court 42 behind the copy -/
theorem c42x : ∀ k, k < 100 → (k ≠ 1 ∧ k ≠ 2 ∧ k ≠ 15) → k = 13 ∨ (pa 9 42 k = pa 9 15 k ∧ pa 9 42 k < 15) ∨ (pa 9 42 k = pa 9 15 k + 27 ∧ ((pa 9 42 k = 42 ∧ 4 ≤ pj k ∧ pj k ≤ 9) ∨ ((pa 9 42 k = 42 + 2 ∨ pa 9 42 k = 42 + 3) ∧ pj k < 6) ∨ (42 + 6 ≤ pa 9 42 k ∧ pa 9 42 k ≤ 42 + 11 ∧ pj k < 6))) := by decide +kernel
theorem CC_b {a b j : Nat} (h : CCr a b j) : a ≤ b := by
  unfold CCr at h
  omega
theorem Cr_42 (h : ∀ k, KK k → cv s 9 15 k = V k) (hc : CC 42 15 s t) : Cr t 42 (up V 13 (cv t 9 42 13)) := fun k hk => by
  by_cases c : k = 13
  · rw [c, up_s]
  rw [up_n c, ← h k hk]
  rcases c42x k hk.1 hk.2 with e_l | ⟨e1_l, e2_l⟩ | ⟨e1_l, e2_l⟩
  · exact absurd e_l c
  · show gI t (pa 9 42 k) (pj k) = gI s (pa 9 15 k) (pj k)
    rw [(hc.2 _ _).2 (fun z_l => by have := CC_b z_l; omega), e1_l]
  · show gI t (pa 9 42 k) (pj k) = gI s (pa 9 15 k) (pj k)
    have h1 : CCr 42 (pa 9 42 k) (pj k) := e2_l
    rw [(hc.2 _ _).1 h1]
    congr 1
    omega
theorem Rc9_42 (hg : RF s) : Rc9 42 s := ⟨⟨(rr_42_0 hg).2, fun i_l hi_l => (hg 43 i_l (by decide) (fun z_l => by rw [k0_m43.1] at z_l; omega)).trans (by
  have h6 : i_l = 0 ∨ i_l = 1 ∨ i_l = 2 ∨ i_l = 3 ∨ i_l = 4 ∨ i_l = 5 := by omega
  rcases h6 with rfl | rfl | rfl | rfl | rfl | rfl <;> decide +kernel)⟩, ⟨(rr_9 hg).1, (rr_9 hg).2.1, (rr_9 hg).2.2.1⟩, (rr_3_0 hg).2, (rr_3_1 hg).2⟩
theorem Fct_42 (h : Fw csq g s) (hf : Fct 42 s t) : Fw csq g t := by
  obtain ⟨⟨f1_l, f2_l, f3_l⟩, f4_l⟩ := hf
  refine ⟨⟨h.1.1, by rw [f1_l]; exact h.1.2.1, fun a_l ha_l => (f2_l a_l).trans (h.1.2.2 a_l ha_l)⟩, fun a_l k_l ha_l => (f3_l a_l k_l).trans (h.2.1 a_l k_l ha_l), fun a_l k_l ha_l hw => (f4_l a_l k_l (fun e_l => ?_) (fun e_l => ?_) (fun e_l => ?_) (fun e_l => ?_)).trans (h.2.2 a_l k_l ha_l hw)⟩
  · have h6 : a_l = 42 ∨ a_l = 48 ∨ a_l = 49 ∨ a_l = 50 ∨ a_l = 51 ∨ a_l = 52 ∨ a_l = 53 := by omega
    rcases h6 with rfl | rfl | rfl | rfl | rfl | rfl | rfl <;> cases hw
  · rw [e_l] at hw
    cases hw
  · rw [e_l] at hw
    cases hw
  · rw [e_l.1] at hw
    cases hw
theorem law_q (hJ : J p g) (hT : Tlw g 218 9 T) (hf : Fw csq g s) : Tlw s 218 9 T := law_C hJ hT (Fw_tr (Fw_rf hJ.1.1) hf uC)
theorem csq_f (h : (9 ≤ a ∧ a < 27) ∨ (36 ≤ a ∧ a < 42) ∨ 54 ≤ a) : csq a k = false := csa_n h
/-- the class's days on trial -/
theorem dc_141 (hJ : J p g) (h : RX g) (hT : Tlw g 218 9 T) (hf : Fw csq g s) (hm : m ≤ 1000) : gQ (f_141 0 (m : Int) lu d s) (fun r => (∃ W, Cr r.2.2.2 42 W ∧ EqB W (daysC T lu m (up (fun k => gI g 218 k) 14 d))) ∧ Fw csq g r.2.2.2) := by
  have hgg : RF g := hJ.1.2.1
  have hn := hJ.1.1
  have hg : RF s := RF_fw hgg hf
  have hv : Vg (fun k => gI g 218 k) := by
    have h1 := h.2.1.2.1
    simp only [Nat.zero_add] at h1
    exact h1
  have hc_l : ∀ k, KK k → cv s 9 15 k = gI g 218 k := fun k hk => by
    have h1 := h.2.1.1 k hk
    rw [Nat.zero_add] at h1
    obtain ⟨b1, b2, -, -⟩ := pa_15 k hk.1
    rw [h1]
    exact hf.2.2 _ _ (by omega) (csq_f (Or.inl ⟨b1, b2⟩))
  have key_l : gQ (f_141 0 (m : Int) lu d s) (fun r => ∃ W, Cr r.2.2.2 42 W ∧ EqB W (daysC T lu m (up (fun k => gI g 218 k) 14 d))) := by
    unfold f_141
    rw [(rr_0_9 hg).2, (rr_0_5 hg).2]
    refine gQ_v0 (A := fun z_l => CC 42 15 s z_l ∧ Fw csq g z_l) (fun r hr => ⟨(gQ_T (s_23 hg ⟨by decide, k0_b.2.2.2.2.1⟩ ⟨by decide, k0_72.2⟩ (by decide)) r hr).2, o_23 hgg cid rfl rfl hf r hr⟩) (fun s1_l h1 => ?_)
    obtain ⟨h1, f1_l⟩ := h1
    have hg1 : RF s1_l := RF_fw hgg f1_l
    have hr1 := Cr_42 hc_l h1
    dsimp only
    rw [(rr_0_9 hg1).2]
    have hr3 := Cr_w (v := d) hr1 (cj_c (Or.inr rfl)).2.2.2
    have f3_l : Fw csq g (gw s1_l 42 9 d) := Fw_wv f1_l rfl
    have hB_l : EqB (up (up (fun k => gI g 218 k) 13 (cv s1_l 9 42 13)) 14 d) (up (fun k => gI g 218 k) 14 d) := upB (fun k hk => up_n hk)
    have hv1 : Vg (up (up (fun k => gI g 218 k) 13 (cv s1_l 9 42 13)) 14 d) := Vg_o (Vg_x hv ⟨by decide, by decide, fun i_l hi_l => by omega, fun a_l ha_l => by omega⟩) (by omega)
    generalize up (up (fun k => gI g 218 k) 13 (cv s1_l 9 42 13)) 14 d = V at hr3 hB_l hv1
    generalize gw s1_l 42 9 d = s3 at hr3 f3_l
    refine gQ_loop (fun y_l => ∃ (j_l : Nat) (t_l : gS), y_l = (0, (m : Int), lu, (j_l : Int), t_l) ∧ j_l ≤ m ∧ Cr t_l 42 (daysC T lu j_l V) ∧ Fw csq g t_l) (fun y_l hy => ?_) ⟨0, s3, rfl, Nat.zero_le _, hr3, f3_l⟩
    obtain ⟨j_l, t_l, rfl, hj, ht, ft⟩ := hy
    have hgt : RF t_l := RF_fw hgg ft
    show gQ (sb_141_22 0 (m : Int) lu (j_l : Int) t_l) _
    unfold sb_141_22
    rw [(rr_0_9 hgt).2, (rr_0_4 hgt).2, (rr_0_1 hgt).2]
    by_cases c : (j_l : Int) < (m : Int)
    · rw [if_pos c, g32_eq (v := (j_l : Int) + 1) (by omega) (by omega)]
      refine gQ_w1 (A := fun _ z_l => Cr z_l 42 (dayC T lu (daysC T lu j_l V)) ∧ Fw csq g z_l) (fun r hr => ?_) (fun v_l z_l hz => gQ_ret ⟨j_l + 1, z_l, rfl, by omega, hz.1, hz.2⟩)
      obtain ⟨-, q2_l, q3_l⟩ := dc_27 (Or.inr rfl) (Rc9_42 hgt) (fun w_l hw => law_q hJ hT (Fct_42 ft hw)) ht (Vg_daysC hv1 j_l) r hr
      exact ⟨q2_l, Fct_42 ft q3_l⟩
    · rw [if_neg c]
      have en : j_l = m := by omega
      rw [en] at ht
      exact gQ_map (gQ_ret ⟨_, ht, daysCB (Vg_o hv (by omega)) hB_l m⟩)
  exact fun r hr => ⟨key_l r hr, o_141 hgg cid rfl hf r hr⟩
/-- the model's days -/
theorem mo_day (hJ : J p u) (hT : Tlw u 218 9 T) (hm : m ≤ 1000) (hf : Fw WM u s) (hv : Mv s V) (hg : Vg V) (h0 : gI s 217 0 = 0) : gQ (f_202 217 (m : Int) lu s) (fun r => Mv r.2.2.2 (daysF T lu m V) ∧ gI r.2.2.2 217 0 = 0 ∧ Fw WM u r.2.2.2 ∧ ∀ k, gI r.2.2.2 220 k = gI s 220 k) := by
  intro r hr
  have hgu : RF u := hJ.1.2.1
  have hg5 : RF s := RF_fw hgu hf
  have hT5 : Tlw s 218 9 T := law_M hJ hT hf
  obtain ⟨q1_l, q2_l, q3_l⟩ := dm_202 (B := 9) (T := T) (lu := lu) (n := m) hm ⟨(rr_217_1 hg5).2, (rr_217_7 hg5).2, (rr_217_14 hg5).2⟩ (fun t_l ht => Tlw_v hT5 ht (by decide) (fun a_l k _ ha_l => ht.2 a_l k (by omega) (by omega) (by omega))) hv hg r hr
  have q4_l := om_202 (g := u) (W := WM) hgu uM (Jm hJ) rfl rfl hf r hr
  exact ⟨q2_l, (q3_l.2 217 0 (by omega) (by decide) (by omega)).trans h0, q4_l, fun k => q3_l.2 220 k (by omega) (by decide) (by omega)⟩
theorem mo_185 (hJ : J p u) : gQ (f_185 217 (gw u 217 0 0)) (fun r => (∀ k, k < 340 → gI r.2.2.2 220 k = gI u 218 k) ∧ (∀ k, gI r.2.2.2 218 k = gI u 218 k) ∧ gI r.2.2.2 217 0 = 0 ∧ Fw WM u r.2.2.2) := by
  intro r hr
  have hn := hJ.1.1
  have hg0 : RF (gw u 217 0 0) := RF_sm hJ.1.2.1 rfl
  obtain ⟨q1_l, q2_l, q3_l⟩ := x_185 (rr_217_1 hg0).2 (rr_217_4 hg0).2 r hr
  have e8 : ∀ k, gI r.2.2.2 218 k = gI u 218 k := fun k => (q3_l 218 k (by decide)).trans (rd_a rfl (by decide))
  refine ⟨fun k hk => (q2_l k hk).trans (e8 k), e8, (q3_l 217 0 (by decide)).trans (rd_same rfl), Fw_sm (Fw_m0 hn) q1_l (fun a_l k _ hw => q3_l a_l k (fun z_l => ?_))⟩
  rw [z_l] at hw
  cases hw
/-- the model's days on the row that is put aside -/
theorem mo_run (hJ : J p u) (h : RX u) (hT : Tlw u 218 9 T) (hm : m ≤ 1000) {F : gS → Option gO} {P : gO → Prop} (k : ∀ t, Mv t (daysF T lu m (fun k => gI u 218 k)) → gI t 217 0 = 0 → RF t → gQ (F t) P) : gQ ((f_185 217 (gw u 217 0 0)).bind (gv0 (fun s5 => (f_202 217 (m : Int) lu s5).bind (gv1 (fun _ s7 => F s7))))) P := by
  have hv : Vg (fun k => gI u 218 k) := by
    have h1 := h.2.1.2.1
    simp only [Nat.zero_add] at h1
    exact h1
  refine gQ_v0 (A := fun z_l => (∀ k, k < 340 → gI z_l 220 k = gI u 218 k) ∧ (∀ k, gI z_l 218 k = gI u 218 k) ∧ gI z_l 217 0 = 0 ∧ Fw WM u z_l) (mo_185 hJ) (fun s5 h5 => ?_)
  obtain ⟨-, x3, x4_l, x5_l⟩ := h5
  exact gQ_w1 (A := fun _ z_l => Mv z_l (daysF T lu m (fun k => gI u 218 k)) ∧ gI z_l 217 0 = 0 ∧ Fw WM u z_l ∧ ∀ k, gI z_l 220 k = gI s5 220 k) (mo_day hJ hT hm x5_l (fun k _ => x3 k) hv x4_l) (fun v_l z_l hz => k z_l hz.1 hz.2.1 (RF_fw hJ.1.2.1 hz.2.2.1))
/-- the row is put back -/
theorem mo_back (hg : RF t) {v : Int} (h0 : gI t 217 0 = 0) : gQ ((f_186 217 t).bind (gv0 (fun s10 => some ((1, v, 0, s10) : gO)))) (fun q => gI q.2.2.2 217 0 = 0 ∧ q.2.1 = v) := by
  refine gQ_v0 (A := fun z_l => gI z_l 217 0 = 0) (fun r_l hr => ?_) (fun z_l hz => gQ_ret ⟨hz, rfl⟩)
  obtain ⟨-, -, q3_l⟩ := x_186 (rr_217_1 hg).2 (rr_217_4 hg).2 r_l hr
  exact (q3_l 217 0 (by omega)).trans h0
theorem RX_vg (h : RX s) : Vg (fun k => gI s 218 k) := by
  have h1 := h.2.1.2.1
  simp only [Nat.zero_add] at h1
  exact h1
theorem RX_e8 (hn : 232 ≤ gn s) (h : Fw WQ s u) : (fun k => gI u 218 k) = (fun k => gI s 218 k) := funext (WQ_8 hn h)
theorem uQC : ∀ a k, WQ a k = true → WC a k = true := fun a k h_l => by
  unfold WQ at h_l
  unfold WC
  cases hc : csa a with
  | true => rfl
  | false =>
    rw [hc, Bool.false_or] at h_l
    rw [h_l]
    simp only [Bool.or_true]
theorem law_Q (hJ : J p s) (hT : Tlw s 218 9 T) (hf : Fw WQ s u) : Tlw u 218 9 T := law_C hJ hT (Fw_tr (Fw_rf hJ.1.1) hf uQC)
theorem eq_d {d : Int} (h : V 14 = d) : Eq14 (up V 14 d) V := fun k_l hk => up_n hk
theorem up_id (h : V k = d) : up V k d = V := by
  funext j
  unfold up
  split
  · rename_i e
    rw [e, h]
  · rfl
theorem RX_18 (h : RX s) : gI s 15 9 = gI s 218 14 := xr h.2 cjc.2.2.2 KK_c.2.2.2.2.2.2.2.2.2.2.2
/-- owes -/
theorem mo_220 (hJ : J p u) (h : RX u) (hT : Tlw u 218 9 T) : gQ (f_220 217 a1 u) (fun q => ((0 ≤ a1 ∧ a1 ≤ 200) ∧ gI q.2.2.2 217 0 = 0 ∧ q.2.1 = daysF T 0 a1.toNat (fun k => gI u 218 k) 9) ∨ (¬ (0 ≤ a1 ∧ a1 ≤ 200) ∧ gI q.2.2.2 217 0 = 1)) := by
  unfold f_220
  refine gQ_w1 (A := fun v_l z_l => v_l = (if 0 ≤ a1 ∧ a1 ≤ 200 then 1 else 0) ∧ z_l = u) m_150 (fun v_l z_l hz => ?_)
  obtain ⟨z1, z2⟩ := hz
  rw [z1, z2]
  unfold fb_220_17
  dsimp only
  by_cases c : 0 ≤ a1 ∧ a1 ≤ 200
  · obtain ⟨m_l, hm_l⟩ : ∃ m_l : Nat, a1 = (m_l : Int) := ⟨a1.toNat, by omega⟩
    rw [if_pos c, if_neg (by decide), m0, if_neg (by decide), hm_l, Int.toNat_natCast]
    refine mo_run hJ h hT (by omega) (fun t_l ht h0 hg => ?_)
    rw [(rr_217_1 hg).2, ht 9 (by decide)]
    exact fun q hq => Or.inl ⟨by omega, mo_back hg h0 q hq⟩
  · rw [if_neg c, if_pos rfl, m0, if_pos (by decide)]
    exact gQ_ret (Or.inr ⟨c, m0⟩)
theorem co_104 (hJ : J p s) (h : RX s) : gQ (f_104 0 a1 s) (CoX st2 (f_220 217 a1) s) := by
  have hg : RF s := hJ.1.2.1
  have hn := hJ.1.1
  obtain ⟨T, hT_l⟩ := h.2.2.2.2
  unfold f_104
  refine n_gt (by decide) n_138 (fun c_l => ?_) (fun c_l => ?_)
  · obtain ⟨m_l, hm_l⟩ : ∃ m_l : Nat, a1 = (m_l : Int) := ⟨a1.toNat, by omega⟩
    rw [(rr_0_5 hg).2]
    refine gQ_v0 (A := fun z_l => (∃ W_l, Cr z_l 42 W_l ∧ EqB W_l (daysC T 0 m_l (up (fun k_l => gI s 218 k_l) 14 (gI s 15 9)))) ∧ Fw csq s z_l) (by rw [hm_l]; exact dc_141 hJ h hT_l (Fw_rf hn) (by omega)) (fun s3_l h3 => ?_)
    obtain ⟨⟨W_l, w1_l, w2_l⟩, f3_l⟩ := h3
    rw [(rr_0_9 (RF_fw hg f3_l)).2]
    have e7_l : gI s3_l 42 7 = daysF T 0 m_l (fun k_l => gI s 218 k_l) 9 := (rd_ci w1_l (cj_c (Or.inr rfl)).2.1 KK_c.2.2.2.2.2.2.1).trans ((w2_l 9 (by decide)).trans (daysC_0 (RX_vg h) (fun k_l hk => up_n hk) m_l 9 (by decide)))
    refine gQ_ret (fun u_l p hf hu hR q_l hq => ?_)
    rcases mo_220 hu hR (law_Q hJ hT_l hf) q_l hq with ⟨-, h1, h2⟩ | ⟨h1, -⟩
    · refine ⟨h1, fun _ => ?_⟩
      rw [h2, RX_e8 hn hf, hm_l, Int.toNat_natCast]
      exact e7_l.symm
    · exact absurd c_l h1
  · intro u_l p hf hu hR q_l hq
    rcases mo_220 hu hR (law_Q hJ hT_l hf) q_l hq with ⟨h1, -⟩ | ⟨-, h1⟩
    · exact absurd h1 c_l
    · exact ⟨h1, fun z_l => by cases z_l⟩
/-- chest -/
theorem mo_221 (hJ : J p u) (h : RX u) (hT : Tlw u 218 9 T) : gQ (f_221 217 a1 u) (fun q => ((0 ≤ a1 ∧ a1 ≤ 200) ∧ gI q.2.2.2 217 0 = 0 ∧ q.2.1 = daysF T 0 a1.toNat (fun k => gI u 218 k) 8) ∨ (¬ (0 ≤ a1 ∧ a1 ≤ 200) ∧ gI q.2.2.2 217 0 = 1)) := by
  unfold f_221
  refine gQ_w1 (A := fun v_l z_l => v_l = (if 0 ≤ a1 ∧ a1 ≤ 200 then 1 else 0) ∧ z_l = u) m_150 (fun v_l z_l hz => ?_)
  obtain ⟨z1, z2⟩ := hz
  rw [z1, z2]
  unfold fb_221_17
  dsimp only
  by_cases c : 0 ≤ a1 ∧ a1 ≤ 200
  · obtain ⟨m_l, hm_l⟩ : ∃ m_l : Nat, a1 = (m_l : Int) := ⟨a1.toNat, by omega⟩
    rw [if_pos c, if_neg (by decide), m0, if_neg (by decide), hm_l, Int.toNat_natCast]
    refine mo_run hJ h hT (by omega) (fun t_l ht h0 hg => ?_)
    rw [(rr_217_1 hg).2, ht 8 (by decide)]
    exact fun q hq => Or.inl ⟨by omega, mo_back hg h0 q hq⟩
  · rw [if_neg c, if_pos rfl, m0, if_pos (by decide)]
    exact gQ_ret (Or.inr ⟨c, m0⟩)
theorem co_105 (hJ : J p s) (h : RX s) : gQ (f_105 0 a1 s) (CoX st2 (f_221 217 a1) s) := by
  have hg : RF s := hJ.1.2.1
  have hn := hJ.1.1
  obtain ⟨T, hT_l⟩ := h.2.2.2.2
  unfold f_105
  refine n_gt (by decide) n_138 (fun c_l => ?_) (fun c_l => ?_)
  · obtain ⟨m_l, hm_l⟩ : ∃ m_l : Nat, a1 = (m_l : Int) := ⟨a1.toNat, by omega⟩
    rw [(rr_0_5 hg).2]
    refine gQ_v0 (A := fun z_l => (∃ W_l, Cr z_l 42 W_l ∧ EqB W_l (daysC T 0 m_l (up (fun k_l => gI s 218 k_l) 14 (gI s 15 9)))) ∧ Fw csq s z_l) (by rw [hm_l]; exact dc_141 hJ h hT_l (Fw_rf hn) (by omega)) (fun s3_l h3 => ?_)
    obtain ⟨⟨W_l, w1_l, w2_l⟩, f3_l⟩ := h3
    rw [(rr_0_9 (RF_fw hg f3_l)).2]
    have e7_l : gI s3_l 42 6 = daysF T 0 m_l (fun k_l => gI s 218 k_l) 8 := (rd_ci w1_l (cj_c (Or.inr rfl)).1 KK_c.2.2.2.2.2.1).trans ((w2_l 8 (by decide)).trans (daysC_0 (RX_vg h) (fun k_l hk => up_n hk) m_l 8 (by decide)))
    refine gQ_ret (fun u_l p hf hu hR q_l hq => ?_)
    rcases mo_221 hu hR (law_Q hJ hT_l hf) q_l hq with ⟨-, h1, h2⟩ | ⟨h1, -⟩
    · refine ⟨h1, fun _ => ?_⟩
      rw [h2, RX_e8 hn hf, hm_l, Int.toNat_natCast]
      exact e7_l.symm
    · exact absurd c_l h1
  · intro u_l p hf hu hR q_l hq
    rcases mo_221 hu hR (law_Q hJ hT_l hf) q_l hq with ⟨h1, -⟩ | ⟨-, h1⟩
    · exact absurd h1 c_l
    · exact ⟨h1, fun z_l => by cases z_l⟩
theorem xc_291 (hJ : J p s) (h : RX s) : gQ (f_291 0 a1 231 s) (fun r => Xc (f_221 217 a1) r.2.1 r.2.2.2) := by
  unfold f_291
  refine xc2 (st := st2) (fun _ => True) hJ.1.1 (co_105 hJ h) (fun r hr => o_105 hJ.1.2.1 cid rfl (Fw_rf hJ.1.1) r hr) (fun _ _ _ => trivial) rfl (fun v_l t_l _ => aX trivial) (fun k_l t_l => ?_) (fun u_l p hu _ q_l hq => (om_221 hu.1.2.1 um uA (Jm hu) rfl rfl (JF hu) q_l hq).2.2 231 0 (Nat.lt_of_lt_of_le (by decide) hu.1.1) rfl)
  by_cases c0 : k_l = 0
  · rw [if_pos c0, c0]
    exact gQ_ret ⟨rfl, (by decide : (1 : Int) ≠ 0), rfl⟩
  rw [if_neg c0]
  exact gQ_none
theorem xc_290 (hJ : J p s) (h : RX s) : gQ (f_290 0 a1 231 s) (fun r => Xc (f_220 217 a1) r.2.1 r.2.2.2) := by
  unfold f_290
  refine xc2 (st := st2) (fun _ => True) hJ.1.1 (co_104 hJ h) (fun r hr => o_104 hJ.1.2.1 cid rfl (Fw_rf hJ.1.1) r hr) (fun _ _ _ => trivial) rfl (fun v_l t_l _ => aX trivial) (fun k_l t_l => ?_) (fun u_l p hu _ q_l hq => (om_220 hu.1.2.1 um uA (Jm hu) rfl rfl (JF hu) q_l hq).2.2 231 0 (Nat.lt_of_lt_of_le (by decide) hu.1.1) rfl)
  by_cases c0 : k_l = 0
  · rw [if_pos c0, c0]
    exact gQ_ret ⟨rfl, (by decide : (1 : Int) ≠ 0), rfl⟩
  rw [if_neg c0]
  exact gQ_none
end Qb
/-! ahead -/
def st8 (n : Nat) : Int := if n = 5 then 1 else if n = 2 then 2 else if n = 4 then 3 else 0
def ahJ (x : Int) : Nat := if x = 0 then 0 else if x = 1 then 3 else if x = 2 then 4 else 5
section Qc
variable {s t u g : gS} {p : gP} {a1 a2 a3 v d lu : Int} {a k i j n m : Nat} {V W : Nat → Int} {T : (Nat → Int) → Int}
theorem ahJ_b {x : Int} : ahJ x < 6 := by
  unfold ahJ
  split
  · decide
  · split
    · decide
    · split <;> decide
theorem mo_219 (hJ : J p u) (h : RX u) (hT : Tlw u 218 9 T) : gQ (f_219 217 a1 a2 a3 u) (fun q => ((0 ≤ a1 ∧ a1 < gI u 218 4) ∧ (0 ≤ a2 ∧ a2 ≤ 200) ∧ (0 ≤ a3 ∧ a3 ≤ 3) ∧ gI q.2.2.2 217 0 = 0 ∧ q.2.1 = daysF T 0 a2.toNat (fun k => gI u 218 k) (40 + 6 * a1.toNat + ahJ a3)) ∨ (¬ (0 ≤ a1 ∧ a1 < gI u 218 4) ∧ gI q.2.2.2 217 0 = 1) ∨ ((0 ≤ a1 ∧ a1 < gI u 218 4) ∧ ¬ (0 ≤ a2 ∧ a2 ≤ 200) ∧ gI q.2.2.2 217 0 = 2) ∨ ((0 ≤ a1 ∧ a1 < gI u 218 4) ∧ (0 ≤ a2 ∧ a2 ≤ 200) ∧ ¬ (0 ≤ a3 ∧ a3 ≤ 3) ∧ gI q.2.2.2 217 0 = 3)) := by
  have hv := (Jv hJ).2.1
  unfold f_219 f_162
  rw [(rr_217_1 hJ.1.2.1).2]
  refine m_n (by omega) (fun c1_l => ?_) (fun c1_l => ?_)
  · rw [if_neg (by decide)]
    refine gQ_w1 (A := fun v_l z_l => v_l = (if 0 ≤ a2 ∧ a2 ≤ 200 then 1 else 0) ∧ z_l = u) m_150 (fun v_l z_l hz => ?_)
    obtain ⟨z1, z2⟩ := hz
    rw [z1, z2]
    by_cases c2 : 0 ≤ a2 ∧ a2 ≤ 200
    · rw [if_pos c2, if_neg (by decide)]
      refine gQ_w1 (A := fun v_l z_l => v_l = (if 0 ≤ a3 ∧ a3 ≤ 3 then 1 else 0) ∧ z_l = u) m_150 (fun v_l z_l hz => ?_)
      obtain ⟨z3, z4⟩ := hz
      rw [z3, z4]
      by_cases c3 : 0 ≤ a3 ∧ a3 ≤ 3
      · rw [if_pos c3, if_neg (by decide)]
        obtain ⟨m_l, hm_l⟩ : ∃ m_l : Nat, a2 = (m_l : Int) := ⟨a2.toNat, by omega⟩
        obtain ⟨i_l, hi_l⟩ : ∃ i_l : Nat, a1 = (i_l : Int) := ⟨a1.toNat, by omega⟩
        have hi6 : i_l < 6 := by omega
        unfold fb_219_42
        dsimp only
        rw [m0, if_neg (by decide), hm_l, hi_l, Int.toNat_natCast, Int.toNat_natCast]
        refine mo_run hJ h hT (by omega) (fun t_l ht h0 hg => ?_)
        have fin_l : ∀ j_l : Nat, j_l < 6 → ahJ a3 = j_l → ∀ I_l : Int, I_l = (j_l : Int) → gQ ((f_156 217 (i_l : Int) I_l t_l).bind (gv1 (fun v_l z_l => fb_219_113 217 v_l z_l))) (fun q => ((0 ≤ (i_l : Int) ∧ (i_l : Int) < gI u 218 4) ∧ (0 ≤ (m_l : Int) ∧ (m_l : Int) ≤ 200) ∧ (0 ≤ a3 ∧ a3 ≤ 3) ∧ gI q.2.2.2 217 0 = 0 ∧ q.2.1 = daysF T 0 m_l (fun k => gI u 218 k) (40 + 6 * i_l + ahJ a3)) ∨ (¬ (0 ≤ (i_l : Int) ∧ (i_l : Int) < gI u 218 4) ∧ gI q.2.2.2 217 0 = 1) ∨ ((0 ≤ (i_l : Int) ∧ (i_l : Int) < gI u 218 4) ∧ ¬ (0 ≤ (m_l : Int) ∧ (m_l : Int) ≤ 200) ∧ gI q.2.2.2 217 0 = 2) ∨ ((0 ≤ (i_l : Int) ∧ (i_l : Int) < gI u 218 4) ∧ (0 ≤ (m_l : Int) ∧ (m_l : Int) ≤ 200) ∧ ¬ (0 ≤ a3 ∧ a3 ≤ 3) ∧ gI q.2.2.2 217 0 = 3)) := fun j_l hj e_l I_l eI => by
          refine gQ_w1 (A := fun v_l z_l => v_l = gI t_l 218 (40 + 6 * i_l + j_l) ∧ z_l = t_l) (v156 (rr_217_1 hg).2 hi6 hj eI) (fun v_l z_l hz => ?_)
          obtain ⟨y1, y2⟩ := hz
          rw [y1, y2, ht _ (by omega)]
          unfold fb_219_113
          refine fun q hq => Or.inl ⟨⟨by omega, by omega⟩, ⟨by omega, by omega⟩, c3, ?_⟩
          rw [e_l]
          exact mo_back hg h0 q hq
        by_cases d0 : a3 = 0
        · rw [if_pos d0]
          exact fin_l 0 (by decide) (if_pos d0) 0 rfl
        rw [if_neg d0]
        by_cases d1 : a3 = 1
        · rw [if_pos d1]
          exact fin_l 3 (by decide) ((if_neg d0).trans (if_pos d1)) 3 rfl
        rw [if_neg d1]
        by_cases d2 : a3 = 2
        · rw [if_pos d2]
          exact fin_l 4 (by decide) ((if_neg d0).trans ((if_neg d1).trans (if_pos d2))) 4 rfl
        rw [if_neg d2]
        exact fin_l 5 (by decide) ((if_neg d0).trans ((if_neg d1).trans (if_neg d2))) 5 rfl
      · rw [if_neg c3, if_pos rfl]
        unfold fb_219_42
        dsimp only
        rw [m0, if_pos (by decide)]
        exact gQ_ret (Or.inr (Or.inr (Or.inr ⟨c1_l, c2, c3, m0⟩)))
    · rw [if_neg c2, if_pos rfl]
      unfold fb_219_42
      dsimp only
      rw [m0, if_pos (by decide)]
      exact gQ_ret (Or.inr (Or.inr (Or.inl ⟨c1_l, c2, m0⟩)))
  · rw [if_pos rfl]
    unfold fb_219_42
    dsimp only
    rw [m0, if_pos (by decide)]
    exact gQ_ret (Or.inr (Or.inl ⟨c1_l, m0⟩))
theorem co_103 (hJ : J p s) (h : RX s) : gQ (f_103 0 a1 a2 a3 s) (CoX st8 (f_219 217 a1 a2 a3) s) := by
  have hg : RF s := hJ.1.2.1
  have hn := hJ.1.1
  have hv := (Jv hJ).2.1
  obtain ⟨T, hT_l⟩ := h.2.2.2.2
  unfold f_103
  refine n_gt (by decide) (n_135 hg h.1) (fun c1_l => ?_) (fun c1_l => ?_)
  · refine n_gt (by decide) n_138 (fun c2_l => ?_) (fun c2_l => ?_)
    · have bad_l : ¬ (0 ≤ a3 ∧ a3 ≤ 3) → gQ (fb_103_23 s) (CoX st8 (f_219 217 a1 a2 a3) s) := fun c3_l => by
        unfold fb_103_23
        refine gQ_ret (fun u_l p hf hu hR q_l hq => ?_)
        have e4_l := WQ_8 hn hf 4
        rcases mo_219 hu hR (law_Q hJ hT_l hf) q_l hq with ⟨-, -, h1, -⟩ | ⟨h1, -⟩ | ⟨-, h1, -⟩ | ⟨-, -, -, h1⟩
        · exact absurd h1 c3_l
        · rw [e4_l] at h1
          exact absurd c1_l h1
        · exact absurd c2_l h1
        · exact ⟨h1, fun z_l => by cases z_l⟩
      by_cases d1 : a3 < 0
      · rw [if_pos d1]
        exact bad_l (by omega)
      rw [if_neg d1]
      by_cases d2 : 3 < a3
      · rw [if_pos d2]
        exact bad_l (by omega)
      rw [if_neg d2]
      obtain ⟨m_l, hm_l⟩ : ∃ m_l : Nat, a2 = (m_l : Int) := ⟨a2.toNat, by omega⟩
      rw [(rr_0_5 hg).2]
      refine gQ_v0 (A := fun z_l => (∃ W_l, Cr z_l 42 W_l ∧ EqB W_l (daysC T 0 m_l (up (fun k_l => gI s 218 k_l) 14 (gI s 15 9)))) ∧ Fw csq s z_l) (by rw [hm_l]; exact dc_141 hJ h hT_l (Fw_rf hn) (by omega)) (fun s3_l h3 => ?_)
      obtain ⟨⟨W_l, w1_l, w2_l⟩, f3_l⟩ := h3
      have hg3 := RF_fw hg f3_l
      have hi6 : a1.toNat < 6 := by omega
      rw [(rr_0_9 hg3).2, (rr_42_0 hg3).2, (Rc9_42 hg3).1.2 a1.toNat hi6]
      refine gQ_chk ?_
      dsimp only
      have key_l : ∀ j_l, j_l < 6 → ahJ a3 = j_l → CoX st8 (f_219 217 a1 a2 a3) s (1, gI s3_l (42 + 6 + a1.toNat) j_l, 0, s3_l) := fun j_l hj e_l u_l p hf hu hR q_l hq => by
        have e4_l := WQ_8 hn hf 4
        have e7_l : gI s3_l (42 + 6 + a1.toNat) j_l = daysF T 0 m_l (fun k_l => gI s 218 k_l) (40 + 6 * a1.toNat + j_l) := (rd_m (Or.inr rfl) w1_l hi6 hj).trans ((w2_l _ (by omega)).trans (daysC_0 (RX_vg h) (fun k_l hk => up_n hk) m_l _ (by omega)))
        rcases mo_219 hu hR (law_Q hJ hT_l hf) q_l hq with ⟨-, -, -, h1, h2⟩ | ⟨h1, -⟩ | ⟨-, h1, -⟩ | ⟨-, -, h1, -⟩
        · refine ⟨h1, fun _ => ?_⟩
          rw [h2, RX_e8 hn hf, e_l, hm_l, Int.toNat_natCast]
          exact e7_l.symm
        · rw [e4_l] at h1
          exact absurd c1_l h1
        · exact absurd c2_l h1
        · exact absurd ⟨by omega, by omega⟩ h1
      rw [if_neg d1]
      by_cases g0 : a3 < 1
      · rw [if_pos g0]
        exact gQ_ret (key_l 0 (by decide) (if_pos (by omega)))
      rw [if_neg g0]
      by_cases g1 : a3 < 2
      · rw [if_pos g1]
        exact gQ_ret (key_l 3 (by decide) ((if_neg (by omega)).trans (if_pos (by omega))))
      rw [if_neg g1]
      by_cases g2 : a3 < 3
      · rw [if_pos g2]
        exact gQ_ret (key_l 4 (by decide) ((if_neg (by omega)).trans ((if_neg (by omega)).trans (if_pos (by omega)))))
      rw [if_neg g2]
      exact gQ_ret (key_l 5 (by decide) ((if_neg (by omega)).trans ((if_neg (by omega)).trans (if_neg (by omega)))))
    · intro u_l p hf hu hR q_l hq
      have e4_l := WQ_8 hn hf 4
      rcases mo_219 hu hR (law_Q hJ hT_l hf) q_l hq with ⟨-, h1, -⟩ | ⟨h1, -⟩ | ⟨-, -, h1⟩ | ⟨-, h1, -⟩
      · exact absurd h1 c2_l
      · rw [e4_l] at h1
        exact absurd c1_l h1
      · exact ⟨h1, fun z_l => by cases z_l⟩
      · exact absurd h1 c2_l
  · intro u_l p hf hu hR q_l hq
    have e4_l := WQ_8 hn hf 4
    rcases mo_219 hu hR (law_Q hJ hT_l hf) q_l hq with ⟨h1, -⟩ | ⟨-, h1⟩ | ⟨h1, -⟩ | ⟨h1, -⟩
    · rw [e4_l] at h1
      exact absurd h1 c1_l
    · exact ⟨h1, fun z_l => by cases z_l⟩
    · rw [e4_l] at h1
      exact absurd h1 c1_l
    · rw [e4_l] at h1
      exact absurd h1 c1_l
theorem xc_289 (hJ : J p s) (h : RX s) : gQ (f_289 0 a1 a2 a3 231 s) (fun r => Xc (f_219 217 a1 a2 a3) r.2.1 r.2.2.2) := by
  unfold f_289
  refine xc2 (st := st8) (fun _ => True) hJ.1.1 (co_103 hJ h) (fun r hr => o_103 hJ.1.2.1 cid rfl (Fw_rf hJ.1.1) r hr) (fun _ _ _ => trivial) rfl (fun v_l t_l _ => aX trivial) (fun k_l t_l => ?_) (fun u_l p hu _ q_l hq => (om_219 hu.1.2.1 um uA (Jm hu) rfl rfl (JF hu) q_l hq).2.2 231 0 (Nat.lt_of_lt_of_le (by decide) hu.1.1) rfl)
  by_cases c0 : k_l = 3
  · rw [if_pos c0, c0]
    exact gQ_ret ⟨rfl, (by decide : (1 : Int) ≠ 0), rfl⟩
  rw [if_neg c0]
  by_cases c1 : k_l = 0
  · rw [if_pos c1, c1]
    exact gQ_ret ⟨rfl, (by decide : (2 : Int) ≠ 0), rfl⟩
  rw [if_neg c1]
  by_cases c2 : k_l = 2
  · rw [if_pos c2, c2]
    exact gQ_ret ⟨rfl, (by decide : (3 : Int) ≠ 0), rfl⟩
  rw [if_neg c2]
  exact gQ_none
end Qc

end
