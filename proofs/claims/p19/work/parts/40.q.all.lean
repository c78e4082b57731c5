section
/-! getters of courts -/
noncomputable def WQ (a _k : Nat) : Bool := csa a || Nat.beq a 231
noncomputable def CoX (st : Nat → Int) (F : gS → Option gO) (s : gS) (r : gO) : Prop := ∀ u p, Fw WQ s u → J p u → RX u → gQ (F u) (fun q => gI q.2.2.2 217 0 = st r.1 ∧ (r.1 = 1 → q.2.1 = r.2.1))
noncomputable def st4 (n : Nat) : Int := if n = 4 then 1 else 0
section Qa
variable {s t u g : gS} {p : gP} {a1 a2 a3 v : Int} {a k i j n : Nat} {F : gS → Option gO} {st : Nat → Int}
theorem uQ : ∀ a k, csq a k = true → WQ a k = true := fun a k h_l => by
  unfold WQ
  unfold csq at h_l
  rw [h_l]
  rfl
theorem WQ_n (h : (9 ≤ a ∧ a < 27) ∨ (54 ≤ a ∧ a ≠ 231)) : WQ a k = false := by
  unfold WQ
  rw [csa_n (by omega), es_beqf.mpr (by omega)]
  rfl
theorem xc2 {z : Option gO} {K : Nat → gS → Option gO} {E : Int → gS → Option gO} (Vk : Int → Prop) (hn : 232 ≤ gn s) (hz : gQ z (CoX st F s)) (hL : gQ z (fun r => Fw csq s r.2.2.2)) (hV : gQ z (fun r => r.1 = 1 → Vk r.2.1)) (h1 : st 1 = 0) (hE : ∀ v t, Vk v → gQ (E v t) (fun r => r.2.1 = 0 ∧ gI r.2.2.2 231 0 = v ∧ Sm t r.2.2.2 ∧ ∀ a k, a ≠ 231 → gI r.2.2.2 a k = gI t a k)) (hC : ∀ k t, gQ (K k t) (fun r => r.2.1 = st (k + 2) ∧ r.2.1 ≠ 0 ∧ r.2.2.2 = t)) (hF : ∀ u p, J p u → RX u → gQ (F u) (fun q => gI q.2.2.2 231 0 = gI u 231 0)) : gQ (z.bind (gc1 K E)) (fun r => Xc F r.2.1 r.2.2.2) := by
  refine gQ_d1 (A := fun r => CoX st F s r ∧ Fw csq s r.2.2.2 ∧ (r.1 = 1 → Vk r.2.1)) (fun r hr => ⟨hz r hr, hL r hr, hV r hr⟩) (fun r hr c_l => ?_) (fun r hr c_l => ?_)
  · obtain ⟨x1_l, x2_l, x3⟩ := hr
    intro t ht p hj hR q hq
    obtain ⟨e1_l, e2_l, e3_l, e4_l⟩ := hE _ _ (x3 c_l) t ht
    have f1_l : Fw WQ s t.2.2.2 := Fw_sm (Fw_tr (Fw_rf hn) x2_l uQ) e3_l (fun a k _ hw => e4_l a k (fun z => by
      rw [z] at hw
      cases hw))
    obtain ⟨y1, y2⟩ := x1_l _ p f1_l hj hR q hq
    rw [c_l, h1] at y1
    refine ⟨y1.trans e1_l.symm, fun _ => ?_⟩
    rw [hF _ p hj hR q hq, e2_l, y2 c_l]
  · obtain ⟨x1_l, x2_l, x3⟩ := hr
    intro t ht p hj hR q hq
    obtain ⟨e1_l, e2_l, e3_l⟩ := hC _ _ t ht
    rw [e3_l] at hq hj hR
    obtain ⟨y1, y2⟩ := x1_l _ p (Fw_tr (Fw_rf hn) x2_l uQ) hj hR q hq
    rw [show r.1 - 2 + 2 = r.1 by omega] at e1_l
    exact ⟨y1.trans e1_l.symm, fun z => absurd z e2_l⟩
/-- rows below alike -/
theorem WQ_8 (hn : 232 ≤ gn s) (h : Fw WQ s u) : ∀ k, gI u 218 k = gI s 218 k := fun k => h.2.2 218 k (by omega) (WQ_n (by omega))
theorem r13 (h : Rx s) : 0 ≤ gI s 218 13 ∧ gI s 218 13 ≤ 60 := by
  have h1 := h.1.2.2.1
  rw [Nat.zero_add] at h1
  exact h1
end Qa

end
section
/-! days that do not count: on the court 42, and on the row that is put aside -/
/-- rows alike but for the log's length -/
noncomputable def EqB (V W : Nat → Int) : Prop := ∀ k, k ≠ 13 → V k = W k
noncomputable def daysC (T : (Nat → Int) → Int) (lu : Int) : Nat → (Nat → Int) → (Nat → Int)
  | 0, V => V
  | n + 1, V => dayC T lu (daysC T lu n V)
section Qb
variable {s t u g : gS} {p : gP} {a1 a2 a3 v d lu : Int} {a k i j n m : Nat} {V W : Nat → Int} {T : (Nat → Int) → Int}
/-- with the further ranges of wip/p4/next: h.2.1.2.1.1 -/
theorem RX_vg (h : RX s) : Vg (fun k => gI s 218 k) := by
  have h1 := h.2.1.2.1.1
  simp only [Nat.zero_add] at h1
  exact h1
theorem upB (h : EqB V W) : EqB (up V k v) (up W k v) := fun j_l hj => by
  unfold up
  split
  · rfl
  · exact h j_l hj
theorem worksB (h : EqB V W) (hi : i < 6) : EqB (worksF i V) (worksF i W) := by
  have hp : ∀ c_l, EqB (paysF c_l V) (paysF c_l W) := fun c_l => by
    unfold paysF
    rw [h 8 (by decide), h 9 (by decide)]
    exact upB (upB h)
  have hd_l : ∀ (a_l : Nat) (X_l Y : Nat → Int), EqB X_l Y → EqB (doneF i a_l X_l) (doneF i a_l Y) := fun a_l X_l Y hx => by
    unfold doneF
    rw [hx (40 + 6 * i) (by omega), hx (16 + 3 * a_l + 2) (by omega)]
    exact upB (upB (upB hx))
  have hh : ∀ (a_l : Nat) (X_l Y : Nat → Int), EqB X_l Y → EqB (heatF i a_l X_l) (heatF i a_l Y) := fun a_l X_l Y hx => by
    unfold heatF
    rw [hx (44 + 6 * i) (by omega), hx (16 + 3 * a_l) (by omega)]
    split
    · exact upB hx
    · exact hd_l a_l X_l Y hx
  unfold worksF
  rw [h (43 + 6 * i) (by omega), h 3 (by decide), h (44 + 6 * i) (by omega), h (16 + 3 * (W (43 + 6 * i)).toNat + 1) (by omega)]
  split
  · split
    · exact hh _ _ _ (hp _)
    · exact hh _ _ _ h
  · exact h
theorem fFB (h : EqB V W) (hi : i < 6) : fF V i = fF W i := by
  funext j
  unfold fF
  rw [h (40 + 6 * i) (by omega), h (41 + 6 * i) (by omega), h (43 + 6 * i) (by omega), h (44 + 6 * i) (by omega), h 9 (by decide), h 7 (by decide), h 3 (by decide)]
theorem midB (h : EqB V W) (hi : i < 6) : EqB (mid2 T i V) (mid2 T i W) := by
  have hw := worksB h hi
  unfold mid2 trustF
  rw [hw (40 + 6 * i) (by omega), fFB hw hi]
  exact upB hw
theorem manB (h : EqB V W) (hi : i < 6) : EqB (manF T i V) (manF T i W) := by
  have ht : EqB (trustF T i (worksF i V)) (trustF T i (worksF i W)) := midB h hi
  unfold manF barF
  rw [h (45 + 6 * i) (by omega), ht (40 + 6 * i) (by omega), ht 10 (by decide)]
  split
  · split
    · exact upB ht
    · exact ht
  · exact h
theorem menB (h : EqB V W) (n : Nat) (hn : n ≤ 6) : EqB (menF T n V) (menF T n W) := by
  induction n with
  | zero => exact h
  | succ n ih_l => exact manB (ih_l (by omega)) (by omega)
theorem keptB (h : EqB V W) (hi : i < 6) : keptF T i V = keptF T i W := by
  have ht := midB (T := T) h hi
  unfold keptF
  rw [h (45 + 6 * i) (by omega), ht (40 + 6 * i) (by omega), ht 10 (by decide)]
theorem keptSB (h : EqB V W) (n : Nat) (hn : n ≤ 6) : keptS T n V = keptS T n W := by
  induction n with
  | zero => rfl
  | succ n ih_l =>
    show keptS T n V + keptF T n (menF T n V) = keptS T n W + keptF T n (menF T n W)
    rw [ih_l (by omega), keptB (menB h n (by omega)) (by omega)]
theorem nextB (h : EqB V W) : EqB (nextF V) (nextF W) := by
  unfold nextF
  rw [h 7 (by decide)]
  exact upB h
theorem dayCB (hg : Vg W) (h : EqB V W) : EqB (dayC T lu V) (dayC T lu W) := by
  have h4 := hg.1.2
  have hm_l : EqB (menF T (W 4).toNat V) (menF T (W 4).toNat W) := menB h _ (by omega)
  unfold dayC
  rw [h 4 (by decide), hm_l 14 (by decide), hm_l 8 (by decide), keptSB (T := T) h (W 4).toNat (by omega)]
  refine nextB ?_
  split
  · exact upB (upB hm_l)
  · exact upB hm_l
theorem Vg_dayC (h : Vg V) : Vg (dayC T lu V) := by
  have h4 := h.1.2
  have hm_l := Vg_men (T := T) h (V 4).toNat (by omega)
  unfold dayC nextF
  split
  · exact Vg_o (Vg_o (Vg_o hm_l (by omega)) (by omega)) (by omega)
  · exact Vg_o (Vg_o hm_l (by omega)) (by omega)
theorem Vg_daysC (h : Vg V) (n : Nat) : Vg (daysC T lu n V) := by
  induction n with
  | zero => exact h
  | succ n ih_l => exact Vg_dayC ih_l
theorem daysCB (hg : Vg W) (h : EqB V W) (n : Nat) : EqB (daysC T lu n V) (daysC T lu n W) := by
  induction n with
  | zero => exact h
  | succ n ih_l => exact dayCB (Vg_daysC hg n) ih_l
/-- without luck: a day ahead, but for the draw -/
theorem daysC_0 (hg : Vg W) (h : Eq14 V W) (n : Nat) : Eq14 (daysC T 0 n V) (daysF T 0 n W) := by
  induction n with
  | zero => exact h
  | succ n ih_l => exact ahead_e (Vg_days hg n) ih_l
/-- the court 42 behind the copy -/
theorem c42x : ∀ k, k < 100 → (k ≠ 1 ∧ k ≠ 2 ∧ k ≠ 15) → k = 13 ∨ (pa 9 42 k = pa 9 15 k ∧ pa 9 42 k < 15) ∨ (pa 9 42 k = pa 9 15 k + 27 ∧ ((pa 9 42 k = 42 ∧ 4 ≤ pj k ∧ pj k ≤ 9) ∨ ((pa 9 42 k = 42 + 2 ∨ pa 9 42 k = 42 + 3) ∧ pj k < 6) ∨ (42 + 6 ≤ pa 9 42 k ∧ pa 9 42 k ≤ 42 + 11 ∧ pj k < 6))) := by decide +kernel
theorem CC_b {a b j : Nat} (h : CCr a b j) : a ≤ b := by
  unfold CCr at h
  omega
theorem Cr_42 (h : ∀ k, KK k → cv s 9 15 k = V k) (hc : CC 42 15 s t) : Cr t 42 (up V 13 (cv t 9 42 13)) := fun k hk => by
  by_cases c : k = 13
  · rw [c, up_s]
  rw [up_n c, ← h k hk]
  rcases c42x k hk.1 hk.2 with e_l | ⟨e1_l, e2_l⟩ | ⟨e1_l, e2_l⟩
  · exact absurd e_l c
  · show gI t (pa 9 42 k) (pj k) = gI s (pa 9 15 k) (pj k)
    rw [(hc.2 _ _).2 (fun z_l => by have := CC_b z_l; omega), e1_l]
  · show gI t (pa 9 42 k) (pj k) = gI s (pa 9 15 k) (pj k)
    have h1 : CCr 42 (pa 9 42 k) (pj k) := e2_l
    rw [(hc.2 _ _).1 h1, show pa 9 42 k - 42 + 15 = pa 9 15 k by omega]
theorem Rc9_42 (hg : RF s) : Rc9 42 s := ⟨⟨(rr_42_0 hg).2, fun i_l hi_l => (hg 43 i_l (by decide) (fun z_l => by rw [k0_m43.1] at z_l; omega)).trans (by
  have h6 : i_l = 0 ∨ i_l = 1 ∨ i_l = 2 ∨ i_l = 3 ∨ i_l = 4 ∨ i_l = 5 := by omega
  rcases h6 with rfl | rfl | rfl | rfl | rfl | rfl <;> decide +kernel)⟩, ⟨(rr_9 hg).1, (rr_9 hg).2.1, (rr_9 hg).2.2.1⟩, (rr_3_0 hg).2, (rr_3_1 hg).2⟩
theorem Fct_42 (h : Fw csq g s) (hf : Fct 42 s t) : Fw csq g t := by
  obtain ⟨⟨f1_l, f2_l, f3_l⟩, f4_l⟩ := hf
  refine ⟨⟨h.1.1, by rw [f1_l]; exact h.1.2.1, fun a_l ha_l => (f2_l a_l).trans (h.1.2.2 a_l ha_l)⟩, fun a_l k_l ha_l => (f3_l a_l k_l).trans (h.2.1 a_l k_l ha_l), fun a_l k_l ha_l hw => (f4_l a_l k_l (fun e_l => ?_) (fun e_l => ?_) (fun e_l => ?_) (fun e_l => ?_)).trans (h.2.2 a_l k_l ha_l hw)⟩
  · have h6 : a_l = 42 ∨ a_l = 48 ∨ a_l = 49 ∨ a_l = 50 ∨ a_l = 51 ∨ a_l = 52 ∨ a_l = 53 := by omega
    rcases h6 with rfl | rfl | rfl | rfl | rfl | rfl | rfl <;> cases hw
  · rw [e_l] at hw
    cases hw
  · rw [e_l] at hw
    cases hw
  · rw [e_l.1] at hw
    cases hw
theorem law_q (hJ : J p g) (hT : Tlw g 218 9 T) (hf : Fw csq g s) : Tlw s 218 9 T := law_C hJ hT (Fw_tr (Fw_rf hJ.1.1) hf uC)
theorem csq_f (h : (9 ≤ a ∧ a < 27) ∨ (36 ≤ a ∧ a < 42) ∨ 54 ≤ a) : csq a k = false := csa_n h
/-- the class's days on trial -/
theorem dc_141 (hJ : J p g) (h : RX g) (hT : Tlw g 218 9 T) (hf : Fw csq g s) (hm : m ≤ 1000) : gQ (f_141 0 (m : Int) lu d s) (fun r => (∃ W, Cr r.2.2.2 42 W ∧ EqB W (daysC T lu m (up (fun k => gI g 218 k) 14 d))) ∧ Fw csq g r.2.2.2) := by
  have hgg : RF g := hJ.1.2.1
  have hn := hJ.1.1
  have hg : RF s := RF_fw hgg hf
  have hv : Vg (fun k => gI g 218 k) := RX_vg h
  have hc_l : ∀ k, KK k → cv s 9 15 k = gI g 218 k := fun k hk => by
    have h1 := h.2.1.1 k hk
    rw [Nat.zero_add] at h1
    obtain ⟨b1, b2, -, -⟩ := pa_15 k hk.1
    rw [h1]
    exact hf.2.2 _ _ (by omega) (csq_f (Or.inl ⟨b1, b2⟩))
  have key_l : gQ (f_141 0 (m : Int) lu d s) (fun r => ∃ W, Cr r.2.2.2 42 W ∧ EqB W (daysC T lu m (up (fun k => gI g 218 k) 14 d))) := by
    unfold f_141
    rw [(rr_0_9 hg).2, (rr_0_5 hg).2]
    refine gQ_v0 (A := fun z_l => CC 42 15 s z_l ∧ Fw csq g z_l) (fun r hr => ⟨(gQ_T (s_23 hg ⟨by decide, k0_b.2.2.2.2.1⟩ ⟨by decide, k0_72.2⟩ (by decide)) r hr).2, o_23 hgg cid rfl rfl hf r hr⟩) (fun s1_l h1 => ?_)
    obtain ⟨h1, f1_l⟩ := h1
    have hg1 : RF s1_l := RF_fw hgg f1_l
    have hr1 := Cr_42 hc_l h1
    dsimp only
    rw [(rr_0_9 hg1).2]
    have hr3 := Cr_w (v := d) hr1 (cj_c (Or.inr rfl)).2.2.2
    have f3_l : Fw csq g (gw s1_l 42 9 d) := Fw_wv f1_l rfl
    have hB_l : EqB (up (up (fun k => gI g 218 k) 13 (cv s1_l 9 42 13)) 14 d) (up (fun k => gI g 218 k) 14 d) := upB (fun k hk => up_n hk)
    have hv1 : Vg (up (up (fun k => gI g 218 k) 13 (cv s1_l 9 42 13)) 14 d) := Vg_o (Vg_x hv ⟨by decide, by decide, fun i_l hi_l => by omega, fun a_l ha_l => by omega⟩) (by omega)
    generalize up (up (fun k => gI g 218 k) 13 (cv s1_l 9 42 13)) 14 d = V at hr3 hB_l hv1
    generalize gw s1_l 42 9 d = s3 at hr3 f3_l
    refine gQ_loop (fun y_l => ∃ (j_l : Nat) (t_l : gS), y_l = (0, (m : Int), lu, (j_l : Int), t_l) ∧ j_l ≤ m ∧ Cr t_l 42 (daysC T lu j_l V) ∧ Fw csq g t_l) (fun y_l hy => ?_) ⟨0, s3, rfl, Nat.zero_le _, hr3, f3_l⟩
    obtain ⟨j_l, t_l, rfl, hj, ht, ft⟩ := hy
    have hgt : RF t_l := RF_fw hgg ft
    show gQ (sb_141_22 0 (m : Int) lu (j_l : Int) t_l) _
    unfold sb_141_22
    rw [(rr_0_9 hgt).2, (rr_0_4 hgt).2, (rr_0_1 hgt).2]
    by_cases c : (j_l : Int) < (m : Int)
    · rw [if_pos c, g32_eq (v := (j_l : Int) + 1) (by omega) (by omega)]
      refine gQ_w1 (A := fun _ z_l => Cr z_l 42 (dayC T lu (daysC T lu j_l V)) ∧ Fw csq g z_l) (fun r hr => ?_) (fun v_l z_l hz => gQ_ret ⟨j_l + 1, z_l, rfl, by omega, hz.1, hz.2⟩)
      obtain ⟨-, q2_l, q3_l⟩ := dc_27 (Or.inr rfl) (Rc9_42 hgt) (fun w_l hw => law_q hJ hT (Fct_42 ft hw)) ht (Vg_daysC hv1 j_l) r hr
      exact ⟨q2_l, Fct_42 ft q3_l⟩
    · rw [if_neg c]
      have en : j_l = m := by omega
      rw [en] at ht
      exact gQ_map (gQ_ret ⟨_, ht, daysCB (Vg_o hv (by omega)) hB_l m⟩)
  exact fun r hr => ⟨key_l r hr, o_141 hgg cid rfl hf r hr⟩
/-- the model's days -/
theorem mo_day (hJ : J p u) (hT : Tlw u 218 9 T) (hm : m ≤ 1000) (hf : Fw WM u s) (hv : Mv s V) (hg : Vg V) (h0 : gI s 217 0 = 0) : gQ (f_202 217 (m : Int) lu s) (fun r => Mv r.2.2.2 (daysF T lu m V) ∧ gI r.2.2.2 217 0 = 0 ∧ Fw WM u r.2.2.2 ∧ ∀ k, gI r.2.2.2 220 k = gI s 220 k) := by
  intro r hr
  have hgu : RF u := hJ.1.2.1
  have hg5 : RF s := RF_fw hgu hf
  have hT5 : Tlw s 218 9 T := law_M hJ hT hf
  obtain ⟨q1_l, q2_l, q3_l⟩ := dm_202 (B := 9) (T := T) (lu := lu) (n := m) hm ⟨(rr_217_1 hg5).2, (rr_217_7 hg5).2, (rr_217_14 hg5).2⟩ (fun t_l ht => Tlw_v hT5 ht (by decide) (fun a_l k _ ha_l => ht.2 a_l k (by omega) (by omega) (by omega))) hv hg r hr
  have q4_l := om_202 (g := u) (W := WM) hgu uM (Jm hJ) rfl rfl hf r hr
  exact ⟨q2_l, (q3_l.2 217 0 (by omega) (by decide) (by omega)).trans h0, q4_l, fun k => q3_l.2 220 k (by omega) (by decide) (by omega)⟩
theorem mo_185 (hJ : J p u) : gQ (f_185 217 (gw u 217 0 0)) (fun r => (∀ k, k < 340 → gI r.2.2.2 220 k = gI u 218 k) ∧ (∀ k, gI r.2.2.2 218 k = gI u 218 k) ∧ gI r.2.2.2 217 0 = 0 ∧ Fw WM u r.2.2.2) := by
  intro r hr
  have hn := hJ.1.1
  have hg0 : RF (gw u 217 0 0) := RF_sm hJ.1.2.1 rfl
  obtain ⟨q1_l, q2_l, q3_l⟩ := x_185 (rr_217_1 hg0).2 (rr_217_4 hg0).2 r hr
  have e8 : ∀ k, gI r.2.2.2 218 k = gI u 218 k := fun k => (q3_l 218 k (by decide)).trans (rd_a rfl (by decide))
  refine ⟨fun k hk => (q2_l k hk).trans (e8 k), e8, (q3_l 217 0 (by decide)).trans (rd_same rfl), Fw_sm (Fw_m0 hn) q1_l (fun a_l k _ hw => q3_l a_l k (fun z_l => ?_))⟩
  rw [z_l] at hw
  cases hw
/-- the model's days on the row that is put aside -/
theorem mo_run (hJ : J p u) (h : RX u) (hT : Tlw u 218 9 T) (hm : m ≤ 1000) {F : gS → Option gO} {P : gO → Prop} (k : ∀ t, Mv t (daysF T lu m (fun k => gI u 218 k)) → gI t 217 0 = 0 → RF t → gQ (F t) P) : gQ ((f_185 217 (gw u 217 0 0)).bind (gv0 (fun s5 => (f_202 217 (m : Int) lu s5).bind (gv1 (fun _ s7 => F s7))))) P := by
  have hv : Vg (fun k => gI u 218 k) := RX_vg h
  refine gQ_v0 (A := fun z_l => (∀ k, k < 340 → gI z_l 220 k = gI u 218 k) ∧ (∀ k, gI z_l 218 k = gI u 218 k) ∧ gI z_l 217 0 = 0 ∧ Fw WM u z_l) (mo_185 hJ) (fun s5 h5 => ?_)
  obtain ⟨-, x3, x4_l, x5_l⟩ := h5
  exact gQ_w1 (A := fun _ z_l => Mv z_l (daysF T lu m (fun k => gI u 218 k)) ∧ gI z_l 217 0 = 0 ∧ Fw WM u z_l ∧ ∀ k, gI z_l 220 k = gI s5 220 k) (mo_day hJ hT hm x5_l (fun k _ => x3 k) hv x4_l) (fun v_l z_l hz => k z_l hz.1 hz.2.1 (RF_fw hJ.1.2.1 hz.2.2.1))
/-- the row is put back -/
theorem mo_back (hg : RF t) {v : Int} (h0 : gI t 217 0 = 0) : gQ ((f_186 217 t).bind (gv0 (fun s10 => some ((1, v, 0, s10) : gO)))) (fun q => gI q.2.2.2 217 0 = 0 ∧ q.2.1 = v) := by
  refine gQ_v0 (A := fun z_l => gI z_l 217 0 = 0) (fun r_l hr => ?_) (fun z_l hz => gQ_ret ⟨hz, rfl⟩)
  obtain ⟨-, -, q3_l⟩ := x_186 (rr_217_1 hg).2 (rr_217_4 hg).2 r_l hr
  exact (q3_l 217 0 (by omega)).trans h0
theorem RX_e8 (hn : 232 ≤ gn s) (h : Fw WQ s u) : (fun k => gI u 218 k) = (fun k => gI s 218 k) := funext (WQ_8 hn h)
theorem uQC : ∀ a k, WQ a k = true → WC a k = true := fun a k h_l => by
  unfold WQ at h_l
  unfold WC
  cases hc : csa a with
  | true => rfl
  | false =>
    rw [hc, Bool.false_or] at h_l
    rw [h_l]
    simp only [Bool.or_true]
theorem law_Q (hJ : J p s) (hT : Tlw s 218 9 T) (hf : Fw WQ s u) : Tlw u 218 9 T := law_C hJ hT (Fw_tr (Fw_rf hJ.1.1) hf uQC)
/-- owes -/
theorem mo_220 (hJ : J p u) (h : RX u) (hT : Tlw u 218 9 T) : gQ (f_220 217 a1 u) (fun q => ((0 ≤ a1 ∧ a1 ≤ 200) ∧ gI q.2.2.2 217 0 = 0 ∧ q.2.1 = daysF T 0 a1.toNat (fun k => gI u 218 k) 9) ∨ (¬ (0 ≤ a1 ∧ a1 ≤ 200) ∧ gI q.2.2.2 217 0 = 1)) := by
  unfold f_220
  refine gQ_w1 (A := fun v_l z_l => v_l = (if 0 ≤ a1 ∧ a1 ≤ 200 then 1 else 0) ∧ z_l = u) m_150 (fun v_l z_l hz => ?_)
  obtain ⟨z1, z2⟩ := hz
  rw [z1, z2]
  unfold fb_220_17
  dsimp only
  by_cases c : 0 ≤ a1 ∧ a1 ≤ 200
  · obtain ⟨m_l, hm_l⟩ : ∃ m_l : Nat, a1 = (m_l : Int) := ⟨a1.toNat, by omega⟩
    rw [if_pos c, if_neg (by decide), m0, if_neg (by decide), hm_l, Int.toNat_natCast]
    refine mo_run hJ h hT (by omega) (fun t_l ht h0 hg => ?_)
    rw [(rr_217_1 hg).2, ht 9 (by decide)]
    exact fun q hq => Or.inl ⟨by omega, mo_back hg h0 q hq⟩
  · rw [if_neg c, if_pos rfl, m0, if_pos (by decide)]
    exact gQ_ret (Or.inr ⟨c, m0⟩)
theorem co_104 (hJ : J p s) (h : RX s) : gQ (f_104 0 a1 s) (CoX st2 (f_220 217 a1) s) := by
  have hg : RF s := hJ.1.2.1
  have hn := hJ.1.1
  obtain ⟨T, hT_l⟩ := h.2.2.2.2
  unfold f_104
  refine n_gt (by decide) n_138 (fun c_l => ?_) (fun c_l => ?_)
  · obtain ⟨m_l, hm_l⟩ : ∃ m_l : Nat, a1 = (m_l : Int) := ⟨a1.toNat, by omega⟩
    rw [(rr_0_5 hg).2]
    refine gQ_v0 (A := fun z_l => (∃ W_l, Cr z_l 42 W_l ∧ EqB W_l (daysC T 0 m_l (up (fun k_l => gI s 218 k_l) 14 (gI s 15 9)))) ∧ Fw csq s z_l) (by rw [hm_l]; exact dc_141 hJ h hT_l (Fw_rf hn) (by omega)) (fun s3_l h3 => ?_)
    obtain ⟨⟨W_l, w1_l, w2_l⟩, f3_l⟩ := h3
    rw [(rr_0_9 (RF_fw hg f3_l)).2]
    have e7_l : gI s3_l 42 7 = daysF T 0 m_l (fun k_l => gI s 218 k_l) 9 := (rd_ci w1_l (cj_c (Or.inr rfl)).2.1 KK_c.2.2.2.2.2.2.1).trans ((w2_l 9 (by decide)).trans (daysC_0 (RX_vg h) (fun k_l hk => up_n hk) m_l 9 (by decide)))
    refine gQ_ret (fun u_l p hf hu hR q_l hq => ?_)
    rcases mo_220 hu hR (law_Q hJ hT_l hf) q_l hq with ⟨-, h1, h2⟩ | ⟨h1, -⟩
    · refine ⟨h1, fun _ => ?_⟩
      rw [h2, RX_e8 hn hf, hm_l, Int.toNat_natCast]
      exact e7_l.symm
    · exact absurd c_l h1
  · intro u_l p hf hu hR q_l hq
    rcases mo_220 hu hR (law_Q hJ hT_l hf) q_l hq with ⟨h1, -⟩ | ⟨-, h1⟩
    · exact absurd h1 c_l
    · exact ⟨h1, fun z_l => by cases z_l⟩
theorem xc_290 (hJ : J p s) (h : RX s) : gQ (f_290 0 a1 231 s) (fun r => Xc (f_220 217 a1) r.2.1 r.2.2.2) := by
  unfold f_290
  refine xc2 (st := st2) (fun _ => True) hJ.1.1 (co_104 hJ h) (fun r hr => o_104 hJ.1.2.1 cid rfl (Fw_rf hJ.1.1) r hr) (fun _ _ _ => trivial) rfl (fun v_l t_l _ => aX trivial) (fun k_l t_l => ?_) (fun u_l p hu _ q_l hq => (om_220 hu.1.2.1 um uA (Jm hu) rfl rfl (JF hu) q_l hq).2.2 231 0 (Nat.lt_of_lt_of_le (by decide) hu.1.1) rfl)
  by_cases c0 : k_l = 0
  · rw [if_pos c0, c0]
    exact gQ_ret ⟨rfl, (by decide : (1 : Int) ≠ 0), rfl⟩
  rw [if_neg c0]
  exact gQ_none
end Qb
section Qc
variable {s t u g : gS} {p : gP} {a1 a2 a3 v d lu : Int} {a k i j n m : Nat} {V W : Nat → Int} {T : (Nat → Int) → Int}
end Qc

end
section
section Qd
variable {s t u g : gS} {p : gP} {a1 a2 a3 v d lu : Int} {a k i j n m : Nat} {V W : Nat → Int} {T : (Nat → Int) → Int}
end Qd

end
section
section Qe
variable {s t u g : gS} {p : gP} {a1 a2 a3 v d lu x y : Int} {a k i j n m : Nat} {V W : Nat → Int} {T : (Nat → Int) → Int} {H : Nat → Prop}
end Qe

end
section
/-! led: entries of the log; count; step -/
noncomputable def sm (f : Nat → Int) : Nat → Int
  | 0 => 0
  | n + 1 => sm f n + f n
section Qf
variable {s t u g : gS} {p : gP} {a1 a2 a3 v d lu x y : Int} {a k i j n m : Nat} {V W : Nat → Int} {T : (Nat → Int) → Int}
end Qf

end
section
section Qg
variable {s t u g z : gS} {p : gP} {a1 a2 a3 v d lu x y : Int} {a i j n m : Nat} {k c w : Int} {V W : Nat → Int}
end Qg

end
section
section Qh
variable {s t u g : gS} {p : gP} {a1 a2 a3 v d lu x y : Int} {a k i j n m : Nat} {V W : Nat → Int}
end Qh

end
section
section Qi
variable {s t u g z : gS} {p : gP} {a1 a2 a3 v d lu x y : Int} {a k i j n m : Nat} {V W : Nat → Int} {T : (Nat → Int) → Int}
end Qi

end
section
section Qj
variable {s t u g z : gS} {p : gP} {a1 a2 a3 v d lu x y : Int} {a k i j n m : Nat} {V W P : Nat → Int}
end Qj

end
section
section Qk
variable {s t u g z : gS} {p : gP} {a1 a2 a3 v d lu x y M : Int} {a b k i j n m N : Nat} {V W P : Nat → Int}
end Qk

end
