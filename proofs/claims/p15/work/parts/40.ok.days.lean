/-! days on both sides, and that acts stay within the ranges -/
noncomputable def Okg (c : gCt) : Prop := Vg c.1 ∧ 0 ≤ c.1 13 ∧ c.1 13 ≤ 60
section Da
variable {g s t u z : gS} {V W : Nat → Int} {L : Nat → Nat → Int} {n m i j a k : Nat} {P : Nat → gCt} {v x y w d lu : Int} {c : gCt} {p : gP} {T : (Nat → Int) → Int}
theorem day_n (hg : Vg V) {j : Nat} (hj : (j ≠ 7 ∧ j ≠ 8 ∧ j ≠ 9 ∧ j ≠ 14) ∧ (j < 40 ∨ 76 ≤ j)) : dayF T lu V j = V j := by
  have h4 := hg.1.2
  have em : menF T (V 4).toNat V j = V j := men_n (by omega) _ (by omega)
  unfold dayF nextF luckF
  rw [up_n (by omega)]
  split
  · exact em
  · split
    · rw [up_n (by omega), up_n (by omega)]
      exact em
    · rw [up_n (by omega)]
      exact em
theorem days_n (hg : Vg V) {j : Nat} (hj : (j ≠ 7 ∧ j ≠ 8 ∧ j ≠ 9 ∧ j ≠ 14) ∧ (j < 40 ∨ 76 ≤ j)) (m : Nat) : daysF T lu m V j = V j := by
  induction m with
  | zero => rfl
  | succ m ih_l => exact (day_n (Vg_days hg m) hj).trans ih_l
theorem r1_102 {Y : Nat × Int × Int × Int × gS} : gQ (gloop st_102_17 Y) (fun r => r.1 = 1) := by
  refine gQ_loop (fun _ => True) (fun y_l _ => ?_) trivial
  obtain ⟨x0_l, x1_l, x2_l, x3, y1⟩ := y_l
  show gQ (sb_102_17 x0_l x1_l x2_l x3 y1) _
  unfold sb_102_17
  refine gQ_ite ?_ (gQ_map (gQ_ret rfl))
  exact gQ_w1 (A := fun _ _ => True) (fun _ _ => trivial) (fun v_l z_l _ => gQ_ret trivial)
theorem Rc9_g (hg : RF s) : Rc9 15 s := ⟨⟨(rr_15_0 hg).2, fun i_l hi_l => rr_16 hg hi_l⟩, ⟨(rr_9 hg).1, (rr_9 hg).2.1, (rr_9 hg).2.2.1⟩, (rr_3_0 hg).2, (rr_3_1 hg).2⟩
theorem Fct_W (h : Fw WC g s) (hf : Fct 15 s t) : Fw WC g t := by
  obtain ⟨⟨f1_l, f2_l, f3_l⟩, f4_l⟩ := hf
  refine ⟨⟨h.1.1, by rw [f1_l]; exact h.1.2.1, fun a_l ha_l => (f2_l a_l).trans (h.1.2.2 a_l ha_l)⟩, fun a_l k_l ha_l => (f3_l a_l k_l).trans (h.2.1 a_l k_l ha_l), fun a_l k_l ha_l hw => (f4_l a_l k_l (fun e_l => ?_) (fun e_l => ?_) (fun e_l => ?_) (fun e_l => ?_)).trans (h.2.2 a_l k_l ha_l hw)⟩
  · rw [WC_t (by omega)] at hw
    cases hw
  · rw [e_l] at hw
    cases hw
  · rw [e_l] at hw
    cases hw
  · rw [e_l.1] at hw
    cases hw
theorem Cst_102 (hT : ∀ t, Fw WC g t → Tlw t 218 9 T) (h : Cst g s V L n P) (hV : Vg V) (hm : m ≤ 1000) : gQ (gloop st_102_17 (0, (m : Int), 0, 0, s)) (fun r => (r.1 = 1 ∧ r.2.1 = fallD T 1 m V) ∧ Cst g r.2.2.2 (daysF T 1 m V) L n P) := by
  intro r hr
  obtain ⟨⟨h1, h2⟩, h3, h4⟩ := h
  obtain ⟨q1_l, q2_l, q3_l⟩ := dc_102 ⟨(rr_0_5 h4).2, (rr_0_4 h4).2, (rr_0_1 h4).2⟩ (Rc9_g h4) (fun t ht => hT t (Fct_W h3 ht)) h1.1 hV hm r hr
  have q0 := r1_102 r hr
  have e13_l : daysF T 1 m V 13 = V 13 := days_n hV (by decide) m
  refine ⟨⟨q0, q1_l⟩, ⟨⟨q2_l, fun i_l j_l hi_l hj => ?_⟩, Pc_e h2 (fun a_l k_l ha_l => q3_l.2 a_l k_l (by omega) (by omega) (by omega) (by omega)) (q3_l.2 0 13 (by omega) (by decide) (by decide) (by omega)) (q3_l.2 0 14 (by omega) (by decide) (by decide) (by omega))⟩, Fct_W h3 q3_l, fun a_l k_l ha_l hz => (q3_l.1.2.2 a_l k_l).trans (h4 a_l k_l ha_l hz)⟩
  rw [e13_l] at hi_l ⊢
  exact (q3_l.2 (15 + 5) _ (by omega) (by omega) (by omega) (by omega)).trans (h1.2 i_l j_l hi_l hj)
/-- the class's days -/
theorem ca_102 (hJ : J p s) (hT : Tlw s 218 9 T) (ho : Okc c) (hp : Pok n P) (h : Cs s c n P) : gQ (f_102 0 x s) (Cres st2 s c n P (aDy T x c)) := by
  have hg := J_RF hJ
  have hn := hJ.1.1
  unfold f_102
  refine n_gt (by decide) n_138 (fun hx => ?_) (fun hx => ?_)
  · have ey : aDy T x c = (0, fallD T 1 x.toNat c.1, (daysF T 1 x.toNat c.1, c.2)) := if_pos hx
    rw [ey]
    refine gQ_v0 (A := fun u_l => Cst s u_l c.1 c.2 (pn n) (psh c P)) (Cst_140 hg hn ho hp h) (fun s3_l h3 => ?_)
    obtain ⟨m_l, hm_l⟩ : ∃ m_l : Nat, x = (m_l : Int) := ⟨x.toNat, by omega⟩
    rw [hm_l, Int.toNat_natCast]
    intro r_l hr
    obtain ⟨⟨q0, q1_l⟩, q2_l⟩ := Cst_102 (T := T) (fun t_l ht => law_C hJ hT ht) h3 ho.1.1 (m := m_l) (by omega) r_l hr
    exact ⟨q2_l.2.1, by rw [q0]; rfl, fun _ => ⟨q1_l, q2_l.1⟩, fun z_l => absurd rfl z_l⟩
  · have ey : aDy T x c = (1, 0, c) := if_neg hx
    rw [ey]
    exact Cres_n hn h rfl (by decide)
theorem Mst_202 (hJ : J p g) (hT : Tlw g 218 9 T) (h : Mst g s V L n P) (h8 : ∀ k, gI s 218 k = V k) (hV : Vg V) (hm : m ≤ 1000) : gQ (f_202 217 (m : Int) 1 s) (fun r => r.2.1 = fallD T 1 m V ∧ Mst g r.2.2.2 (daysF T 1 m V) L n P) := by
  intro r hr
  obtain ⟨⟨h1, h2⟩, h3, h4, h5⟩ := h
  have hTs : Tlw s 218 9 T := law_M hJ hT h3
  obtain ⟨q1_l, q2_l, q3_l⟩ := dm_202 (B := 9) (T := T) (lu := 1) (n := m) hm ⟨(rr_217_1 h4).2, (rr_217_7 h4).2, (rr_217_14 h4).2⟩ (fun t_l ht => Tlw_v hTs ht (by decide) (fun a_l k _ ha_l => ht.2 a_l k (by omega) (by omega) (by omega))) (fun k _ => h8 k) hV r hr
  have q4_l := om_202 (g := s) (W := WM) h4 uM (by rw [h8]; exact hV.1.2.2) rfl rfl (Fw_rf (Fw_232 h3)) r hr
  have e13_l : daysF T 1 m V 13 = V 13 := days_n hV (by decide) m
  refine ⟨q1_l, ⟨⟨fun k hk => ?_, fun i_l j_l hi_l hj => ?_⟩, Pm_q h2 (fun k => q3_l.2 221 k (by omega) (by decide) (by omega)) (q3_l.2 217 6 (by omega) (by decide) (by omega))⟩, Fw_tr h3 q4_l (fun _ _ z_l => z_l), RF_fw h4 q4_l, (q3_l.2 217 0 (by omega) (by decide) (by omega)).trans h5⟩
  · rw [Nat.zero_add]
    exact q2_l k hk.1
  · rw [e13_l] at hi_l
    refine (q3_l.2 218 _ (fun z_l => ?_) (by decide) (by omega)).trans (h1.2 i_l j_l hi_l hj)
    have := z_l.2
    unfold dyc at this
    omega
/-- the model's days -/
theorem ma_218 (hJ : J p s) (hT : Tlw s 218 9 T) (h8 : ∀ k, gI s 218 k = c.1 k) (ho : Okc c) (hp : Pok n P) (h : Ms s c n P) : gQ (f_218 217 x s) (Mres s c n P (aDy T x c)) := by
  have hg := J_RF hJ
  have hn := hJ.1.1
  unfold f_218
  refine gQ_w1 (A := fun w_l z_l => w_l = (if 1 ≤ x ∧ x ≤ 200 then 1 else 0) ∧ z_l = s) m_150 (fun w_l z_l hz => ?_)
  obtain ⟨z1, z2⟩ := hz
  rw [z1, z2]
  by_cases hx : 1 ≤ x ∧ x ≤ 200
  · have ey : aDy T x c = (0, fallD T 1 x.toNat c.1, (daysF T 1 x.toNat c.1, c.2)) := if_pos hx
    rw [if_pos hx, if_neg (by decide), ey]
    unfold fb_218_17
    refine ma_go hg hn ho hp h (fun t_l ht h8t => ?_)
    obtain ⟨m_l, hm_l⟩ : ∃ m_l : Nat, x = (m_l : Int) := ⟨x.toNat, by omega⟩
    rw [hm_l, Int.toNat_natCast]
    refine gQ_w1 (A := fun v_l z_l => v_l = fallD T 1 m_l c.1 ∧ Mst s z_l (daysF T 1 m_l c.1) c.2 (pn n) (psh c P)) (Mst_202 hJ hT ht (fun k => (h8t k).trans (h8 k)) ho.1.1 (by omega)) (fun v_l z_l hz => ?_)
    obtain ⟨y1, y2⟩ := hz
    rw [y1]
    exact gQ_ret (ma_end y2 rfl rfl rfl rfl)
  · have ey : aDy T x c = (1, 0, c) := if_neg hx
    rw [if_neg hx, if_pos rfl, ey]
    unfold fb_218_17
    exact ma_thr (by decide) hn h rfl
/-- ranges kept -/
theorem Vg_x (h : Vg V) (hk : k ≠ 3 ∧ k ≠ 4 ∧ (∀ i, i < 6 → k ≠ 40 + 6 * i ∧ k ≠ 43 + 6 * i ∧ k ≠ 44 + 6 * i) ∧ ∀ a, a < 8 → k ≠ 16 + 3 * a ∧ k ≠ 16 + 3 * a + 2) : Vg (up V k v) := by
  obtain ⟨h1, h2, h3⟩ := h
  obtain ⟨k3_l, k4_l, k5_l, k6_l⟩ := hk
  refine ⟨?_, fun i hi_l => ?_, fun i hi_l => ?_⟩
  · rw [up_n (Ne.symm k3_l), up_n (Ne.symm k4_l)]
    exact h1
  · obtain ⟨a1_l, a2, a3⟩ := k5_l i hi_l
    rw [up_n (Ne.symm a1_l), up_n (Ne.symm a2), up_n (Ne.symm a3)]
    exact h2 i hi_l
  · obtain ⟨a1_l, a2⟩ := k6_l i hi_l
    rw [up_n (Ne.symm a1_l), up_n (Ne.symm a2)]
    exact h3 i hi_l
theorem Vg_log (h : Vg V) (h13 : 0 ≤ V 13 ∧ V 13 ≤ 60) : Okg (logY x w i V L) := by
  refine ⟨Vg_x h ⟨by decide, by decide, fun i hi_l => by omega, fun a_l ha_l => by omega⟩, ?_⟩
  show 0 ≤ up V 13 (min 60 (V 13 + 1)) 13 ∧ up V 13 (min 60 (V 13 + 1)) 13 ≤ 60
  rw [up_s]
  omega
theorem n20 {c : gCt} {P : Prop} (z : ((2, 0, c) : gY).1 = 0) : P := absurd (show (2 : Int) = 0 from z) (by decide)
theorem n10 {c : gCt} {P : Prop} (z : ((1, 0, c) : gY).1 = 0) : P := absurd (show (1 : Int) = 0 from z) (by decide)
theorem n30 {c : gCt} {P : Prop} (z : ((3, 0, c) : gY).1 = 0) : P := absurd (show (3 : Int) = 0 from z) (by decide)
theorem ogPf (ho : Okg c) (hj : Jn c.1) : (aPf x c).1 = 0 → Okg (aPf x c).2.2 := by
  have h4 := ho.1.1.2
  unfold aPf
  by_cases hx : 0 ≤ x ∧ x < c.1 4
  · rw [if_pos hx]
    by_cases h5 : c.1 (40 + 6 * x.toNat + 5) = 0 ∧ c.1 (40 + 6 * x.toNat + 1) ≠ 0
    · rw [if_pos h5]
      intro _
      have hi_l : x.toNat < 6 := by omega
      have h1 : Vg (nlV x.toNat c.1) := Vg_x ho.1 ⟨by omega, by omega, fun i_l hi_l => by omega, fun a_l ha_l => by omega⟩
      have t0_l := (h1.2.1 x.toNat hi_l).1
      have hb_l := hj.1
      refine Vg_log (Vg_up0 h1 hi_l ?_) ?_
      · rw [g32_eq (by omega) (by omega)]
        omega
      · have e_l : pfV x.toNat c.1 13 = c.1 13 := (up_n (by omega)).trans (up_n (by omega))
        rw [e_l]
        exact ho.2
    · rw [if_neg h5]
      exact n20
  · rw [if_neg hx]
    exact n10
theorem Vg_trC (h : Vg V) (hi : i < 6) : Vg (trC i v V) := by
  have t0_l := (h.2.1 i hi).1
  unfold trC
  split
  · refine Vg_up0 h hi ?_
    rw [g32_eq (by omega) (by omega)]
    omega
  · refine Vg_up0 h hi ?_
    rw [gdiv_eq (x := V (40 + 6 * i)) (c := 2) (by omega) (by decide)]
    omega
theorem Vg_bar (h : Vg V) (hi : i < 6) : Vg (barV i V) := by
  unfold barV
  split
  · exact Vg_x h ⟨by omega, by omega, fun i hi => by omega, fun a_l ha_l => by omega⟩
  · exact h
theorem ogTr (ho : Okg c) : (aTr x y c).1 = 0 → Okg (aTr x y c).2.2 := by
  have h4 := ho.1.1.2
  unfold aTr
  by_cases hx : (0 ≤ x ∧ x < c.1 4) ∧ (0 ≤ y ∧ y < c.1 5)
  · rw [if_pos hx]
    by_cases h5 : c.1 (40 + 6 * x.toNat + 5) = 0
    · rw [if_pos h5]
      intro _
      have hi_l : x.toNat < 6 := by omega
      refine Vg_log (Vg_bar (Vg_trC (Vg_pays ho.1) hi_l) hi_l) ?_
      have e_l : trdV x.toNat y.toNat c.1 13 = c.1 13 := (barV_n (by omega)).trans ((trC_n (by omega)).trans (pays_n (by decide)))
      rw [e_l]
      exact ho.2
    · rw [if_neg h5]
      exact n20
  · rw [if_neg hx]
    exact n10
theorem ogFl (ho : Okg c) : (aFl x c).1 = 0 → Okg (aFl x c).2.2 := by
  have h4 := ho.1.1.2
  unfold aFl
  by_cases hx : 0 ≤ x ∧ x < c.1 4
  · rw [if_pos hx]
    by_cases h5 : c.1 (40 + 6 * x.toNat + 5) = 0 ∧ ¬ 0 < c.1 (40 + 6 * x.toNat + 4)
    · rw [if_pos h5]
      intro _
      refine ⟨Vg_x ho.1 ⟨by omega, by omega, fun i_l hi_l => by omega, fun a_l ha_l => by omega⟩, ?_⟩
      show 0 ≤ up c.1 (40 + 6 * x.toNat + 5) 2 13 ∧ up c.1 (40 + 6 * x.toNat + 5) 2 13 ≤ 60
      rw [up_n (by omega)]
      exact ho.2
    · rw [if_neg h5]
      exact n20
  · rw [if_neg hx]
    exact n10
theorem ogSl (ho : Okg c) : (aSl x y v c).1 = 0 → Okg (aSl x y v c).2.2 := by
  have h4 := ho.1.1.2
  unfold aSl
  by_cases hx : (0 ≤ x ∧ x < c.1 4) ∧ (0 ≤ y ∧ y < c.1 6)
  · rw [if_pos hx]
    by_cases hv : 0 ≤ v ∧ v ≤ c.1 (88 + 2 * y.toNat)
    · rw [if_pos hv]
      by_cases h5 : c.1 (40 + 6 * x.toNat + 5) = 0
      · rw [if_pos h5]
        intro _
        refine ⟨Vg_x (Vg_x (Vg_x (Vg_x ho.1 ⟨by omega, by omega, fun i_l hi_l => by omega, fun a_l ha_l => by omega⟩) ⟨by omega, by omega, fun i_l hi_l => by omega, fun a_l ha_l => by omega⟩) ⟨by decide, by decide, fun i_l hi_l => by omega, fun a_l ha_l => by omega⟩) ⟨by omega, by omega, fun i_l hi_l => by omega, fun a_l ha_l => by omega⟩, ?_⟩
        show 0 ≤ slV x.toNat y.toNat v c.1 13 ∧ slV x.toNat y.toNat v c.1 13 ≤ 60
        unfold slV
        rw [up_n (by omega), up_n (by omega), up_n (by omega), up_n (by omega)]
        exact ho.2
      · rw [if_neg h5]
        exact n30
    · rw [if_neg hv]
      exact n20
  · rw [if_neg hx]
    exact n10
theorem ogPt (ho : Okg c) : (aPt x y c).1 = 0 → Okg (aPt x y c).2.2 := by
  unfold aPt
  by_cases hx : (0 ≤ x ∧ x < c.1 3) ∧ (0 ≤ y ∧ y < c.1 6)
  · rw [if_pos hx]
    by_cases h5 : gand (gshr (c.1 (88 + 2 * y.toNat + 1)) x) 1 = 0 ∧ ¬ c.1 (88 + 2 * y.toNat) < 20
    · rw [if_pos h5]
      intro _
      refine ⟨Vg_x (Vg_x ho.1 ⟨by omega, by omega, fun i_l hi_l => by omega, fun a_l ha_l => by omega⟩) ⟨by omega, by omega, fun i_l hi_l => by omega, fun a_l ha_l => by omega⟩, ?_⟩
      show 0 ≤ ptV x y.toNat c.1 13 ∧ ptV x y.toNat c.1 13 ≤ 60
      unfold ptV
      rw [up_n (by omega), up_n (by omega)]
      exact ho.2
    · rw [if_neg h5]
      exact n20
  · rw [if_neg hx]
    exact n10
theorem ogPy (ho : Okg c) : (aPy x c).1 = 0 → Okg (aPy x c).2.2 := by
  unfold aPy
  by_cases hx : 1 ≤ x ∧ x ≤ min (c.1 9) (c.1 8)
  · rw [if_pos hx]
    intro _
    refine ⟨Vg_x (Vg_x ho.1 ⟨by decide, by decide, fun i_l hi_l => by omega, fun a_l ha_l => by omega⟩) ⟨by decide, by decide, fun i_l hi_l => by omega, fun a_l ha_l => by omega⟩, ?_⟩
    show 0 ≤ up (up c.1 8 (g32 (c.1 8 - x))) 9 (g32 (c.1 9 - x)) 13 ∧ up (up c.1 8 (g32 (c.1 8 - x))) 9 (g32 (c.1 9 - x)) 13 ≤ 60
    rw [up_n (by decide), up_n (by decide)]
    exact ho.2
  · rw [if_neg hx]
    exact n10
theorem ogDy (ho : Okg c) : (aDy T x c).1 = 0 → Okg (aDy T x c).2.2 := by
  unfold aDy
  by_cases hx : 1 ≤ x ∧ x ≤ 200
  · rw [if_pos hx]
    intro _
    refine ⟨Vg_days ho.1 _, ?_⟩
    show 0 ≤ daysF T 1 x.toNat c.1 13 ∧ daysF T 1 x.toNat c.1 13 ≤ 60
    rw [days_n ho.1 (by decide)]
    exact ho.2
  · rw [if_neg hx]
    exact n10
end Da
