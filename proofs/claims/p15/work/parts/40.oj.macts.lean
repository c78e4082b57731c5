/-! the model's acts are the same functions -/
section Am
variable {g s t u z : gS} {V W : Nat → Int} {L : Nat → Nat → Int} {n i a k : Nat} {P : Nat → gCt} {v x y w d I : Int} {c : gCt} {p : gP} {T : (Nat → Int) → Int} {yy : gY}
theorem Ms_0 (h : Ms s c n P) : Ms (gw s 217 0 v) c n P := ⟨⟨fun k_l hk => (rd_a rfl (by decide)).trans (h.1.1 k_l hk), fun i_l j_l hi_l hj => (rd_a rfl (by decide)).trans (h.1.2 i_l j_l hi_l hj)⟩, Pm_q h.2 (fun k_l => rd_a rfl (by decide)) (rd_k rfl (by decide))⟩
theorem Fw_m0 (hn : 232 ≤ gn s) : Fw WM s (gw s 217 0 v) := Fw_wv (Fw_rf hn) (uM 217 0 rfl)
theorem ma_thr {E : Option gO} (hv : 0 < v) (hn : 232 ≤ gn s) (h : Ms s c n P) (e : yy.1 = v) : gQ (if 0 < gI (gw s 217 0 v) 217 0 then some ((1, 0, 0, gw s 217 0 v) : gO) else E) (Mres s c n P yy) := by
  rw [if_pos (z0 hv)]
  refine gQ_ret ⟨Fw_m0 hn, ?_, fun q_l => by omega, fun _ => Ms_0 h⟩
  rw [e]
  exact rd_same rfl
theorem ma_go {E : gS → Option gO} {Q : gO → Prop} (hg : RF s) (hn : 232 ≤ gn s) (ho : Okc c) (hp : Pok n P) (h : Ms s c n P) (k : ∀ t, Mst s t c.1 c.2 (pn n) (psh c P) → (∀ k, gI t 218 k = gI s 218 k) → gQ (E t) Q) : gQ (if 0 < gI (gw s 217 0 0) 217 0 then some ((1, 0, 0, gw s 217 0 0) : gO) else (f_209 217 (gw s 217 0 0)).bind (gv0 E)) Q := by
  rw [if_neg (by rw [rd_same rfl]; decide)]
  have hg0 : RF (gw s 217 0 0) := RF_sm hg rfl
  refine gQ_v0 (A := fun t => Mst s t c.1 c.2 (pn n) (psh c P) ∧ ∀ k, gI t 218 k = gI s 218 k) (fun r_l hr => ?_) (fun t ht => k t ht.1 ht.2)
  obtain ⟨q1_l, q2_l, q3_l⟩ := mt_209 hg0 ho.2.2 hp.1 (fun j_l hj => (hp.2 j_l hj).2.2) (Ms_0 (v := 0) h) r_l hr
  refine ⟨⟨q1_l, Fw_sm (Fw_m0 hn) q2_l (fun a_l k _ hf => q3_l a_l k (fun z_l => ?_) (fun z_l => ?_)), RF_sm hg0 q2_l.2.2, (q3_l 217 0 (by decide) (by decide)).trans (rd_same rfl)⟩, fun k => (q3_l 218 k (by decide) (by omega)).trans (rd_a rfl (by decide))⟩
  · rw [z_l] at hf
    cases hf
  · rw [z_l.1, z_l.2] at hf
    cases hf
theorem ma_end (h : Mst s z V L (pn n) (psh c P)) (e0 : yy.1 = 0) (e1 : v = yy.2.1) (e2 : V = yy.2.2.1) (e3 : L = yy.2.2.2) : Mres s c n P yy (1, v, 0, z) := by
  refine ⟨h.2.1, by rw [e0]; exact h.2.2.2, fun _ => ⟨e1, ?_⟩, fun q_l => absurd e0 q_l⟩
  rw [e2, e3] at h
  exact h.1
theorem v156 {j : Nat} (hr : gR z 217 1 = 218) (hi : i < 6) (hj : j < 6) (eI : I = (j : Int)) : gQ (f_156 217 (i : Int) I z) (fun r => r.2.1 = gI z 218 (40 + 6 * i + j) ∧ r.2.2.2 = z) := fun r hr2 => by
  subst eI
  have h1 := m_156 (s := z) (x := (i : Int)) (j := (j : Int)) hr (by omega) (by omega) r hr2
  rw [Int.toNat_natCast, Int.toNat_natCast] at h1
  exact h1
theorem u156 {j : Nat} (h : Mst g z V L n P) (hi : i < 6) (hj : j < 6) (eI : I = (j : Int)) : gQ (f_156 217 (i : Int) I z) (fun r => r.2.1 = V (40 + 6 * i + j) ∧ r.2.2.2 = z) := fun r hr => by
  obtain ⟨q1_l, q2_l⟩ := v156 (rr_217_1 h.2.2.1).2 hi hj eI r hr
  exact ⟨q1_l.trans (Mst_r h (KK_m hi hj)), q2_l⟩
theorem u157 {j : Nat} (h : Mst g z V L n P) (hi : i < 6) (hj : j < 6) (hj2 : j ≠ 2) (eI : I = (j : Int)) : gQ (f_157 217 (i : Int) I v z) (fun r => Mst g r.2.2.2 (up V (40 + 6 * i + j) v) L n P) := fun r hr => by
  subst eI
  rw [dm_157 (rr_217_1 h.2.2.1).2 hi hj r hr]
  exact Mst_w h (by omega) (by omega) (mnt_p i hi j hj hj2)
theorem u157_0 (h : Mst g z V L n P) (hi : i < 6) : gQ (f_157 217 (i : Int) 0 v z) (fun r => Mst g r.2.2.2 (up V (40 + 6 * i) v) L n P) := u157 (j := 0) h hi (by decide) (by decide) rfl
theorem u156_0 (h : Mst g z V L n P) (hi : i < 6) : gQ (f_156 217 (i : Int) 0 z) (fun r => r.2.1 = V (40 + 6 * i) ∧ r.2.2.2 = z) := u156 (j := 0) h hi (by decide) rfl
/-- is he kept -/
theorem v165 (hr : gR s 217 1 = 218) (h8 : ∀ k, gI s 218 k = c.1 k) (hi : i < 6) : gQ (f_165 217 (i : Int) s) (fun r => r.2.1 = (if c.1 (40 + 6 * i + 5) = 0 then 1 else 0) ∧ r.2.2.2 = s) := fun r hr2 => by
  have h1 := dm_165 (V := c.1) hr (fun k _ => h8 k) hi r hr2
  rw [show 45 + 6 * i = 40 + 6 * i + 5 by omega] at h1
  exact h1
theorem Mst_200 (h : Mst g s V L n P) : gQ (f_200 217 v s) (fun r => Mst g r.2.2.2 (paysF v V) L n P) := by
  have hr := (rr_217_1 h.2.2.1).2
  have e8 : gI s 218 8 = V 8 := Mst_r h KK_c.2.2.2.2.2.1
  unfold f_200
  rw [hr, e8]
  refine gQ_w1 (A := fun w_l z_l => w_l = min v (V 8) ∧ z_l = s) dm_151 (fun w_l z_l hz => ?_)
  obtain ⟨z1, z2⟩ := hz
  rw [z1, z2, show min v (V 8) = min (V 8) v from Int.min_comm _ _]
  dsimp only
  simp only [rgw, hr, e8]
  have w1_l := Mst_w (v := g32 (V 8 - min (V 8) v)) h (k0 := 8) (by decide) (by decide) rfl
  generalize gw s 218 8 (g32 (V 8 - min (V 8) v)) = s3 at w1_l ⊢
  have e9_l : gI s3 218 9 = V 9 := (Mst_r w1_l KK_c.2.2.2.2.2.2.1).trans (up_n (by decide))
  rw [e9_l]
  refine gQ_w1 (A := fun w_l z_l => w_l = min 9999 (g32 (g32 (V 9 + v) - min (V 8) v)) ∧ z_l = s3) dm_151 (fun w_l z_l hz => ?_)
  obtain ⟨z1, z2⟩ := hz
  rw [z1, z2]
  exact gQ_ret (Mst_w w1_l (by decide) (by decide) rfl)
theorem rv {X : Int} {j : Nat} (hj : j < 6) (q : Int) (hq : 0 ≤ q ∧ q ≤ 1) (e : X = (j : Int)) : g32 (g32 (88 + g32 (2 * X)) + q) = ((88 + 2 * j + q.toNat : Nat) : Int) := by
  subst e
  rw [g32_eq (v := 2 * (j : Int)) (by omega) (by omega), g32_eq (v := 88 + 2 * (j : Int)) (by omega) (by omega), g32_eq (by omega) (by omega)]
  omega
theorem mnt_v : ∀ r, r < 6 → ∀ q, q < 2 → mnt (88 + 2 * r + q) = true := by decide +kernel
theorem v160 {j : Nat} {q : Nat} (hr : gR z 217 1 = 218) (hj : j < 6) (hq : q < 2) (eI : I = (q : Int)) : gQ (f_160 217 (j : Int) I z) (fun r => r.2.1 = gI z 218 (88 + 2 * j + q) ∧ r.2.2.2 = z) := by
  subst eI
  unfold f_160
  rw [rv hj (q : Int) (by omega) rfl, hr, Int.toNat_natCast, Int.toNat_natCast]
  exact gQ_chk (gQ_ret ⟨rfl, rfl⟩)
/-- the model's proof -/
theorem ma_211 (hJ : J p s) (h8 : ∀ k, gI s 218 k = c.1 k) (ho : Okc c) (hp : Pok n P) (h : Ms s c n P) : gQ (f_211 217 x s) (Mres s c n P (aPf x c)) := by
  have hg := J_RF hJ
  have hn := hJ.1.1
  have r1_l := (rr_217_1 hg).2
  have jv := Jv hJ
  unfold f_211 f_162
  rw [r1_l]
  refine m_n (by omega) (fun hx => ?_) (fun hx => ?_)
  · rw [h8] at hx
    have h4 := ho.1.1.1.2
    obtain ⟨i_l, rfl⟩ : ∃ i_l : Nat, x = (i_l : Int) := ⟨x.toNat, by omega⟩
    have hi_l : i_l < 6 := by omega
    have et : ((i_l : Nat) : Int).toNat = i_l := Int.toNat_natCast i_l
    rw [if_neg (by decide)]
    refine gQ_w1 (A := fun v_l z_l => v_l = (if c.1 (40 + 6 * i_l + 5) = 0 then 1 else 0) ∧ z_l = s) (v165 r1_l h8 hi_l) (fun v_l z_l hz => ?_)
    obtain ⟨z1, z2⟩ := hz
    rw [z1, z2]
    by_cases h5 : c.1 (40 + 6 * i_l + 5) = 0
    · rw [if_pos h5, if_neg (by decide)]
      refine gQ_w1 (A := fun v_l z_l => v_l = c.1 (40 + 6 * i_l + 1) ∧ z_l = s) (fun r_l hr => by
        obtain ⟨q1_l, q2_l⟩ := v156 (j := 1) r1_l hi_l (by decide) rfl r_l hr
        exact ⟨q1_l.trans (h8 _), q2_l⟩) (fun v_l z_l hz => ?_)
      obtain ⟨z3, z4⟩ := hz
      rw [z3, z4]
      by_cases c1 : c.1 (40 + 6 * i_l + 1) = 0
      · have ey : aPf (i_l : Int) c = (2, 0, c) := by
          unfold aPf
          rw [et, if_pos hx, if_neg (fun z_l => z_l.2 c1)]
        rw [if_pos c1, ey]
        unfold fb_211_35
        exact ma_thr (by decide) hn h rfl
      · have ey : aPf (i_l : Int) c = (0, pfV i_l c.1 (40 + 6 * i_l), logY (i_l : Int) 0 i_l (pfV i_l c.1) c.2) := by
          unfold aPf
          rw [et, if_pos hx, if_pos ⟨h5, c1⟩]
        rw [if_neg c1, ey]
        unfold fb_211_35
        refine ma_go hg hn ho hp h (fun t_l ht _ => ?_)
        refine gQ_w1 (A := fun v_l z_l => v_l = c.1 (40 + 6 * i_l + 1) ∧ z_l = t_l) (u156 ht hi_l (by decide) rfl) (fun v_l z_l hz => ?_)
        obtain ⟨z5, z6⟩ := hz
        rw [z5, z6]
        refine gQ_v0 (A := fun u_l => Mst s u_l (nlV i_l c.1) c.2 (pn n) (psh c P)) (u157 ht hi_l (by decide) (by decide) rfl) (fun s9 h9 => ?_)
        refine gQ_w1 (A := fun v_l z_l => v_l = nlV i_l c.1 (40 + 6 * i_l) ∧ z_l = s9) (u156_0 h9 hi_l) (fun v_l z_l hz => ?_)
        obtain ⟨z7, z8⟩ := hz
        have e12_l : gI s9 218 12 = c.1 12 := (Mst_r h9 KK_c.2.2.2.2.2.2.2.2.2.1).trans (up_n (by omega))
        rw [z7, z8, (rr_217_1 h9.2.2.1).2, e12_l]
        refine gQ_w1 (A := fun v_l z_l => v_l = min 99 (g32 (nlV i_l c.1 (40 + 6 * i_l) + c.1 12)) ∧ z_l = s9) dm_151 (fun v_l z_l hz => ?_)
        obtain ⟨z9, z10⟩ := hz
        rw [z9, z10]
        refine gQ_v0 (A := fun u_l => Mst s u_l (pfV i_l c.1) c.2 (pn n) (psh c P)) (u157_0 h9 hi_l) (fun s15 h15 => ?_)
        have t13 : pfV i_l c.1 13 = c.1 13 := (up_n (by omega)).trans (up_n (by omega))
        refine gQ_v0 (A := fun u_l => Mst s u_l (up (pfV i_l c.1) 13 (min 60 (pfV i_l c.1 13 + 1))) (lgL (pfV i_l c.1 7) (i_l : Int) 0 (pfV i_l c.1 (40 + 6 * i_l)) c.2) (pn n) (psh c P)) (Mst_210 h15 (by rw [t13]; exact ho.2) hi_l) (fun s17 h17 => ?_)
        refine gQ_w1 (A := fun v_l z_l => v_l = pfV i_l c.1 (40 + 6 * i_l) ∧ z_l = s17) (fun r_l hr => by
          obtain ⟨q1_l, q2_l⟩ := u156_0 h17 hi_l r_l hr
          exact ⟨q1_l.trans (up_n (by omega)), q2_l⟩) (fun v_l z_l hz => ?_)
        obtain ⟨z11, z12⟩ := hz
        rw [z11, z12]
        exact gQ_ret (ma_end h17 rfl rfl rfl rfl)
    · have ey : aPf (i_l : Int) c = (2, 0, c) := by
        unfold aPf
        rw [et, if_pos hx, if_neg (fun z_l => h5 z_l.1)]
      rw [if_neg h5, if_pos rfl, ey]
      unfold fb_211_35
      exact ma_thr (by decide) hn h rfl
  · rw [h8] at hx
    have ey : aPf x c = (1, 0, c) := by
      unfold aPf
      rw [if_neg hx]
    rw [if_pos rfl, ey]
    unfold fb_211_35
    exact ma_thr (by decide) hn h rfl
/-- the model's test of a man -/
theorem ma_213t (h : Mst s z V L (pn n) (psh c P)) (hi : i < 6) (h13 : 0 ≤ V 13 ∧ V 13 ≤ 60) (hv : v = 0 ∨ v = 1) (e0 : yy.1 = 0) (e1 : v = yy.2.1) (e2 : logY (i : Int) (if v = 0 then 1 else 2) i (barV i (up V (40 + 6 * i) w)) L = yy.2.2) : gQ (fb_213_102 217 (i : Int) v w 0 (i : Int) 217 z) (Mres s c n P yy) := by
  have fin_l : ∀ (q_l : gS), Mst s q_l (barV i (up V (40 + 6 * i) w)) L (pn n) (psh c P) → gQ (fb_213_128 217 (i : Int) v q_l) (Mres s c n P yy) := fun q_l hq => by
    have t13 : barV i (up V (40 + 6 * i) w) 13 = V 13 := (barV_n (by omega)).trans (up_n (by omega))
    unfold fb_213_128
    by_cases c0 : v = 0
    · rw [if_pos c0] at e2 ⊢
      unfold fb_213_139
      refine gQ_v0 (A := fun u_l => Mst s u_l (up (barV i (up V (40 + 6 * i) w)) 13 (min 60 (barV i (up V (40 + 6 * i) w) 13 + 1))) (lgL (barV i (up V (40 + 6 * i) w) 7) (i : Int) 1 (barV i (up V (40 + 6 * i) w) (40 + 6 * i)) L) (pn n) (psh c P)) (Mst_210 hq (by rw [t13]; exact h13) hi) (fun u_l hu => ?_)
      exact gQ_bool (gQ_ret (ma_end hu e0 e1 (by rw [← e2]; rfl) (by rw [← e2]; rfl)))
    · rw [if_neg c0] at e2 ⊢
      unfold fb_213_139
      refine gQ_v0 (A := fun u_l => Mst s u_l (up (barV i (up V (40 + 6 * i) w)) 13 (min 60 (barV i (up V (40 + 6 * i) w) 13 + 1))) (lgL (barV i (up V (40 + 6 * i) w) 7) (i : Int) 2 (barV i (up V (40 + 6 * i) w) (40 + 6 * i)) L) (pn n) (psh c P)) (Mst_210 hq (by rw [t13]; exact h13) hi) (fun u_l hu => ?_)
      exact gQ_bool (gQ_ret (ma_end hu e0 e1 (by rw [← e2]; rfl) (by rw [← e2]; rfl)))
  unfold fb_213_102
  refine gQ_v0 (A := fun u_l => Mst s u_l (up V (40 + 6 * i) w) L (pn n) (psh c P)) (u157_0 h hi) (fun s20 h20 => ?_)
  refine gQ_w1 (A := fun v z => v = up V (40 + 6 * i) w (40 + 6 * i) ∧ z = s20) (u156_0 h20 hi) (fun v z hz => ?_)
  obtain ⟨z1, z2⟩ := hz
  have e10_l : gI s20 218 10 = up V (40 + 6 * i) w 10 := Mst_r h20 KK_c.2.2.2.2.2.2.2.1
  rw [z1, z2, (rr_217_1 h20.2.2.1).2, e10_l]
  by_cases c1 : up V (40 + 6 * i) w (40 + 6 * i) < up V (40 + 6 * i) w 10
  · rw [if_pos c1]
    have e_l : barV i (up V (40 + 6 * i) w) = up (up V (40 + 6 * i) w) (40 + 6 * i + 5) 1 := if_pos c1
    refine gQ_v0 (A := fun u_l => Mst s u_l (barV i (up V (40 + 6 * i) w)) L (pn n) (psh c P)) (fun r_l hr => ?_) (fun q_l hq => fin_l q_l hq)
    rw [e_l]
    exact u157 h20 hi (by decide) (by decide) rfl r_l hr
  · rw [if_neg c1]
    have e_l : barV i (up V (40 + 6 * i) w) = up V (40 + 6 * i) w := if_neg c1
    refine fin_l s20 ?_
    rw [e_l]
    exact h20
theorem ma_213 (hJ : J p s) (h8 : ∀ k, gI s 218 k = c.1 k) (ho : Okc c) (hp : Pok n P) (h : Ms s c n P) : gQ (f_213 217 x y s) (Mres s c n P (aTr x y c)) := by
  have hg := J_RF hJ
  have hn := hJ.1.1
  have r1_l := (rr_217_1 hg).2
  have jv := Jv hJ
  unfold f_213 f_162 f_163
  rw [r1_l]
  refine m_n (by omega) (fun hx => ?_) (fun hx => ?_)
  · rw [if_neg (by decide)]
    rw [r1_l]
    refine m_n (by omega) (fun hy => ?_) (fun hy => ?_)
    · rw [h8] at hx hy
      have h4 := ho.1.1.1.2
      have hj := (J_Jn hJ h8).2.1.1
      obtain ⟨i_l, rfl⟩ : ∃ i_l : Nat, x = (i_l : Int) := ⟨x.toNat, by omega⟩
      obtain ⟨j_l, rfl⟩ : ∃ j_l : Nat, y = (j_l : Int) := ⟨y.toNat, by omega⟩
      have hi_l : i_l < 6 := by omega
      have hjj : j_l < 6 := by omega
      have et : ((i_l : Nat) : Int).toNat = i_l := Int.toNat_natCast i_l
      have ej : ((j_l : Nat) : Int).toNat = j_l := Int.toNat_natCast j_l
      rw [if_neg (by decide)]
      refine gQ_w1 (A := fun v_l z_l => v_l = (if c.1 (40 + 6 * i_l + 5) = 0 then 1 else 0) ∧ z_l = s) (v165 r1_l h8 hi_l) (fun v_l z_l hz => ?_)
      obtain ⟨z1, z2⟩ := hz
      rw [z1, z2]
      by_cases h5 : c.1 (40 + 6 * i_l + 5) = 0
      · rw [if_pos h5, if_neg (by decide)]
        have ey : aTr (i_l : Int) (j_l : Int) c = (0, cgt i_l j_l c.1, logY (i_l : Int) (if cgt i_l j_l c.1 = 0 then 1 else 2) i_l (trdV i_l j_l c.1) c.2) := by
          unfold aTr
          rw [et, ej, if_pos ⟨hx, hy⟩, if_pos h5]
        rw [ey]
        unfold fb_213_34
        refine ma_go hg hn ho hp h (fun t_l ht _ => ?_)
        refine gQ_w1 (A := fun v_l z_l => v_l = c.1 (76 + 2 * j_l) ∧ z_l = t_l) (fun r_l hr => by
          obtain ⟨q1_l, q2_l⟩ := m_158 (x := (j_l : Int)) (rr_217_1 ht.2.2.1).2 (by omega) r_l hr
          rw [ej] at q1_l
          exact ⟨q1_l.trans (Mst_r ht (KK_t (j := 0) hjj (by decide))), q2_l⟩) (fun v_l z_l hz => ?_)
        obtain ⟨z3, z4⟩ := hz
        rw [z3, z4]
        refine gQ_v0 (A := fun u_l => Mst s u_l (paysF (c.1 (76 + 2 * j_l)) c.1) c.2 (pn n) (psh c P)) (Mst_200 ht) (fun s9 h9 => ?_)
        have pw : ∀ k, k ≠ 8 → k ≠ 9 → paysF (c.1 (76 + 2 * j_l)) c.1 k = c.1 k := fun k a_l b_l => pays_n ⟨a_l, b_l⟩
        have q13_l : 0 ≤ paysF (c.1 (76 + 2 * j_l)) c.1 13 ∧ paysF (c.1 (76 + 2 * j_l)) c.1 13 ≤ 60 := by
          rw [pw 13 (by decide) (by decide)]
          exact ho.2
        have r9 := (rr_217_1 h9.2.2.1).2
        refine gQ_w1 (A := fun v_l z_l => v_l = c.1 (40 + 6 * i_l + 2) ∧ z_l = s9) (fun r_l hr => by
          obtain ⟨q1_l, q2_l⟩ := u156 (j := 2) h9 hi_l (by decide) rfl r_l hr
          exact ⟨q1_l.trans (pw _ (by omega) (by omega)), q2_l⟩) (fun v_l z_l hz => ?_)
        obtain ⟨z5, z6⟩ := hz
        rw [z5, z6]
        refine gQ_w1 (A := fun v_l z_l => v_l = cgt i_l j_l c.1 ∧ z_l = s9) (by
          unfold f_212
          refine gQ_w1 (A := fun v_l z_l => v_l = c.1 (76 + 2 * j_l + 1) ∧ z_l = s9) (fun r_l hr => by
            obtain ⟨q1_l, q2_l⟩ := m_159 (x := (j_l : Int)) r9 (by omega) r_l hr
            rw [ej] at q1_l
            exact ⟨q1_l.trans ((Mst_r h9 (KK_t (j := 1) hjj (by decide))).trans (pw _ (by omega) (by omega))), q2_l⟩) (fun v_l z_l hz => ?_)
          obtain ⟨z7, z8⟩ := hz
          rw [z7, z8]
          unfold cgt
          by_cases c1 : gand (c.1 (40 + 6 * i_l + 2)) (gxor (c.1 (76 + 2 * j_l + 1)) (-1)) = 0
          · rw [if_pos c1, if_pos c1]
            exact gQ_ret ⟨rfl, rfl⟩
          · rw [if_neg c1, if_neg c1]
            exact gQ_ret ⟨rfl, rfl⟩) (fun v_l z_l hz => ?_)
        obtain ⟨z7, z8⟩ := hz
        rw [z7, z8]
        by_cases c0 : cgt i_l j_l c.1 = 0
        · rw [if_pos c0]
          refine gQ_w1 (A := fun v_l z_l => v_l = paysF (c.1 (76 + 2 * j_l)) c.1 (40 + 6 * i_l) ∧ z_l = s9) (u156_0 h9 hi_l) (fun v_l z_l hz => ?_)
          obtain ⟨y1, y2⟩ := hz
          rw [y1, y2]
          refine gQ_w1 (A := fun v_l z_l => v_l = min 99 (g32 (paysF (c.1 (76 + 2 * j_l)) c.1 (40 + 6 * i_l) + 5)) ∧ z_l = s9) dm_151 (fun v_l z_l hz => ?_)
          obtain ⟨y3, y4⟩ := hz
          rw [y3, y4]
          refine ma_213t h9 hi_l q13_l cgt_b rfl rfl ?_
          dsimp only
          have e_l : trdV i_l j_l c.1 = barV i_l (up (paysF (c.1 (76 + 2 * j_l)) c.1) (40 + 6 * i_l) (min 99 (g32 (paysF (c.1 (76 + 2 * j_l)) c.1 (40 + 6 * i_l) + 5)))) := by
            unfold trdV trC
            rw [if_pos c0]
            rfl
          rw [e_l]
        · rw [if_neg c0]
          refine gQ_w1 (A := fun v_l z_l => v_l = paysF (c.1 (76 + 2 * j_l)) c.1 (40 + 6 * i_l) ∧ z_l = s9) (u156_0 h9 hi_l) (fun v_l z_l hz => ?_)
          obtain ⟨y1, y2⟩ := hz
          rw [y1, y2]
          refine ma_213t h9 hi_l q13_l cgt_b rfl rfl ?_
          dsimp only
          have e_l : trdV i_l j_l c.1 = barV i_l (up (paysF (c.1 (76 + 2 * j_l)) c.1) (40 + 6 * i_l) (gdiv (paysF (c.1 (76 + 2 * j_l)) c.1 (40 + 6 * i_l)) 2)) := by
            unfold trdV trC
            rw [if_neg c0]
          rw [e_l]
      · have ey : aTr (i_l : Int) (j_l : Int) c = (2, 0, c) := by
          unfold aTr
          rw [et, if_pos ⟨hx, hy⟩, if_neg h5]
        rw [if_neg h5, if_pos rfl, ey]
        unfold fb_213_34
        exact ma_thr (by decide) hn h rfl
    · rw [h8] at hy
      have ey : aTr x y c = (1, 0, c) := by
        unfold aTr
        rw [if_neg (fun z_l => hy z_l.2)]
      rw [if_pos rfl, ey]
      unfold fb_213_34
      exact ma_thr (by decide) hn h rfl
  · rw [h8] at hx
    have ey : aTr x y c = (1, 0, c) := by
      unfold aTr
      rw [if_neg (fun z_l => hx z_l.1)]
    rw [if_pos rfl, ey]
    unfold fb_213_34
    exact ma_thr (by decide) hn h rfl
/-- the model's flight -/
theorem ma_214 (hJ : J p s) (h8 : ∀ k, gI s 218 k = c.1 k) (ho : Okc c) (hp : Pok n P) (h : Ms s c n P) : gQ (f_214 217 x s) (Mres s c n P (aFl x c)) := by
  have hg := J_RF hJ
  have hn := hJ.1.1
  have r1_l := (rr_217_1 hg).2
  have jv := Jv hJ
  unfold f_214 f_162
  rw [r1_l]
  refine m_n (by omega) (fun hx => ?_) (fun hx => ?_)
  · rw [h8] at hx
    have h4 := ho.1.1.1.2
    obtain ⟨i_l, rfl⟩ : ∃ i_l : Nat, x = (i_l : Int) := ⟨x.toNat, by omega⟩
    have hi_l : i_l < 6 := by omega
    have et : ((i_l : Nat) : Int).toNat = i_l := Int.toNat_natCast i_l
    rw [if_neg (by decide)]
    refine gQ_w1 (A := fun v_l z_l => v_l = (if c.1 (40 + 6 * i_l + 5) = 0 then 1 else 0) ∧ z_l = s) (v165 r1_l h8 hi_l) (fun v_l z_l hz => ?_)
    obtain ⟨z1, z2⟩ := hz
    rw [z1, z2]
    by_cases h5 : c.1 (40 + 6 * i_l + 5) = 0
    · rw [if_pos h5, if_neg (by decide)]
      refine gQ_w1 (A := fun v_l z_l => v_l = c.1 (40 + 6 * i_l + 4) ∧ z_l = s) (fun r_l hr => by
        obtain ⟨q1_l, q2_l⟩ := v156 (j := 4) r1_l hi_l (by decide) rfl r_l hr
        exact ⟨q1_l.trans (h8 _), q2_l⟩) (fun v_l z_l hz => ?_)
      obtain ⟨z3, z4⟩ := hz
      rw [z3, z4]
      by_cases c1 : 0 < c.1 (40 + 6 * i_l + 4)
      · have ey : aFl (i_l : Int) c = (2, 0, c) := by
          unfold aFl
          rw [et, if_pos hx, if_neg (fun z_l => z_l.2 c1)]
        rw [if_pos c1, ey]
        unfold fb_214_35
        exact ma_thr (by decide) hn h rfl
      · have ey : aFl (i_l : Int) c = (0, c.1 (40 + 6 * i_l), (up c.1 (40 + 6 * i_l + 5) 2, c.2)) := by
          unfold aFl
          rw [et, if_pos hx, if_pos ⟨h5, c1⟩]
          rfl
        rw [if_neg c1, ey]
        unfold fb_214_35
        refine ma_go hg hn ho hp h (fun t_l ht _ => ?_)
        refine gQ_v0 (A := fun u_l => Mst s u_l (up c.1 (40 + 6 * i_l + 5) 2) c.2 (pn n) (psh c P)) (u157 ht hi_l (by decide) (by decide) rfl) (fun s7 h7 => ?_)
        refine gQ_w1 (A := fun v_l z_l => v_l = c.1 (40 + 6 * i_l) ∧ z_l = s7) (fun r_l hr => by
          obtain ⟨q1_l, q2_l⟩ := u156_0 h7 hi_l r_l hr
          exact ⟨q1_l.trans (up_n (by omega)), q2_l⟩) (fun v_l z_l hz => ?_)
        obtain ⟨z5, z6⟩ := hz
        rw [z5, z6]
        exact gQ_ret (ma_end h7 rfl rfl rfl rfl)
    · have ey : aFl (i_l : Int) c = (2, 0, c) := by
        unfold aFl
        rw [et, if_pos hx, if_neg (fun z_l => h5 z_l.1)]
      rw [if_neg h5, if_pos rfl, ey]
      unfold fb_214_35
      exact ma_thr (by decide) hn h rfl
  · rw [h8] at hx
    have ey : aFl x c = (1, 0, c) := by
      unfold aFl
      rw [if_neg hx]
    rw [if_pos rfl, ey]
    unfold fb_214_35
    exact ma_thr (by decide) hn h rfl
/-- the model's sale -/
theorem ma_215 (hJ : J p s) (h8 : ∀ k, gI s 218 k = c.1 k) (ho : Okc c) (hp : Pok n P) (h : Ms s c n P) : gQ (f_215 217 x y v s) (Mres s c n P (aSl x y v c)) := by
  have hg := J_RF hJ
  have hn := hJ.1.1
  have r1_l := (rr_217_1 hg).2
  have jv := Jv hJ
  unfold f_215 f_162 f_164
  rw [r1_l]
  refine m_n (by omega) (fun hx => ?_) (fun hx => ?_)
  · rw [if_neg (by decide)]
    rw [r1_l]
    refine m_n (by omega) (fun hy => ?_) (fun hy => ?_)
    · rw [h8] at hx hy
      have h4 := ho.1.1.1.2
      have hj := (J_Jn hJ h8).2.1.2
      obtain ⟨i_l, rfl⟩ : ∃ i_l : Nat, x = (i_l : Int) := ⟨x.toNat, by omega⟩
      obtain ⟨j_l, rfl⟩ : ∃ j_l : Nat, y = (j_l : Int) := ⟨y.toNat, by omega⟩
      have hi_l : i_l < 6 := by omega
      have hjj : j_l < 6 := by omega
      have et : ((i_l : Nat) : Int).toNat = i_l := Int.toNat_natCast i_l
      have ej : ((j_l : Nat) : Int).toNat = j_l := Int.toNat_natCast j_l
      rw [if_neg (by decide)]
      refine gQ_w1 (A := fun v z_l => v = c.1 (88 + 2 * j_l) ∧ z_l = s) (fun r_l hr => by
        obtain ⟨q1_l, q2_l⟩ := v160 (q := 0) r1_l hjj (by decide) rfl r_l hr
        exact ⟨q1_l.trans (h8 _), q2_l⟩) (fun vv zz hz => ?_)
      obtain ⟨z1, z2⟩ := hz
      rw [z1, z2]
      refine gQ_w1 (A := fun w_l z_l => w_l = (if 0 ≤ v ∧ v ≤ c.1 (88 + 2 * j_l) then 1 else 0) ∧ z_l = s) m_150 (fun w_l z_l hz => ?_)
      obtain ⟨z3, z4⟩ := hz
      rw [z3, z4]
      by_cases hv : 0 ≤ v ∧ v ≤ c.1 (88 + 2 * j_l)
      · rw [if_pos hv, if_neg (by decide)]
        refine gQ_w1 (A := fun v z_l => v = (if c.1 (40 + 6 * i_l + 5) = 0 then 1 else 0) ∧ z_l = s) (v165 r1_l h8 hi_l) (fun vv zz hz => ?_)
        obtain ⟨z5, z6⟩ := hz
        rw [z5, z6]
        by_cases h5 : c.1 (40 + 6 * i_l + 5) = 0
        · rw [if_pos h5, if_neg (by decide)]
          have ey : aSl (i_l : Int) (j_l : Int) v c = (0, min 9999 (g32 (c.1 8 + v)), (slV i_l j_l v c.1, c.2)) := by
            unfold aSl
            rw [et, ej, if_pos ⟨hx, hy⟩, if_pos hv, if_pos h5]
            rfl
          rw [ey]
          unfold fb_215_52
          refine ma_go hg hn ho hp h (fun t_l ht _ => ?_)
          rw [rv hjj 0 (by decide) rfl, rv hjj 1 (by decide) rfl, Int.toNat_natCast, Int.toNat_natCast, show 88 + 2 * j_l + (0 : Int).toNat = 88 + 2 * j_l from rfl, show 88 + 2 * j_l + (1 : Int).toNat = 88 + 2 * j_l + 1 from rfl]
          have rt := (rr_217_1 ht.2.2.1).2
          have d1_l : gI t_l 218 (88 + 2 * j_l) = c.1 (88 + 2 * j_l) := Mst_r ht (KK_v0 hjj)
          refine gQ_chk (gQ_chk ?_)
          dsimp only
          simp only [rgw, rt, d1_l]
          have w1_l := Mst_w (v := g32 (c.1 (88 + 2 * j_l) - v)) ht (k0 := 88 + 2 * j_l) (by omega) (by omega) (mnt_v j_l hjj 0 (by decide))
          generalize gw t_l 218 (88 + 2 * j_l) (g32 (c.1 (88 + 2 * j_l) - v)) = s7 at w1_l ⊢
          refine gQ_chk ?_
          refine gQ_w1 (A := fun v z_l => v = c.1 (40 + 6 * i_l + 3) ∧ z_l = s7) (fun r_l hr => by
            obtain ⟨q1_l, q2_l⟩ := u156 (j := 3) w1_l hi_l (by decide) rfl r_l hr
            exact ⟨q1_l.trans (up_n (by omega)), q2_l⟩) (fun vv zz hz => ?_)
          obtain ⟨y1, y2⟩ := hz
          rw [y1, y2]
          refine gQ_chk ?_
          have d2_l : gI s7 218 (88 + 2 * j_l + 1) = c.1 (88 + 2 * j_l + 1) := (Mst_r w1_l (KK_v (j := 1) hjj (by decide))).trans (up_n (by omega))
          simp only [d2_l]
          have w2_l := Mst_w (v := gor (c.1 (88 + 2 * j_l + 1)) (g32 (gshl 1 (c.1 (40 + 6 * i_l + 3)) - 1))) w1_l (k0 := 88 + 2 * j_l + 1) (by omega) (by omega) (mnt_v j_l hjj 1 (by decide))
          generalize gw s7 218 (88 + 2 * j_l + 1) (gor (c.1 (88 + 2 * j_l + 1)) (g32 (gshl 1 (c.1 (40 + 6 * i_l + 3)) - 1))) = s10 at w2_l ⊢
          have d3_l : gI s10 218 8 = c.1 8 := (Mst_r w2_l KK_c.2.2.2.2.2.1).trans ((up_n (by omega)).trans (up_n (by omega)))
          rw [(rr_217_1 w1_l.2.2.1).2, d3_l]
          refine gQ_w1 (A := fun w_l z_l => w_l = min 9999 (g32 (c.1 8 + v)) ∧ z_l = s10) dm_151 (fun w_l z_l hz => ?_)
          obtain ⟨y3, y4⟩ := hz
          rw [y3, y4]
          have w3_l := Mst_w (v := min 9999 (g32 (c.1 8 + v))) w2_l (k0 := 8) (by decide) (by decide) rfl
          refine gQ_v0 (A := fun u_l => Mst s u_l (slV i_l j_l v c.1) c.2 (pn n) (psh c P)) (u157 (j := 5) w3_l hi_l (by decide) (by decide) rfl) (fun s14 h14 => ?_)
          have d4_l : gI s14 218 8 = min 9999 (g32 (c.1 8 + v)) := by
            refine (Mst_r h14 KK_c.2.2.2.2.2.1).trans ?_
            unfold slV
            rw [up_n (by omega), up_s]
          rw [(rr_217_1 h14.2.2.1).2, d4_l]
          exact gQ_ret (ma_end h14 rfl rfl rfl rfl)
        · have ey : aSl (i_l : Int) (j_l : Int) v c = (3, 0, c) := by
            unfold aSl
            rw [et, ej, if_pos ⟨hx, hy⟩, if_pos hv, if_neg h5]
          rw [if_neg h5, if_pos rfl, ey]
          unfold fb_215_52
          exact ma_thr (by decide) hn h rfl
      · have ey : aSl (i_l : Int) (j_l : Int) v c = (2, 0, c) := by
          unfold aSl
          rw [ej, if_pos ⟨hx, hy⟩, if_neg hv]
        rw [if_neg hv, if_pos rfl, ey]
        unfold fb_215_52
        exact ma_thr (by decide) hn h rfl
    · rw [h8] at hy
      have ey : aSl x y v c = (1, 0, c) := by
        unfold aSl
        rw [if_neg (fun z_l => hy z_l.2)]
      rw [if_pos rfl, ey]
      unfold fb_215_52
      exact ma_thr (by decide) hn h rfl
  · rw [h8] at hx
    have ey : aSl x y v c = (1, 0, c) := by
      unfold aSl
      rw [if_neg (fun z_l => hx z_l.1)]
    rw [if_pos rfl, ey]
    unfold fb_215_52
    exact ma_thr (by decide) hn h rfl
/-- the model's part -/
theorem ma_216 (hJ : J p s) (h8 : ∀ k, gI s 218 k = c.1 k) (ho : Okc c) (hp : Pok n P) (h : Ms s c n P) : gQ (f_216 217 x y s) (Mres s c n P (aPt x y c)) := by
  have hg := J_RF hJ
  have hn := hJ.1.1
  have r1_l := (rr_217_1 hg).2
  have jv := Jv hJ
  unfold f_216 f_161 f_164
  rw [r1_l]
  refine m_n (by omega) (fun hx => ?_) (fun hx => ?_)
  · rw [if_neg (by decide)]
    rw [r1_l]
    refine m_n (by omega) (fun hy => ?_) (fun hy => ?_)
    · rw [h8] at hx hy
      have hj := (J_Jn hJ h8).2.1.2
      obtain ⟨j_l, rfl⟩ : ∃ j_l : Nat, y = (j_l : Int) := ⟨y.toNat, by omega⟩
      have hjj : j_l < 6 := by omega
      have ej : ((j_l : Nat) : Int).toNat = j_l := Int.toNat_natCast j_l
      rw [if_neg (by decide)]
      refine gQ_w1 (A := fun v_l z_l => v_l = c.1 (88 + 2 * j_l + 1) ∧ z_l = s) (fun r_l hr => by
        obtain ⟨q1_l, q2_l⟩ := v160 (q := 1) r1_l hjj (by decide) rfl r_l hr
        exact ⟨q1_l.trans (h8 _), q2_l⟩) (fun v_l z_l hz => ?_)
      obtain ⟨z1, z2⟩ := hz
      rw [z1, z2]
      refine gQ_w1 (A := fun w_l z_l => w_l = (if gand (gshr (c.1 (88 + 2 * j_l + 1)) x) 1 = 1 then 1 else 0) ∧ z_l = s) m_153 (fun w_l z_l hz => ?_)
      obtain ⟨z3, z4⟩ := hz
      rw [z3, z4]
      rcases gand1 (x := gshr (c.1 (88 + 2 * j_l + 1)) x) with c1_l | c1_l
      · rw [c1_l, if_neg (show ¬ (0 : Int) = 1 by decide), if_pos (show (0 : Int) = 0 from rfl)]
        refine gQ_w1 (A := fun v_l z_l => v_l = c.1 (88 + 2 * j_l) ∧ z_l = s) (fun r_l hr => by
          obtain ⟨q1_l, q2_l⟩ := v160 (q := 0) r1_l hjj (by decide) rfl r_l hr
          exact ⟨q1_l.trans (h8 _), q2_l⟩) (fun v_l z_l hz => ?_)
        obtain ⟨z5, z6⟩ := hz
        rw [z5, z6]
        by_cases c2 : c.1 (88 + 2 * j_l) < 20
        · have ey : aPt x (j_l : Int) c = (2, 0, c) := by
            unfold aPt
            rw [ej, if_pos ⟨hx, hy⟩, if_neg (fun z_l => z_l.2 c2)]
          rw [if_pos c2, ey]
          unfold fb_216_50
          exact ma_thr (by decide) hn h rfl
        · have ey : aPt x (j_l : Int) c = (0, gor (c.1 (88 + 2 * j_l + 1)) (gshl 1 x), (ptV x j_l c.1, c.2)) := by
            unfold aPt
            rw [ej, if_pos ⟨hx, hy⟩, if_pos ⟨c1_l, c2⟩]
            rfl
          rw [if_neg c2, ey]
          unfold fb_216_50
          refine ma_go hg hn ho hp h (fun t_l ht _ => ?_)
          rw [rv hjj 0 (by decide) rfl, rv hjj 1 (by decide) rfl, Int.toNat_natCast, Int.toNat_natCast, show 88 + 2 * j_l + (0 : Int).toNat = 88 + 2 * j_l from rfl, show 88 + 2 * j_l + (1 : Int).toNat = 88 + 2 * j_l + 1 from rfl]
          have rt := (rr_217_1 ht.2.2.1).2
          have d1_l : gI t_l 218 (88 + 2 * j_l) = c.1 (88 + 2 * j_l) := Mst_r ht (KK_v0 hjj)
          refine gQ_chk (gQ_chk ?_)
          dsimp only
          simp only [rgw, rt, d1_l]
          have w1_l := Mst_w (v := g32 (c.1 (88 + 2 * j_l) - 20)) ht (k0 := 88 + 2 * j_l) (by omega) (by omega) (mnt_v j_l hjj 0 (by decide))
          generalize gw t_l 218 (88 + 2 * j_l) (g32 (c.1 (88 + 2 * j_l) - 20)) = s7 at w1_l ⊢
          refine gQ_chk (gQ_chk ?_)
          have d2_l : gI s7 218 (88 + 2 * j_l + 1) = c.1 (88 + 2 * j_l + 1) := (Mst_r w1_l (KK_v (j := 1) hjj (by decide))).trans (up_n (by omega))
          simp only [d2_l]
          have w2_l : Mst s (gw s7 218 (88 + 2 * j_l + 1) (gor (c.1 (88 + 2 * j_l + 1)) (gshl 1 x))) (ptV x j_l c.1) c.2 (pn n) (psh c P) := Mst_w w1_l (by omega) (by omega) (mnt_v j_l hjj 1 (by decide))
          generalize gw s7 218 (88 + 2 * j_l + 1) (gor (c.1 (88 + 2 * j_l + 1)) (gshl 1 x)) = s8 at w2_l ⊢
          refine gQ_w1 (A := fun v_l z_l => v_l = gor (c.1 (88 + 2 * j_l + 1)) (gshl 1 x) ∧ z_l = s8) (fun r_l hr => by
            obtain ⟨q1_l, q2_l⟩ := v160 (q := 1) (rr_217_1 w2_l.2.2.1).2 hjj (by decide) rfl r_l hr
            exact ⟨q1_l.trans ((Mst_r w2_l (KK_v (j := 1) hjj (by decide))).trans up_s), q2_l⟩) (fun v_l z_l hz => ?_)
          obtain ⟨y1, y2⟩ := hz
          rw [y1, y2]
          exact gQ_ret (ma_end w2_l rfl rfl rfl rfl)
      · have ey : aPt x (j_l : Int) c = (2, 0, c) := by
          unfold aPt
          rw [ej, if_pos ⟨hx, hy⟩, if_neg (fun z_l => by rw [c1_l] at z_l; exact absurd z_l.1 (by decide))]
        rw [c1_l, if_pos (show (1 : Int) = 1 from rfl), if_neg (show ¬ (1 : Int) = 0 by decide), ey]
        unfold fb_216_50
        exact ma_thr (by decide) hn h rfl
    · rw [h8] at hy
      have ey : aPt x y c = (1, 0, c) := by
        unfold aPt
        rw [if_neg (fun z_l => hy z_l.2)]
      rw [if_pos rfl, ey]
      unfold fb_216_50
      exact ma_thr (by decide) hn h rfl
  · rw [h8] at hx
    have ey : aPt x y c = (1, 0, c) := by
      unfold aPt
      rw [if_neg (fun z_l => hx z_l.1)]
    rw [if_pos rfl, ey]
    unfold fb_216_50
    exact ma_thr (by decide) hn h rfl
/-- the model's payment -/
theorem ma_217 (hJ : J p s) (h8 : ∀ k, gI s 218 k = c.1 k) (ho : Okc c) (hp : Pok n P) (h : Ms s c n P) : gQ (f_217 217 x s) (Mres s c n P (aPy x c)) := by
  have hg := J_RF hJ
  have hn := hJ.1.1
  have r1_l := (rr_217_1 hg).2
  unfold f_217
  rw [r1_l, h8, h8]
  refine gQ_w1 (A := fun w_l z_l => w_l = min (c.1 9) (c.1 8) ∧ z_l = s) dm_151 (fun w_l z_l hz => ?_)
  obtain ⟨z1, z2⟩ := hz
  rw [z1, z2]
  refine gQ_w1 (A := fun w_l z_l => w_l = (if 1 ≤ x ∧ x ≤ min (c.1 9) (c.1 8) then 1 else 0) ∧ z_l = s) m_150 (fun w_l z_l hz => ?_)
  obtain ⟨z3, z4⟩ := hz
  rw [z3, z4]
  by_cases hx : 1 ≤ x ∧ x ≤ min (c.1 9) (c.1 8)
  · have ey : aPy x c = (0, g32 (c.1 9 - x), (up (up c.1 8 (g32 (c.1 8 - x))) 9 (g32 (c.1 9 - x)), c.2)) := if_pos hx
    rw [if_pos hx, if_neg (by decide), ey]
    unfold fb_217_31
    refine ma_go hg hn ho hp h (fun t_l ht _ => ?_)
    have rt := (rr_217_1 ht.2.2.1).2
    have d8_l : gI t_l 218 8 = c.1 8 := Mst_r ht KK_c.2.2.2.2.2.1
    dsimp only
    simp only [rgw, rt, d8_l]
    have w1_l := Mst_w (v := g32 (c.1 8 - x)) ht (k0 := 8) (by decide) (by decide) rfl
    generalize gw t_l 218 8 (g32 (c.1 8 - x)) = s9 at w1_l ⊢
    have d9_l : gI s9 218 9 = c.1 9 := (Mst_r w1_l KK_c.2.2.2.2.2.2.1).trans (up_n (by decide))
    rw [d9_l]
    have w2_l := Mst_w (v := g32 (c.1 9 - x)) w1_l (k0 := 9) (by decide) (by decide) rfl
    refine gQ_ret (ma_end w2_l rfl (rd_same rfl) rfl rfl)
  · have ey : aPy x c = (1, 0, c) := if_neg hx
    rw [if_neg hx, if_pos rfl, ey]
    unfold fb_217_31
    exact ma_thr (by decide) hn h rfl
end Am
