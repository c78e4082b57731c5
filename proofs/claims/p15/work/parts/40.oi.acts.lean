/-! the acts as functions of a court -/
noncomputable def logY (x w : Int) (i : Nat) (V : Nat → Int) (L : Nat → Nat → Int) : gCt := (up V 13 (min 60 (V 13 + 1)), lgL (V 7) x w (V (40 + 6 * i)) L)
noncomputable def trV (i : Nat) (v : Int) (V : Nat → Int) : Nat → Int := up V (40 + 6 * i) (min 99 (g32 (V (40 + 6 * i) + v)))
noncomputable def nlV (i : Nat) (V : Nat → Int) : Nat → Int := up V (40 + 6 * i + 1) (g32 (V (40 + 6 * i + 1) - 1))
noncomputable def barV (i : Nat) (V : Nat → Int) : Nat → Int := if V (40 + 6 * i) < V 10 then up V (40 + 6 * i + 5) 1 else V
noncomputable def pfV (i : Nat) (V : Nat → Int) : Nat → Int := trV i (V 12) (nlV i V)
noncomputable def aPf (x : Int) (c : gCt) : gY := if 0 ≤ x ∧ x < c.1 4 then (if c.1 (40 + 6 * x.toNat + 5) = 0 ∧ c.1 (40 + 6 * x.toNat + 1) ≠ 0 then (0, pfV x.toNat c.1 (40 + 6 * x.toNat), logY x 0 x.toNat (pfV x.toNat c.1) c.2) else (2, 0, c)) else (1, 0, c)
noncomputable def cgt (i j : Nat) (V : Nat → Int) : Int := if gand (V (40 + 6 * i + 2)) (gxor (V (76 + 2 * j + 1)) (-1)) = 0 then 1 else 0
noncomputable def trC (i : Nat) (v : Int) (V : Nat → Int) : Nat → Int := if v = 0 then trV i 5 V else up V (40 + 6 * i) (gdiv (V (40 + 6 * i)) 2)
noncomputable def trdV (i j : Nat) (V : Nat → Int) : Nat → Int := barV i (trC i (cgt i j V) (paysF (V (76 + 2 * j)) V))
noncomputable def aTr (x t : Int) (c : gCt) : gY := if (0 ≤ x ∧ x < c.1 4) ∧ (0 ≤ t ∧ t < c.1 5) then (if c.1 (40 + 6 * x.toNat + 5) = 0 then (0, cgt x.toNat t.toNat c.1, logY x (if cgt x.toNat t.toNat c.1 = 0 then 1 else 2) x.toNat (trdV x.toNat t.toNat c.1) c.2) else (2, 0, c)) else (1, 0, c)
noncomputable def aFl (x : Int) (c : gCt) : gY := if 0 ≤ x ∧ x < c.1 4 then (if c.1 (40 + 6 * x.toNat + 5) = 0 ∧ ¬ 0 < c.1 (40 + 6 * x.toNat + 4) then (0, c.1 (40 + 6 * x.toNat), (up c.1 (40 + 6 * x.toNat + 5) 2, c.2)) else (2, 0, c)) else (1, 0, c)
noncomputable def slV (i j : Nat) (v : Int) (V : Nat → Int) : Nat → Int := up (up (up (up V (88 + 2 * j) (g32 (V (88 + 2 * j) - v))) (88 + 2 * j + 1) (gor (V (88 + 2 * j + 1)) (g32 (gshl 1 (V (40 + 6 * i + 3)) - 1)))) 8 (min 9999 (g32 (V 8 + v)))) (40 + 6 * i + 5) 3
noncomputable def aSl (x r v : Int) (c : gCt) : gY := if (0 ≤ x ∧ x < c.1 4) ∧ (0 ≤ r ∧ r < c.1 6) then (if 0 ≤ v ∧ v ≤ c.1 (88 + 2 * r.toNat) then (if c.1 (40 + 6 * x.toNat + 5) = 0 then (0, min 9999 (g32 (c.1 8 + v)), (slV x.toNat r.toNat v c.1, c.2)) else (3, 0, c)) else (2, 0, c)) else (1, 0, c)
noncomputable def ptV (x : Int) (j : Nat) (V : Nat → Int) : Nat → Int := up (up V (88 + 2 * j) (g32 (V (88 + 2 * j) - 20))) (88 + 2 * j + 1) (gor (V (88 + 2 * j + 1)) (gshl 1 x))
noncomputable def aPt (x r : Int) (c : gCt) : gY := if (0 ≤ x ∧ x < c.1 3) ∧ (0 ≤ r ∧ r < c.1 6) then (if gand (gshr (c.1 (88 + 2 * r.toNat + 1)) x) 1 = 0 ∧ ¬ c.1 (88 + 2 * r.toNat) < 20 then (0, gor (c.1 (88 + 2 * r.toNat + 1)) (gshl 1 x), (ptV x r.toNat c.1, c.2)) else (2, 0, c)) else (1, 0, c)
noncomputable def aPy (x : Int) (c : gCt) : gY := if 1 ≤ x ∧ x ≤ min (c.1 9) (c.1 8) then (0, g32 (c.1 9 - x), (up (up c.1 8 (g32 (c.1 8 - x))) 9 (g32 (c.1 9 - x)), c.2)) else (1, 0, c)
noncomputable def aDy (T : (Nat → Int) → Int) (x : Int) (c : gCt) : gY := if 1 ≤ x ∧ x ≤ 200 then (0, fallD T 1 x.toNat c.1, (daysF T 1 x.toNat c.1, c.2)) else (1, 0, c)
section Ac
variable {g s t u : gS} {V W : Nat → Int} {L : Nat → Nat → Int} {n i j a k : Nat} {P : Nat → gCt} {v x y w d : Int} {c : gCt} {p : gP} {T : (Nat → Int) → Int}
theorem cjm0 (hn : i < 6) : Ci 15 (21 + i) 0 (40 + 6 * i) := cjm hn (by decide)
theorem KK_0 (hi : i < 6) : KK (40 + 6 * i) := KK_m (j := 0) hi (by decide)
theorem cjv0 (hn : i < 6) : Ci 15 17 i (88 + 2 * i) := cjv (j := 0) hn (by decide)
theorem KK_v0 (hi : i < 6) : KK (88 + 2 * i) := KK_v (j := 0) hi (by decide)
theorem mx0 {a b : Int} (ha : 0 ≤ a ∧ a ≤ 99) (hb : 0 ≤ b ∧ b ≤ 50) : max 0 (min 99 (g32 (a + b))) = min 99 (g32 (a + b)) := by
  rw [g32_eq (by omega) (by omega)]
  omega
theorem up_c {b : Nat} (h : a ≠ b) : up (up V a x) b y = up (up V b y) a x := by
  funext q
  unfold up
  by_cases c1 : q = b
  · rw [if_pos c1, if_neg (by omega), if_pos c1]
  · rw [if_neg c1]
    by_cases c2 : q = a
    · rw [if_pos c2, if_pos c2]
    · rw [if_neg c2, if_neg c2, if_neg c1]
theorem trC_n (h : k ≠ 40 + 6 * i) : trC i v V k = V k := by
  unfold trC trV
  split <;> exact up_n h
theorem barV_n (h : k ≠ 40 + 6 * i + 5) : barV i V k = V k := by
  unfold barV
  split
  · exact up_n h
  · rfl
theorem cgt_b : cgt i j V = 0 ∨ cgt i j V = 1 := by
  unfold cgt
  split
  · exact Or.inr rfl
  · exact Or.inl rfl
theorem Cst_26 (h : Cst g s V L n P) : gQ (f_26 15 v s) (fun r => Cst g r.2.2.2 (paysF v V) L n P) := by
  have e6_l : gI s 15 6 = V 8 := Cst_r h cjc.1 KK_c.2.2.2.2.2.1
  have h1 : Cst g (gw s 15 6 (g32 (V 8 - min (V 8) v))) (up V 8 (g32 (V 8 - min (V 8) v))) L n P := Cst_w h cjc.1 (by decide) (by decide)
  have e7_l : gI (gw s 15 6 (g32 (V 8 - min (V 8) v))) 15 7 = V 9 := (Cst_r h1 cjc.2.1 KK_c.2.2.2.2.2.2.1).trans (up_n (by decide))
  unfold f_26
  dsimp only
  rw [e6_l, e7_l]
  exact gQ_ret (Cst_w h1 cjc.2.1 (by decide) (by decide))
/-- the class's proof -/
theorem ca_96 (hJ : J p s) (hR : Rt s) (h8 : ∀ k, gI s 218 k = c.1 k) (ho : Okc c) (hp : Pok n P) (h : Cs s c n P) : gQ (f_96 0 x s) (Cres stA s c n P (aPf x c)) := by
  have hg := J_RF hJ
  have hn := hJ.1.1
  have hj := J_Jn hJ h8
  have hj5 := hj.2.1.1
  have hj6 := hj.2.1.2
  have h4 := ho.1.1.1.2
  unfold f_96
  refine n_gt (by decide) (n_135 hg hR) (fun hx => ?_) (fun hx => ?_)
  · rw [h8] at hx
    obtain ⟨i_l, rfl⟩ : ∃ i_l : Nat, x = (i_l : Int) := ⟨x.toNat, by omega⟩
    have hi_l : i_l < 6 := by omega
    have et : ((i_l : Nat) : Int).toNat = i_l := Int.toNat_natCast i_l
    refine n_gt (by decide) (n_139 hg h (by omega)) (fun h5 => ?_) (fun h5 => ?_)
    · rw [et] at h5
      refine gQ_chk ?_
      dsimp only
      have e1_l : gI s (21 + i_l) 1 = c.1 (40 + 6 * i_l + 1) := rd_ci (C := 15) h.1.1 (cjm hi_l (by decide)) (KK_m hi_l (by decide))
      rw [(rr_0_5 hg).2, (rr_15_0 hg).2, et, rr_16 hg hi_l, e1_l]
      have hn9 := hj.2.2 i_l hi_l
      by_cases c1 : c.1 (40 + 6 * i_l + 1) < 1
      · have ey : aPf (i_l : Int) c = (2, 0, c) := by
          unfold aPf
          rw [et, if_pos hx, if_neg (fun z_l => z_l.2 (by omega))]
        rw [if_pos c1, ey]
        exact gQ_ret (Cres_n hn h rfl (by decide))
      · have ey : aPf (i_l : Int) c = (0, pfV i_l c.1 (40 + 6 * i_l), logY (i_l : Int) 0 i_l (pfV i_l c.1) c.2) := by
          unfold aPf
          rw [et, if_pos hx, if_pos ⟨h5, by omega⟩]
        rw [if_neg c1, ey]
        refine gQ_v0 (A := fun u_l => Cst s u_l c.1 c.2 (pn n) (psh c P)) (Cst_140 hg hn ho hp h) (fun s6_l h6 => ?_)
        have e6_l : gI s6_l (21 + i_l) 1 = c.1 (40 + 6 * i_l + 1) := Cst_r h6 (cjm hi_l (by decide)) (KK_m hi_l (by decide))
        rw [e6_l]
        have h7 : Cst s (gw s6_l (21 + i_l) 1 (g32 (c.1 (40 + 6 * i_l + 1) - 1))) (nlV i_l c.1) c.2 (pn n) (psh c P) := Cst_w h6 (cjm hi_l (by decide)) (by omega) (by omega)
        generalize gw s6_l (21 + i_l) 1 (g32 (c.1 (40 + 6 * i_l + 1) - 1)) = s8 at h7 ⊢
        have v0_l : gI s8 (21 + i_l) 0 = nlV i_l c.1 (40 + 6 * i_l) := Cst_r h7 (cjm0 hi_l) (KK_0 hi_l)
        have v9 : gI s8 9 9 = c.1 12 := (Cst_r h7 cjb.1 KK_c.2.2.2.2.2.2.2.2.2.1).trans (up_n (by omega))
        have t0_l : nlV i_l c.1 (40 + 6 * i_l) = c.1 (40 + 6 * i_l) := up_n (by omega)
        have hb0 := (ho.1.1.2.1 i_l hi_l).1
        rw [(rr_0_4 h7.2.2).2, v9]
        refine gQ_v0 (A := fun u_l => Cst s u_l (pfV i_l c.1) c.2 (pn n) (psh c P)) (fun r_l hr => ?_) (fun s9 h9 => ?_)
        · have hq := q_60 r_l hr
          rw [v0_l, mx0 (by rw [t0_l]; exact hb0) hj.1] at hq
          show Cst s r_l.2.2.2 _ _ _ _
          rw [hq]
          exact Cst_w h7 (cjm0 hi_l) (by omega) (by omega)
        · have d8_l : gI s9 15 8 = pfV i_l c.1 7 := Cst_r h9 cjc.2.2.1 KK_c.2.2.2.2.1
          have d0_l : gI s9 (21 + i_l) 0 = pfV i_l c.1 (40 + 6 * i_l) := Cst_r h9 (cjm0 hi_l) (KK_0 hi_l)
          have t13 : pfV i_l c.1 13 = c.1 13 := (up_n (by omega)).trans (up_n (by omega))
          rw [(rr_0_5 h9.2.2).2, (rr_15_3 h9.2.2).2, d8_l, d0_l]
          refine gQ_v0 (A := fun u_l => Cst s u_l (up (pfV i_l c.1) 13 (min 60 (pfV i_l c.1 13 + 1))) (lgL (pfV i_l c.1 7) (i_l : Int) 0 (pfV i_l c.1 (40 + 6 * i_l)) c.2) (pn n) (psh c P)) (Cst_55 h9 (by rw [t13]; exact ho.2)) (fun s11 h11 => ?_)
          refine gQ_ret ⟨h11.2.1, rfl, fun _ => ⟨?_, h11.1⟩, fun z_l => absurd rfl z_l⟩
          exact (Cst_r h11 (cjm0 hi_l) (KK_0 hi_l)).trans (up_n (by omega))
    · have ey : aPf (i_l : Int) c = (2, 0, c) := by
        unfold aPf
        rw [if_pos hx, if_neg (fun z_l => h5 z_l.1)]
      rw [ey]
      exact Cres_n hn h rfl (by decide)
  · rw [h8] at hx
    have ey : aPf x c = (1, 0, c) := by
      unfold aPf
      rw [if_neg hx]
    rw [ey]
    exact Cres_n hn h rfl (by decide)
/-- the class's test of a man -/
theorem ca_97t (h : Cst g s V L n P) (hi : i < 6) (h13 : 0 ≤ V 13 ∧ V 13 ≤ 60) (hv : v = 0 ∨ v = 1) : gQ (fb_97_82 0 (i : Int) (21 + i) v s) (fun r => (r.1 = 1 ∧ r.2.1 = v) ∧ Cst g r.2.2.2 (logY (i : Int) (if v = 0 then 1 else 2) i (barV i V) L).1 (logY (i : Int) (if v = 0 then 1 else 2) i (barV i V) L).2 n P) := by
  have fin_l : ∀ (z_l : gS), Cst g z_l (barV i V) L n P → gQ (fb_97_101 0 (i : Int) (21 + i) v z_l) (fun r => (r.1 = 1 ∧ r.2.1 = v) ∧ Cst g r.2.2.2 (logY (i : Int) (if v = 0 then 1 else 2) i (barV i V) L).1 (logY (i : Int) (if v = 0 then 1 else 2) i (barV i V) L).2 n P) := fun z_l hz => by
    have d8_l : gI z_l 15 8 = barV i V 7 := Cst_r hz cjc.2.2.1 KK_c.2.2.2.2.1
    have d0_l : gI z_l (21 + i) 0 = barV i V (40 + 6 * i) := Cst_r hz (cjm0 hi) (KK_0 hi)
    have t13 : barV i V 13 = V 13 := barV_n (by omega)
    unfold fb_97_101
    rw [(rr_0_5 hz.2.2).2, (rr_15_3 hz.2.2).2, d8_l]
    by_cases c0 : v = 0
    · rw [if_pos c0, if_pos c0]
      unfold fb_97_126
      rw [d0_l]
      refine gQ_v0 (A := fun u_l => Cst g u_l (up (barV i V) 13 (min 60 (barV i V 13 + 1))) (lgL (barV i V 7) (i : Int) 1 (barV i V (40 + 6 * i)) L) n P) (Cst_55 hz (by rw [t13]; exact h13)) (fun u_l hu => ?_)
      exact gQ_bool (gQ_ret ⟨⟨rfl, rfl⟩, hu⟩)
    · rw [if_neg c0, if_neg c0]
      unfold fb_97_126
      rw [d0_l]
      refine gQ_v0 (A := fun u_l => Cst g u_l (up (barV i V) 13 (min 60 (barV i V 13 + 1))) (lgL (barV i V 7) (i : Int) 2 (barV i V (40 + 6 * i)) L) n P) (Cst_55 hz (by rw [t13]; exact h13)) (fun u_l hu => ?_)
      exact gQ_bool (gQ_ret ⟨⟨rfl, rfl⟩, hu⟩)
  have d0_l : gI s (21 + i) 0 = V (40 + 6 * i) := Cst_r h (cjm0 hi) (KK_0 hi)
  have d7_l : gI s 9 7 = V 10 := Cst_r h cjb.2.1 KK_c.2.2.2.2.2.2.2.1
  unfold fb_97_82
  dsimp only
  rw [(rr_0_4 h.2.2).2, d0_l, d7_l]
  by_cases c1 : V (40 + 6 * i) < V 10
  · rw [if_pos c1]
    refine fin_l _ ?_
    have e_l : barV i V = up V (40 + 6 * i + 5) 1 := if_pos c1
    rw [e_l]
    exact Cst_w h (cjm hi (by decide)) (by omega) (by omega)
  · rw [if_neg c1]
    refine fin_l _ ?_
    have e_l : barV i V = V := if_neg c1
    rw [e_l]
    exact h
theorem ca_97 (hJ : J p s) (hR : Rt s) (h8 : ∀ k, gI s 218 k = c.1 k) (ho : Okc c) (hp : Pok n P) (h : Cs s c n P) : gQ (f_97 0 x y s) (Cres stA s c n P (aTr x y c)) := by
  have hg := J_RF hJ
  have hn := hJ.1.1
  have hj := J_Jn hJ h8
  have hj5 := hj.2.1.1
  have hj6 := hj.2.1.2
  have h4 := ho.1.1.1.2
  unfold f_97
  refine n_gt (by decide) (n_135 hg hR) (fun hx => ?_) (fun hx => ?_)
  · rw [h8] at hx
    refine n_gt (by decide) (n_136 hg hR) (fun hy => ?_) (fun hy => ?_)
    · rw [h8] at hy
      obtain ⟨i_l, rfl⟩ : ∃ i_l : Nat, x = (i_l : Int) := ⟨x.toNat, by omega⟩
      obtain ⟨j_l, rfl⟩ : ∃ j_l : Nat, y = (j_l : Int) := ⟨y.toNat, by omega⟩
      have hi_l : i_l < 6 := by omega
      have hjj : j_l < 6 := by omega
      have et : ((i_l : Nat) : Int).toNat = i_l := Int.toNat_natCast i_l
      have ej : ((j_l : Nat) : Int).toNat = j_l := Int.toNat_natCast j_l
      refine n_gt (by decide) (n_139 hg h (by omega)) (fun h5 => ?_) (fun h5 => ?_)
      · rw [et] at h5
        have ey : aTr (i_l : Int) (j_l : Int) c = (0, cgt i_l j_l c.1, logY (i_l : Int) (if cgt i_l j_l c.1 = 0 then 1 else 2) i_l (trdV i_l j_l c.1) c.2) := by
          unfold aTr
          rw [et, ej, if_pos ⟨hx, hy⟩, if_pos h5]
        rw [ey]
        refine gQ_v0 (A := fun u_l => Cst s u_l c.1 c.2 (pn n) (psh c P)) (Cst_140 hg hn ho hp h) (fun s7 h7 => ?_)
        refine gQ_chk ?_
        have e7_l : gI s7 13 j_l = c.1 (76 + 2 * j_l) := Cst_r h7 (cjt (j := 0) hjj (by decide)) (KK_t (j := 0) hjj (by decide))
        rw [(rr_0_5 h7.2.2).2, (rr_0_4 h7.2.2).2, (rr_9 h7.2.2).2.2.2.1, ej, e7_l]
        refine gQ_v0 (A := fun u_l => Cst s u_l (paysF (c.1 (76 + 2 * j_l)) c.1) c.2 (pn n) (psh c P)) (Cst_26 h7) (fun s9 h9 => ?_)
        refine gQ_chk ?_
        dsimp only
        have pw : ∀ k, k ≠ 8 → k ≠ 9 → paysF (c.1 (76 + 2 * j_l)) c.1 k = c.1 k := fun k a_l b_l => pays_n ⟨a_l, b_l⟩
        have v2 : gI s9 (21 + i_l) 2 = c.1 (40 + 6 * i_l + 2) := (Cst_r h9 (cjm hi_l (by decide)) (KK_m hi_l (by decide))).trans (pw _ (by omega) (by omega))
        have vt : gI s9 14 j_l = c.1 (76 + 2 * j_l + 1) := (Cst_r h9 (cjt (j := 1) hjj (by decide)) (KK_t (j := 1) hjj (by decide))).trans (pw _ (by omega) (by omega))
        have q13_l : ∀ v_l, trC i_l v_l (paysF (c.1 (76 + 2 * j_l)) c.1) 13 = c.1 13 := fun v_l => (trC_n (by omega)).trans (pw _ (by decide) (by decide))
        rw [(rr_0_5 h9.2.2).2, (rr_15_0 h9.2.2).2, et, rr_16 h9.2.2 hi_l, (rr_0_4 h9.2.2).2, v2]
        have q4_l : gQ (f_4 9 ((j_l : Nat) : Int) (c.1 (40 + 6 * i_l + 2)) s9) (fun r_l => r_l.2.1 = cgt i_l j_l c.1 ∧ r_l.2.2.2 = s9) := by
          unfold f_4
          rw [(rr_9 h9.2.2).2.2.2.2, ej, vt]
          refine gQ_chk ?_
          unfold cgt
          by_cases c1 : gand (c.1 (40 + 6 * i_l + 2)) (gxor (c.1 (76 + 2 * j_l + 1)) (-1)) = 0
          · rw [if_pos c1, if_pos c1]
            exact gQ_ret ⟨rfl, rfl⟩
          · rw [if_neg c1, if_neg c1]
            exact gQ_ret ⟨rfl, rfl⟩
        refine gQ_w1 (A := fun v_l z_l => v_l = cgt i_l j_l c.1 ∧ z_l = s9) q4_l (fun v13 s12 h12 => ?_)
        obtain ⟨w1_l, w2_l⟩ := h12
        rw [w1_l, w2_l]
        have d0_l : gI s9 (21 + i_l) 0 = paysF (c.1 (76 + 2 * j_l)) c.1 (40 + 6 * i_l) := Cst_r h9 (cjm0 hi_l) (KK_0 hi_l)
        have hb0 := (ho.1.1.2.1 i_l hi_l).1
        have fin_l : ∀ z_l, Cst s z_l (trC i_l (cgt i_l j_l c.1) (paysF (c.1 (76 + 2 * j_l)) c.1)) c.2 (pn n) (psh c P) → gQ (fb_97_82 0 (i_l : Int) (21 + i_l) (cgt i_l j_l c.1) z_l) (Cres stA s c n P (0, cgt i_l j_l c.1, logY (i_l : Int) (if cgt i_l j_l c.1 = 0 then 1 else 2) i_l (trdV i_l j_l c.1) c.2)) := fun z_l hz r_l hr => by
          obtain ⟨⟨r1_l, r2⟩, r3⟩ := ca_97t hz hi_l (by rw [q13_l]; exact ho.2) cgt_b r_l hr
          refine ⟨r3.2.1, by rw [r1_l]; rfl, fun _ => ⟨r2, r3.1⟩, fun z_l => absurd rfl z_l⟩
        by_cases c0 : cgt i_l j_l c.1 = 0
        · rw [if_pos c0]
          refine gQ_v0 (A := fun u_l => Cst s u_l (trC i_l (cgt i_l j_l c.1) (paysF (c.1 (76 + 2 * j_l)) c.1)) c.2 (pn n) (psh c P)) (fun r_l hr => ?_) (fun z_l hz => fin_l z_l hz)
          have hq := q_60 r_l hr
          rw [d0_l, mx0 (by rw [pw _ (by omega) (by omega)]; exact hb0) (by decide)] at hq
          have e_l : trC i_l (cgt i_l j_l c.1) (paysF (c.1 (76 + 2 * j_l)) c.1) = trV i_l 5 (paysF (c.1 (76 + 2 * j_l)) c.1) := if_pos c0
          show Cst s r_l.2.2.2 _ _ _ _
          rw [hq, e_l]
          exact Cst_w h9 (cjm0 hi_l) (by omega) (by omega)
        · rw [if_neg c0, d0_l]
          refine fin_l _ ?_
          have e_l : trC i_l (cgt i_l j_l c.1) (paysF (c.1 (76 + 2 * j_l)) c.1) = up (paysF (c.1 (76 + 2 * j_l)) c.1) (40 + 6 * i_l) (gdiv (paysF (c.1 (76 + 2 * j_l)) c.1 (40 + 6 * i_l)) 2) := if_neg c0
          rw [e_l]
          exact Cst_w h9 (cjm0 hi_l) (by omega) (by omega)
      · have ey : aTr (i_l : Int) (j_l : Int) c = (2, 0, c) := by
          unfold aTr
          rw [if_pos ⟨hx, hy⟩, if_neg h5]
        rw [ey]
        exact Cres_n hn h rfl (by decide)
    · rw [h8] at hy
      have ey : aTr x y c = (1, 0, c) := by
        unfold aTr
        rw [if_neg (fun z_l => hy z_l.2)]
      rw [ey]
      exact Cres_n hn h rfl (by decide)
  · rw [h8] at hx
    have ey : aTr x y c = (1, 0, c) := by
      unfold aTr
      rw [if_neg (fun z_l => hx z_l.1)]
    rw [ey]
    exact Cres_n hn h rfl (by decide)
/-- the class's flight -/
theorem ca_98 (hJ : J p s) (hR : Rt s) (h8 : ∀ k, gI s 218 k = c.1 k) (ho : Okc c) (hp : Pok n P) (h : Cs s c n P) : gQ (f_98 0 x s) (Cres stA s c n P (aFl x c)) := by
  have hg := J_RF hJ
  have hn := hJ.1.1
  have h4 := ho.1.1.1.2
  unfold f_98
  refine n_gt (by decide) (n_135 hg hR) (fun hx => ?_) (fun hx => ?_)
  · rw [h8] at hx
    obtain ⟨i_l, rfl⟩ : ∃ i_l : Nat, x = (i_l : Int) := ⟨x.toNat, by omega⟩
    have hi_l : i_l < 6 := by omega
    have et : ((i_l : Nat) : Int).toNat = i_l := Int.toNat_natCast i_l
    refine n_gt (by decide) (n_139 hg h (by omega)) (fun h5 => ?_) (fun h5 => ?_)
    · rw [et] at h5
      refine gQ_chk ?_
      dsimp only
      have e1_l : gI s (21 + i_l) 4 = c.1 (40 + 6 * i_l + 4) := rd_ci (C := 15) h.1.1 (cjm hi_l (by decide)) (KK_m hi_l (by decide))
      rw [(rr_0_5 hg).2, (rr_15_0 hg).2, et, rr_16 hg hi_l, e1_l]
      by_cases c1 : 0 < c.1 (40 + 6 * i_l + 4)
      · have ey : aFl (i_l : Int) c = (2, 0, c) := by
          unfold aFl
          rw [et, if_pos hx, if_neg (fun z_l => z_l.2 c1)]
        rw [if_pos c1, ey]
        exact gQ_ret (Cres_n hn h rfl (by decide))
      · have ey : aFl (i_l : Int) c = (0, c.1 (40 + 6 * i_l), (up c.1 (40 + 6 * i_l + 5) 2, c.2)) := by
          unfold aFl
          rw [et, if_pos hx, if_pos ⟨h5, c1⟩]
          rfl
        rw [if_neg c1, ey]
        refine gQ_v0 (A := fun u_l => Cst s u_l c.1 c.2 (pn n) (psh c P)) (Cst_140 hg hn ho hp h) (fun s6_l h6 => ?_)
        have h7 : Cst s (gw s6_l (21 + i_l) 5 2) (up c.1 (40 + 6 * i_l + 5) 2) c.2 (pn n) (psh c P) := Cst_w h6 (cjm hi_l (by decide)) (by omega) (by omega)
        refine gQ_ret ⟨h7.2.1, rfl, fun _ => ⟨?_, h7.1⟩, fun z_l => absurd rfl z_l⟩
        exact (Cst_r h7 (cjm0 hi_l) (KK_0 hi_l)).trans (up_n (by omega))
    · have ey : aFl (i_l : Int) c = (2, 0, c) := by
        unfold aFl
        rw [if_pos hx, if_neg (fun z_l => h5 z_l.1)]
      rw [ey]
      exact Cres_n hn h rfl (by decide)
  · rw [h8] at hx
    have ey : aFl x c = (1, 0, c) := by
      unfold aFl
      rw [if_neg hx]
    rw [ey]
    exact Cres_n hn h rfl (by decide)
/-- the class's sale -/
theorem ca_99 (hJ : J p s) (hR : Rt s) (h8 : ∀ k, gI s 218 k = c.1 k) (ho : Okc c) (hp : Pok n P) (h : Cs s c n P) : gQ (f_99 0 x y v s) (Cres stB s c n P (aSl x y v c)) := by
  have hg := J_RF hJ
  have hn := hJ.1.1
  have hj := J_Jn hJ h8
  have hj5 := hj.2.1.1
  have hj6 := hj.2.1.2
  have h4 := ho.1.1.1.2
  unfold f_99
  refine n_gt (by decide) (n_135 hg hR) (fun hx => ?_) (fun hx => ?_)
  · rw [h8] at hx
    refine n_gt (by decide) (n_137 hg hR) (fun hy => ?_) (fun hy => ?_)
    · rw [h8] at hy
      obtain ⟨i_l, rfl⟩ : ∃ i_l : Nat, x = (i_l : Int) := ⟨x.toNat, by omega⟩
      obtain ⟨j_l, rfl⟩ : ∃ j_l : Nat, y = (j_l : Int) := ⟨y.toNat, by omega⟩
      have hi_l : i_l < 6 := by omega
      have hjj : j_l < 6 := by omega
      have et : ((i_l : Nat) : Int).toNat = i_l := Int.toNat_natCast i_l
      have ej : ((j_l : Nat) : Int).toNat = j_l := Int.toNat_natCast j_l
      refine gQ_chk ?_
      have e7_l : gI s 17 j_l = c.1 (88 + 2 * j_l) := rd_ci (C := 15) h.1.1 (cjv0 hjj) (KK_v0 hjj)
      rw [(rr_0_5 hg).2, (rr_15_1 hg).2, ej, e7_l]
      refine n_gt (by decide) n_138 (fun hv => ?_) (fun hv => ?_)
      · refine n_gt (by decide) (n_139 hg h (by omega)) (fun h5 => ?_) (fun h5 => ?_)
        · rw [et] at h5
          have ey : aSl (i_l : Int) (j_l : Int) v c = (0, min 9999 (g32 (c.1 8 + v)), (slV i_l j_l v c.1, c.2)) := by
            unfold aSl
            rw [et, ej, if_pos ⟨hx, hy⟩, if_pos hv, if_pos h5]
            rfl
          rw [ey]
          refine gQ_v0 (A := fun u_l => Cst s u_l c.1 c.2 (pn n) (psh c P)) (Cst_140 hg hn ho hp h) (fun s9 h9 => ?_)
          refine gQ_chk ?_
          dsimp only
          refine gQ_chk (gQ_chk ?_)
          have r9 := h9.2.2
          have d1_l : gI s9 17 j_l = c.1 (88 + 2 * j_l) := Cst_r h9 (cjv0 hjj) (KK_v0 hjj)
          simp only [rgw, (rr_0_5 r9).2, (rr_15_0 r9).2, (rr_15_1 r9).2, (rr_15_2 r9).2, et, ej, rr_16 r9 hi_l, d1_l]
          have w1_l : Cst s (gw s9 17 j_l (g32 (c.1 (88 + 2 * j_l) - v))) (up c.1 (88 + 2 * j_l) (g32 (c.1 (88 + 2 * j_l) - v))) c.2 (pn n) (psh c P) := Cst_w h9 (cjv0 hjj) (by omega) (by omega)
          generalize gw s9 17 j_l (g32 (c.1 (88 + 2 * j_l) - v)) = s12 at w1_l ⊢
          have d2_l : gI s12 15 6 = c.1 8 := (Cst_r w1_l cjc.1 KK_c.2.2.2.2.2.1).trans (up_n (by omega))
          rw [d2_l]
          have w2_l := Cst_w (v := min 9999 (g32 (c.1 8 + v))) w1_l cjc.1 (by decide) (by decide)
          generalize gw s12 15 6 (min 9999 (g32 (c.1 8 + v))) = s13 at w2_l ⊢
          refine gQ_chk (gQ_chk ?_)
          have d3_l : gI s13 18 j_l = c.1 (88 + 2 * j_l + 1) := (Cst_r w2_l (cjv (j := 1) hjj (by decide)) (KK_v (j := 1) hjj (by decide))).trans ((up_n (by omega)).trans (up_n (by omega)))
          have d4_l : gI s13 (21 + i_l) 3 = c.1 (40 + 6 * i_l + 3) := (Cst_r w2_l (cjm hi_l (by decide)) (KK_m hi_l (by decide))).trans ((up_n (by omega)).trans (up_n (by omega)))
          rw [d3_l, d4_l]
          have w3_l := Cst_w (v := gor (c.1 (88 + 2 * j_l + 1)) (g32 (gshl 1 (c.1 (40 + 6 * i_l + 3)) - 1))) w2_l (cjv (j := 1) hjj (by decide)) (by omega) (by omega)
          have w4_l := Cst_w (v := 3) w3_l (cjm (j := 5) hi_l (by decide)) (by omega) (by omega)
          have eV : up (up (up (up c.1 (88 + 2 * j_l) (g32 (c.1 (88 + 2 * j_l) - v))) 8 (min 9999 (g32 (c.1 8 + v)))) (88 + 2 * j_l + 1) (gor (c.1 (88 + 2 * j_l + 1)) (g32 (gshl 1 (c.1 (40 + 6 * i_l + 3)) - 1)))) (40 + 6 * i_l + 5) 3 = slV i_l j_l v c.1 := by
            unfold slV
            rw [up_c (a := 8) (b := 88 + 2 * j_l + 1) (by omega)]
          rw [eV] at w4_l
          refine gQ_ret ⟨w4_l.2.1, rfl, fun _ => ⟨?_, w4_l.1⟩, fun z_l => absurd rfl z_l⟩
          refine (Cst_r w4_l cjc.1 KK_c.2.2.2.2.2.1).trans ?_
          unfold slV
          rw [up_n (by omega), up_s]
        · have ey : aSl (i_l : Int) (j_l : Int) v c = (3, 0, c) := by
            unfold aSl
            rw [ej, if_pos ⟨hx, hy⟩, if_pos hv, if_neg h5]
          rw [ey]
          exact Cres_n hn h rfl (by decide)
      · have ey : aSl (i_l : Int) (j_l : Int) v c = (2, 0, c) := by
          unfold aSl
          rw [ej, if_pos ⟨hx, hy⟩, if_neg hv]
        rw [ey]
        exact Cres_n hn h rfl (by decide)
    · rw [h8] at hy
      have ey : aSl x y v c = (1, 0, c) := by
        unfold aSl
        rw [if_neg (fun z_l => hy z_l.2)]
      rw [ey]
      exact Cres_n hn h rfl (by decide)
  · rw [h8] at hx
    have ey : aSl x y v c = (1, 0, c) := by
      unfold aSl
      rw [if_neg (fun z_l => hx z_l.1)]
    rw [ey]
    exact Cres_n hn h rfl (by decide)
/-- the class's part -/
theorem ca_100 (hJ : J p s) (hR : Rt s) (h8 : ∀ k, gI s 218 k = c.1 k) (ho : Okc c) (hp : Pok n P) (h : Cs s c n P) : gQ (f_100 0 x y s) (Cres stA s c n P (aPt x y c)) := by
  have hg := J_RF hJ
  have hn := hJ.1.1
  have hj := J_Jn hJ h8
  have hj5 := hj.2.1.1
  have hj6 := hj.2.1.2
  unfold f_100
  refine n_gt (by decide) (n_134 hg hR) (fun hx => ?_) (fun hx => ?_)
  · rw [h8] at hx
    refine n_gt (by decide) (n_137 hg hR) (fun hy => ?_) (fun hy => ?_)
    · rw [h8] at hy
      obtain ⟨j_l, rfl⟩ : ∃ j_l : Nat, y = (j_l : Int) := ⟨y.toNat, by omega⟩
      have hjj : j_l < 6 := by omega
      have ej : ((j_l : Nat) : Int).toNat = j_l := Int.toNat_natCast j_l
      refine gQ_chk ?_
      have e7_l : gI s 17 j_l = c.1 (88 + 2 * j_l) := rd_ci (C := 15) h.1.1 (cjv0 hjj) (KK_v0 hjj)
      have e8 : gI s 18 j_l = c.1 (88 + 2 * j_l + 1) := rd_ci (C := 15) h.1.1 (cjv (j := 1) hjj (by decide)) (KK_v (j := 1) hjj (by decide))
      rw [(rr_0_5 hg).2, (rr_15_1 hg).2, (rr_15_2 hg).2, ej, e7_l, e8]
      by_cases c1 : gand (gshr (c.1 (88 + 2 * j_l + 1)) x) 1 = 0
      · rw [if_pos c1]
        refine gQ_chk ?_
        by_cases c2 : c.1 (88 + 2 * j_l) < 20
        · have ey : aPt x (j_l : Int) c = (2, 0, c) := by
            unfold aPt
            rw [ej, if_pos ⟨hx, hy⟩, if_neg (fun z_l => z_l.2 c2)]
          rw [if_pos c2, ey]
          unfold fb_100_40
          exact gQ_ret (Cres_n hn h rfl (by decide))
        · have ey : aPt x (j_l : Int) c = (0, gor (c.1 (88 + 2 * j_l + 1)) (gshl 1 x), (ptV x j_l c.1, c.2)) := by
            unfold aPt
            rw [ej, if_pos ⟨hx, hy⟩, if_pos ⟨c1, c2⟩]
            rfl
          rw [if_neg c2, ey]
          refine gQ_v0 (A := fun u_l => Cst s u_l c.1 c.2 (pn n) (psh c P)) (Cst_140 hg hn ho hp h) (fun s5 h5 => ?_)
          refine gQ_chk (gQ_chk ?_)
          dsimp only
          have r5_l := h5.2.2
          have d1_l : gI s5 17 j_l = c.1 (88 + 2 * j_l) := Cst_r h5 (cjv0 hjj) (KK_v0 hjj)
          simp only [rgw, (rr_0_5 r5_l).2, (rr_15_1 r5_l).2, (rr_15_2 r5_l).2, d1_l]
          have w1_l : Cst s (gw s5 17 j_l (g32 (c.1 (88 + 2 * j_l) - 20))) (up c.1 (88 + 2 * j_l) (g32 (c.1 (88 + 2 * j_l) - 20))) c.2 (pn n) (psh c P) := Cst_w h5 (cjv0 hjj) (by omega) (by omega)
          generalize gw s5 17 j_l (g32 (c.1 (88 + 2 * j_l) - 20)) = s7 at w1_l ⊢
          refine gQ_chk (gQ_chk (gQ_chk ?_))
          have d2_l : gI s7 18 j_l = c.1 (88 + 2 * j_l + 1) := (Cst_r w1_l (cjv (j := 1) hjj (by decide)) (KK_v (j := 1) hjj (by decide))).trans (up_n (by omega))
          rw [d2_l]
          have w2_l : Cst s (gw s7 18 j_l (gor (c.1 (88 + 2 * j_l + 1)) (gshl 1 x))) (ptV x j_l c.1) c.2 (pn n) (psh c P) := Cst_w w1_l (cjv (j := 1) hjj (by decide)) (by omega) (by omega)
          refine gQ_ret ⟨w2_l.2.1, rfl, fun _ => ⟨rd_same rfl, w2_l.1⟩, fun z_l => absurd rfl z_l⟩
      · have ey : aPt x (j_l : Int) c = (2, 0, c) := by
          unfold aPt
          rw [ej, if_pos ⟨hx, hy⟩, if_neg (fun z_l => c1 z_l.1)]
        rw [if_neg c1, ey]
        unfold fb_100_40
        exact gQ_ret (Cres_n hn h rfl (by decide))
    · rw [h8] at hy
      have ey : aPt x y c = (1, 0, c) := by
        unfold aPt
        rw [if_neg (fun z_l => hy z_l.2)]
      rw [ey]
      exact Cres_n hn h rfl (by decide)
  · rw [h8] at hx
    have ey : aPt x y c = (1, 0, c) := by
      unfold aPt
      rw [if_neg (fun z_l => hx z_l.1)]
    rw [ey]
    exact Cres_n hn h rfl (by decide)
/-- the class's payment -/
theorem ca_101 (hJ : J p s) (ho : Okc c) (hp : Pok n P) (h : Cs s c n P) : gQ (f_101 0 x s) (Cres st2 s c n P (aPy x c)) := by
  have hg := J_RF hJ
  have hn := hJ.1.1
  have e8 : gI s 15 6 = c.1 8 := rd_ci (C := 15) h.1.1 cjc.1 KK_c.2.2.2.2.2.1
  have e9_l : gI s 15 7 = c.1 9 := rd_ci (C := 15) h.1.1 cjc.2.1 KK_c.2.2.2.2.2.2.1
  unfold f_101
  rw [(rr_0_5 hg).2, e8, e9_l]
  refine n_gt (by decide) n_138 (fun hx => ?_) (fun hx => ?_)
  · have ey : aPy x c = (0, g32 (c.1 9 - x), (up (up c.1 8 (g32 (c.1 8 - x))) 9 (g32 (c.1 9 - x)), c.2)) := if_pos hx
    rw [ey]
    refine gQ_v0 (A := fun u_l => Cst s u_l c.1 c.2 (pn n) (psh c P)) (Cst_140 hg hn ho hp h) (fun s3_l h3 => ?_)
    dsimp only
    have r3 := h3.2.2
    have d9_l : gI s3_l 15 7 = c.1 9 := Cst_r h3 cjc.2.1 KK_c.2.2.2.2.2.2.1
    simp only [rgw, (rr_0_5 r3).2, d9_l]
    have w1_l := Cst_w (v := g32 (c.1 9 - x)) h3 cjc.2.1 (by decide) (by decide)
    generalize gw s3_l 15 7 (g32 (c.1 9 - x)) = s5 at w1_l ⊢
    have d8_l : gI s5 15 6 = c.1 8 := (Cst_r w1_l cjc.1 KK_c.2.2.2.2.2.1).trans (up_n (by decide))
    rw [d8_l]
    have w2_l := Cst_w (v := g32 (c.1 8 - x)) w1_l cjc.1 (by decide) (by decide)
    rw [up_c (by decide)] at w2_l
    refine gQ_ret ⟨w2_l.2.1, rfl, fun _ => ⟨?_, w2_l.1⟩, fun z_l => absurd rfl z_l⟩
    exact (Cst_r w2_l cjc.2.1 KK_c.2.2.2.2.2.2.1).trans up_s
  · have ey : aPy x c = (1, 0, c) := if_neg hx
    rw [ey]
    exact Cres_n hn h rfl (by decide)
end Ac
