theorem t231 : T 109 231 := ⟨by decide, by decide +kernel⟩
theorem d_276 {q : Int × Int × Int × Int} {s : gS} (_hp : (-1 : Int) ≤ -1 ∧ (-1 : Int) ≤ 0) (h : J (-1, q) s) (_t0 : T 11 0) (_t1 : T 109 231) : gT (f_276 0 231 s) (fun r => r.1 = 1 ∧ True ∧ J (-1, 0, q.2) r.2.2.2) := by
  unfold f_276
  refine gT_c1 (A := fun _ u_l => True ∧ J (-1, 0, q.2) u_l) (B := fun t_l u_l => (t_l = 2 ∨ t_l = 3) ∧ J (-1, 0, q.2) u_l) (d_89 h t11) (fun v2 s1_l h1 => ?_) (fun k_l s1_l hk hB_l => ?_)
  · refine gT_chk (by decide) (by decide) ?_
    exact gT_ret ⟨rfl, trivial, J_wa h1.2 t231 rfl⟩
  · refine gT_ite (fun _ => gT_ret ⟨rfl, trivial, hB_l.2⟩) (fun h0 => ?_)
    refine gT_ite (fun _ => gT_ret ⟨rfl, trivial, hB_l.2⟩) (fun h1 => ?_)
    have := hB_l.1
    omega
theorem gT_v1q {Q : Type} {P : Q → Prop} {z : Option gO} {A B : Int → gS → Prop} {E : Int → gS → Option Q} (h : gT z (fun r => r.1 = 1 ∧ A r.2.1 r.2.2.2)) (h' : gQ z (fun r => B r.2.1 r.2.2.2)) (k : ∀ v s, A v s → B v s → gT (E v s) P) : gT (z.bind (gv1 E)) P := by
  obtain ⟨r, h1, h2, h3⟩ := h
  exact gT_v1 (A := fun v s => A v s ∧ B v s) ⟨r, h1, h2, h3, h' r h1⟩ (fun v s hs => k v s hs.1 hs.2)
theorem gT_v0q {Q : Type} {P : Q → Prop} {z : Option gO} {A B : gS → Prop} {E : gS → Option Q} (h : gT z (fun r => r.1 = 0 ∧ A r.2.2.2)) (h' : gQ z (fun r => B r.2.2.2)) (k : ∀ s, A s → B s → gT (E s) P) : gT (z.bind (gv0 E)) P := by
  obtain ⟨r, h1, h2, h3⟩ := h
  exact gT_v0 (A := fun s => A s ∧ B s) ⟨r, h1, h2, h3, h' r h1⟩ (fun s hs => k s hs.1 hs.2)
def RY (s : gS) : Prop := RX s ∧ Fau s
theorem gcmp_r {x : Int} : gcmp x x = 0 := by
  unfold gcmp
  rw [if_neg (by omega), if_pos rfl]
set_option maxHeartbeats 4000000 in
theorem lw_turn {n : Nat} {sc : Nat → Int} {x4 l i : Int} {s : gS} (hn : n ≤ 3072) (hx : 0 ≤ x4 ∧ x4 ≤ 3072) (hi : i = 0 ∨ i = 1) (hJ : J (-1, l, l, i, i) s) (hR : RY s) : gT (sb_511_23 n sc 0 217 231 x4 s) (Sum.elim (fun z => z.1 = 0 ∧ z.2.1 = 217 ∧ z.2.2.1 = 231 ∧ z.2.2.2.1 = x4 + 6 ∧ x4 + 6 ≤ n ∧ ∃ l i, (i = 0 ∨ i = 1) ∧ J (-1, l, l, i, i) z.2.2.2.2 ∧ RY z.2.2.2.2) (fun r => r.1 = 1 ∧ r.2.1 = 1 ∧ r.2.2.1 = 0)) := by
  have hp : (-1 : Int) ≤ -1 ∧ (-1 : Int) ≤ 0 := by decide
  have g0 := g32_eq (v := (n : Int) - 6) (by omega) (by omega)
  have g1 := g32_eq (v := x4 + 1) (by omega) (by omega)
  have g2 := g32_eq (v := x4 + 2) (by omega) (by omega)
  have g3_l := g32_eq (v := x4 + 3) (by omega) (by omega)
  have g4 := g32_eq (v := x4 + 4) (by omega) (by omega)
  have g5_l := g32_eq (v := x4 + 5) (by omega) (by omega)
  have g6 := g32_eq (v := x4 + 6) (by omega) (by omega)
  unfold sb_511_23
  refine gT_ite (fun _ => gT_map (gT_ret ⟨rfl, rfl, rfl⟩)) (fun hz => ?_)
  refine gT_chk (by omega) (by omega) ?_
  refine gT_ite (fun h1 => ?_) (fun h1n => ?_)
  · exact gT_ret ⟨rfl, rfl, rfl, g6, by omega, ⟨l, i, hi, hJ, ⟨hR.1, hR.2⟩⟩⟩
  refine gT_ite (fun h2 => ?_) (fun h2n => ?_)
  · refine gT_chk (by omega) (by omega) ?_
    refine gT_chk (by omega) (by omega) ?_
    refine gT_chk (by omega) (by omega) ?_
    refine gT_chk (by omega) (by omega) ?_
    refine gT_chk (by omega) (by omega) ?_
    refine gT_v1q (A := fun w9 u9 => (380 < l ∧ w9 = -1 ∧ J (-1, l, l, i, i) u9) ∨ (l ≤ 380 ∧ w9 = l + 20 ∧ J (-1, l + 20, l, i, i) u9)) (B := fun _ u9 => (((380 < l → Rt u9) ∧ (l ≤ 380 → Mfd l (fd5 ((sc ((g32 (x4 + 1)) : Int).toNat)) ((sc ((g32 (x4 + 2)) : Int).toNat)) ((sc ((g32 (x4 + 3)) : Int).toNat)) ((sc ((g32 (x4 + 4)) : Int).toNat)) ((sc ((g32 (x4 + 5)) : Int).toNat))) u9)) ∧ Rx u9) ∧ Fau u9) (c_87 hJ) (gQ_and ((gQ_and (rt_87 hJ hR.1.1) (rx_87 hJ hR.1.2))) (ft_87 hJ hR.2)) (fun v2 s1_l h3 h3Q => ?_)
    obtain ⟨h3R, h3F⟩ := h3Q
    rcases h3 with ⟨h3a, h3b, h3j⟩ | ⟨h3a, h3b, h3j⟩
    · refine gT_chk (by omega) (by omega) ?_
      refine gT_chk (by omega) (by omega) ?_
      refine gT_chk (by omega) (by omega) ?_
      refine gT_chk (by omega) (by omega) ?_
      refine gT_chk (by omega) (by omega) ?_
      refine gT_v1q (A := fun w9 u9 => (380 < l ∧ w9 = -1 ∧ J (-1, l, l, i, i) u9) ∨ (l ≤ 380 ∧ w9 = l + 20 ∧ J (-1, l, l + 20, i, i) u9)) (B := fun _ u9 => (RX u9) ∧ Fau u9) (c_166 h3j) (gQ_and ((gQ_and (rt_166a h3j (by omega) (h3R.1.1 h3a)) (rx_166 h3j h3R.2))) (fm h3j h3F (of_166 h3j.1.2.1 wfi rfl (Jw h3j)))) (fun v4_l s3_l h4 h4Q => ?_)
      obtain ⟨h4R, h4F⟩ := h4Q
      rcases h4 with ⟨h4a, h4b, h4j⟩ | ⟨h4a, h4b, h4j⟩
      · exact gT_ret ⟨rfl, rfl, rfl, g6, by omega, ⟨l, i, hi, h4j, ⟨h4R, h4F⟩⟩⟩
      · omega
    · refine gT_chk (by omega) (by omega) ?_
      refine gT_chk (by omega) (by omega) ?_
      refine gT_chk (by omega) (by omega) ?_
      refine gT_chk (by omega) (by omega) ?_
      refine gT_chk (by omega) (by omega) ?_
      refine gT_v1q (A := fun w9 u9 => (380 < l ∧ w9 = -1 ∧ J (-1, l + 20, l, i, i) u9) ∨ (l ≤ 380 ∧ w9 = l + 20 ∧ J (-1, l + 20, l + 20, i, i) u9)) (B := fun _ u9 => (RX u9) ∧ Fau u9) (c_166 h3j) (gQ_and ((gQ_and (rt_166b h3j (by omega) (h3R.1.2 h3a)) (rx_166 h3j h3R.2))) (fm h3j h3F (of_166 h3j.1.2.1 wfi rfl (Jw h3j)))) (fun v4_l s3_l h5 h5Q => ?_)
      obtain ⟨h5R, h5F⟩ := h5Q
      rcases h5 with ⟨h5a, h5b, h5j⟩ | ⟨h5a, h5b, h5j⟩
      · omega
      · exact gT_ret ⟨rfl, rfl, rfl, g6, by omega, ⟨l + 20, i, hi, h5j, ⟨h5R, h5F⟩⟩⟩
  refine gT_ite (fun h6 => ?_) (fun h6n => ?_)
  · refine gT_chk (by omega) (by omega) ?_
    refine gT_v1q (A := fun w9 u9 => (((sc ((g32 (x4 + 1)) : Int).toNat) < 0 ∨ l < (sc ((g32 (x4 + 1)) : Int).toNat)) ∧ w9 = 0 ∧ J (-1, l, l, i, i) u9) ∨ ((0 ≤ (sc ((g32 (x4 + 1)) : Int).toNat) ∧ (sc ((g32 (x4 + 1)) : Int).toNat) ≤ l) ∧ w9 = 1 ∧ J (-1, (sc ((g32 (x4 + 1)) : Int).toNat), l, i, i) u9)) (B := fun _ u9 => (RX u9) ∧ Fau u9) (c_88 hJ) (gQ_and ((gQ_and (rs_88 hJ hR.1.1) (rx_88 hJ hR.1.2))) (ft_88 hJ hR.2)) (fun v6 s5 h7 h7Q => ?_)
    obtain ⟨h7R, h7F⟩ := h7Q
    rcases h7 with ⟨h7a, h7b, h7j⟩ | ⟨h7a, h7b, h7j⟩
    · refine gT_chk (by omega) (by omega) ?_
      refine gT_v1q (A := fun w9 u9 => (((sc ((g32 (x4 + 1)) : Int).toNat) < 0 ∨ l < (sc ((g32 (x4 + 1)) : Int).toNat)) ∧ w9 = 0 ∧ J (-1, l, l, i, i) u9) ∨ ((0 ≤ (sc ((g32 (x4 + 1)) : Int).toNat) ∧ (sc ((g32 (x4 + 1)) : Int).toNat) ≤ l) ∧ w9 = 1 ∧ J (-1, l, (sc ((g32 (x4 + 1)) : Int).toNat), i, i) u9)) (B := fun _ u9 => (RX u9) ∧ Fau u9) (c_167 h7j) (gQ_and ((gQ_and (rs_167 h7j h7R.1) (rx_167 h7j h7R.2))) (fm h7j h7F (of_167 h7j.1.2.1 wfi rfl (Jw h7j)))) (fun v9 s8 h8 h8Q => ?_)
      obtain ⟨h8R, h8F⟩ := h8Q
      rcases h8 with ⟨h8a, h8b, h8j⟩ | ⟨h8a, h8b, h8j⟩
      · exact gT_ret ⟨rfl, rfl, rfl, g6, by omega, ⟨l, i, hi, h8j, ⟨h8R, h8F⟩⟩⟩
      · omega
    · refine gT_chk (by omega) (by omega) ?_
      refine gT_v1q (A := fun w9 u9 => (((sc ((g32 (x4 + 1)) : Int).toNat) < 0 ∨ l < (sc ((g32 (x4 + 1)) : Int).toNat)) ∧ w9 = 0 ∧ J (-1, (sc ((g32 (x4 + 1)) : Int).toNat), l, i, i) u9) ∨ ((0 ≤ (sc ((g32 (x4 + 1)) : Int).toNat) ∧ (sc ((g32 (x4 + 1)) : Int).toNat) ≤ l) ∧ w9 = 1 ∧ J (-1, (sc ((g32 (x4 + 1)) : Int).toNat), (sc ((g32 (x4 + 1)) : Int).toNat), i, i) u9)) (B := fun _ u9 => (RX u9) ∧ Fau u9) (c_167 h7j) (gQ_and ((gQ_and (rs_167 h7j h7R.1) (rx_167 h7j h7R.2))) (fm h7j h7F (of_167 h7j.1.2.1 wfi rfl (Jw h7j)))) (fun v9 s8 h9 h9Q => ?_)
      obtain ⟨h9R, h9F⟩ := h9Q
      rcases h9 with ⟨h9a, h9b, h9j⟩ | ⟨h9a, h9b, h9j⟩
      · omega
      · exact gT_ret ⟨rfl, rfl, rfl, g6, by omega, ⟨(sc ((g32 (x4 + 1)) : Int).toNat), i, hi, h9j, ⟨h9R, h9F⟩⟩⟩
  refine gT_ite (fun h10 => ?_) (fun h10n => ?_)
  · refine gT_v1q (A := fun w9 u9 => True ∧ J (-1, 0, l, i, i) u9) (B := fun w9 u9 => (Mbo l.toNat w9 u9 ∧ ∀ p9, J p9 u9 → (-1 ≤ p9.1 ∧ p9.1 ≤ 0) → gQ (f_187 217 u9) (fun q_l => ∀ p8, J p8 q_l.2.2.2 → Rx q_l.2.2.2)) ∧ ∀ p9, J p9 u9 → (-1 ≤ p9.1 ∧ p9.1 ≤ 0) → gQ (f_187 217 u9) (fun q_l => Fau q_l.2.2.2)) (d_276 hp hJ t11 t231) (gQ_and ((gQ_and (rb_276 hJ hR.1.1) (ax_276 rfl hJ hR.1.1 hR.1.2))) (fz_276 rfl hJ hR.1.1)) (fun v12 s11 h11 h11Q => ?_)
    obtain ⟨h11R, h11F⟩ := h11Q
    obtain ⟨h11r, h11j⟩ := h11
    refine gT_v1q (A := fun w9 u9 => True ∧ J (-1, 0, 0, i, i) u9) (B := fun w9 u9 => ((Rt u9 ∧ gI u9 217 0 = v12 ∧ (v12 = 0 → gI u9 231 0 = w9)) ∧ ∀ p8, J p8 u9 → Rx u9) ∧ Fau u9) (d_187 hp h11j t12) (gQ_and ((gQ_and (rb_187 hp h11j h11R.1) (h11R.2 _ h11j hp))) (h11F _ h11j hp)) (fun v14 s13 h12 h12Q => ?_)
    obtain ⟨h12R, h12F⟩ := h12Q
    obtain ⟨h12r, h12j⟩ := h12
    have h12K : RX s13 := ⟨h12R.1.1, h12R.2 _ h12j⟩
    exact gT_ret ⟨rfl, rfl, rfl, g6, by omega, ⟨0, i, hi, h12j, ⟨h12K, h12F⟩⟩⟩
  refine gT_ite (fun h13 => ?_) (fun h13n => ?_)
  · refine gT_v1q (A := fun w9 u9 => True ∧ J (-1, 0, l, i, i) u9) (B := fun w9 u9 => (Rt u9 ∧ ∀ p9, J p9 u9 → gQ (f_195 217 u9) (fun q_l => Rx q_l.2.2.2)) ∧ ∀ p9, J p9 u9 → gQ (f_195 217 u9) (fun q_l => Fau q_l.2.2.2)) (d_277 hp hJ t11 t231) (gQ_and ((gQ_and (rs_277 hJ hR.1.1) (ax_277 rfl hJ hR.1.1 hR.1.2))) (fz_277 rfl hJ hR.1.1)) (fun v16 s15 h14 h14Q => ?_)
    obtain ⟨h14R, h14F⟩ := h14Q
    obtain ⟨h14r, h14j⟩ := h14
    refine gT_v1q (A := fun w9 u9 => True ∧ J (-1, 0, 0, i, i) u9) (B := fun _ u9 => (RX u9) ∧ Fau u9) (d_195 hp h14j t12) (gQ_and ((gQ_and (rs_195 h14j h14R.1) (h14R.2 _ h14j))) (h14F _ h14j)) (fun v18 s17 h15 h15Q => ?_)
    obtain ⟨h15R, h15F⟩ := h15Q
    obtain ⟨h15r, h15j⟩ := h15
    exact gT_ret ⟨rfl, rfl, rfl, g6, by omega, ⟨0, i, hi, h15j, ⟨h15R, h15F⟩⟩⟩
  refine gT_ite (fun h16_l => ?_) (fun h16n => ?_)
  · refine gT_v1q (A := fun w9 u9 => True ∧ J (-1, l, l, i, i) u9) (B := fun w9 u9 => (RX u9 ∧ Xc1 (f_196 217) w9 u9) ∧ Fau u9) (d_91 hp hJ t11) (gQ_and ((gQ_and ((gQ_and (rs_91 hJ hR.1.1) (rx_91 hJ hR.1.2))) (xc_91 hJ hR.1 hR.2))) (fq hJ hR.2 (o_91 hJ.1.2.1 cid rfl (Fw_rf hJ.1.1)))) (fun v20 s19 h17 h17Q => ?_)
    obtain ⟨h17R, h17F⟩ := h17Q
    obtain ⟨h17r, h17j⟩ := h17
    refine gT_v1q (A := fun w9 u9 => True ∧ J (-1, l, l, i, i) u9) (B := fun w9 u9 => (RX u9 ∧ w9 = v20) ∧ Fau u9) (d_196 hp h17j t12) (gQ_and ((xc1_m h17j h17R.1 h17R.2 (gQ_and (rs_196 h17j h17R.1.1) (rx_196 h17j h17R.1.2)))) (fm h17j h17F (of_196 h17j.1.2.1 wfi rfl (Jw h17j)))) (fun v22 s21 h18 h18Q => ?_)
    obtain ⟨h18R, h18F⟩ := h18Q
    obtain ⟨h18r, h18j⟩ := h18
    have h18Rq := h18R.2
    refine gT_ite (fun h19 => ?_) (fun h19n => ?_)
    · exact gT_ret ⟨rfl, rfl, rfl, g6, by omega, ⟨l, i, hi, h18j, ⟨h18R.1, h18F⟩⟩⟩
    refine gT_map ?_
    omega
  refine gT_ite (fun h20 => ?_) (fun h20n => ?_)
  · refine gT_chk (by omega) (by omega) ?_
    refine gT_chk (by omega) (by omega) ?_
    refine gT_v1q (A := fun w9 u9 => True ∧ J (-1, l, l, i, i) u9) (B := fun _ u9 => (RX u9) ∧ Fau u9) (d_278 hp hJ t11 t231) (gQ_and ((gQ_and (rs_278 hJ hR.1.1) (rx_278 hJ hR.1.2))) (ft_278 hJ hR.1 hR.2)) (fun v24 s23 h21 h21Q => ?_)
    obtain ⟨h21R, h21F⟩ := h21Q
    obtain ⟨h21r, h21j⟩ := h21
    refine gT_chk (by omega) (by omega) ?_
    refine gT_chk (by omega) (by omega) ?_
    refine gT_v1q (A := fun w9 u9 => True ∧ J (-1, l, l, i, i) u9) (B := fun _ u9 => (RX u9) ∧ Fau u9) (d_203 hp h21j t12) (gQ_and ((gQ_and (rs_203 h21j h21R.1) (rx_203 h21j h21R.2))) (fm h21j h21F (of_203 h21j.1.2.1 wfi rfl (Jw h21j)))) (fun v26 s25 h22 h22Q => ?_)
    obtain ⟨h22R, h22F⟩ := h22Q
    obtain ⟨h22r, h22j⟩ := h22
    exact gT_ret ⟨rfl, rfl, rfl, g6, by omega, ⟨l, i, hi, h22j, ⟨h22R, h22F⟩⟩⟩
  refine gT_ite (fun h23 => ?_) (fun h23n => ?_)
  · refine gT_chk (by omega) (by omega) ?_
    refine gT_chk (by omega) (by omega) ?_
    refine gT_v1q (A := fun w9 u9 => True ∧ J (-1, l, l, i, i) u9) (B := fun _ u9 => (RX u9) ∧ Fau u9) (d_279 hp hJ t11 t231) (gQ_and ((gQ_and (rs_279 hJ hR.1.1) (rx_279 hJ hR.1.2))) (ft_279 hJ hR.1 hR.2)) (fun v28 s27 h24 h24Q => ?_)
    obtain ⟨h24R, h24F⟩ := h24Q
    obtain ⟨h24r, h24j⟩ := h24
    refine gT_chk (by omega) (by omega) ?_
    refine gT_chk (by omega) (by omega) ?_
    refine gT_v1q (A := fun w9 u9 => True ∧ J (-1, l, l, i, i) u9) (B := fun _ u9 => (RX u9) ∧ Fau u9) (d_206 hp h24j t12) (gQ_and ((gQ_and (rs_206 h24j h24R.1) (rx_206 h24j h24R.2))) (fm h24j h24F (of_206 h24j.1.2.1 wfi rfl (Jw h24j)))) (fun v30 s29 h25 h25Q => ?_)
    obtain ⟨h25R, h25F⟩ := h25Q
    obtain ⟨h25r, h25j⟩ := h25
    exact gT_ret ⟨rfl, rfl, rfl, g6, by omega, ⟨l, i, hi, h25j, ⟨h25R, h25F⟩⟩⟩
  refine gT_ite (fun h26 => ?_) (fun h26n => ?_)
  · refine gT_chk (by omega) (by omega) ?_
    refine gT_chk (by omega) (by omega) ?_
    refine gT_ite (fun h27 => ?_) (fun h27n => ?_)
    · unfold fb_511_488
      refine gT_v1q (A := fun w9 u9 => True ∧ J (-1, l, l, i, i) u9) (B := fun _ u9 => (RX u9) ∧ Fau u9) (d_280 hp hJ t11 t231 (show (0 : Int) ≤ 0 ∧ 0 ≤ 1 by constructor <;> omega)) (gQ_and ((gQ_and (rs_280 hJ hR.1.1) (rx_280 hJ hR.1.2))) (ft_280 hJ hR.1 hR.2)) (fun v32 s31 h28 h28Q => ?_)
      obtain ⟨h28R, h28F⟩ := h28Q
      obtain ⟨h28r, h28j⟩ := h28
      refine gT_chk (by omega) (by omega) ?_
      refine gT_chk (by omega) (by omega) ?_
      rw [if_pos h27]
      unfold fb_511_515
      refine gT_v1q (A := fun w9 u9 => True ∧ J (-1, l, l, i, i) u9) (B := fun _ u9 => (RX u9) ∧ Fau u9) (d_207 hp h28j t12 (show (0 : Int) ≤ 0 ∧ 0 ≤ 1 by constructor <;> omega)) (gQ_and ((gQ_and (rs_207 h28j h28R.1) (rx_207 h28j h28R.2))) (fm h28j h28F (of_207 h28j.1.2.1 wfi rfl (Jw h28j)))) (fun v34 s33 h29 h29Q => ?_)
      obtain ⟨h29R, h29F⟩ := h29Q
      obtain ⟨h29r, h29j⟩ := h29
      exact gT_ret ⟨rfl, rfl, rfl, g6, by omega, ⟨l, i, hi, h29j, ⟨h29R, h29F⟩⟩⟩
    unfold fb_511_488
    refine gT_v1q (A := fun w9 u9 => True ∧ J (-1, l, l, i, i) u9) (B := fun _ u9 => (RX u9) ∧ Fau u9) (d_280 hp hJ t11 t231 (show (0 : Int) ≤ 1 ∧ 1 ≤ 1 by constructor <;> omega)) (gQ_and ((gQ_and (rs_280 hJ hR.1.1) (rx_280 hJ hR.1.2))) (ft_280 hJ hR.1 hR.2)) (fun v32 s31 h30 h30Q => ?_)
    obtain ⟨h30R, h30F⟩ := h30Q
    obtain ⟨h30r, h30j⟩ := h30
    refine gT_chk (by omega) (by omega) ?_
    refine gT_chk (by omega) (by omega) ?_
    rw [if_neg h27n]
    unfold fb_511_515
    refine gT_v1q (A := fun w9 u9 => True ∧ J (-1, l, l, i, i) u9) (B := fun _ u9 => (RX u9) ∧ Fau u9) (d_207 hp h30j t12 (show (0 : Int) ≤ 1 ∧ 1 ≤ 1 by constructor <;> omega)) (gQ_and ((gQ_and (rs_207 h30j h30R.1) (rx_207 h30j h30R.2))) (fm h30j h30F (of_207 h30j.1.2.1 wfi rfl (Jw h30j)))) (fun v34 s33 h31 h31Q => ?_)
    obtain ⟨h31R, h31F⟩ := h31Q
    obtain ⟨h31r, h31j⟩ := h31
    exact gT_ret ⟨rfl, rfl, rfl, g6, by omega, ⟨l, i, hi, h31j, ⟨h31R, h31F⟩⟩⟩
  refine gT_ite (fun h32 => ?_) (fun h32n => ?_)
  · refine gT_chk (by omega) (by omega) ?_
    refine gT_chk (by omega) (by omega) ?_
    refine gT_ite (fun h33 => ?_) (fun h33n => ?_)
    · unfold fb_511_544
      refine gT_v1q (A := fun w9 u9 => True ∧ J (-1, l, l, i, i) u9) (B := fun _ u9 => (RX u9) ∧ Fau u9) (d_281 hp hJ t11 t231 (show (0 : Int) ≤ 0 ∧ 0 ≤ 1 by constructor <;> omega)) (gQ_and ((gQ_and (rs_281 hJ hR.1.1) (rx_281 hJ hR.1.2))) (ft_281 hJ hR.1 hR.2)) (fun v36 s35 h34 h34Q => ?_)
      obtain ⟨h34R, h34F⟩ := h34Q
      obtain ⟨h34r, h34j⟩ := h34
      refine gT_chk (by omega) (by omega) ?_
      refine gT_chk (by omega) (by omega) ?_
      rw [if_pos h33]
      unfold fb_511_571
      refine gT_v1q (A := fun w9 u9 => True ∧ J (-1, l, l, i, i) u9) (B := fun _ u9 => (RX u9) ∧ Fau u9) (d_208 hp h34j t12 (show (0 : Int) ≤ 0 ∧ 0 ≤ 1 by constructor <;> omega)) (gQ_and ((gQ_and (rs_208 h34j h34R.1) (rx_208 h34j h34R.2))) (fm h34j h34F (of_208 h34j.1.2.1 wfi rfl (Jw h34j)))) (fun v38 s37 h35 h35Q => ?_)
      obtain ⟨h35R, h35F⟩ := h35Q
      obtain ⟨h35r, h35j⟩ := h35
      exact gT_ret ⟨rfl, rfl, rfl, g6, by omega, ⟨l, i, hi, h35j, ⟨h35R, h35F⟩⟩⟩
    unfold fb_511_544
    refine gT_v1q (A := fun w9 u9 => True ∧ J (-1, l, l, i, i) u9) (B := fun _ u9 => (RX u9) ∧ Fau u9) (d_281 hp hJ t11 t231 (show (0 : Int) ≤ 1 ∧ 1 ≤ 1 by constructor <;> omega)) (gQ_and ((gQ_and (rs_281 hJ hR.1.1) (rx_281 hJ hR.1.2))) (ft_281 hJ hR.1 hR.2)) (fun v36 s35 h36 h36Q => ?_)
    obtain ⟨h36R, h36F⟩ := h36Q
    obtain ⟨h36r, h36j⟩ := h36
    refine gT_chk (by omega) (by omega) ?_
    refine gT_chk (by omega) (by omega) ?_
    rw [if_neg h33n]
    unfold fb_511_571
    refine gT_v1q (A := fun w9 u9 => True ∧ J (-1, l, l, i, i) u9) (B := fun _ u9 => (RX u9) ∧ Fau u9) (d_208 hp h36j t12 (show (0 : Int) ≤ 1 ∧ 1 ≤ 1 by constructor <;> omega)) (gQ_and ((gQ_and (rs_208 h36j h36R.1) (rx_208 h36j h36R.2))) (fm h36j h36F (of_208 h36j.1.2.1 wfi rfl (Jw h36j)))) (fun v38 s37 h37 h37Q => ?_)
    obtain ⟨h37R, h37F⟩ := h37Q
    obtain ⟨h37r, h37j⟩ := h37
    exact gT_ret ⟨rfl, rfl, rfl, g6, by omega, ⟨l, i, hi, h37j, ⟨h37R, h37F⟩⟩⟩
  refine gT_ite (fun h38 => ?_) (fun h38n => ?_)
  · refine gT_chk (by omega) (by omega) ?_
    refine gT_v1q (A := fun w9 u9 => True ∧ J (-1, l, l, i, i) u9) (B := fun w9 u9 => (Rt u9 ∧ Xn (f_211 217 ((sc ((g32 (x4 + 1)) : Int).toNat))) w9 u9) ∧ Fau u9) (d_282 hp hJ t11 t231) (gQ_and ((gQ_and (rs_282 hJ hR.1.1) (ax_282 hJ hR.1.1 hR.1.2))) (ft_282 hJ hR.1 hR.2)) (fun v40 s39 h39 h39Q => ?_)
    obtain ⟨h39R, h39F⟩ := h39Q
    obtain ⟨h39r, h39j⟩ := h39
    refine gT_chk (by omega) (by omega) ?_
    refine gT_v1q (A := fun w9 u9 => True ∧ J (-1, l, l, i, i) u9) (B := fun w9 u9 => (RX u9 ∧ gI u9 217 0 = v40 ∧ (v40 = 0 → gI u9 231 0 = w9)) ∧ Fau u9) (d_211 hp h39j t12) (gQ_and ((xn_m h39j h39R.1 h39R.2 (rs_211 h39j h39R.1))) (fm h39j h39F (of_211 h39j.1.2.1 wfi rfl (Jw h39j)))) (fun v42 s41 h40 h40Q => ?_)
    obtain ⟨h40R, h40F⟩ := h40Q
    obtain ⟨h40r, h40j⟩ := h40
    exact gT_ret ⟨rfl, rfl, rfl, g6, by omega, ⟨l, i, hi, h40j, ⟨h40R.1, h40F⟩⟩⟩
  refine gT_ite (fun h41 => ?_) (fun h41n => ?_)
  · refine gT_chk (by omega) (by omega) ?_
    refine gT_chk (by omega) (by omega) ?_
    refine gT_v1q (A := fun w9 u9 => True ∧ J (-1, l, l, i, i) u9) (B := fun w9 u9 => (Rt u9 ∧ Xn (f_213 217 ((sc ((g32 (x4 + 1)) : Int).toNat)) ((sc ((g32 (x4 + 2)) : Int).toNat))) w9 u9) ∧ Fau u9) (d_283 hp hJ t11 t231) (gQ_and ((gQ_and (rs_283 hJ hR.1.1) (ax_283 hJ hR.1.1 hR.1.2))) (ft_283 hJ hR.1 hR.2)) (fun v44 s43 h42 h42Q => ?_)
    obtain ⟨h42R, h42F⟩ := h42Q
    obtain ⟨h42r, h42j⟩ := h42
    refine gT_chk (by omega) (by omega) ?_
    refine gT_chk (by omega) (by omega) ?_
    refine gT_v1q (A := fun w9 u9 => (0 ≤ w9 ∧ w9 ≤ 1) ∧ J (-1, l, l, i, i) u9) (B := fun w9 u9 => (RX u9 ∧ gI u9 217 0 = v44 ∧ (v44 = 0 → gI u9 231 0 = w9)) ∧ Fau u9) (d_213 hp h42j t12) (gQ_and ((xn_m h42j h42R.1 h42R.2 (rs_213 h42j h42R.1))) (fm h42j h42F (of_213 h42j.1.2.1 wfi rfl (Jw h42j)))) (fun v46 s45 h43 h43Q => ?_)
    obtain ⟨h43R, h43F⟩ := h43Q
    obtain ⟨h43r, h43j⟩ := h43
    exact gT_ret ⟨rfl, rfl, rfl, g6, by omega, ⟨l, i, hi, h43j, ⟨h43R.1, h43F⟩⟩⟩
  refine gT_ite (fun h44 => ?_) (fun h44n => ?_)
  · refine gT_chk (by omega) (by omega) ?_
    refine gT_v1q (A := fun w9 u9 => True ∧ J (-1, l, l, i, i) u9) (B := fun w9 u9 => (Rt u9 ∧ Xn (f_214 217 ((sc ((g32 (x4 + 1)) : Int).toNat))) w9 u9) ∧ Fau u9) (d_284 hp hJ t11 t231) (gQ_and ((gQ_and (rs_284 hJ hR.1.1) (ax_284 hJ hR.1.1 hR.1.2))) (ft_284 hJ hR.1 hR.2)) (fun v49 s48 h45 h45Q => ?_)
    obtain ⟨h45R, h45F⟩ := h45Q
    obtain ⟨h45r, h45j⟩ := h45
    refine gT_chk (by omega) (by omega) ?_
    refine gT_v1q (A := fun w9 u9 => True ∧ J (-1, l, l, i, i) u9) (B := fun w9 u9 => (RX u9 ∧ gI u9 217 0 = v49 ∧ (v49 = 0 → gI u9 231 0 = w9)) ∧ Fau u9) (d_214 hp h45j t12) (gQ_and ((xn_m h45j h45R.1 h45R.2 (rs_214 h45j h45R.1))) (fm h45j h45F (of_214 h45j.1.2.1 wfi rfl (Jw h45j)))) (fun v51 s50 h46 h46Q => ?_)
    obtain ⟨h46R, h46F⟩ := h46Q
    obtain ⟨h46r, h46j⟩ := h46
    exact gT_ret ⟨rfl, rfl, rfl, g6, by omega, ⟨l, i, hi, h46j, ⟨h46R.1, h46F⟩⟩⟩
  refine gT_ite (fun h47 => ?_) (fun h47n => ?_)
  · refine gT_chk (by omega) (by omega) ?_
    refine gT_chk (by omega) (by omega) ?_
    refine gT_chk (by omega) (by omega) ?_
    refine gT_v1q (A := fun w9 u9 => True ∧ J (-1, l, l, i, i) u9) (B := fun w9 u9 => (Rt u9 ∧ Xn (f_215 217 ((sc ((g32 (x4 + 1)) : Int).toNat)) ((sc ((g32 (x4 + 2)) : Int).toNat)) ((sc ((g32 (x4 + 3)) : Int).toNat))) w9 u9) ∧ Fau u9) (d_285 hp hJ t11 t231) (gQ_and ((gQ_and (rs_285 hJ hR.1.1) (ax_285 hJ hR.1.1 hR.1.2))) (ft_285 hJ hR.1 hR.2)) (fun v53 s52 h48 h48Q => ?_)
    obtain ⟨h48R, h48F⟩ := h48Q
    obtain ⟨h48r, h48j⟩ := h48
    refine gT_chk (by omega) (by omega) ?_
    refine gT_chk (by omega) (by omega) ?_
    refine gT_chk (by omega) (by omega) ?_
    refine gT_v1q (A := fun w9 u9 => True ∧ J (-1, l, l, i, i) u9) (B := fun w9 u9 => (RX u9 ∧ gI u9 217 0 = v53 ∧ (v53 = 0 → gI u9 231 0 = w9)) ∧ Fau u9) (d_215 hp h48j t12) (gQ_and ((xn_m h48j h48R.1 h48R.2 (rs_215 h48j h48R.1))) (fm h48j h48F (of_215 h48j.1.2.1 wfi rfl (Jw h48j)))) (fun v55 s54 h49 h49Q => ?_)
    obtain ⟨h49R, h49F⟩ := h49Q
    obtain ⟨h49r, h49j⟩ := h49
    exact gT_ret ⟨rfl, rfl, rfl, g6, by omega, ⟨l, i, hi, h49j, ⟨h49R.1, h49F⟩⟩⟩
  refine gT_ite (fun h50 => ?_) (fun h50n => ?_)
  · refine gT_chk (by omega) (by omega) ?_
    refine gT_chk (by omega) (by omega) ?_
    refine gT_v1q (A := fun w9 u9 => True ∧ J (-1, l, l, i, i) u9) (B := fun w9 u9 => (Rt u9 ∧ Xn (f_216 217 ((sc ((g32 (x4 + 1)) : Int).toNat)) ((sc ((g32 (x4 + 2)) : Int).toNat))) w9 u9) ∧ Fau u9) (d_286 hp hJ t11 t231) (gQ_and ((gQ_and (rs_286 hJ hR.1.1) (ax_286 hJ hR.1.1 hR.1.2))) (ft_286 hJ hR.1 hR.2)) (fun v57 s56 h51 h51Q => ?_)
    obtain ⟨h51R, h51F⟩ := h51Q
    obtain ⟨h51r, h51j⟩ := h51
    refine gT_chk (by omega) (by omega) ?_
    refine gT_chk (by omega) (by omega) ?_
    refine gT_v1q (A := fun w9 u9 => True ∧ J (-1, l, l, i, i) u9) (B := fun w9 u9 => (RX u9 ∧ gI u9 217 0 = v57 ∧ (v57 = 0 → gI u9 231 0 = w9)) ∧ Fau u9) (d_216 hp h51j t12) (gQ_and ((xn_m h51j h51R.1 h51R.2 (rs_216 h51j h51R.1))) (fm h51j h51F (of_216 h51j.1.2.1 wfi rfl (Jw h51j)))) (fun v59 s58 h52 h52Q => ?_)
    obtain ⟨h52R, h52F⟩ := h52Q
    obtain ⟨h52r, h52j⟩ := h52
    exact gT_ret ⟨rfl, rfl, rfl, g6, by omega, ⟨l, i, hi, h52j, ⟨h52R.1, h52F⟩⟩⟩
  refine gT_ite (fun h53 => ?_) (fun h53n => ?_)
  · refine gT_chk (by omega) (by omega) ?_
    refine gT_v1q (A := fun w9 u9 => True ∧ J (-1, l, l, i, i) u9) (B := fun w9 u9 => (Rt u9 ∧ Xn (f_217 217 ((sc ((g32 (x4 + 1)) : Int).toNat))) w9 u9) ∧ Fau u9) (d_287 hp hJ t11 t231) (gQ_and ((gQ_and (rs_287 hJ hR.1.1) (ax_287 hJ hR.1.1 hR.1.2))) (ft_287 hJ hR.1 hR.2)) (fun v61 s60 h54 h54Q => ?_)
    obtain ⟨h54R, h54F⟩ := h54Q
    obtain ⟨h54r, h54j⟩ := h54
    refine gT_chk (by omega) (by omega) ?_
    refine gT_v1q (A := fun w9 u9 => True ∧ J (-1, l, l, i, i) u9) (B := fun w9 u9 => (RX u9 ∧ gI u9 217 0 = v61 ∧ (v61 = 0 → gI u9 231 0 = w9)) ∧ Fau u9) (d_217 hp h54j t12) (gQ_and ((xn_m h54j h54R.1 h54R.2 (rs_217 h54j h54R.1))) (fm h54j h54F (of_217 h54j.1.2.1 wfi rfl (Jw h54j)))) (fun v63 s62 h55 h55Q => ?_)
    obtain ⟨h55R, h55F⟩ := h55Q
    obtain ⟨h55r, h55j⟩ := h55
    exact gT_ret ⟨rfl, rfl, rfl, g6, by omega, ⟨l, i, hi, h55j, ⟨h55R.1, h55F⟩⟩⟩
  refine gT_ite (fun h56 => ?_) (fun h56n => ?_)
  · refine gT_chk (by omega) (by omega) ?_
    refine gT_v1q (A := fun w9 u9 => True ∧ J (-1, l, l, i, i) u9) (B := fun w9 u9 => (Rt u9 ∧ Xn (f_218 217 ((sc ((g32 (x4 + 1)) : Int).toNat))) w9 u9) ∧ Fau u9) (d_288 hp hJ t11 t231) (gQ_and ((gQ_and (rs_288 hJ hR.1.1) (ax_288 hJ hR.1.1 hR.1.2))) (ft_288 hJ hR.1 hR.2)) (fun v65 s64 h57 h57Q => ?_)
    obtain ⟨h57R, h57F⟩ := h57Q
    obtain ⟨h57r, h57j⟩ := h57
    refine gT_chk (by omega) (by omega) ?_
    refine gT_v1q (A := fun w9 u9 => True ∧ J (-1, l, l, i, i) u9) (B := fun w9 u9 => (RX u9 ∧ gI u9 217 0 = v65 ∧ (v65 = 0 → gI u9 231 0 = w9)) ∧ Fau u9) (d_218 hp h57j t12) (gQ_and ((xn_m h57j h57R.1 h57R.2 (rs_218 h57j h57R.1))) (fm h57j h57F (of_218 h57j.1.2.1 wfi rfl (Jw h57j)))) (fun v67 s66 h58 h58Q => ?_)
    obtain ⟨h58R, h58F⟩ := h58Q
    obtain ⟨h58r, h58j⟩ := h58
    exact gT_ret ⟨rfl, rfl, rfl, g6, by omega, ⟨l, i, hi, h58j, ⟨h58R.1, h58F⟩⟩⟩
  refine gT_ite (fun h59 => ?_) (fun h59n => ?_)
  · refine gT_chk (by omega) (by omega) ?_
    refine gT_chk (by omega) (by omega) ?_
    refine gT_chk (by omega) (by omega) ?_
    refine gT_v1q (A := fun w9 u9 => True ∧ J (-1, l, l, i, i) u9) (B := fun _ u9 => (RX u9) ∧ Fau u9) (d_289 hp hJ t11 t231) (gQ_and ((gQ_and (rs_289 hJ hR.1.1) (rx_289 hJ hR.1.2))) (ft_289 hJ hR.1 hR.2)) (fun v69 s68 h60 h60Q => ?_)
    obtain ⟨h60R, h60F⟩ := h60Q
    obtain ⟨h60r, h60j⟩ := h60
    refine gT_chk (by omega) (by omega) ?_
    refine gT_chk (by omega) (by omega) ?_
    refine gT_chk (by omega) (by omega) ?_
    refine gT_v1q (A := fun w9 u9 => True ∧ J (-1, l, l, i, i) u9) (B := fun _ u9 => (RX u9) ∧ Fau u9) (d_219 hp h60j t12) (gQ_and ((gQ_and (rs_219 h60j h60R.1) (rx_219 h60j h60R.2))) (fm h60j h60F (of_219 h60j.1.2.1 wfi rfl (Jw h60j)))) (fun v71 s70 h61 h61Q => ?_)
    obtain ⟨h61R, h61F⟩ := h61Q
    obtain ⟨h61r, h61j⟩ := h61
    exact gT_ret ⟨rfl, rfl, rfl, g6, by omega, ⟨l, i, hi, h61j, ⟨h61R, h61F⟩⟩⟩
  refine gT_ite (fun h62 => ?_) (fun h62n => ?_)
  · refine gT_chk (by omega) (by omega) ?_
    refine gT_v1q (A := fun w9 u9 => True ∧ J (-1, l, l, i, i) u9) (B := fun _ u9 => (RX u9) ∧ Fau u9) (d_290 hp hJ t11 t231) (gQ_and ((gQ_and (rs_290 hJ hR.1.1) (rx_290 hJ hR.1.2))) (ft_290 hJ hR.1 hR.2)) (fun v73 s72 h63 h63Q => ?_)
    obtain ⟨h63R, h63F⟩ := h63Q
    obtain ⟨h63r, h63j⟩ := h63
    refine gT_chk (by omega) (by omega) ?_
    refine gT_v1q (A := fun w9 u9 => True ∧ J (-1, l, l, i, i) u9) (B := fun _ u9 => (RX u9) ∧ Fau u9) (d_220 hp h63j t12) (gQ_and ((gQ_and (rs_220 h63j h63R.1) (rx_220 h63j h63R.2))) (fm h63j h63F (of_220 h63j.1.2.1 wfi rfl (Jw h63j)))) (fun v75 s74 h64 h64Q => ?_)
    obtain ⟨h64R, h64F⟩ := h64Q
    obtain ⟨h64r, h64j⟩ := h64
    exact gT_ret ⟨rfl, rfl, rfl, g6, by omega, ⟨l, i, hi, h64j, ⟨h64R, h64F⟩⟩⟩
  refine gT_ite (fun h65 => ?_) (fun h65n => ?_)
  · refine gT_chk (by omega) (by omega) ?_
    refine gT_v1q (A := fun w9 u9 => True ∧ J (-1, l, l, i, i) u9) (B := fun _ u9 => (RX u9) ∧ Fau u9) (d_291 hp hJ t11 t231) (gQ_and ((gQ_and (rs_291 hJ hR.1.1) (rx_291 hJ hR.1.2))) (ft_291 hJ hR.1 hR.2)) (fun v77 s76 h66 h66Q => ?_)
    obtain ⟨h66R, h66F⟩ := h66Q
    obtain ⟨h66r, h66j⟩ := h66
    refine gT_chk (by omega) (by omega) ?_
    refine gT_v1q (A := fun w9 u9 => True ∧ J (-1, l, l, i, i) u9) (B := fun _ u9 => (RX u9) ∧ Fau u9) (d_221 hp h66j t12) (gQ_and ((gQ_and (rs_221 h66j h66R.1) (rx_221 h66j h66R.2))) (fm h66j h66F (of_221 h66j.1.2.1 wfi rfl (Jw h66j)))) (fun v79 s78 h67 h67Q => ?_)
    obtain ⟨h67R, h67F⟩ := h67Q
    obtain ⟨h67r, h67j⟩ := h67
    exact gT_ret ⟨rfl, rfl, rfl, g6, by omega, ⟨l, i, hi, h67j, ⟨h67R, h67F⟩⟩⟩
  refine gT_ite (fun h68 => ?_) (fun h68n => ?_)
  · refine gT_chk (by omega) (by omega) ?_
    refine gT_v1q (A := fun w9 u9 => True ∧ J (-1, l, l, i, i) u9) (B := fun _ u9 => (RX u9) ∧ Fau u9) (d_292 hp hJ t11 t231) (gQ_and ((gQ_and (rs_292 hJ hR.1.1) (rx_292 hJ hR.1.2))) (ft_292 hJ hR.1 hR.2)) (fun v81 s80 h69 h69Q => ?_)
    obtain ⟨h69R, h69F⟩ := h69Q
    obtain ⟨h69r, h69j⟩ := h69
    refine gT_chk (by omega) (by omega) ?_
    refine gT_v1q (A := fun w9 u9 => True ∧ J (-1, l, l, i, i) u9) (B := fun _ u9 => (RX u9) ∧ Fau u9) (d_223 hp h69j t12) (gQ_and ((gQ_and (rs_223 h69j h69R.1) (rx_223 h69j h69R.2))) (fm h69j h69F (of_223 h69j.1.2.1 wfi rfl (Jw h69j)))) (fun v83 s82 h70 h70Q => ?_)
    obtain ⟨h70R, h70F⟩ := h70Q
    obtain ⟨h70r, h70j⟩ := h70
    exact gT_ret ⟨rfl, rfl, rfl, g6, by omega, ⟨l, i, hi, h70j, ⟨h70R, h70F⟩⟩⟩
  refine gT_ite (fun h71 => ?_) (fun h71n => ?_)
  · refine gT_chk (by omega) (by omega) ?_
    refine gT_v1q (A := fun w9 u9 => True ∧ J (-1, l, l, i, i) u9) (B := fun _ u9 => (RX u9) ∧ Fau u9) (d_293 hp hJ t11 t231) (gQ_and ((gQ_and (rs_293 hJ hR.1.1) (rx_293 hJ hR.1.2))) (ft_293 hJ hR.1 hR.2)) (fun v85 s84 h72 h72Q => ?_)
    obtain ⟨h72R, h72F⟩ := h72Q
    obtain ⟨h72r, h72j⟩ := h72
    refine gT_chk (by omega) (by omega) ?_
    refine gT_v1q (A := fun w9 u9 => True ∧ J (-1, l, l, i, i) u9) (B := fun _ u9 => (RX u9) ∧ Fau u9) (d_224 hp h72j t12) (gQ_and ((gQ_and (rs_224 h72j h72R.1) (rx_224 h72j h72R.2))) (fm h72j h72F (of_224 h72j.1.2.1 wfi rfl (Jw h72j)))) (fun v87 s86 h73 h73Q => ?_)
    obtain ⟨h73R, h73F⟩ := h73Q
    obtain ⟨h73r, h73j⟩ := h73
    exact gT_ret ⟨rfl, rfl, rfl, g6, by omega, ⟨l, i, hi, h73j, ⟨h73R, h73F⟩⟩⟩
  refine gT_ite (fun h74 => ?_) (fun h74n => ?_)
  · refine gT_chk (by omega) (by omega) ?_
    refine gT_chk (by omega) (by omega) ?_
    refine gT_v1q (A := fun w9 u9 => True ∧ J (-1, l, l, i, i) u9) (B := fun _ u9 => (RX u9) ∧ Fau u9) (d_294 hp hJ t11 t231) (gQ_and ((gQ_and (rs_294 hJ hR.1.1) (rx_294 hJ hR.1.2))) (ft_294 hJ hR.1 hR.2)) (fun v89 s88 h75 h75Q => ?_)
    obtain ⟨h75R, h75F⟩ := h75Q
    obtain ⟨h75r, h75j⟩ := h75
    refine gT_chk (by omega) (by omega) ?_
    refine gT_chk (by omega) (by omega) ?_
    refine gT_v1q (A := fun w9 u9 => True ∧ J (-1, l, l, i, i) u9) (B := fun _ u9 => (RX u9) ∧ Fau u9) (d_229 hp h75j t12) (gQ_and ((gQ_and (rs_229 h75j h75R.1) (rx_229 h75j h75R.2))) (fm h75j h75F (of_229 h75j.1.2.1 wfi rfl (Jw h75j)))) (fun v91 s90 h76 h76Q => ?_)
    obtain ⟨h76R, h76F⟩ := h76Q
    obtain ⟨h76r, h76j⟩ := h76
    exact gT_ret ⟨rfl, rfl, rfl, g6, by omega, ⟨l, i, hi, h76j, ⟨h76R, h76F⟩⟩⟩
  refine gT_ite (fun h77 => ?_) (fun h77n => ?_)
  · refine gT_chk (by omega) (by omega) ?_
    refine gT_chk (by omega) (by omega) ?_
    refine gT_v1q (A := fun w9 u9 => True ∧ J (-1, l, l, i, i) u9) (B := fun _ u9 => (RX u9) ∧ Fau u9) (d_295 hp hJ t11 t231) (gQ_and ((gQ_and (rs_295 hJ hR.1.1) (rx_295 hJ hR.1.2))) (ft_295 hJ hR.1 hR.2)) (fun v93 s92 h78 h78Q => ?_)
    obtain ⟨h78R, h78F⟩ := h78Q
    obtain ⟨h78r, h78j⟩ := h78
    refine gT_chk (by omega) (by omega) ?_
    refine gT_chk (by omega) (by omega) ?_
    refine gT_v1q (A := fun w9 u9 => True ∧ J (-1, l, l, i, i) u9) (B := fun _ u9 => (RX u9) ∧ Fau u9) (d_230 hp h78j t12) (gQ_and ((gQ_and (rs_230 h78j h78R.1) (rx_230 h78j h78R.2))) (fm h78j h78F (of_230 h78j.1.2.1 wfi rfl (Jw h78j)))) (fun v95 s94 h79 h79Q => ?_)
    obtain ⟨h79R, h79F⟩ := h79Q
    obtain ⟨h79r, h79j⟩ := h79
    exact gT_ret ⟨rfl, rfl, rfl, g6, by omega, ⟨l, i, hi, h79j, ⟨h79R, h79F⟩⟩⟩
  refine gT_ite (fun h80 => ?_) (fun h80n => ?_)
  · refine gT_chk (by omega) (by omega) ?_
    refine gT_chk (by omega) (by omega) ?_
    refine gT_v1q (A := fun w9 u9 => True ∧ J (-1, l, l, i, i) u9) (B := fun _ u9 => (RX u9) ∧ Fau u9) (d_296 hp hJ t11 t231) (gQ_and ((gQ_and (rs_296 hJ hR.1.1) (rx_296 hJ hR.1.2))) (ft_296 hJ hR.1 hR.2)) (fun v97 s96 h81 h81Q => ?_)
    obtain ⟨h81R, h81F⟩ := h81Q
    obtain ⟨h81r, h81j⟩ := h81
    refine gT_chk (by omega) (by omega) ?_
    refine gT_chk (by omega) (by omega) ?_
    refine gT_v1q (A := fun w9 u9 => (0 ≤ w9 ∧ w9 ≤ 1) ∧ J (-1, l, l, i, i) u9) (B := fun _ u9 => (RX u9) ∧ Fau u9) (d_233 hp h81j t12) (gQ_and ((gQ_and (rs_233 h81j h81R.1) (rx_233 h81j h81R.2))) (fm h81j h81F (of_233 h81j.1.2.1 wfi rfl (Jw h81j)))) (fun v99 s98 h82 h82Q => ?_)
    obtain ⟨h82R, h82F⟩ := h82Q
    obtain ⟨h82r, h82j⟩ := h82
    exact gT_ret ⟨rfl, rfl, rfl, g6, by omega, ⟨l, i, hi, h82j, ⟨h82R, h82F⟩⟩⟩
  refine gT_ite (fun h83 => ?_) (fun h83n => ?_)
  · refine gT_chk (by omega) (by omega) ?_
    refine gT_v1q (A := fun w9 u9 => True ∧ J (-1, l, l, i, i) u9) (B := fun _ u9 => (RX u9) ∧ Fau u9) (d_297 hp hJ t11 t231) (gQ_and ((gQ_and (rs_297 hJ hR.1.1) (rx_297 hJ hR.1.2))) (ft_297 hJ hR.1 hR.2)) (fun v102 s101 h84 h84Q => ?_)
    obtain ⟨h84R, h84F⟩ := h84Q
    obtain ⟨h84r, h84j⟩ := h84
    refine gT_chk (by omega) (by omega) ?_
    refine gT_v1q (A := fun w9 u9 => True ∧ J (-1, l, l, i, i) u9) (B := fun _ u9 => (RX u9) ∧ Fau u9) (d_235 hp h84j t12) (gQ_and ((gQ_and (rs_235 h84j h84R.1) (rx_235 h84j h84R.2))) (fm h84j h84F (of_235 h84j.1.2.1 wfi rfl (Jw h84j)))) (fun v104 s103 h85 h85Q => ?_)
    obtain ⟨h85R, h85F⟩ := h85Q
    obtain ⟨h85r, h85j⟩ := h85
    exact gT_ret ⟨rfl, rfl, rfl, g6, by omega, ⟨l, i, hi, h85j, ⟨h85R, h85F⟩⟩⟩
  refine gT_ite (fun h86 => ?_) (fun h86n => ?_)
  · refine gT_chk (by omega) (by omega) ?_
    refine gT_chk (by omega) (by omega) ?_
    refine gT_ite (fun h87 => ?_) (fun h87n => ?_)
    · unfold fb_511_1156
      refine gT_v1q (A := fun w9 u9 => True ∧ J (-1, l, l, i, i) u9) (B := fun _ u9 => (RX u9) ∧ Fau u9) (d_298 hp hJ t11 t231 (show (0 : Int) ≤ 0 ∧ 0 ≤ 1 by constructor <;> omega)) (gQ_and ((gQ_and (rs_298 hJ hR.1.1) (rx_298 hJ hR.1.2))) (ft_298 hJ hR.1 hR.2)) (fun v106 s105 h88 h88Q => ?_)
      obtain ⟨h88R, h88F⟩ := h88Q
      obtain ⟨h88r, h88j⟩ := h88
      refine gT_chk (by omega) (by omega) ?_
      refine gT_chk (by omega) (by omega) ?_
      rw [if_pos h87]
      unfold fb_511_1183
      refine gT_v1q (A := fun w9 u9 => True ∧ J (-1, l, l, i, i) u9) (B := fun _ u9 => (RX u9) ∧ Fau u9) (d_236 hp h88j t12 (show (0 : Int) ≤ 0 ∧ 0 ≤ 1 by constructor <;> omega)) (gQ_and ((gQ_and (rs_236 h88j h88R.1) (rx_236 h88j h88R.2))) (fm h88j h88F (of_236 h88j.1.2.1 wfi rfl (Jw h88j)))) (fun v108 s107 h89 h89Q => ?_)
      obtain ⟨h89R, h89F⟩ := h89Q
      obtain ⟨h89r, h89j⟩ := h89
      exact gT_ret ⟨rfl, rfl, rfl, g6, by omega, ⟨l, i, hi, h89j, ⟨h89R, h89F⟩⟩⟩
    unfold fb_511_1156
    refine gT_v1q (A := fun w9 u9 => True ∧ J (-1, l, l, i, i) u9) (B := fun _ u9 => (RX u9) ∧ Fau u9) (d_298 hp hJ t11 t231 (show (0 : Int) ≤ 1 ∧ 1 ≤ 1 by constructor <;> omega)) (gQ_and ((gQ_and (rs_298 hJ hR.1.1) (rx_298 hJ hR.1.2))) (ft_298 hJ hR.1 hR.2)) (fun v106 s105 h90 h90Q => ?_)
    obtain ⟨h90R, h90F⟩ := h90Q
    obtain ⟨h90r, h90j⟩ := h90
    refine gT_chk (by omega) (by omega) ?_
    refine gT_chk (by omega) (by omega) ?_
    rw [if_neg h87n]
    unfold fb_511_1183
    refine gT_v1q (A := fun w9 u9 => True ∧ J (-1, l, l, i, i) u9) (B := fun _ u9 => (RX u9) ∧ Fau u9) (d_236 hp h90j t12 (show (0 : Int) ≤ 1 ∧ 1 ≤ 1 by constructor <;> omega)) (gQ_and ((gQ_and (rs_236 h90j h90R.1) (rx_236 h90j h90R.2))) (fm h90j h90F (of_236 h90j.1.2.1 wfi rfl (Jw h90j)))) (fun v108 s107 h91 h91Q => ?_)
    obtain ⟨h91R, h91F⟩ := h91Q
    obtain ⟨h91r, h91j⟩ := h91
    exact gT_ret ⟨rfl, rfl, rfl, g6, by omega, ⟨l, i, hi, h91j, ⟨h91R, h91F⟩⟩⟩
  refine gT_ite (fun h92 => ?_) (fun h92n => ?_)
  · refine gT_chk (by omega) (by omega) ?_
    refine gT_v1q (A := fun w9 u9 => True ∧ J (-1, l, l, i, i) u9) (B := fun _ u9 => (RX u9) ∧ Fau u9) (d_299 hp hJ t11 t231) (gQ_and ((gQ_and (rs_299 hJ hR.1.1) (rx_299 hJ hR.1.2))) (ft_299 hJ hR.1 hR.2)) (fun v110 s109 h93 h93Q => ?_)
    obtain ⟨h93R, h93F⟩ := h93Q
    obtain ⟨h93r, h93j⟩ := h93
    refine gT_chk (by omega) (by omega) ?_
    refine gT_v1q (A := fun w9 u9 => True ∧ J (-1, l, l, i, i) u9) (B := fun _ u9 => (RX u9) ∧ Fau u9) (d_237 hp h93j t12) (gQ_and ((gQ_and (rs_237 h93j h93R.1) (rx_237 h93j h93R.2))) (fm h93j h93F (of_237 h93j.1.2.1 wfi rfl (Jw h93j)))) (fun v112 s111 h94 h94Q => ?_)
    obtain ⟨h94R, h94F⟩ := h94Q
    obtain ⟨h94r, h94j⟩ := h94
    exact gT_ret ⟨rfl, rfl, rfl, g6, by omega, ⟨l, i, hi, h94j, ⟨h94R, h94F⟩⟩⟩
  refine gT_ite (fun h95 => ?_) (fun h95n => ?_)
  · refine gT_chk (by omega) (by omega) ?_
    refine gT_ite (fun h96 => ?_) (fun h96n => ?_)
    · unfold fb_511_1234
      refine gT_v1q (A := fun w9 u9 => True ∧ J (-1, 0, l, i, i) u9) (B := fun _ u9 => (RX u9) ∧ Fau u9) (d_300 hp hJ t11 t231 (show (0 : Int) ≤ 0 ∧ 0 ≤ 1 by constructor <;> omega)) (gQ_and ((gQ_and (rs_300 hJ hR.1.1) (rx_300 hJ hR.1.2))) (ft_300 hJ hR.1 hR.2)) (fun v114 s113 h97 h97Q => ?_)
      obtain ⟨h97R, h97F⟩ := h97Q
      obtain ⟨h97r, h97j⟩ := h97
      refine gT_chk (by omega) (by omega) ?_
      rw [if_pos h96]
      unfold fb_511_1255
      refine gT_v1q (A := fun w9 u9 => True ∧ J (-1, 0, 0, i, i) u9) (B := fun _ u9 => (RX u9) ∧ Fau u9) (d_239 hp h97j t12 (show (0 : Int) ≤ 0 ∧ 0 ≤ 1 by constructor <;> omega)) (gQ_and ((gQ_and (rs_239 h97j h97R.1) (rx_239 h97j h97R.2))) (fm h97j h97F (of_239 h97j.1.2.1 wfi rfl (Jw h97j)))) (fun v116 s115 h98 h98Q => ?_)
      obtain ⟨h98R, h98F⟩ := h98Q
      obtain ⟨h98r, h98j⟩ := h98
      exact gT_ret ⟨rfl, rfl, rfl, g6, by omega, ⟨0, i, hi, h98j, ⟨h98R, h98F⟩⟩⟩
    unfold fb_511_1234
    refine gT_v1q (A := fun w9 u9 => True ∧ J (-1, 0, l, i, i) u9) (B := fun _ u9 => (RX u9) ∧ Fau u9) (d_300 hp hJ t11 t231 (show (0 : Int) ≤ 1 ∧ 1 ≤ 1 by constructor <;> omega)) (gQ_and ((gQ_and (rs_300 hJ hR.1.1) (rx_300 hJ hR.1.2))) (ft_300 hJ hR.1 hR.2)) (fun v114 s113 h99 h99Q => ?_)
    obtain ⟨h99R, h99F⟩ := h99Q
    obtain ⟨h99r, h99j⟩ := h99
    refine gT_chk (by omega) (by omega) ?_
    rw [if_neg h96n]
    unfold fb_511_1255
    refine gT_v1q (A := fun w9 u9 => True ∧ J (-1, 0, 0, i, i) u9) (B := fun _ u9 => (RX u9) ∧ Fau u9) (d_239 hp h99j t12 (show (0 : Int) ≤ 1 ∧ 1 ≤ 1 by constructor <;> omega)) (gQ_and ((gQ_and (rs_239 h99j h99R.1) (rx_239 h99j h99R.2))) (fm h99j h99F (of_239 h99j.1.2.1 wfi rfl (Jw h99j)))) (fun v116 s115 h100 h100Q => ?_)
    obtain ⟨h100R, h100F⟩ := h100Q
    obtain ⟨h100r, h100j⟩ := h100
    exact gT_ret ⟨rfl, rfl, rfl, g6, by omega, ⟨0, i, hi, h100j, ⟨h100R, h100F⟩⟩⟩
  refine gT_ite (fun h101 => ?_) (fun h101n => ?_)
  · refine gT_v1q (A := fun w9 u9 => True ∧ J (-1, 0, l, i, i) u9) (B := fun _ u9 => (RX u9) ∧ Fau u9) (d_301 hp hJ t11 t231) (gQ_and ((gQ_and (rs_301 hJ hR.1.1) (rx_301 hJ hR.1.2))) (ft_301 hJ hR.1 hR.2)) (fun v118 s117 h102 h102Q => ?_)
    obtain ⟨h102R, h102F⟩ := h102Q
    obtain ⟨h102r, h102j⟩ := h102
    refine gT_v1q (A := fun w9 u9 => True ∧ J (-1, 0, 0, i, i) u9) (B := fun _ u9 => (RX u9) ∧ Fau u9) (d_240 hp h102j t12) (gQ_and ((gQ_and (rs_240 h102j h102R.1) (rx_240 h102j h102R.2))) (fm h102j h102F (of_240 h102j.1.2.1 wfi rfl (Jw h102j)))) (fun v120 s119 h103 h103Q => ?_)
    obtain ⟨h103R, h103F⟩ := h103Q
    obtain ⟨h103r, h103j⟩ := h103
    exact gT_ret ⟨rfl, rfl, rfl, g6, by omega, ⟨0, i, hi, h103j, ⟨h103R, h103F⟩⟩⟩
  refine gT_ite (fun h104 => ?_) (fun h104n => ?_)
  · refine gT_chk (by omega) (by omega) ?_
    refine gT_chk (by omega) (by omega) ?_
    refine gT_v1q (A := fun w9 u9 => True ∧ J (-1, l, l, i, i) u9) (B := fun _ u9 => (RX u9) ∧ Fau u9) (d_302 hp hJ t11 t231) (gQ_and ((gQ_and (rs_302 hJ hR.1.1) (rx_302 hJ hR.1.2))) (ft_302 hJ hR.1 hR.2)) (fun v122 s121 h105 h105Q => ?_)
    obtain ⟨h105R, h105F⟩ := h105Q
    obtain ⟨h105r, h105j⟩ := h105
    refine gT_chk (by omega) (by omega) ?_
    refine gT_chk (by omega) (by omega) ?_
    refine gT_v1q (A := fun w9 u9 => True ∧ J (-1, l, l, i, i) u9) (B := fun _ u9 => (RX u9) ∧ Fau u9) (d_243 hp h105j t12) (gQ_and ((gQ_and (rs_243 h105j h105R.1) (rx_243 h105j h105R.2))) (fm h105j h105F (of_243 h105j.1.2.1 wfi rfl (Jw h105j)))) (fun v124 s123 h106 h106Q => ?_)
    obtain ⟨h106R, h106F⟩ := h106Q
    obtain ⟨h106r, h106j⟩ := h106
    exact gT_ret ⟨rfl, rfl, rfl, g6, by omega, ⟨l, i, hi, h106j, ⟨h106R, h106F⟩⟩⟩
  refine gT_ite (fun h107 => ?_) (fun h107n => ?_)
  · refine gT_chk (by omega) (by omega) ?_
    refine gT_chk (by omega) (by omega) ?_
    refine gT_v1q (A := fun w9 u9 => True ∧ J (-1, l, l, i, i) u9) (B := fun _ u9 => (RX u9) ∧ Fau u9) (d_303 hp hJ t11 t231) (gQ_and ((gQ_and (rs_303 hJ hR.1.1) (rx_303 hJ hR.1.2))) (ft_303 hJ hR.1 hR.2)) (fun v126 s125 h108 h108Q => ?_)
    obtain ⟨h108R, h108F⟩ := h108Q
    obtain ⟨h108r, h108j⟩ := h108
    refine gT_chk (by omega) (by omega) ?_
    refine gT_chk (by omega) (by omega) ?_
    refine gT_v1q (A := fun w9 u9 => True ∧ J (-1, l, l, i, i) u9) (B := fun _ u9 => (RX u9) ∧ Fau u9) (d_244 hp h108j t12) (gQ_and ((gQ_and (rs_244 h108j h108R.1) (rx_244 h108j h108R.2))) (fm h108j h108F (of_244 h108j.1.2.1 wfi rfl (Jw h108j)))) (fun v128 s127 h109 h109Q => ?_)
    obtain ⟨h109R, h109F⟩ := h109Q
    obtain ⟨h109r, h109j⟩ := h109
    exact gT_ret ⟨rfl, rfl, rfl, g6, by omega, ⟨l, i, hi, h109j, ⟨h109R, h109F⟩⟩⟩
  refine gT_ite (fun h110 => ?_) (fun h110n => ?_)
  · refine gT_chk (by omega) (by omega) ?_
    refine gT_ite (fun h111 => ?_) (fun h111n => ?_)
    · unfold fb_511_1374
      refine gT_v1q (A := fun w9 u9 => True ∧ J (-1, l, l, i, i) u9) (B := fun _ u9 => (RX u9) ∧ Fau u9) (d_118 hp hJ t11 (show (0 : Int) ≤ 0 ∧ 0 ≤ 1 by constructor <;> omega)) (gQ_and ((gQ_and (rs_118 hJ hR.1.1) (rx_118 hJ hR.1.2))) (fq hJ hR.2 (o_118 hJ.1.2.1 cid rfl (Fw_rf hJ.1.1)))) (fun v130 s129 h112 h112Q => ?_)
      obtain ⟨h112R, h112F⟩ := h112Q
      obtain ⟨h112r, h112j⟩ := h112
      refine gT_chk (by omega) (by omega) ?_
      rw [if_pos h111]
      unfold fb_511_1393
      refine gT_v1q (A := fun w9 u9 => True ∧ J (-1, l, l, i, i) u9) (B := fun _ u9 => (RX u9) ∧ Fau u9) (d_245 hp h112j t12 (show (0 : Int) ≤ 0 ∧ 0 ≤ 1 by constructor <;> omega)) (gQ_and ((gQ_and (rs_245 h112j h112R.1) (rx_245 h112j h112R.2))) (fm h112j h112F (of_245 h112j.1.2.1 wfi rfl (Jw h112j)))) (fun v132 s131 h113 h113Q => ?_)
      obtain ⟨h113R, h113F⟩ := h113Q
      obtain ⟨h113r, h113j⟩ := h113
      exact gT_ret ⟨rfl, rfl, rfl, g6, by omega, ⟨l, i, hi, h113j, ⟨h113R, h113F⟩⟩⟩
    unfold fb_511_1374
    refine gT_v1q (A := fun w9 u9 => True ∧ J (-1, l, l, i, i) u9) (B := fun _ u9 => (RX u9) ∧ Fau u9) (d_118 hp hJ t11 (show (0 : Int) ≤ 1 ∧ 1 ≤ 1 by constructor <;> omega)) (gQ_and ((gQ_and (rs_118 hJ hR.1.1) (rx_118 hJ hR.1.2))) (fq hJ hR.2 (o_118 hJ.1.2.1 cid rfl (Fw_rf hJ.1.1)))) (fun v130 s129 h114 h114Q => ?_)
    obtain ⟨h114R, h114F⟩ := h114Q
    obtain ⟨h114r, h114j⟩ := h114
    refine gT_chk (by omega) (by omega) ?_
    rw [if_neg h111n]
    unfold fb_511_1393
    refine gT_v1q (A := fun w9 u9 => True ∧ J (-1, l, l, i, i) u9) (B := fun _ u9 => (RX u9) ∧ Fau u9) (d_245 hp h114j t12 (show (0 : Int) ≤ 1 ∧ 1 ≤ 1 by constructor <;> omega)) (gQ_and ((gQ_and (rs_245 h114j h114R.1) (rx_245 h114j h114R.2))) (fm h114j h114F (of_245 h114j.1.2.1 wfi rfl (Jw h114j)))) (fun v132 s131 h115 h115Q => ?_)
    obtain ⟨h115R, h115F⟩ := h115Q
    obtain ⟨h115r, h115j⟩ := h115
    exact gT_ret ⟨rfl, rfl, rfl, g6, by omega, ⟨l, i, hi, h115j, ⟨h115R, h115F⟩⟩⟩
  refine gT_ite (fun h116 => ?_) (fun h116n => ?_)
  · refine gT_chk (by omega) (by omega) ?_
    refine gT_v1q (A := fun w9 u9 => True ∧ J (-1, l, l, i, i) u9) (B := fun _ u9 => (RX u9) ∧ Fau u9) (d_304 hp hJ t11 t231) (gQ_and ((gQ_and (rs_304 hJ hR.1.1) (rx_304 hJ hR.1.2))) (ft_304 hJ hR.1 hR.2)) (fun v134 s133 h117 h117Q => ?_)
    obtain ⟨h117R, h117F⟩ := h117Q
    obtain ⟨h117r, h117j⟩ := h117
    refine gT_chk (by omega) (by omega) ?_
    refine gT_v1q (A := fun w9 u9 => True ∧ J (-1, l, l, i, i) u9) (B := fun _ u9 => (RX u9) ∧ Fau u9) (d_247 hp h117j t12) (gQ_and ((gQ_and (rs_247 h117j h117R.1) (rx_247 h117j h117R.2))) (fm h117j h117F (of_247 h117j.1.2.1 wfi rfl (Jw h117j)))) (fun v136 s135 h118 h118Q => ?_)
    obtain ⟨h118R, h118F⟩ := h118Q
    obtain ⟨h118r, h118j⟩ := h118
    exact gT_ret ⟨rfl, rfl, rfl, g6, by omega, ⟨l, i, hi, h118j, ⟨h118R, h118F⟩⟩⟩
  refine gT_ite (fun h119 => ?_) (fun h119n => ?_)
  · refine gT_v1q (A := fun w9 u9 => True ∧ J (-1, l, l, i, i) u9) (B := fun _ u9 => (RX u9) ∧ Fau u9) (d_120 hp hJ t11) (gQ_and ((gQ_and (rs_120 hJ hR.1.1) (rx_120 hJ hR.1.2))) (fq hJ hR.2 (o_120 hJ.1.2.1 cid rfl (Fw_rf hJ.1.1)))) (fun v138 s137 h120 h120Q => ?_)
    obtain ⟨h120R, h120F⟩ := h120Q
    obtain ⟨h120r, h120j⟩ := h120
    refine gT_v1q (A := fun w9 u9 => True ∧ J (-1, l, l, i, i) u9) (B := fun _ u9 => (RX u9) ∧ Fau u9) (d_248 hp h120j t12) (gQ_and ((gQ_and (rs_248 h120j h120R.1) (rx_248 h120j h120R.2))) (fm h120j h120F (of_248 h120j.1.2.1 wfi rfl (Jw h120j)))) (fun v140 s139 h121 h121Q => ?_)
    obtain ⟨h121R, h121F⟩ := h121Q
    obtain ⟨h121r, h121j⟩ := h121
    exact gT_ret ⟨rfl, rfl, rfl, g6, by omega, ⟨l, i, hi, h121j, ⟨h121R, h121F⟩⟩⟩
  refine gT_ite (fun h122 => ?_) (fun h122n => ?_)
  · refine gT_v1q (A := fun w9 u9 => True ∧ J (-1, l, l, i, i) u9) (B := fun _ u9 => (RX u9) ∧ Fau u9) (d_121 hp hJ t11) (gQ_and ((gQ_and (rs_121 hJ hR.1.1) (rx_121 hJ hR.1.2))) (fq hJ hR.2 (o_121 hJ.1.2.1 cid rfl (Fw_rf hJ.1.1)))) (fun v142 s141 h123 h123Q => ?_)
    obtain ⟨h123R, h123F⟩ := h123Q
    obtain ⟨h123r, h123j⟩ := h123
    refine gT_v1q (A := fun w9 u9 => True ∧ J (-1, l, l, i, i) u9) (B := fun _ u9 => (RX u9) ∧ Fau u9) (d_249 hp h123j t12) (gQ_and ((gQ_and (rs_249 h123j h123R.1) (rx_249 h123j h123R.2))) (fm h123j h123F (of_249 h123j.1.2.1 wfi rfl (Jw h123j)))) (fun v144 s143 h124 h124Q => ?_)
    obtain ⟨h124R, h124F⟩ := h124Q
    obtain ⟨h124r, h124j⟩ := h124
    exact gT_ret ⟨rfl, rfl, rfl, g6, by omega, ⟨l, i, hi, h124j, ⟨h124R, h124F⟩⟩⟩
  refine gT_ite (fun h125 => ?_) (fun h125n => ?_)
  · refine gT_chk (by omega) (by omega) ?_
    refine gT_v1q (A := fun w9 u9 => True ∧ J (-1, l, l, i, i) u9) (B := fun _ u9 => (RX u9) ∧ Fau u9) (d_305 hp hJ t11 t231) (gQ_and ((gQ_and (rs_305 hJ hR.1.1) (rx_305 hJ hR.1.2))) (ft_305 hJ hR.1 hR.2)) (fun v146 s145 h126 h126Q => ?_)
    obtain ⟨h126R, h126F⟩ := h126Q
    obtain ⟨h126r, h126j⟩ := h126
    refine gT_chk (by omega) (by omega) ?_
    refine gT_v1q (A := fun w9 u9 => True ∧ J (-1, l, l, i, i) u9) (B := fun _ u9 => (RX u9) ∧ Fau u9) (d_250 hp h126j t12) (gQ_and ((gQ_and (rs_250 h126j h126R.1) (rx_250 h126j h126R.2))) (fm h126j h126F (of_250 h126j.1.2.1 wfi rfl (Jw h126j)))) (fun v148 s147 h127 h127Q => ?_)
    obtain ⟨h127R, h127F⟩ := h127Q
    obtain ⟨h127r, h127j⟩ := h127
    exact gT_ret ⟨rfl, rfl, rfl, g6, by omega, ⟨l, i, hi, h127j, ⟨h127R, h127F⟩⟩⟩
  refine gT_ite (fun h128 => ?_) (fun h128n => ?_)
  · refine gT_v1q (A := fun w9 u9 => True ∧ J (-1, l, l, i, i) u9) (B := fun _ u9 => (RX u9) ∧ Fau u9) (d_123 hp hJ t11) (gQ_and ((gQ_and (rs_123 hJ hR.1.1) (rx_123 hJ hR.1.2))) (fq hJ hR.2 (o_123 hJ.1.2.1 cid rfl (Fw_rf hJ.1.1)))) (fun v150 s149 h129 h129Q => ?_)
    obtain ⟨h129R, h129F⟩ := h129Q
    obtain ⟨h129r, h129j⟩ := h129
    refine gT_v1q (A := fun w9 u9 => True ∧ J (-1, l, l, i, i) u9) (B := fun _ u9 => (RX u9) ∧ Fau u9) (d_251 hp h129j t12) (gQ_and ((gQ_and (rs_251 h129j h129R.1) (rx_251 h129j h129R.2))) (fm h129j h129F (of_251 h129j.1.2.1 wfi rfl (Jw h129j)))) (fun v152 s151 h130 h130Q => ?_)
    obtain ⟨h130R, h130F⟩ := h130Q
    obtain ⟨h130r, h130j⟩ := h130
    exact gT_ret ⟨rfl, rfl, rfl, g6, by omega, ⟨l, i, hi, h130j, ⟨h130R, h130F⟩⟩⟩
  refine gT_ite (fun h131 => ?_) (fun h131n => ?_)
  · refine gT_chk (by omega) (by omega) ?_
    refine gT_ite (fun h132 => ?_) (fun h132n => ?_)
    · unfold fb_511_1510
      refine gT_v1q (A := fun w9 u9 => True ∧ J (-1, l, l, i, i) u9) (B := fun _ u9 => (RX u9) ∧ Fau u9) (d_124 hp hJ t11 (show (0 : Int) ≤ 0 ∧ 0 ≤ 1 by constructor <;> omega)) (gQ_and ((gQ_and (rs_124 hJ hR.1.1) (rx_124 hJ hR.1.2))) (fq hJ hR.2 (o_124 hJ.1.2.1 cid rfl (Fw_rf hJ.1.1)))) (fun v154 s153 h133 h133Q => ?_)
      obtain ⟨h133R, h133F⟩ := h133Q
      obtain ⟨h133r, h133j⟩ := h133
      refine gT_chk (by omega) (by omega) ?_
      rw [if_pos h132]
      unfold fb_511_1529
      refine gT_v1q (A := fun w9 u9 => True ∧ J (-1, l, l, i, i) u9) (B := fun _ u9 => (RX u9) ∧ Fau u9) (d_253 hp h133j t12 (show (0 : Int) ≤ 0 ∧ 0 ≤ 1 by constructor <;> omega)) (gQ_and ((gQ_and (rs_253 h133j h133R.1) (rx_253 h133j h133R.2))) (fm h133j h133F (of_253 h133j.1.2.1 wfi rfl (Jw h133j)))) (fun v156 s155 h134 h134Q => ?_)
      obtain ⟨h134R, h134F⟩ := h134Q
      obtain ⟨h134r, h134j⟩ := h134
      exact gT_ret ⟨rfl, rfl, rfl, g6, by omega, ⟨l, i, hi, h134j, ⟨h134R, h134F⟩⟩⟩
    unfold fb_511_1510
    refine gT_v1q (A := fun w9 u9 => True ∧ J (-1, l, l, i, i) u9) (B := fun _ u9 => (RX u9) ∧ Fau u9) (d_124 hp hJ t11 (show (0 : Int) ≤ 1 ∧ 1 ≤ 1 by constructor <;> omega)) (gQ_and ((gQ_and (rs_124 hJ hR.1.1) (rx_124 hJ hR.1.2))) (fq hJ hR.2 (o_124 hJ.1.2.1 cid rfl (Fw_rf hJ.1.1)))) (fun v154 s153 h135 h135Q => ?_)
    obtain ⟨h135R, h135F⟩ := h135Q
    obtain ⟨h135r, h135j⟩ := h135
    refine gT_chk (by omega) (by omega) ?_
    rw [if_neg h132n]
    unfold fb_511_1529
    refine gT_v1q (A := fun w9 u9 => True ∧ J (-1, l, l, i, i) u9) (B := fun _ u9 => (RX u9) ∧ Fau u9) (d_253 hp h135j t12 (show (0 : Int) ≤ 1 ∧ 1 ≤ 1 by constructor <;> omega)) (gQ_and ((gQ_and (rs_253 h135j h135R.1) (rx_253 h135j h135R.2))) (fm h135j h135F (of_253 h135j.1.2.1 wfi rfl (Jw h135j)))) (fun v156 s155 h136 h136Q => ?_)
    obtain ⟨h136R, h136F⟩ := h136Q
    obtain ⟨h136r, h136j⟩ := h136
    exact gT_ret ⟨rfl, rfl, rfl, g6, by omega, ⟨l, i, hi, h136j, ⟨h136R, h136F⟩⟩⟩
  refine gT_ite (fun h137 => ?_) (fun h137n => ?_)
  · refine gT_chk (by omega) (by omega) ?_
    refine gT_chk (by omega) (by omega) ?_
    refine gT_ite (fun h138 => ?_) (fun h138n => ?_)
    · unfold fb_511_1557
      refine gT_v1q (A := fun w9 u9 => True ∧ J (-1, l, l, i, i) u9) (B := fun _ u9 => (RX u9) ∧ Fau u9) (d_306 hp hJ t11 t231 (show (0 : Int) ≤ 0 ∧ 0 ≤ 1 by constructor <;> omega)) (gQ_and ((gQ_and (rs_306 hJ hR.1.1) (rx_306 hJ hR.1.2))) (ft_306 hJ hR.1 hR.2)) (fun v158 s157 h139 h139Q => ?_)
      obtain ⟨h139R, h139F⟩ := h139Q
      obtain ⟨h139r, h139j⟩ := h139
      refine gT_chk (by omega) (by omega) ?_
      refine gT_chk (by omega) (by omega) ?_
      rw [if_pos h138]
      unfold fb_511_1584
      refine gT_v1q (A := fun w9 u9 => True ∧ J (-1, l, l, i, i) u9) (B := fun _ u9 => (RX u9) ∧ Fau u9) (d_254 hp h139j t12 (show (0 : Int) ≤ 0 ∧ 0 ≤ 1 by constructor <;> omega)) (gQ_and ((gQ_and (rs_254 h139j h139R.1) (rx_254 h139j h139R.2))) (fm h139j h139F (of_254 h139j.1.2.1 wfi rfl (Jw h139j)))) (fun v160 s159 h140 h140Q => ?_)
      obtain ⟨h140R, h140F⟩ := h140Q
      obtain ⟨h140r, h140j⟩ := h140
      exact gT_ret ⟨rfl, rfl, rfl, g6, by omega, ⟨l, i, hi, h140j, ⟨h140R, h140F⟩⟩⟩
    unfold fb_511_1557
    refine gT_v1q (A := fun w9 u9 => True ∧ J (-1, l, l, i, i) u9) (B := fun _ u9 => (RX u9) ∧ Fau u9) (d_306 hp hJ t11 t231 (show (0 : Int) ≤ 1 ∧ 1 ≤ 1 by constructor <;> omega)) (gQ_and ((gQ_and (rs_306 hJ hR.1.1) (rx_306 hJ hR.1.2))) (ft_306 hJ hR.1 hR.2)) (fun v158 s157 h141 h141Q => ?_)
    obtain ⟨h141R, h141F⟩ := h141Q
    obtain ⟨h141r, h141j⟩ := h141
    refine gT_chk (by omega) (by omega) ?_
    refine gT_chk (by omega) (by omega) ?_
    rw [if_neg h138n]
    unfold fb_511_1584
    refine gT_v1q (A := fun w9 u9 => True ∧ J (-1, l, l, i, i) u9) (B := fun _ u9 => (RX u9) ∧ Fau u9) (d_254 hp h141j t12 (show (0 : Int) ≤ 1 ∧ 1 ≤ 1 by constructor <;> omega)) (gQ_and ((gQ_and (rs_254 h141j h141R.1) (rx_254 h141j h141R.2))) (fm h141j h141F (of_254 h141j.1.2.1 wfi rfl (Jw h141j)))) (fun v160 s159 h142 h142Q => ?_)
    obtain ⟨h142R, h142F⟩ := h142Q
    obtain ⟨h142r, h142j⟩ := h142
    exact gT_ret ⟨rfl, rfl, rfl, g6, by omega, ⟨l, i, hi, h142j, ⟨h142R, h142F⟩⟩⟩
  refine gT_ite (fun h143 => ?_) (fun h143n => ?_)
  · refine gT_chk (by omega) (by omega) ?_
    refine gT_chk (by omega) (by omega) ?_
    refine gT_ite (fun h144 => ?_) (fun h144n => ?_)
    · unfold fb_511_1613
      refine gT_v1q (A := fun w9 u9 => True ∧ J (-1, l, l, i, i) u9) (B := fun _ u9 => (RX u9) ∧ Fau u9) (d_307 hp hJ t11 t231 (show (0 : Int) ≤ 0 ∧ 0 ≤ 1 by constructor <;> omega)) (gQ_and ((gQ_and (rs_307 hJ hR.1.1) (rx_307 hJ hR.1.2))) (ft_307 hJ hR.1 hR.2)) (fun v162 s161 h145 h145Q => ?_)
      obtain ⟨h145R, h145F⟩ := h145Q
      obtain ⟨h145r, h145j⟩ := h145
      refine gT_chk (by omega) (by omega) ?_
      refine gT_chk (by omega) (by omega) ?_
      rw [if_pos h144]
      unfold fb_511_1640
      refine gT_v1q (A := fun w9 u9 => True ∧ J (-1, l, l, i, i) u9) (B := fun _ u9 => (RX u9) ∧ Fau u9) (d_255 hp h145j t12 (show (0 : Int) ≤ 0 ∧ 0 ≤ 1 by constructor <;> omega)) (gQ_and ((gQ_and (rs_255 h145j h145R.1) (rx_255 h145j h145R.2))) (fm h145j h145F (of_255 h145j.1.2.1 wfi rfl (Jw h145j)))) (fun v164 s163 h146 h146Q => ?_)
      obtain ⟨h146R, h146F⟩ := h146Q
      obtain ⟨h146r, h146j⟩ := h146
      exact gT_ret ⟨rfl, rfl, rfl, g6, by omega, ⟨l, i, hi, h146j, ⟨h146R, h146F⟩⟩⟩
    unfold fb_511_1613
    refine gT_v1q (A := fun w9 u9 => True ∧ J (-1, l, l, i, i) u9) (B := fun _ u9 => (RX u9) ∧ Fau u9) (d_307 hp hJ t11 t231 (show (0 : Int) ≤ 1 ∧ 1 ≤ 1 by constructor <;> omega)) (gQ_and ((gQ_and (rs_307 hJ hR.1.1) (rx_307 hJ hR.1.2))) (ft_307 hJ hR.1 hR.2)) (fun v162 s161 h147 h147Q => ?_)
    obtain ⟨h147R, h147F⟩ := h147Q
    obtain ⟨h147r, h147j⟩ := h147
    refine gT_chk (by omega) (by omega) ?_
    refine gT_chk (by omega) (by omega) ?_
    rw [if_neg h144n]
    unfold fb_511_1640
    refine gT_v1q (A := fun w9 u9 => True ∧ J (-1, l, l, i, i) u9) (B := fun _ u9 => (RX u9) ∧ Fau u9) (d_255 hp h147j t12 (show (0 : Int) ≤ 1 ∧ 1 ≤ 1 by constructor <;> omega)) (gQ_and ((gQ_and (rs_255 h147j h147R.1) (rx_255 h147j h147R.2))) (fm h147j h147F (of_255 h147j.1.2.1 wfi rfl (Jw h147j)))) (fun v164 s163 h148 h148Q => ?_)
    obtain ⟨h148R, h148F⟩ := h148Q
    obtain ⟨h148r, h148j⟩ := h148
    exact gT_ret ⟨rfl, rfl, rfl, g6, by omega, ⟨l, i, hi, h148j, ⟨h148R, h148F⟩⟩⟩
  refine gT_ite (fun h149 => ?_) (fun h149n => ?_)
  · refine gT_chk (by omega) (by omega) ?_
    refine gT_chk (by omega) (by omega) ?_
    refine gT_ite (fun h150 => ?_) (fun h150n => ?_)
    · unfold fb_511_1669
      refine gT_v1q (A := fun w9 u9 => True ∧ J (-1, l, l, i, i) u9) (B := fun _ u9 => (RX u9) ∧ Fau u9) (d_308 hp hJ t11 t231 (show (0 : Int) ≤ 0 ∧ 0 ≤ 1 by constructor <;> omega)) (gQ_and ((gQ_and (rs_308 hJ hR.1.1) (rx_308 hJ hR.1.2))) (ft_308 hJ hR.1 hR.2)) (fun v166 s165 h151 h151Q => ?_)
      obtain ⟨h151R, h151F⟩ := h151Q
      obtain ⟨h151r, h151j⟩ := h151
      refine gT_chk (by omega) (by omega) ?_
      refine gT_chk (by omega) (by omega) ?_
      rw [if_pos h150]
      unfold fb_511_1696
      refine gT_v1q (A := fun w9 u9 => True ∧ J (-1, l, l, i, i) u9) (B := fun _ u9 => (RX u9) ∧ Fau u9) (d_257 hp h151j t12 (show (0 : Int) ≤ 0 ∧ 0 ≤ 1 by constructor <;> omega)) (gQ_and ((gQ_and (rs_257 h151j h151R.1) (rx_257 h151j h151R.2))) (fm h151j h151F (of_257 h151j.1.2.1 wfi rfl (Jw h151j)))) (fun v168 s167 h152 h152Q => ?_)
      obtain ⟨h152R, h152F⟩ := h152Q
      obtain ⟨h152r, h152j⟩ := h152
      exact gT_ret ⟨rfl, rfl, rfl, g6, by omega, ⟨l, i, hi, h152j, ⟨h152R, h152F⟩⟩⟩
    unfold fb_511_1669
    refine gT_v1q (A := fun w9 u9 => True ∧ J (-1, l, l, i, i) u9) (B := fun _ u9 => (RX u9) ∧ Fau u9) (d_308 hp hJ t11 t231 (show (0 : Int) ≤ 1 ∧ 1 ≤ 1 by constructor <;> omega)) (gQ_and ((gQ_and (rs_308 hJ hR.1.1) (rx_308 hJ hR.1.2))) (ft_308 hJ hR.1 hR.2)) (fun v166 s165 h153 h153Q => ?_)
    obtain ⟨h153R, h153F⟩ := h153Q
    obtain ⟨h153r, h153j⟩ := h153
    refine gT_chk (by omega) (by omega) ?_
    refine gT_chk (by omega) (by omega) ?_
    rw [if_neg h150n]
    unfold fb_511_1696
    refine gT_v1q (A := fun w9 u9 => True ∧ J (-1, l, l, i, i) u9) (B := fun _ u9 => (RX u9) ∧ Fau u9) (d_257 hp h153j t12 (show (0 : Int) ≤ 1 ∧ 1 ≤ 1 by constructor <;> omega)) (gQ_and ((gQ_and (rs_257 h153j h153R.1) (rx_257 h153j h153R.2))) (fm h153j h153F (of_257 h153j.1.2.1 wfi rfl (Jw h153j)))) (fun v168 s167 h154 h154Q => ?_)
    obtain ⟨h154R, h154F⟩ := h154Q
    obtain ⟨h154r, h154j⟩ := h154
    exact gT_ret ⟨rfl, rfl, rfl, g6, by omega, ⟨l, i, hi, h154j, ⟨h154R, h154F⟩⟩⟩
  refine gT_ite (fun h155 => ?_) (fun h155n => ?_)
  · refine gT_chk (by omega) (by omega) ?_
    refine gT_chk (by omega) (by omega) ?_
    refine gT_v1q (A := fun w9 u9 => True ∧ J (-1, l, l, i, i) u9) (B := fun _ u9 => (RX u9) ∧ Fau u9) (d_309 hp hJ t11 t231) (gQ_and ((gQ_and (rs_309 hJ hR.1.1) (rx_309 hJ hR.1.2))) (ft_309 hJ hR.1 hR.2)) (fun v170 s169 h156 h156Q => ?_)
    obtain ⟨h156R, h156F⟩ := h156Q
    obtain ⟨h156r, h156j⟩ := h156
    refine gT_chk (by omega) (by omega) ?_
    refine gT_chk (by omega) (by omega) ?_
    refine gT_v1q (A := fun w9 u9 => True ∧ J (-1, l, l, i, i) u9) (B := fun _ u9 => (RX u9) ∧ Fau u9) (d_258 hp h156j t12) (gQ_and ((gQ_and (rs_258 h156j h156R.1) (rx_258 h156j h156R.2))) (fm h156j h156F (of_258 h156j.1.2.1 wfi rfl (Jw h156j)))) (fun v172 s171 h157 h157Q => ?_)
    obtain ⟨h157R, h157F⟩ := h157Q
    obtain ⟨h157r, h157j⟩ := h157
    exact gT_ret ⟨rfl, rfl, rfl, g6, by omega, ⟨l, i, hi, h157j, ⟨h157R, h157F⟩⟩⟩
  refine gT_ite (fun h158 => ?_) (fun h158n => ?_)
  · refine gT_chk (by omega) (by omega) ?_
    refine gT_v1q (A := fun w9 u9 => True ∧ J (-1, l, l, i, i) u9) (B := fun w9 u9 => (Rt u9 ∧ Xd (f_259 217 ((sc ((g32 (x4 + 1)) : Int).toNat))) w9 u9) ∧ Fau u9) (d_129 hp hJ t11) (gQ_and ((gQ_and (rs_129 hJ hR.1.1) (ax_129 hJ hR.1.1 hR.1.2))) (ft_129 hJ hR.1 hR.2)) (fun v174 s173 h159 h159Q => ?_)
    obtain ⟨h159R, h159F⟩ := h159Q
    obtain ⟨h159r, h159j⟩ := h159
    refine gT_chk (by omega) (by omega) ?_
    refine gT_v1q (A := fun w9 u9 => True ∧ J (-1, l, l, i, i) u9) (B := fun w9 u9 => (RX u9 ∧ w9 = v174) ∧ Fau u9) (d_259 hp h159j t12) (gQ_and ((xd_m h159j h159R.1 h159R.2 (rs_259 h159j h159R.1))) (fm h159j h159F (of_259 h159j.1.2.1 wfi rfl (Jw h159j)))) (fun v176 s175 h160 h160Q => ?_)
    obtain ⟨h160R, h160F⟩ := h160Q
    obtain ⟨h160r, h160j⟩ := h160
    exact gT_ret ⟨rfl, rfl, rfl, g6, by omega, ⟨l, i, hi, h160j, ⟨h160R.1, h160F⟩⟩⟩
  refine gT_ite (fun h161 => ?_) (fun h161n => ?_)
  · refine gT_v1q (A := fun w9 u9 => (0 ≤ w9 ∧ w9 ≤ 1) ∧ J (-1, l, l, i, i) u9) (B := fun w9 u9 => (Rt u9 ∧ Xd (f_260 217) w9 u9) ∧ Fau u9) (d_130 hp hJ t11) (gQ_and ((gQ_and (rs_130 hJ hR.1.1) (ax_130 hJ hR.1.1 hR.1.2))) (ft_130 hJ hR.1 hR.2)) (fun v178 s177 h162 h162Q => ?_)
    obtain ⟨h162R, h162F⟩ := h162Q
    obtain ⟨h162r, h162j⟩ := h162
    refine gT_v1q (A := fun w9 u9 => (0 ≤ w9 ∧ w9 ≤ 1) ∧ J (-1, l, l, i, i) u9) (B := fun w9 u9 => (RX u9 ∧ w9 = v178) ∧ Fau u9) (d_260 hp h162j t12) (gQ_and ((xd_m h162j h162R.1 h162R.2 (rs_260 h162j h162R.1))) (fm h162j h162F (of_260 h162j.1.2.1 wfi rfl (Jw h162j)))) (fun v181 s180 h163 h163Q => ?_)
    obtain ⟨h163R, h163F⟩ := h163Q
    obtain ⟨h163r, h163j⟩ := h163
    exact gT_ret ⟨rfl, rfl, rfl, g6, by omega, ⟨l, i, hi, h163j, ⟨h163R.1, h163F⟩⟩⟩
  refine gT_ite (fun h164 => ?_) (fun h164n => ?_)
  · refine gT_v0q (A := fun u9 => J (-1, l, l, 1, i) u9) (B := fun u9 => (Mim u9 ∧ ∀ p9, J p9 u9 → gQ (f_261 217 u9) (fun q_l => Rx q_l.2.2.2)) ∧ Fau u9) (d_131 hp hJ t11) (gQ_and ((gQ_and (rt_131 hJ hR.1.1) (ax_131 hJ hR.1.2))) (ft_131 hJ hR.2)) (fun s183 h165 h165Q => ?_)
    obtain ⟨h165R, h165F⟩ := h165Q
    have h165j := h165
    refine gT_v0q (A := fun u9 => J (-1, l, l, 1, 1) u9) (B := fun u9 => RX u9 ∧ Fau u9) (d_261 hp h165j t12) (gQ_and ((gQ_and (rt_261 h165j h165R.1) (h165R.2 _ h165j))) (fm h165j h165F (of_261 h165j.1.2.1 wfi rfl (Jw h165j)))) (fun s185 h166 h166Q => ?_)
    obtain ⟨h166R, h166F⟩ := h166Q
    have h166j := h166
    exact gT_ret ⟨rfl, rfl, rfl, g6, by omega, ⟨l, 1, (Or.inr rfl), h166j, ⟨h166R, h166F⟩⟩⟩
  refine gT_ite (fun h167 => ?_) (fun h167n => ?_)
  · refine gT_v1q (A := fun w9 u9 => (0 ≤ w9 ∧ w9 ≤ 1) ∧ J (-1, l, l, i, i) u9) (B := fun _ u9 => (((i = 0 → Rt u9) ∧ (i ≠ 0 → Mbk u9)) ∧ ∀ p9, J p9 u9 → gQ (f_262 217 u9) (fun q_l => Rx q_l.2.2.2)) ∧ Fau u9) (d_132 hp hJ t11) (gQ_and ((gQ_and (rt_132 hJ hR.1.1) (ax_132 hJ rfl hi hR.1.2))) (ft_132 hJ hR.2)) (fun v188 s187 h168 h168Q => ?_)
    obtain ⟨h168R, h168F⟩ := h168Q
    rcases hi with hi0_l | hi1
    · refine gT_v1q (A := fun w9 u9 => (0 ≤ w9 ∧ w9 ≤ 1) ∧ J (-1, l, l, i, i) u9) (B := fun _ u9 => (RX u9) ∧ Fau u9) (d_262 hp h168.2 t12) (gQ_and (gQ_and (rt_262a h168.2 hi0_l (h168R.1.1 hi0_l)) (h168R.2 _ h168.2)) (fm h168.2 h168F (of_262 h168.2.1.2.1 wfi rfl (Jw h168.2)))) (fun v191 s190 h169 h169Q => ?_)
      obtain ⟨h169R, h169F⟩ := h169Q
      exact gT_ret ⟨rfl, rfl, rfl, g6, by omega, ⟨l, i, Or.inl hi0_l, h169.2, ⟨h169R, h169F⟩⟩⟩
    · refine gT_v1q (A := fun w9 u9 => (0 ≤ w9 ∧ w9 ≤ 1) ∧ J (-1, l, l, i, i) u9) (B := fun _ u9 => (RX u9) ∧ Fau u9) (d_262 hp h168.2 t12) (gQ_and (gQ_and (rt_262b h168.2 hi1 (h168R.1.2 (by omega))) (h168R.2 _ h168.2)) (fm h168.2 h168F (of_262 h168.2.1.2.1 wfi rfl (Jw h168.2)))) (fun v191 s190 h170 h170Q => ?_)
      obtain ⟨h170R, h170F⟩ := h170Q
      exact gT_ret ⟨rfl, rfl, rfl, g6, by omega, ⟨l, i, Or.inr hi1, h170.2, ⟨h170R, h170F⟩⟩⟩
  refine gT_ite (fun h171 => ?_) (fun h171n => ?_)
  · refine gT_chk (by omega) (by omega) ?_
    refine gT_v1q (A := fun w9 u9 => True ∧ J (-1, l, l, i, i) u9) (B := fun _ u9 => (RX u9) ∧ Fau u9) (d_133 hp hJ t11) (gQ_and ((gQ_and (rs_133 hJ hR.1.1) (rx_133 hJ hR.1.2))) (fq hJ hR.2 (o_133 hJ.1.2.1 cid rfl (Fw_rf hJ.1.1)))) (fun v194 s193 h172 h172Q => ?_)
    obtain ⟨h172R, h172F⟩ := h172Q
    obtain ⟨h172r, h172j⟩ := h172
    refine gT_chk (by omega) (by omega) ?_
    refine gT_v1q (A := fun w9 u9 => True ∧ J (-1, l, l, i, i) u9) (B := fun _ u9 => (RX u9) ∧ Fau u9) (d_263 hp h172j t12) (gQ_and ((gQ_and (rs_263 h172j h172R.1) (rx_263 h172j h172R.2))) (fm h172j h172F (of_263 h172j.1.2.1 wfi rfl (Jw h172j)))) (fun v196 s195 h173 h173Q => ?_)
    obtain ⟨h173R, h173F⟩ := h173Q
    obtain ⟨h173r, h173j⟩ := h173
    exact gT_ret ⟨rfl, rfl, rfl, g6, by omega, ⟨l, i, hi, h173j, ⟨h173R, h173F⟩⟩⟩
  exact gT_ret ⟨rfl, rfl, rfl, g6, by omega, ⟨l, i, hi, hJ, ⟨hR.1, hR.2⟩⟩⟩
