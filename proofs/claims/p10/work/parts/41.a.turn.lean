theorem t231 : T 109 231 := ⟨by decide, by decide +kernel⟩
theorem d_276 {q : Int × Int × Int × Int} {s : gS} (_hp : (-1 : Int) ≤ -1 ∧ (-1 : Int) ≤ 0) (h : J (-1, q) s) (_t0 : T 11 0) (_t1 : T 109 231) : gT (f_276 0 231 s) (fun r => r.1 = 1 ∧ True ∧ J (-1, 0, q.2) r.2.2.2) := by
  unfold f_276
  refine gT_c1 (A := fun _ u_l => True ∧ J (-1, 0, q.2) u_l) (B := fun t_l u_l => (t_l = 2 ∨ t_l = 3) ∧ J (-1, 0, q.2) u_l) (d_89 h t11) (fun v2 s1_l h1 => ?_) (fun k_l s1_l hk hB_l => ?_)
  · refine gT_chk (by decide) (by decide) ?_
    exact gT_ret ⟨rfl, trivial, J_wa h1.2 t231 rfl⟩
  · refine gT_ite (fun _ => gT_ret ⟨rfl, trivial, hB_l.2⟩) (fun h0 => ?_)
    refine gT_ite (fun _ => gT_ret ⟨rfl, trivial, hB_l.2⟩) (fun h1 => ?_)
    have := hB_l.1
    omega
theorem gT_v1q {Q : Type} {P : Q → Prop} {z : Option gO} {A B : Int → gS → Prop} {E : Int → gS → Option Q} (h : gT z (fun r => r.1 = 1 ∧ A r.2.1 r.2.2.2)) (h' : gQ z (fun r => B r.2.1 r.2.2.2)) (k : ∀ v s, A v s → B v s → gT (E v s) P) : gT (z.bind (gv1 E)) P := by
  obtain ⟨r, h1, h2, h3⟩ := h
  exact gT_v1 (A := fun v s => A v s ∧ B v s) ⟨r, h1, h2, h3, h' r h1⟩ (fun v s hs => k v s hs.1 hs.2)
theorem gT_v0q {Q : Type} {P : Q → Prop} {z : Option gO} {A B : gS → Prop} {E : gS → Option Q} (h : gT z (fun r => r.1 = 0 ∧ A r.2.2.2)) (h' : gQ z (fun r => B r.2.2.2)) (k : ∀ s, A s → B s → gT (E s) P) : gT (z.bind (gv0 E)) P := by
  obtain ⟨r, h1, h2, h3⟩ := h
  exact gT_v0 (A := fun s => A s ∧ B s) ⟨r, h1, h2, h3, h' r h1⟩ (fun s hs => k s hs.1 hs.2)
theorem gcmp_r {x : Int} : gcmp x x = 0 := by
  unfold gcmp
  rw [if_neg (by omega), if_pos rfl]
set_option maxHeartbeats 4000000 in
theorem lw_turn {n : Nat} {sc : Nat → Int} {x4 l i : Int} {s : gS} (hn : n ≤ 3072) (hx : 0 ≤ x4 ∧ x4 ≤ 3072) (hi : i = 0 ∨ i = 1) (hJ : J (-1, l, l, i, i) s) (hR : RX s) : gT (sb_511_23 n sc 0 217 231 x4 s) (Sum.elim (fun z => z.1 = 0 ∧ z.2.1 = 217 ∧ z.2.2.1 = 231 ∧ z.2.2.2.1 = x4 + 6 ∧ x4 + 6 ≤ n ∧ ∃ l i, (i = 0 ∨ i = 1) ∧ J (-1, l, l, i, i) z.2.2.2.2 ∧ RX z.2.2.2.2) (fun r => r.1 = 1 ∧ r.2.1 = 1 ∧ r.2.2.1 = 0)) := by
  have hp : (-1 : Int) ≤ -1 ∧ (-1 : Int) ≤ 0 := by decide
  have g0 := g32_eq (v := (n : Int) - 6) (by omega) (by omega)
  have g1 := g32_eq (v := x4 + 1) (by omega) (by omega)
  have g2 := g32_eq (v := x4 + 2) (by omega) (by omega)
  have g3_l := g32_eq (v := x4 + 3) (by omega) (by omega)
  have g4 := g32_eq (v := x4 + 4) (by omega) (by omega)
  have g5_l := g32_eq (v := x4 + 5) (by omega) (by omega)
  have g6 := g32_eq (v := x4 + 6) (by omega) (by omega)
  unfold sb_511_23
  refine gT_ite (fun _ => gT_map (gT_ret ⟨rfl, rfl, rfl⟩)) (fun hz => ?_)
  refine gT_chk (by omega) (by omega) ?_
  refine gT_ite (fun h1 => ?_) (fun h1n => ?_)
  · exact gT_ret ⟨rfl, rfl, rfl, g6, by omega, ⟨l, i, hi, hJ, hR⟩⟩
  refine gT_ite (fun h2 => ?_) (fun h2n => ?_)
  · refine gT_chk (by omega) (by omega) ?_
    refine gT_chk (by omega) (by omega) ?_
    refine gT_chk (by omega) (by omega) ?_
    refine gT_chk (by omega) (by omega) ?_
    refine gT_chk (by omega) (by omega) ?_
    refine gT_v1q (A := fun w9 u9 => (380 < l ∧ w9 = -1 ∧ J (-1, l, l, i, i) u9) ∨ (l ≤ 380 ∧ w9 = l + 20 ∧ J (-1, l + 20, l, i, i) u9)) (B := fun _ u9 => ((380 < l → Rt u9) ∧ (l ≤ 380 → Mfd l (fd5 ((sc ((g32 (x4 + 1)) : Int).toNat)) ((sc ((g32 (x4 + 2)) : Int).toNat)) ((sc ((g32 (x4 + 3)) : Int).toNat)) ((sc ((g32 (x4 + 4)) : Int).toNat)) ((sc ((g32 (x4 + 5)) : Int).toNat))) u9)) ∧ Rx u9) (c_87 hJ) (gQ_and (rt_87 hJ hR.1) (rx_87 hJ hR.2)) (fun v2 s1_l h3 h3R => ?_)
    rcases h3 with ⟨h3a, h3b, h3j⟩ | ⟨h3a, h3b, h3j⟩
    · refine gT_chk (by omega) (by omega) ?_
      refine gT_chk (by omega) (by omega) ?_
      refine gT_chk (by omega) (by omega) ?_
      refine gT_chk (by omega) (by omega) ?_
      refine gT_chk (by omega) (by omega) ?_
      refine gT_v1q (A := fun w9 u9 => (380 < l ∧ w9 = -1 ∧ J (-1, l, l, i, i) u9) ∨ (l ≤ 380 ∧ w9 = l + 20 ∧ J (-1, l, l + 20, i, i) u9)) (B := fun _ u9 => RX u9) (c_166 h3j) (gQ_and (rt_166a h3j (by omega) (h3R.1.1 h3a)) (rx_166 h3j h3R.2)) (fun v4_l s3_l h4 h4R => ?_)
      rcases h4 with ⟨h4a, h4b, h4j⟩ | ⟨h4a, h4b, h4j⟩
      · exact gT_ret ⟨rfl, rfl, rfl, g6, by omega, ⟨l, i, hi, h4j, h4R⟩⟩
      · omega
    · refine gT_chk (by omega) (by omega) ?_
      refine gT_chk (by omega) (by omega) ?_
      refine gT_chk (by omega) (by omega) ?_
      refine gT_chk (by omega) (by omega) ?_
      refine gT_chk (by omega) (by omega) ?_
      refine gT_v1q (A := fun w9 u9 => (380 < l ∧ w9 = -1 ∧ J (-1, l + 20, l, i, i) u9) ∨ (l ≤ 380 ∧ w9 = l + 20 ∧ J (-1, l + 20, l + 20, i, i) u9)) (B := fun _ u9 => RX u9) (c_166 h3j) (gQ_and (rt_166b h3j (by omega) (h3R.1.2 h3a)) (rx_166 h3j h3R.2)) (fun v4_l s3_l h5 h5R => ?_)
      rcases h5 with ⟨h5a, h5b, h5j⟩ | ⟨h5a, h5b, h5j⟩
      · omega
      · exact gT_ret ⟨rfl, rfl, rfl, g6, by omega, ⟨l + 20, i, hi, h5j, h5R⟩⟩
  refine gT_ite (fun h6 => ?_) (fun h6n => ?_)
  · refine gT_chk (by omega) (by omega) ?_
    refine gT_v1q (A := fun w9 u9 => (((sc ((g32 (x4 + 1)) : Int).toNat) < 0 ∨ l < (sc ((g32 (x4 + 1)) : Int).toNat)) ∧ w9 = 0 ∧ J (-1, l, l, i, i) u9) ∨ ((0 ≤ (sc ((g32 (x4 + 1)) : Int).toNat) ∧ (sc ((g32 (x4 + 1)) : Int).toNat) ≤ l) ∧ w9 = 1 ∧ J (-1, (sc ((g32 (x4 + 1)) : Int).toNat), l, i, i) u9)) (B := fun _ u9 => RX u9) (c_88 hJ) (gQ_and (rs_88 hJ hR.1) (rx_88 hJ hR.2)) (fun v6 s5 h7 h7R => ?_)
    rcases h7 with ⟨h7a, h7b, h7j⟩ | ⟨h7a, h7b, h7j⟩
    · refine gT_chk (by omega) (by omega) ?_
      refine gT_v1q (A := fun w9 u9 => (((sc ((g32 (x4 + 1)) : Int).toNat) < 0 ∨ l < (sc ((g32 (x4 + 1)) : Int).toNat)) ∧ w9 = 0 ∧ J (-1, l, l, i, i) u9) ∨ ((0 ≤ (sc ((g32 (x4 + 1)) : Int).toNat) ∧ (sc ((g32 (x4 + 1)) : Int).toNat) ≤ l) ∧ w9 = 1 ∧ J (-1, l, (sc ((g32 (x4 + 1)) : Int).toNat), i, i) u9)) (B := fun _ u9 => RX u9) (c_167 h7j) (gQ_and (rs_167 h7j h7R.1) (rx_167 h7j h7R.2)) (fun v9 s8 h8 h8R => ?_)
      rcases h8 with ⟨h8a, h8b, h8j⟩ | ⟨h8a, h8b, h8j⟩
      · exact gT_ret ⟨rfl, rfl, rfl, g6, by omega, ⟨l, i, hi, h8j, h8R⟩⟩
      · omega
    · refine gT_chk (by omega) (by omega) ?_
      refine gT_v1q (A := fun w9 u9 => (((sc ((g32 (x4 + 1)) : Int).toNat) < 0 ∨ l < (sc ((g32 (x4 + 1)) : Int).toNat)) ∧ w9 = 0 ∧ J (-1, (sc ((g32 (x4 + 1)) : Int).toNat), l, i, i) u9) ∨ ((0 ≤ (sc ((g32 (x4 + 1)) : Int).toNat) ∧ (sc ((g32 (x4 + 1)) : Int).toNat) ≤ l) ∧ w9 = 1 ∧ J (-1, (sc ((g32 (x4 + 1)) : Int).toNat), (sc ((g32 (x4 + 1)) : Int).toNat), i, i) u9)) (B := fun _ u9 => RX u9) (c_167 h7j) (gQ_and (rs_167 h7j h7R.1) (rx_167 h7j h7R.2)) (fun v9 s8 h9 h9R => ?_)
      rcases h9 with ⟨h9a, h9b, h9j⟩ | ⟨h9a, h9b, h9j⟩
      · omega
      · exact gT_ret ⟨rfl, rfl, rfl, g6, by omega, ⟨(sc ((g32 (x4 + 1)) : Int).toNat), i, hi, h9j, h9R⟩⟩
  refine gT_ite (fun h10 => ?_) (fun h10n => ?_)
  · refine gT_v1q (A := fun w9 u9 => True ∧ J (-1, 0, l, i, i) u9) (B := fun w9 u9 => Mbo l.toNat w9 u9 ∧ ∀ p9, J p9 u9 → (-1 ≤ p9.1 ∧ p9.1 ≤ 0) → gQ (f_187 217 u9) (fun q_l => ∀ p8, J p8 q_l.2.2.2 → Rx q_l.2.2.2)) (d_276 hp hJ t11 t231) (gQ_and (rb_276 hJ hR.1) (ax_276 rfl hJ hR.1 hR.2)) (fun v12 s11 h11 h11R => ?_)
    obtain ⟨h11r, h11j⟩ := h11
    refine gT_v1q (A := fun w9 u9 => True ∧ J (-1, 0, 0, i, i) u9) (B := fun w9 u9 => (Rt u9 ∧ gI u9 217 0 = v12 ∧ (v12 = 0 → gI u9 231 0 = w9)) ∧ ∀ p8, J p8 u9 → Rx u9) (d_187 hp h11j t12) (gQ_and (rb_187 hp h11j h11R.1) (h11R.2 _ h11j hp)) (fun v14 s13 h12 h12R => ?_)
    obtain ⟨h12r, h12j⟩ := h12
    have h12K : RX s13 := ⟨h12R.1.1, h12R.2 _ h12j⟩
    exact gT_ret ⟨rfl, rfl, rfl, g6, by omega, ⟨0, i, hi, h12j, h12K⟩⟩
  refine gT_ite (fun h13 => ?_) (fun h13n => ?_)
  · refine gT_v1q (A := fun w9 u9 => True ∧ J (-1, 0, l, i, i) u9) (B := fun w9 u9 => Rt u9 ∧ ∀ p9, J p9 u9 → gQ (f_195 217 u9) (fun q_l => Rx q_l.2.2.2)) (d_277 hp hJ t11 t231) (gQ_and (rs_277 hJ hR.1) (ax_277 rfl hJ hR.1 hR.2)) (fun v16 s15 h14 h14R => ?_)
    obtain ⟨h14r, h14j⟩ := h14
    refine gT_v1q (A := fun w9 u9 => True ∧ J (-1, 0, 0, i, i) u9) (B := fun _ u9 => RX u9) (d_195 hp h14j t12) (gQ_and (rs_195 h14j h14R.1) (h14R.2 _ h14j)) (fun v18 s17 h15 h15R => ?_)
    obtain ⟨h15r, h15j⟩ := h15
    exact gT_ret ⟨rfl, rfl, rfl, g6, by omega, ⟨0, i, hi, h15j, h15R⟩⟩
  refine gT_ite (fun h16_l => ?_) (fun h16n => ?_)
  · refine gT_v1q (A := fun w9 u9 => True ∧ J (-1, l, l, i, i) u9) (B := fun _ u9 => RX u9) (d_91 hp hJ t11) (gQ_and (rs_91 hJ hR.1) (rx_91 hJ hR.2)) (fun v20 s19 h17 h17R => ?_)
    obtain ⟨h17r, h17j⟩ := h17
    refine gT_v1q (A := fun w9 u9 => True ∧ J (-1, l, l, i, i) u9) (B := fun _ u9 => RX u9) (d_196 hp h17j t12) (gQ_and (rs_196 h17j h17R.1) (rx_196 h17j h17R.2)) (fun v22 s21 h18 h18R => ?_)
    obtain ⟨h18r, h18j⟩ := h18
    exact gT_ret ⟨rfl, rfl, rfl, g6, by omega, ⟨l, i, hi, h18j, h18R⟩⟩
  refine gT_ite (fun h19 => ?_) (fun h19n => ?_)
  · refine gT_chk (by omega) (by omega) ?_
    refine gT_chk (by omega) (by omega) ?_
    refine gT_v1q (A := fun w9 u9 => True ∧ J (-1, l, l, i, i) u9) (B := fun _ u9 => RX u9) (d_278 hp hJ t11 t231) (gQ_and (rs_278 hJ hR.1) (rx_278 hJ hR.2)) (fun v24 s23 h20 h20R => ?_)
    obtain ⟨h20r, h20j⟩ := h20
    refine gT_chk (by omega) (by omega) ?_
    refine gT_chk (by omega) (by omega) ?_
    refine gT_v1q (A := fun w9 u9 => True ∧ J (-1, l, l, i, i) u9) (B := fun _ u9 => RX u9) (d_203 hp h20j t12) (gQ_and (rs_203 h20j h20R.1) (rx_203 h20j h20R.2)) (fun v26 s25 h21 h21R => ?_)
    obtain ⟨h21r, h21j⟩ := h21
    exact gT_ret ⟨rfl, rfl, rfl, g6, by omega, ⟨l, i, hi, h21j, h21R⟩⟩
  refine gT_ite (fun h22 => ?_) (fun h22n => ?_)
  · refine gT_chk (by omega) (by omega) ?_
    refine gT_chk (by omega) (by omega) ?_
    refine gT_v1q (A := fun w9 u9 => True ∧ J (-1, l, l, i, i) u9) (B := fun _ u9 => RX u9) (d_279 hp hJ t11 t231) (gQ_and (rs_279 hJ hR.1) (rx_279 hJ hR.2)) (fun v28 s27 h23 h23R => ?_)
    obtain ⟨h23r, h23j⟩ := h23
    refine gT_chk (by omega) (by omega) ?_
    refine gT_chk (by omega) (by omega) ?_
    refine gT_v1q (A := fun w9 u9 => True ∧ J (-1, l, l, i, i) u9) (B := fun _ u9 => RX u9) (d_206 hp h23j t12) (gQ_and (rs_206 h23j h23R.1) (rx_206 h23j h23R.2)) (fun v30 s29 h24 h24R => ?_)
    obtain ⟨h24r, h24j⟩ := h24
    exact gT_ret ⟨rfl, rfl, rfl, g6, by omega, ⟨l, i, hi, h24j, h24R⟩⟩
  refine gT_ite (fun h25 => ?_) (fun h25n => ?_)
  · refine gT_chk (by omega) (by omega) ?_
    refine gT_chk (by omega) (by omega) ?_
    refine gT_ite (fun h26 => ?_) (fun h26n => ?_)
    · unfold fb_511_488
      refine gT_v1q (A := fun w9 u9 => True ∧ J (-1, l, l, i, i) u9) (B := fun _ u9 => RX u9) (d_280 hp hJ t11 t231 (show (0 : Int) ≤ 0 ∧ 0 ≤ 1 by constructor <;> omega)) (gQ_and (rs_280 hJ hR.1) (rx_280 hJ hR.2)) (fun v32 s31 h27 h27R => ?_)
      obtain ⟨h27r, h27j⟩ := h27
      refine gT_chk (by omega) (by omega) ?_
      refine gT_chk (by omega) (by omega) ?_
      rw [if_pos h26]
      unfold fb_511_515
      refine gT_v1q (A := fun w9 u9 => True ∧ J (-1, l, l, i, i) u9) (B := fun _ u9 => RX u9) (d_207 hp h27j t12 (show (0 : Int) ≤ 0 ∧ 0 ≤ 1 by constructor <;> omega)) (gQ_and (rs_207 h27j h27R.1) (rx_207 h27j h27R.2)) (fun v34 s33 h28 h28R => ?_)
      obtain ⟨h28r, h28j⟩ := h28
      exact gT_ret ⟨rfl, rfl, rfl, g6, by omega, ⟨l, i, hi, h28j, h28R⟩⟩
    unfold fb_511_488
    refine gT_v1q (A := fun w9 u9 => True ∧ J (-1, l, l, i, i) u9) (B := fun _ u9 => RX u9) (d_280 hp hJ t11 t231 (show (0 : Int) ≤ 1 ∧ 1 ≤ 1 by constructor <;> omega)) (gQ_and (rs_280 hJ hR.1) (rx_280 hJ hR.2)) (fun v32 s31 h29 h29R => ?_)
    obtain ⟨h29r, h29j⟩ := h29
    refine gT_chk (by omega) (by omega) ?_
    refine gT_chk (by omega) (by omega) ?_
    rw [if_neg h26n]
    unfold fb_511_515
    refine gT_v1q (A := fun w9 u9 => True ∧ J (-1, l, l, i, i) u9) (B := fun _ u9 => RX u9) (d_207 hp h29j t12 (show (0 : Int) ≤ 1 ∧ 1 ≤ 1 by constructor <;> omega)) (gQ_and (rs_207 h29j h29R.1) (rx_207 h29j h29R.2)) (fun v34 s33 h30 h30R => ?_)
    obtain ⟨h30r, h30j⟩ := h30
    exact gT_ret ⟨rfl, rfl, rfl, g6, by omega, ⟨l, i, hi, h30j, h30R⟩⟩
  refine gT_ite (fun h31 => ?_) (fun h31n => ?_)
  · refine gT_chk (by omega) (by omega) ?_
    refine gT_chk (by omega) (by omega) ?_
    refine gT_ite (fun h32 => ?_) (fun h32n => ?_)
    · unfold fb_511_544
      refine gT_v1q (A := fun w9 u9 => True ∧ J (-1, l, l, i, i) u9) (B := fun w9 u9 => RX u9 ∧ Xc (f_208 217 ((sc ((g32 (x4 + 1)) : Int).toNat)) (0)) w9 u9) (d_281 hp hJ t11 t231 (show (0 : Int) ≤ 0 ∧ 0 ≤ 1 by constructor <;> omega)) (gQ_and ((gQ_and (rs_281 hJ hR.1) (rx_281 hJ hR.2))) (xc_281 hJ hR)) (fun v36 s35 h33 h33R => ?_)
      obtain ⟨h33r, h33j⟩ := h33
      refine gT_chk (by omega) (by omega) ?_
      refine gT_chk (by omega) (by omega) ?_
      rw [if_pos h32]
      unfold fb_511_571
      refine gT_v1q (A := fun w9 u9 => True ∧ J (-1, l, l, i, i) u9) (B := fun w9 u9 => RX u9 ∧ gI u9 217 0 = v36 ∧ (v36 = 0 → gI u9 231 0 = w9)) (d_208 hp h33j t12 (show (0 : Int) ≤ 0 ∧ 0 ≤ 1 by constructor <;> omega)) (xc_m h33j h33R.1 h33R.2 (gQ_and (rs_208 h33j h33R.1.1) (rx_208 h33j h33R.1.2))) (fun v38 s37 h34 h34R => ?_)
      obtain ⟨h34r, h34j⟩ := h34
      refine gT_v1 (A := fun w9 u9 => w9 = gI s37 217 0 ∧ u9 = s37) ⟨_, rfl, rfl, rfl, rfl⟩ (fun v40 s39 h35 => ?_)
      obtain ⟨h35a, h35b⟩ := h35
      rw [h35b]
      have h35c : v40 = v36 := h35a.trans h34R.2.1
      rw [if_pos h35c]
      refine gT_ite (fun h35d => ?_) (fun _ => gT_ret ⟨rfl, rfl, rfl, g6, by omega, ⟨l, i, hi, h34j, h34R.1⟩⟩)
      refine gT_chk (by omega) (by omega) ?_
      have h35e : gI s37 231 (0 : Int).toNat = v38 := h34R.2.2 h35d
      rw [h35e, gcmp_r, if_pos rfl]
      exact gT_ret ⟨rfl, rfl, rfl, g6, by omega, ⟨l, i, hi, h34j, h34R.1⟩⟩
    unfold fb_511_544
    refine gT_v1q (A := fun w9 u9 => True ∧ J (-1, l, l, i, i) u9) (B := fun w9 u9 => RX u9 ∧ Xc (f_208 217 ((sc ((g32 (x4 + 1)) : Int).toNat)) (1)) w9 u9) (d_281 hp hJ t11 t231 (show (0 : Int) ≤ 1 ∧ 1 ≤ 1 by constructor <;> omega)) (gQ_and ((gQ_and (rs_281 hJ hR.1) (rx_281 hJ hR.2))) (xc_281 hJ hR)) (fun v36 s35 h36 h36R => ?_)
    obtain ⟨h36r, h36j⟩ := h36
    refine gT_chk (by omega) (by omega) ?_
    refine gT_chk (by omega) (by omega) ?_
    rw [if_neg h32n]
    unfold fb_511_571
    refine gT_v1q (A := fun w9 u9 => True ∧ J (-1, l, l, i, i) u9) (B := fun w9 u9 => RX u9 ∧ gI u9 217 0 = v36 ∧ (v36 = 0 → gI u9 231 0 = w9)) (d_208 hp h36j t12 (show (0 : Int) ≤ 1 ∧ 1 ≤ 1 by constructor <;> omega)) (xc_m h36j h36R.1 h36R.2 (gQ_and (rs_208 h36j h36R.1.1) (rx_208 h36j h36R.1.2))) (fun v38 s37 h37 h37R => ?_)
    obtain ⟨h37r, h37j⟩ := h37
    refine gT_v1 (A := fun w9 u9 => w9 = gI s37 217 0 ∧ u9 = s37) ⟨_, rfl, rfl, rfl, rfl⟩ (fun v40 s39 h38 => ?_)
    obtain ⟨h38a, h38b⟩ := h38
    rw [h38b]
    have h38c : v40 = v36 := h38a.trans h37R.2.1
    rw [if_pos h38c]
    refine gT_ite (fun h38d => ?_) (fun _ => gT_ret ⟨rfl, rfl, rfl, g6, by omega, ⟨l, i, hi, h37j, h37R.1⟩⟩)
    refine gT_chk (by omega) (by omega) ?_
    have h38e : gI s37 231 (0 : Int).toNat = v38 := h37R.2.2 h38d
    rw [h38e, gcmp_r, if_pos rfl]
    exact gT_ret ⟨rfl, rfl, rfl, g6, by omega, ⟨l, i, hi, h37j, h37R.1⟩⟩
  refine gT_ite (fun h39 => ?_) (fun h39n => ?_)
  · refine gT_chk (by omega) (by omega) ?_
    refine gT_v1q (A := fun w9 u9 => True ∧ J (-1, l, l, i, i) u9) (B := fun w9 u9 => Rt u9 ∧ Xn (f_211 217 ((sc ((g32 (x4 + 1)) : Int).toNat))) w9 u9) (d_282 hp hJ t11 t231) (gQ_and (rs_282 hJ hR.1) (ax_282 hJ hR.1 hR.2)) (fun v42 s41 h40 h40R => ?_)
    obtain ⟨h40r, h40j⟩ := h40
    refine gT_chk (by omega) (by omega) ?_
    refine gT_v1q (A := fun w9 u9 => True ∧ J (-1, l, l, i, i) u9) (B := fun w9 u9 => RX u9 ∧ gI u9 217 0 = v42 ∧ (v42 = 0 → gI u9 231 0 = w9)) (d_211 hp h40j t12) (xn_m h40j h40R.1 h40R.2 (rs_211 h40j h40R.1)) (fun v44 s43 h41 h41R => ?_)
    obtain ⟨h41r, h41j⟩ := h41
    exact gT_ret ⟨rfl, rfl, rfl, g6, by omega, ⟨l, i, hi, h41j, h41R.1⟩⟩
  refine gT_ite (fun h42 => ?_) (fun h42n => ?_)
  · refine gT_chk (by omega) (by omega) ?_
    refine gT_chk (by omega) (by omega) ?_
    refine gT_v1q (A := fun w9 u9 => True ∧ J (-1, l, l, i, i) u9) (B := fun w9 u9 => Rt u9 ∧ Xn (f_213 217 ((sc ((g32 (x4 + 1)) : Int).toNat)) ((sc ((g32 (x4 + 2)) : Int).toNat))) w9 u9) (d_283 hp hJ t11 t231) (gQ_and (rs_283 hJ hR.1) (ax_283 hJ hR.1 hR.2)) (fun v46 s45 h43 h43R => ?_)
    obtain ⟨h43r, h43j⟩ := h43
    refine gT_chk (by omega) (by omega) ?_
    refine gT_chk (by omega) (by omega) ?_
    refine gT_v1q (A := fun w9 u9 => (0 ≤ w9 ∧ w9 ≤ 1) ∧ J (-1, l, l, i, i) u9) (B := fun w9 u9 => RX u9 ∧ gI u9 217 0 = v46 ∧ (v46 = 0 → gI u9 231 0 = w9)) (d_213 hp h43j t12) (xn_m h43j h43R.1 h43R.2 (rs_213 h43j h43R.1)) (fun v48 s47 h44 h44R => ?_)
    obtain ⟨h44r, h44j⟩ := h44
    exact gT_ret ⟨rfl, rfl, rfl, g6, by omega, ⟨l, i, hi, h44j, h44R.1⟩⟩
  refine gT_ite (fun h45 => ?_) (fun h45n => ?_)
  · refine gT_chk (by omega) (by omega) ?_
    refine gT_v1q (A := fun w9 u9 => True ∧ J (-1, l, l, i, i) u9) (B := fun w9 u9 => Rt u9 ∧ Xn (f_214 217 ((sc ((g32 (x4 + 1)) : Int).toNat))) w9 u9) (d_284 hp hJ t11 t231) (gQ_and (rs_284 hJ hR.1) (ax_284 hJ hR.1 hR.2)) (fun v51 s50 h46 h46R => ?_)
    obtain ⟨h46r, h46j⟩ := h46
    refine gT_chk (by omega) (by omega) ?_
    refine gT_v1q (A := fun w9 u9 => True ∧ J (-1, l, l, i, i) u9) (B := fun w9 u9 => RX u9 ∧ gI u9 217 0 = v51 ∧ (v51 = 0 → gI u9 231 0 = w9)) (d_214 hp h46j t12) (xn_m h46j h46R.1 h46R.2 (rs_214 h46j h46R.1)) (fun v53 s52 h47 h47R => ?_)
    obtain ⟨h47r, h47j⟩ := h47
    exact gT_ret ⟨rfl, rfl, rfl, g6, by omega, ⟨l, i, hi, h47j, h47R.1⟩⟩
  refine gT_ite (fun h48 => ?_) (fun h48n => ?_)
  · refine gT_chk (by omega) (by omega) ?_
    refine gT_chk (by omega) (by omega) ?_
    refine gT_chk (by omega) (by omega) ?_
    refine gT_v1q (A := fun w9 u9 => True ∧ J (-1, l, l, i, i) u9) (B := fun w9 u9 => Rt u9 ∧ Xn (f_215 217 ((sc ((g32 (x4 + 1)) : Int).toNat)) ((sc ((g32 (x4 + 2)) : Int).toNat)) ((sc ((g32 (x4 + 3)) : Int).toNat))) w9 u9) (d_285 hp hJ t11 t231) (gQ_and (rs_285 hJ hR.1) (ax_285 hJ hR.1 hR.2)) (fun v55 s54 h49 h49R => ?_)
    obtain ⟨h49r, h49j⟩ := h49
    refine gT_chk (by omega) (by omega) ?_
    refine gT_chk (by omega) (by omega) ?_
    refine gT_chk (by omega) (by omega) ?_
    refine gT_v1q (A := fun w9 u9 => True ∧ J (-1, l, l, i, i) u9) (B := fun w9 u9 => RX u9 ∧ gI u9 217 0 = v55 ∧ (v55 = 0 → gI u9 231 0 = w9)) (d_215 hp h49j t12) (xn_m h49j h49R.1 h49R.2 (rs_215 h49j h49R.1)) (fun v57 s56 h50 h50R => ?_)
    obtain ⟨h50r, h50j⟩ := h50
    exact gT_ret ⟨rfl, rfl, rfl, g6, by omega, ⟨l, i, hi, h50j, h50R.1⟩⟩
  refine gT_ite (fun h51 => ?_) (fun h51n => ?_)
  · refine gT_chk (by omega) (by omega) ?_
    refine gT_chk (by omega) (by omega) ?_
    refine gT_v1q (A := fun w9 u9 => True ∧ J (-1, l, l, i, i) u9) (B := fun w9 u9 => Rt u9 ∧ Xn (f_216 217 ((sc ((g32 (x4 + 1)) : Int).toNat)) ((sc ((g32 (x4 + 2)) : Int).toNat))) w9 u9) (d_286 hp hJ t11 t231) (gQ_and (rs_286 hJ hR.1) (ax_286 hJ hR.1 hR.2)) (fun v59 s58 h52 h52R => ?_)
    obtain ⟨h52r, h52j⟩ := h52
    refine gT_chk (by omega) (by omega) ?_
    refine gT_chk (by omega) (by omega) ?_
    refine gT_v1q (A := fun w9 u9 => True ∧ J (-1, l, l, i, i) u9) (B := fun w9 u9 => RX u9 ∧ gI u9 217 0 = v59 ∧ (v59 = 0 → gI u9 231 0 = w9)) (d_216 hp h52j t12) (xn_m h52j h52R.1 h52R.2 (rs_216 h52j h52R.1)) (fun v61 s60 h53 h53R => ?_)
    obtain ⟨h53r, h53j⟩ := h53
    exact gT_ret ⟨rfl, rfl, rfl, g6, by omega, ⟨l, i, hi, h53j, h53R.1⟩⟩
  refine gT_ite (fun h54 => ?_) (fun h54n => ?_)
  · refine gT_chk (by omega) (by omega) ?_
    refine gT_v1q (A := fun w9 u9 => True ∧ J (-1, l, l, i, i) u9) (B := fun w9 u9 => Rt u9 ∧ Xn (f_217 217 ((sc ((g32 (x4 + 1)) : Int).toNat))) w9 u9) (d_287 hp hJ t11 t231) (gQ_and (rs_287 hJ hR.1) (ax_287 hJ hR.1 hR.2)) (fun v63 s62 h55 h55R => ?_)
    obtain ⟨h55r, h55j⟩ := h55
    refine gT_chk (by omega) (by omega) ?_
    refine gT_v1q (A := fun w9 u9 => True ∧ J (-1, l, l, i, i) u9) (B := fun w9 u9 => RX u9 ∧ gI u9 217 0 = v63 ∧ (v63 = 0 → gI u9 231 0 = w9)) (d_217 hp h55j t12) (xn_m h55j h55R.1 h55R.2 (rs_217 h55j h55R.1)) (fun v65 s64 h56 h56R => ?_)
    obtain ⟨h56r, h56j⟩ := h56
    exact gT_ret ⟨rfl, rfl, rfl, g6, by omega, ⟨l, i, hi, h56j, h56R.1⟩⟩
  refine gT_ite (fun h57 => ?_) (fun h57n => ?_)
  · refine gT_chk (by omega) (by omega) ?_
    refine gT_v1q (A := fun w9 u9 => True ∧ J (-1, l, l, i, i) u9) (B := fun w9 u9 => Rt u9 ∧ Xn (f_218 217 ((sc ((g32 (x4 + 1)) : Int).toNat))) w9 u9) (d_288 hp hJ t11 t231) (gQ_and (rs_288 hJ hR.1) (ax_288 hJ hR.1 hR.2)) (fun v67 s66 h58 h58R => ?_)
    obtain ⟨h58r, h58j⟩ := h58
    refine gT_chk (by omega) (by omega) ?_
    refine gT_v1q (A := fun w9 u9 => True ∧ J (-1, l, l, i, i) u9) (B := fun w9 u9 => RX u9 ∧ gI u9 217 0 = v67 ∧ (v67 = 0 → gI u9 231 0 = w9)) (d_218 hp h58j t12) (xn_m h58j h58R.1 h58R.2 (rs_218 h58j h58R.1)) (fun v69 s68 h59 h59R => ?_)
    obtain ⟨h59r, h59j⟩ := h59
    exact gT_ret ⟨rfl, rfl, rfl, g6, by omega, ⟨l, i, hi, h59j, h59R.1⟩⟩
  refine gT_ite (fun h60 => ?_) (fun h60n => ?_)
  · refine gT_chk (by omega) (by omega) ?_
    refine gT_chk (by omega) (by omega) ?_
    refine gT_chk (by omega) (by omega) ?_
    refine gT_v1q (A := fun w9 u9 => True ∧ J (-1, l, l, i, i) u9) (B := fun _ u9 => RX u9) (d_289 hp hJ t11 t231) (gQ_and (rs_289 hJ hR.1) (rx_289 hJ hR.2)) (fun v71 s70 h61 h61R => ?_)
    obtain ⟨h61r, h61j⟩ := h61
    refine gT_chk (by omega) (by omega) ?_
    refine gT_chk (by omega) (by omega) ?_
    refine gT_chk (by omega) (by omega) ?_
    refine gT_v1q (A := fun w9 u9 => True ∧ J (-1, l, l, i, i) u9) (B := fun _ u9 => RX u9) (d_219 hp h61j t12) (gQ_and (rs_219 h61j h61R.1) (rx_219 h61j h61R.2)) (fun v73 s72 h62 h62R => ?_)
    obtain ⟨h62r, h62j⟩ := h62
    exact gT_ret ⟨rfl, rfl, rfl, g6, by omega, ⟨l, i, hi, h62j, h62R⟩⟩
  refine gT_ite (fun h63 => ?_) (fun h63n => ?_)
  · refine gT_chk (by omega) (by omega) ?_
    refine gT_v1q (A := fun w9 u9 => True ∧ J (-1, l, l, i, i) u9) (B := fun _ u9 => RX u9) (d_290 hp hJ t11 t231) (gQ_and (rs_290 hJ hR.1) (rx_290 hJ hR.2)) (fun v75 s74 h64 h64R => ?_)
    obtain ⟨h64r, h64j⟩ := h64
    refine gT_chk (by omega) (by omega) ?_
    refine gT_v1q (A := fun w9 u9 => True ∧ J (-1, l, l, i, i) u9) (B := fun _ u9 => RX u9) (d_220 hp h64j t12) (gQ_and (rs_220 h64j h64R.1) (rx_220 h64j h64R.2)) (fun v77 s76 h65 h65R => ?_)
    obtain ⟨h65r, h65j⟩ := h65
    exact gT_ret ⟨rfl, rfl, rfl, g6, by omega, ⟨l, i, hi, h65j, h65R⟩⟩
  refine gT_ite (fun h66 => ?_) (fun h66n => ?_)
  · refine gT_chk (by omega) (by omega) ?_
    refine gT_v1q (A := fun w9 u9 => True ∧ J (-1, l, l, i, i) u9) (B := fun _ u9 => RX u9) (d_291 hp hJ t11 t231) (gQ_and (rs_291 hJ hR.1) (rx_291 hJ hR.2)) (fun v79 s78 h67 h67R => ?_)
    obtain ⟨h67r, h67j⟩ := h67
    refine gT_chk (by omega) (by omega) ?_
    refine gT_v1q (A := fun w9 u9 => True ∧ J (-1, l, l, i, i) u9) (B := fun _ u9 => RX u9) (d_221 hp h67j t12) (gQ_and (rs_221 h67j h67R.1) (rx_221 h67j h67R.2)) (fun v81 s80 h68 h68R => ?_)
    obtain ⟨h68r, h68j⟩ := h68
    exact gT_ret ⟨rfl, rfl, rfl, g6, by omega, ⟨l, i, hi, h68j, h68R⟩⟩
  refine gT_ite (fun h69 => ?_) (fun h69n => ?_)
  · refine gT_chk (by omega) (by omega) ?_
    refine gT_v1q (A := fun w9 u9 => True ∧ J (-1, l, l, i, i) u9) (B := fun _ u9 => RX u9) (d_292 hp hJ t11 t231) (gQ_and (rs_292 hJ hR.1) (rx_292 hJ hR.2)) (fun v83 s82 h70 h70R => ?_)
    obtain ⟨h70r, h70j⟩ := h70
    refine gT_chk (by omega) (by omega) ?_
    refine gT_v1q (A := fun w9 u9 => True ∧ J (-1, l, l, i, i) u9) (B := fun _ u9 => RX u9) (d_223 hp h70j t12) (gQ_and (rs_223 h70j h70R.1) (rx_223 h70j h70R.2)) (fun v85 s84 h71 h71R => ?_)
    obtain ⟨h71r, h71j⟩ := h71
    exact gT_ret ⟨rfl, rfl, rfl, g6, by omega, ⟨l, i, hi, h71j, h71R⟩⟩
  refine gT_ite (fun h72 => ?_) (fun h72n => ?_)
  · refine gT_chk (by omega) (by omega) ?_
    refine gT_v1q (A := fun w9 u9 => True ∧ J (-1, l, l, i, i) u9) (B := fun _ u9 => RX u9) (d_293 hp hJ t11 t231) (gQ_and (rs_293 hJ hR.1) (rx_293 hJ hR.2)) (fun v87 s86 h73 h73R => ?_)
    obtain ⟨h73r, h73j⟩ := h73
    refine gT_chk (by omega) (by omega) ?_
    refine gT_v1q (A := fun w9 u9 => True ∧ J (-1, l, l, i, i) u9) (B := fun _ u9 => RX u9) (d_224 hp h73j t12) (gQ_and (rs_224 h73j h73R.1) (rx_224 h73j h73R.2)) (fun v89 s88 h74 h74R => ?_)
    obtain ⟨h74r, h74j⟩ := h74
    exact gT_ret ⟨rfl, rfl, rfl, g6, by omega, ⟨l, i, hi, h74j, h74R⟩⟩
  refine gT_ite (fun h75 => ?_) (fun h75n => ?_)
  · refine gT_chk (by omega) (by omega) ?_
    refine gT_chk (by omega) (by omega) ?_
    refine gT_v1q (A := fun w9 u9 => True ∧ J (-1, l, l, i, i) u9) (B := fun _ u9 => RX u9) (d_294 hp hJ t11 t231) (gQ_and (rs_294 hJ hR.1) (rx_294 hJ hR.2)) (fun v91 s90 h76 h76R => ?_)
    obtain ⟨h76r, h76j⟩ := h76
    refine gT_chk (by omega) (by omega) ?_
    refine gT_chk (by omega) (by omega) ?_
    refine gT_v1q (A := fun w9 u9 => True ∧ J (-1, l, l, i, i) u9) (B := fun _ u9 => RX u9) (d_229 hp h76j t12) (gQ_and (rs_229 h76j h76R.1) (rx_229 h76j h76R.2)) (fun v93 s92 h77 h77R => ?_)
    obtain ⟨h77r, h77j⟩ := h77
    exact gT_ret ⟨rfl, rfl, rfl, g6, by omega, ⟨l, i, hi, h77j, h77R⟩⟩
  refine gT_ite (fun h78 => ?_) (fun h78n => ?_)
  · refine gT_chk (by omega) (by omega) ?_
    refine gT_chk (by omega) (by omega) ?_
    refine gT_v1q (A := fun w9 u9 => True ∧ J (-1, l, l, i, i) u9) (B := fun _ u9 => RX u9) (d_295 hp hJ t11 t231) (gQ_and (rs_295 hJ hR.1) (rx_295 hJ hR.2)) (fun v95 s94 h79 h79R => ?_)
    obtain ⟨h79r, h79j⟩ := h79
    refine gT_chk (by omega) (by omega) ?_
    refine gT_chk (by omega) (by omega) ?_
    refine gT_v1q (A := fun w9 u9 => True ∧ J (-1, l, l, i, i) u9) (B := fun _ u9 => RX u9) (d_230 hp h79j t12) (gQ_and (rs_230 h79j h79R.1) (rx_230 h79j h79R.2)) (fun v97 s96 h80 h80R => ?_)
    obtain ⟨h80r, h80j⟩ := h80
    exact gT_ret ⟨rfl, rfl, rfl, g6, by omega, ⟨l, i, hi, h80j, h80R⟩⟩
  refine gT_ite (fun h81 => ?_) (fun h81n => ?_)
  · refine gT_chk (by omega) (by omega) ?_
    refine gT_chk (by omega) (by omega) ?_
    refine gT_v1q (A := fun w9 u9 => True ∧ J (-1, l, l, i, i) u9) (B := fun _ u9 => RX u9) (d_296 hp hJ t11 t231) (gQ_and (rs_296 hJ hR.1) (rx_296 hJ hR.2)) (fun v99 s98 h82 h82R => ?_)
    obtain ⟨h82r, h82j⟩ := h82
    refine gT_chk (by omega) (by omega) ?_
    refine gT_chk (by omega) (by omega) ?_
    refine gT_v1q (A := fun w9 u9 => (0 ≤ w9 ∧ w9 ≤ 1) ∧ J (-1, l, l, i, i) u9) (B := fun _ u9 => RX u9) (d_233 hp h82j t12) (gQ_and (rs_233 h82j h82R.1) (rx_233 h82j h82R.2)) (fun v101 s100 h83 h83R => ?_)
    obtain ⟨h83r, h83j⟩ := h83
    exact gT_ret ⟨rfl, rfl, rfl, g6, by omega, ⟨l, i, hi, h83j, h83R⟩⟩
  refine gT_ite (fun h84 => ?_) (fun h84n => ?_)
  · refine gT_chk (by omega) (by omega) ?_
    refine gT_v1q (A := fun w9 u9 => True ∧ J (-1, l, l, i, i) u9) (B := fun _ u9 => RX u9) (d_297 hp hJ t11 t231) (gQ_and (rs_297 hJ hR.1) (rx_297 hJ hR.2)) (fun v104 s103 h85 h85R => ?_)
    obtain ⟨h85r, h85j⟩ := h85
    refine gT_chk (by omega) (by omega) ?_
    refine gT_v1q (A := fun w9 u9 => True ∧ J (-1, l, l, i, i) u9) (B := fun _ u9 => RX u9) (d_235 hp h85j t12) (gQ_and (rs_235 h85j h85R.1) (rx_235 h85j h85R.2)) (fun v106 s105 h86 h86R => ?_)
    obtain ⟨h86r, h86j⟩ := h86
    exact gT_ret ⟨rfl, rfl, rfl, g6, by omega, ⟨l, i, hi, h86j, h86R⟩⟩
  refine gT_ite (fun h87 => ?_) (fun h87n => ?_)
  · refine gT_chk (by omega) (by omega) ?_
    refine gT_chk (by omega) (by omega) ?_
    refine gT_ite (fun h88 => ?_) (fun h88n => ?_)
    · unfold fb_511_1184
      refine gT_v1q (A := fun w9 u9 => True ∧ J (-1, l, l, i, i) u9) (B := fun _ u9 => RX u9) (d_298 hp hJ t11 t231 (show (0 : Int) ≤ 0 ∧ 0 ≤ 1 by constructor <;> omega)) (gQ_and (rs_298 hJ hR.1) (rx_298 hJ hR.2)) (fun v108 s107 h89 h89R => ?_)
      obtain ⟨h89r, h89j⟩ := h89
      refine gT_chk (by omega) (by omega) ?_
      refine gT_chk (by omega) (by omega) ?_
      rw [if_pos h88]
      unfold fb_511_1211
      refine gT_v1q (A := fun w9 u9 => True ∧ J (-1, l, l, i, i) u9) (B := fun _ u9 => RX u9) (d_236 hp h89j t12 (show (0 : Int) ≤ 0 ∧ 0 ≤ 1 by constructor <;> omega)) (gQ_and (rs_236 h89j h89R.1) (rx_236 h89j h89R.2)) (fun v110 s109 h90 h90R => ?_)
      obtain ⟨h90r, h90j⟩ := h90
      exact gT_ret ⟨rfl, rfl, rfl, g6, by omega, ⟨l, i, hi, h90j, h90R⟩⟩
    unfold fb_511_1184
    refine gT_v1q (A := fun w9 u9 => True ∧ J (-1, l, l, i, i) u9) (B := fun _ u9 => RX u9) (d_298 hp hJ t11 t231 (show (0 : Int) ≤ 1 ∧ 1 ≤ 1 by constructor <;> omega)) (gQ_and (rs_298 hJ hR.1) (rx_298 hJ hR.2)) (fun v108 s107 h91 h91R => ?_)
    obtain ⟨h91r, h91j⟩ := h91
    refine gT_chk (by omega) (by omega) ?_
    refine gT_chk (by omega) (by omega) ?_
    rw [if_neg h88n]
    unfold fb_511_1211
    refine gT_v1q (A := fun w9 u9 => True ∧ J (-1, l, l, i, i) u9) (B := fun _ u9 => RX u9) (d_236 hp h91j t12 (show (0 : Int) ≤ 1 ∧ 1 ≤ 1 by constructor <;> omega)) (gQ_and (rs_236 h91j h91R.1) (rx_236 h91j h91R.2)) (fun v110 s109 h92 h92R => ?_)
    obtain ⟨h92r, h92j⟩ := h92
    exact gT_ret ⟨rfl, rfl, rfl, g6, by omega, ⟨l, i, hi, h92j, h92R⟩⟩
  refine gT_ite (fun h93 => ?_) (fun h93n => ?_)
  · refine gT_chk (by omega) (by omega) ?_
    refine gT_v1q (A := fun w9 u9 => True ∧ J (-1, l, l, i, i) u9) (B := fun _ u9 => RX u9) (d_299 hp hJ t11 t231) (gQ_and (rs_299 hJ hR.1) (rx_299 hJ hR.2)) (fun v112 s111 h94 h94R => ?_)
    obtain ⟨h94r, h94j⟩ := h94
    refine gT_chk (by omega) (by omega) ?_
    refine gT_v1q (A := fun w9 u9 => True ∧ J (-1, l, l, i, i) u9) (B := fun _ u9 => RX u9) (d_237 hp h94j t12) (gQ_and (rs_237 h94j h94R.1) (rx_237 h94j h94R.2)) (fun v114 s113 h95 h95R => ?_)
    obtain ⟨h95r, h95j⟩ := h95
    exact gT_ret ⟨rfl, rfl, rfl, g6, by omega, ⟨l, i, hi, h95j, h95R⟩⟩
  refine gT_ite (fun h96 => ?_) (fun h96n => ?_)
  · refine gT_chk (by omega) (by omega) ?_
    refine gT_ite (fun h97 => ?_) (fun h97n => ?_)
    · unfold fb_511_1262
      refine gT_v1q (A := fun w9 u9 => True ∧ J (-1, 0, l, i, i) u9) (B := fun _ u9 => RX u9) (d_300 hp hJ t11 t231 (show (0 : Int) ≤ 0 ∧ 0 ≤ 1 by constructor <;> omega)) (gQ_and (rs_300 hJ hR.1) (rx_300 hJ hR.2)) (fun v116 s115 h98 h98R => ?_)
      obtain ⟨h98r, h98j⟩ := h98
      refine gT_chk (by omega) (by omega) ?_
      rw [if_pos h97]
      unfold fb_511_1283
      refine gT_v1q (A := fun w9 u9 => True ∧ J (-1, 0, 0, i, i) u9) (B := fun _ u9 => RX u9) (d_239 hp h98j t12 (show (0 : Int) ≤ 0 ∧ 0 ≤ 1 by constructor <;> omega)) (gQ_and (rs_239 h98j h98R.1) (rx_239 h98j h98R.2)) (fun v118 s117 h99 h99R => ?_)
      obtain ⟨h99r, h99j⟩ := h99
      exact gT_ret ⟨rfl, rfl, rfl, g6, by omega, ⟨0, i, hi, h99j, h99R⟩⟩
    unfold fb_511_1262
    refine gT_v1q (A := fun w9 u9 => True ∧ J (-1, 0, l, i, i) u9) (B := fun _ u9 => RX u9) (d_300 hp hJ t11 t231 (show (0 : Int) ≤ 1 ∧ 1 ≤ 1 by constructor <;> omega)) (gQ_and (rs_300 hJ hR.1) (rx_300 hJ hR.2)) (fun v116 s115 h100 h100R => ?_)
    obtain ⟨h100r, h100j⟩ := h100
    refine gT_chk (by omega) (by omega) ?_
    rw [if_neg h97n]
    unfold fb_511_1283
    refine gT_v1q (A := fun w9 u9 => True ∧ J (-1, 0, 0, i, i) u9) (B := fun _ u9 => RX u9) (d_239 hp h100j t12 (show (0 : Int) ≤ 1 ∧ 1 ≤ 1 by constructor <;> omega)) (gQ_and (rs_239 h100j h100R.1) (rx_239 h100j h100R.2)) (fun v118 s117 h101 h101R => ?_)
    obtain ⟨h101r, h101j⟩ := h101
    exact gT_ret ⟨rfl, rfl, rfl, g6, by omega, ⟨0, i, hi, h101j, h101R⟩⟩
  refine gT_ite (fun h102 => ?_) (fun h102n => ?_)
  · refine gT_v1q (A := fun w9 u9 => True ∧ J (-1, 0, l, i, i) u9) (B := fun _ u9 => RX u9) (d_301 hp hJ t11 t231) (gQ_and (rs_301 hJ hR.1) (rx_301 hJ hR.2)) (fun v120 s119 h103 h103R => ?_)
    obtain ⟨h103r, h103j⟩ := h103
    refine gT_v1q (A := fun w9 u9 => True ∧ J (-1, 0, 0, i, i) u9) (B := fun _ u9 => RX u9) (d_240 hp h103j t12) (gQ_and (rs_240 h103j h103R.1) (rx_240 h103j h103R.2)) (fun v122 s121 h104 h104R => ?_)
    obtain ⟨h104r, h104j⟩ := h104
    exact gT_ret ⟨rfl, rfl, rfl, g6, by omega, ⟨0, i, hi, h104j, h104R⟩⟩
  refine gT_ite (fun h105 => ?_) (fun h105n => ?_)
  · refine gT_chk (by omega) (by omega) ?_
    refine gT_chk (by omega) (by omega) ?_
    refine gT_v1q (A := fun w9 u9 => True ∧ J (-1, l, l, i, i) u9) (B := fun _ u9 => RX u9) (d_302 hp hJ t11 t231) (gQ_and (rs_302 hJ hR.1) (rx_302 hJ hR.2)) (fun v124 s123 h106 h106R => ?_)
    obtain ⟨h106r, h106j⟩ := h106
    refine gT_chk (by omega) (by omega) ?_
    refine gT_chk (by omega) (by omega) ?_
    refine gT_v1q (A := fun w9 u9 => True ∧ J (-1, l, l, i, i) u9) (B := fun _ u9 => RX u9) (d_243 hp h106j t12) (gQ_and (rs_243 h106j h106R.1) (rx_243 h106j h106R.2)) (fun v126 s125 h107 h107R => ?_)
    obtain ⟨h107r, h107j⟩ := h107
    exact gT_ret ⟨rfl, rfl, rfl, g6, by omega, ⟨l, i, hi, h107j, h107R⟩⟩
  refine gT_ite (fun h108 => ?_) (fun h108n => ?_)
  · refine gT_chk (by omega) (by omega) ?_
    refine gT_chk (by omega) (by omega) ?_
    refine gT_v1q (A := fun w9 u9 => True ∧ J (-1, l, l, i, i) u9) (B := fun _ u9 => RX u9) (d_303 hp hJ t11 t231) (gQ_and (rs_303 hJ hR.1) (rx_303 hJ hR.2)) (fun v128 s127 h109 h109R => ?_)
    obtain ⟨h109r, h109j⟩ := h109
    refine gT_chk (by omega) (by omega) ?_
    refine gT_chk (by omega) (by omega) ?_
    refine gT_v1q (A := fun w9 u9 => True ∧ J (-1, l, l, i, i) u9) (B := fun _ u9 => RX u9) (d_244 hp h109j t12) (gQ_and (rs_244 h109j h109R.1) (rx_244 h109j h109R.2)) (fun v130 s129 h110 h110R => ?_)
    obtain ⟨h110r, h110j⟩ := h110
    exact gT_ret ⟨rfl, rfl, rfl, g6, by omega, ⟨l, i, hi, h110j, h110R⟩⟩
  refine gT_ite (fun h111 => ?_) (fun h111n => ?_)
  · refine gT_chk (by omega) (by omega) ?_
    refine gT_ite (fun h112 => ?_) (fun h112n => ?_)
    · unfold fb_511_1402
      refine gT_v1q (A := fun w9 u9 => True ∧ J (-1, l, l, i, i) u9) (B := fun _ u9 => RX u9) (d_118 hp hJ t11 (show (0 : Int) ≤ 0 ∧ 0 ≤ 1 by constructor <;> omega)) (gQ_and (rs_118 hJ hR.1) (rx_118 hJ hR.2)) (fun v132 s131 h113 h113R => ?_)
      obtain ⟨h113r, h113j⟩ := h113
      refine gT_chk (by omega) (by omega) ?_
      rw [if_pos h112]
      unfold fb_511_1421
      refine gT_v1q (A := fun w9 u9 => True ∧ J (-1, l, l, i, i) u9) (B := fun _ u9 => RX u9) (d_245 hp h113j t12 (show (0 : Int) ≤ 0 ∧ 0 ≤ 1 by constructor <;> omega)) (gQ_and (rs_245 h113j h113R.1) (rx_245 h113j h113R.2)) (fun v134 s133 h114 h114R => ?_)
      obtain ⟨h114r, h114j⟩ := h114
      exact gT_ret ⟨rfl, rfl, rfl, g6, by omega, ⟨l, i, hi, h114j, h114R⟩⟩
    unfold fb_511_1402
    refine gT_v1q (A := fun w9 u9 => True ∧ J (-1, l, l, i, i) u9) (B := fun _ u9 => RX u9) (d_118 hp hJ t11 (show (0 : Int) ≤ 1 ∧ 1 ≤ 1 by constructor <;> omega)) (gQ_and (rs_118 hJ hR.1) (rx_118 hJ hR.2)) (fun v132 s131 h115 h115R => ?_)
    obtain ⟨h115r, h115j⟩ := h115
    refine gT_chk (by omega) (by omega) ?_
    rw [if_neg h112n]
    unfold fb_511_1421
    refine gT_v1q (A := fun w9 u9 => True ∧ J (-1, l, l, i, i) u9) (B := fun _ u9 => RX u9) (d_245 hp h115j t12 (show (0 : Int) ≤ 1 ∧ 1 ≤ 1 by constructor <;> omega)) (gQ_and (rs_245 h115j h115R.1) (rx_245 h115j h115R.2)) (fun v134 s133 h116 h116R => ?_)
    obtain ⟨h116r, h116j⟩ := h116
    exact gT_ret ⟨rfl, rfl, rfl, g6, by omega, ⟨l, i, hi, h116j, h116R⟩⟩
  refine gT_ite (fun h117 => ?_) (fun h117n => ?_)
  · refine gT_chk (by omega) (by omega) ?_
    refine gT_v1q (A := fun w9 u9 => True ∧ J (-1, l, l, i, i) u9) (B := fun _ u9 => RX u9) (d_304 hp hJ t11 t231) (gQ_and (rs_304 hJ hR.1) (rx_304 hJ hR.2)) (fun v136 s135 h118 h118R => ?_)
    obtain ⟨h118r, h118j⟩ := h118
    refine gT_chk (by omega) (by omega) ?_
    refine gT_v1q (A := fun w9 u9 => True ∧ J (-1, l, l, i, i) u9) (B := fun _ u9 => RX u9) (d_247 hp h118j t12) (gQ_and (rs_247 h118j h118R.1) (rx_247 h118j h118R.2)) (fun v138 s137 h119 h119R => ?_)
    obtain ⟨h119r, h119j⟩ := h119
    exact gT_ret ⟨rfl, rfl, rfl, g6, by omega, ⟨l, i, hi, h119j, h119R⟩⟩
  refine gT_ite (fun h120 => ?_) (fun h120n => ?_)
  · refine gT_v1q (A := fun w9 u9 => True ∧ J (-1, l, l, i, i) u9) (B := fun _ u9 => RX u9) (d_120 hp hJ t11) (gQ_and (rs_120 hJ hR.1) (rx_120 hJ hR.2)) (fun v140 s139 h121 h121R => ?_)
    obtain ⟨h121r, h121j⟩ := h121
    refine gT_v1q (A := fun w9 u9 => True ∧ J (-1, l, l, i, i) u9) (B := fun _ u9 => RX u9) (d_248 hp h121j t12) (gQ_and (rs_248 h121j h121R.1) (rx_248 h121j h121R.2)) (fun v142 s141 h122 h122R => ?_)
    obtain ⟨h122r, h122j⟩ := h122
    exact gT_ret ⟨rfl, rfl, rfl, g6, by omega, ⟨l, i, hi, h122j, h122R⟩⟩
  refine gT_ite (fun h123 => ?_) (fun h123n => ?_)
  · refine gT_v1q (A := fun w9 u9 => True ∧ J (-1, l, l, i, i) u9) (B := fun _ u9 => RX u9) (d_121 hp hJ t11) (gQ_and (rs_121 hJ hR.1) (rx_121 hJ hR.2)) (fun v144 s143 h124 h124R => ?_)
    obtain ⟨h124r, h124j⟩ := h124
    refine gT_v1q (A := fun w9 u9 => True ∧ J (-1, l, l, i, i) u9) (B := fun _ u9 => RX u9) (d_249 hp h124j t12) (gQ_and (rs_249 h124j h124R.1) (rx_249 h124j h124R.2)) (fun v146 s145 h125 h125R => ?_)
    obtain ⟨h125r, h125j⟩ := h125
    exact gT_ret ⟨rfl, rfl, rfl, g6, by omega, ⟨l, i, hi, h125j, h125R⟩⟩
  refine gT_ite (fun h126 => ?_) (fun h126n => ?_)
  · refine gT_chk (by omega) (by omega) ?_
    refine gT_v1q (A := fun w9 u9 => True ∧ J (-1, l, l, i, i) u9) (B := fun _ u9 => RX u9) (d_305 hp hJ t11 t231) (gQ_and (rs_305 hJ hR.1) (rx_305 hJ hR.2)) (fun v148 s147 h127 h127R => ?_)
    obtain ⟨h127r, h127j⟩ := h127
    refine gT_chk (by omega) (by omega) ?_
    refine gT_v1q (A := fun w9 u9 => True ∧ J (-1, l, l, i, i) u9) (B := fun _ u9 => RX u9) (d_250 hp h127j t12) (gQ_and (rs_250 h127j h127R.1) (rx_250 h127j h127R.2)) (fun v150 s149 h128 h128R => ?_)
    obtain ⟨h128r, h128j⟩ := h128
    exact gT_ret ⟨rfl, rfl, rfl, g6, by omega, ⟨l, i, hi, h128j, h128R⟩⟩
  refine gT_ite (fun h129 => ?_) (fun h129n => ?_)
  · refine gT_v1q (A := fun w9 u9 => True ∧ J (-1, l, l, i, i) u9) (B := fun _ u9 => RX u9) (d_123 hp hJ t11) (gQ_and (rs_123 hJ hR.1) (rx_123 hJ hR.2)) (fun v152 s151 h130 h130R => ?_)
    obtain ⟨h130r, h130j⟩ := h130
    refine gT_v1q (A := fun w9 u9 => True ∧ J (-1, l, l, i, i) u9) (B := fun _ u9 => RX u9) (d_251 hp h130j t12) (gQ_and (rs_251 h130j h130R.1) (rx_251 h130j h130R.2)) (fun v154 s153 h131 h131R => ?_)
    obtain ⟨h131r, h131j⟩ := h131
    exact gT_ret ⟨rfl, rfl, rfl, g6, by omega, ⟨l, i, hi, h131j, h131R⟩⟩
  refine gT_ite (fun h132 => ?_) (fun h132n => ?_)
  · refine gT_chk (by omega) (by omega) ?_
    refine gT_ite (fun h133 => ?_) (fun h133n => ?_)
    · unfold fb_511_1538
      refine gT_v1q (A := fun w9 u9 => True ∧ J (-1, l, l, i, i) u9) (B := fun _ u9 => RX u9) (d_124 hp hJ t11 (show (0 : Int) ≤ 0 ∧ 0 ≤ 1 by constructor <;> omega)) (gQ_and (rs_124 hJ hR.1) (rx_124 hJ hR.2)) (fun v156 s155 h134 h134R => ?_)
      obtain ⟨h134r, h134j⟩ := h134
      refine gT_chk (by omega) (by omega) ?_
      rw [if_pos h133]
      unfold fb_511_1557
      refine gT_v1q (A := fun w9 u9 => True ∧ J (-1, l, l, i, i) u9) (B := fun _ u9 => RX u9) (d_253 hp h134j t12 (show (0 : Int) ≤ 0 ∧ 0 ≤ 1 by constructor <;> omega)) (gQ_and (rs_253 h134j h134R.1) (rx_253 h134j h134R.2)) (fun v158 s157 h135 h135R => ?_)
      obtain ⟨h135r, h135j⟩ := h135
      exact gT_ret ⟨rfl, rfl, rfl, g6, by omega, ⟨l, i, hi, h135j, h135R⟩⟩
    unfold fb_511_1538
    refine gT_v1q (A := fun w9 u9 => True ∧ J (-1, l, l, i, i) u9) (B := fun _ u9 => RX u9) (d_124 hp hJ t11 (show (0 : Int) ≤ 1 ∧ 1 ≤ 1 by constructor <;> omega)) (gQ_and (rs_124 hJ hR.1) (rx_124 hJ hR.2)) (fun v156 s155 h136 h136R => ?_)
    obtain ⟨h136r, h136j⟩ := h136
    refine gT_chk (by omega) (by omega) ?_
    rw [if_neg h133n]
    unfold fb_511_1557
    refine gT_v1q (A := fun w9 u9 => True ∧ J (-1, l, l, i, i) u9) (B := fun _ u9 => RX u9) (d_253 hp h136j t12 (show (0 : Int) ≤ 1 ∧ 1 ≤ 1 by constructor <;> omega)) (gQ_and (rs_253 h136j h136R.1) (rx_253 h136j h136R.2)) (fun v158 s157 h137 h137R => ?_)
    obtain ⟨h137r, h137j⟩ := h137
    exact gT_ret ⟨rfl, rfl, rfl, g6, by omega, ⟨l, i, hi, h137j, h137R⟩⟩
  refine gT_ite (fun h138 => ?_) (fun h138n => ?_)
  · refine gT_chk (by omega) (by omega) ?_
    refine gT_chk (by omega) (by omega) ?_
    refine gT_ite (fun h139 => ?_) (fun h139n => ?_)
    · unfold fb_511_1585
      refine gT_v1q (A := fun w9 u9 => True ∧ J (-1, l, l, i, i) u9) (B := fun _ u9 => RX u9) (d_306 hp hJ t11 t231 (show (0 : Int) ≤ 0 ∧ 0 ≤ 1 by constructor <;> omega)) (gQ_and (rs_306 hJ hR.1) (rx_306 hJ hR.2)) (fun v160 s159 h140 h140R => ?_)
      obtain ⟨h140r, h140j⟩ := h140
      refine gT_chk (by omega) (by omega) ?_
      refine gT_chk (by omega) (by omega) ?_
      rw [if_pos h139]
      unfold fb_511_1612
      refine gT_v1q (A := fun w9 u9 => True ∧ J (-1, l, l, i, i) u9) (B := fun _ u9 => RX u9) (d_254 hp h140j t12 (show (0 : Int) ≤ 0 ∧ 0 ≤ 1 by constructor <;> omega)) (gQ_and (rs_254 h140j h140R.1) (rx_254 h140j h140R.2)) (fun v162 s161 h141 h141R => ?_)
      obtain ⟨h141r, h141j⟩ := h141
      exact gT_ret ⟨rfl, rfl, rfl, g6, by omega, ⟨l, i, hi, h141j, h141R⟩⟩
    unfold fb_511_1585
    refine gT_v1q (A := fun w9 u9 => True ∧ J (-1, l, l, i, i) u9) (B := fun _ u9 => RX u9) (d_306 hp hJ t11 t231 (show (0 : Int) ≤ 1 ∧ 1 ≤ 1 by constructor <;> omega)) (gQ_and (rs_306 hJ hR.1) (rx_306 hJ hR.2)) (fun v160 s159 h142 h142R => ?_)
    obtain ⟨h142r, h142j⟩ := h142
    refine gT_chk (by omega) (by omega) ?_
    refine gT_chk (by omega) (by omega) ?_
    rw [if_neg h139n]
    unfold fb_511_1612
    refine gT_v1q (A := fun w9 u9 => True ∧ J (-1, l, l, i, i) u9) (B := fun _ u9 => RX u9) (d_254 hp h142j t12 (show (0 : Int) ≤ 1 ∧ 1 ≤ 1 by constructor <;> omega)) (gQ_and (rs_254 h142j h142R.1) (rx_254 h142j h142R.2)) (fun v162 s161 h143 h143R => ?_)
    obtain ⟨h143r, h143j⟩ := h143
    exact gT_ret ⟨rfl, rfl, rfl, g6, by omega, ⟨l, i, hi, h143j, h143R⟩⟩
  refine gT_ite (fun h144 => ?_) (fun h144n => ?_)
  · refine gT_chk (by omega) (by omega) ?_
    refine gT_chk (by omega) (by omega) ?_
    refine gT_ite (fun h145 => ?_) (fun h145n => ?_)
    · unfold fb_511_1641
      refine gT_v1q (A := fun w9 u9 => True ∧ J (-1, l, l, i, i) u9) (B := fun _ u9 => RX u9) (d_307 hp hJ t11 t231 (show (0 : Int) ≤ 0 ∧ 0 ≤ 1 by constructor <;> omega)) (gQ_and (rs_307 hJ hR.1) (rx_307 hJ hR.2)) (fun v164 s163 h146 h146R => ?_)
      obtain ⟨h146r, h146j⟩ := h146
      refine gT_chk (by omega) (by omega) ?_
      refine gT_chk (by omega) (by omega) ?_
      rw [if_pos h145]
      unfold fb_511_1668
      refine gT_v1q (A := fun w9 u9 => True ∧ J (-1, l, l, i, i) u9) (B := fun _ u9 => RX u9) (d_255 hp h146j t12 (show (0 : Int) ≤ 0 ∧ 0 ≤ 1 by constructor <;> omega)) (gQ_and (rs_255 h146j h146R.1) (rx_255 h146j h146R.2)) (fun v166 s165 h147 h147R => ?_)
      obtain ⟨h147r, h147j⟩ := h147
      exact gT_ret ⟨rfl, rfl, rfl, g6, by omega, ⟨l, i, hi, h147j, h147R⟩⟩
    unfold fb_511_1641
    refine gT_v1q (A := fun w9 u9 => True ∧ J (-1, l, l, i, i) u9) (B := fun _ u9 => RX u9) (d_307 hp hJ t11 t231 (show (0 : Int) ≤ 1 ∧ 1 ≤ 1 by constructor <;> omega)) (gQ_and (rs_307 hJ hR.1) (rx_307 hJ hR.2)) (fun v164 s163 h148 h148R => ?_)
    obtain ⟨h148r, h148j⟩ := h148
    refine gT_chk (by omega) (by omega) ?_
    refine gT_chk (by omega) (by omega) ?_
    rw [if_neg h145n]
    unfold fb_511_1668
    refine gT_v1q (A := fun w9 u9 => True ∧ J (-1, l, l, i, i) u9) (B := fun _ u9 => RX u9) (d_255 hp h148j t12 (show (0 : Int) ≤ 1 ∧ 1 ≤ 1 by constructor <;> omega)) (gQ_and (rs_255 h148j h148R.1) (rx_255 h148j h148R.2)) (fun v166 s165 h149 h149R => ?_)
    obtain ⟨h149r, h149j⟩ := h149
    exact gT_ret ⟨rfl, rfl, rfl, g6, by omega, ⟨l, i, hi, h149j, h149R⟩⟩
  refine gT_ite (fun h150 => ?_) (fun h150n => ?_)
  · refine gT_chk (by omega) (by omega) ?_
    refine gT_chk (by omega) (by omega) ?_
    refine gT_ite (fun h151 => ?_) (fun h151n => ?_)
    · unfold fb_511_1697
      refine gT_v1q (A := fun w9 u9 => True ∧ J (-1, l, l, i, i) u9) (B := fun _ u9 => RX u9) (d_308 hp hJ t11 t231 (show (0 : Int) ≤ 0 ∧ 0 ≤ 1 by constructor <;> omega)) (gQ_and (rs_308 hJ hR.1) (rx_308 hJ hR.2)) (fun v168 s167 h152 h152R => ?_)
      obtain ⟨h152r, h152j⟩ := h152
      refine gT_chk (by omega) (by omega) ?_
      refine gT_chk (by omega) (by omega) ?_
      rw [if_pos h151]
      unfold fb_511_1724
      refine gT_v1q (A := fun w9 u9 => True ∧ J (-1, l, l, i, i) u9) (B := fun _ u9 => RX u9) (d_257 hp h152j t12 (show (0 : Int) ≤ 0 ∧ 0 ≤ 1 by constructor <;> omega)) (gQ_and (rs_257 h152j h152R.1) (rx_257 h152j h152R.2)) (fun v170 s169 h153 h153R => ?_)
      obtain ⟨h153r, h153j⟩ := h153
      exact gT_ret ⟨rfl, rfl, rfl, g6, by omega, ⟨l, i, hi, h153j, h153R⟩⟩
    unfold fb_511_1697
    refine gT_v1q (A := fun w9 u9 => True ∧ J (-1, l, l, i, i) u9) (B := fun _ u9 => RX u9) (d_308 hp hJ t11 t231 (show (0 : Int) ≤ 1 ∧ 1 ≤ 1 by constructor <;> omega)) (gQ_and (rs_308 hJ hR.1) (rx_308 hJ hR.2)) (fun v168 s167 h154 h154R => ?_)
    obtain ⟨h154r, h154j⟩ := h154
    refine gT_chk (by omega) (by omega) ?_
    refine gT_chk (by omega) (by omega) ?_
    rw [if_neg h151n]
    unfold fb_511_1724
    refine gT_v1q (A := fun w9 u9 => True ∧ J (-1, l, l, i, i) u9) (B := fun _ u9 => RX u9) (d_257 hp h154j t12 (show (0 : Int) ≤ 1 ∧ 1 ≤ 1 by constructor <;> omega)) (gQ_and (rs_257 h154j h154R.1) (rx_257 h154j h154R.2)) (fun v170 s169 h155 h155R => ?_)
    obtain ⟨h155r, h155j⟩ := h155
    exact gT_ret ⟨rfl, rfl, rfl, g6, by omega, ⟨l, i, hi, h155j, h155R⟩⟩
  refine gT_ite (fun h156 => ?_) (fun h156n => ?_)
  · refine gT_chk (by omega) (by omega) ?_
    refine gT_chk (by omega) (by omega) ?_
    refine gT_v1q (A := fun w9 u9 => True ∧ J (-1, l, l, i, i) u9) (B := fun _ u9 => RX u9) (d_309 hp hJ t11 t231) (gQ_and (rs_309 hJ hR.1) (rx_309 hJ hR.2)) (fun v172 s171 h157 h157R => ?_)
    obtain ⟨h157r, h157j⟩ := h157
    refine gT_chk (by omega) (by omega) ?_
    refine gT_chk (by omega) (by omega) ?_
    refine gT_v1q (A := fun w9 u9 => True ∧ J (-1, l, l, i, i) u9) (B := fun _ u9 => RX u9) (d_258 hp h157j t12) (gQ_and (rs_258 h157j h157R.1) (rx_258 h157j h157R.2)) (fun v174 s173 h158 h158R => ?_)
    obtain ⟨h158r, h158j⟩ := h158
    exact gT_ret ⟨rfl, rfl, rfl, g6, by omega, ⟨l, i, hi, h158j, h158R⟩⟩
  refine gT_ite (fun h159 => ?_) (fun h159n => ?_)
  · refine gT_chk (by omega) (by omega) ?_
    refine gT_v1q (A := fun w9 u9 => True ∧ J (-1, l, l, i, i) u9) (B := fun w9 u9 => Rt u9 ∧ Xd (f_259 217 ((sc ((g32 (x4 + 1)) : Int).toNat))) w9 u9) (d_129 hp hJ t11) (gQ_and (rs_129 hJ hR.1) (ax_129 hJ hR.1 hR.2)) (fun v176 s175 h160 h160R => ?_)
    obtain ⟨h160r, h160j⟩ := h160
    refine gT_chk (by omega) (by omega) ?_
    refine gT_v1q (A := fun w9 u9 => True ∧ J (-1, l, l, i, i) u9) (B := fun w9 u9 => RX u9 ∧ w9 = v176) (d_259 hp h160j t12) (xd_m h160j h160R.1 h160R.2 (rs_259 h160j h160R.1)) (fun v178 s177 h161 h161R => ?_)
    obtain ⟨h161r, h161j⟩ := h161
    exact gT_ret ⟨rfl, rfl, rfl, g6, by omega, ⟨l, i, hi, h161j, h161R.1⟩⟩
  refine gT_ite (fun h162 => ?_) (fun h162n => ?_)
  · refine gT_v1q (A := fun w9 u9 => (0 ≤ w9 ∧ w9 ≤ 1) ∧ J (-1, l, l, i, i) u9) (B := fun w9 u9 => Rt u9 ∧ Xd (f_260 217) w9 u9) (d_130 hp hJ t11) (gQ_and (rs_130 hJ hR.1) (ax_130 hJ hR.1 hR.2)) (fun v180 s179 h163 h163R => ?_)
    obtain ⟨h163r, h163j⟩ := h163
    refine gT_v1q (A := fun w9 u9 => (0 ≤ w9 ∧ w9 ≤ 1) ∧ J (-1, l, l, i, i) u9) (B := fun w9 u9 => RX u9 ∧ w9 = v180) (d_260 hp h163j t12) (xd_m h163j h163R.1 h163R.2 (rs_260 h163j h163R.1)) (fun v183 s182 h164 h164R => ?_)
    obtain ⟨h164r, h164j⟩ := h164
    exact gT_ret ⟨rfl, rfl, rfl, g6, by omega, ⟨l, i, hi, h164j, h164R.1⟩⟩
  refine gT_ite (fun h165 => ?_) (fun h165n => ?_)
  · refine gT_v0q (A := fun u9 => J (-1, l, l, 1, i) u9) (B := fun u9 => Mim u9 ∧ ∀ p9, J p9 u9 → gQ (f_261 217 u9) (fun q_l => Rx q_l.2.2.2)) (d_131 hp hJ t11) (gQ_and (rt_131 hJ hR.1) (ax_131 hJ hR.2)) (fun s185 h166 h166R => ?_)
    have h166j := h166
    refine gT_v0q (A := fun u9 => J (-1, l, l, 1, 1) u9) (B := RX) (d_261 hp h166j t12) (gQ_and (rt_261 h166j h166R.1) (h166R.2 _ h166j)) (fun s187 h167 h167R => ?_)
    have h167j := h167
    exact gT_ret ⟨rfl, rfl, rfl, g6, by omega, ⟨l, 1, (Or.inr rfl), h167j, h167R⟩⟩
  refine gT_ite (fun h168 => ?_) (fun h168n => ?_)
  · refine gT_v1q (A := fun w9 u9 => (0 ≤ w9 ∧ w9 ≤ 1) ∧ J (-1, l, l, i, i) u9) (B := fun _ u9 => ((i = 0 → Rt u9) ∧ (i ≠ 0 → Mbk u9)) ∧ ∀ p9, J p9 u9 → gQ (f_262 217 u9) (fun q_l => Rx q_l.2.2.2)) (d_132 hp hJ t11) (gQ_and (rt_132 hJ hR.1) (ax_132 hJ rfl hi hR.2)) (fun v190 s189 h169 h169R => ?_)
    rcases hi with hi0_l | hi1
    · refine gT_v1q (A := fun w9 u9 => (0 ≤ w9 ∧ w9 ≤ 1) ∧ J (-1, l, l, i, i) u9) (B := fun _ u9 => RX u9) (d_262 hp h169.2 t12) (gQ_and (rt_262a h169.2 hi0_l (h169R.1.1 hi0_l)) (h169R.2 _ h169.2)) (fun v193 s192 h170 h170R => ?_)
      exact gT_ret ⟨rfl, rfl, rfl, g6, by omega, ⟨l, i, Or.inl hi0_l, h170.2, h170R⟩⟩
    · refine gT_v1q (A := fun w9 u9 => (0 ≤ w9 ∧ w9 ≤ 1) ∧ J (-1, l, l, i, i) u9) (B := fun _ u9 => RX u9) (d_262 hp h169.2 t12) (gQ_and (rt_262b h169.2 hi1 (h169R.1.2 (by omega))) (h169R.2 _ h169.2)) (fun v193 s192 h171 h171R => ?_)
      exact gT_ret ⟨rfl, rfl, rfl, g6, by omega, ⟨l, i, Or.inr hi1, h171.2, h171R⟩⟩
  refine gT_ite (fun h172 => ?_) (fun h172n => ?_)
  · refine gT_chk (by omega) (by omega) ?_
    refine gT_v1q (A := fun w9 u9 => True ∧ J (-1, l, l, i, i) u9) (B := fun _ u9 => RX u9) (d_133 hp hJ t11) (gQ_and (rs_133 hJ hR.1) (rx_133 hJ hR.2)) (fun v196 s195 h173 h173R => ?_)
    obtain ⟨h173r, h173j⟩ := h173
    refine gT_chk (by omega) (by omega) ?_
    refine gT_v1q (A := fun w9 u9 => True ∧ J (-1, l, l, i, i) u9) (B := fun _ u9 => RX u9) (d_263 hp h173j t12) (gQ_and (rs_263 h173j h173R.1) (rx_263 h173j h173R.2)) (fun v198 s197 h174 h174R => ?_)
    obtain ⟨h174r, h174j⟩ := h174
    exact gT_ret ⟨rfl, rfl, rfl, g6, by omega, ⟨l, i, hi, h174j, h174R⟩⟩
  exact gT_ret ⟨rfl, rfl, rfl, g6, by omega, ⟨l, i, hi, hJ, hR⟩⟩
