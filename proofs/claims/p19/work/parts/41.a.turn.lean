theorem t231 : T 109 231 := ⟨by decide, by decide +kernel⟩
theorem d_276 {q : Int × Int × Int × Int} {s : gS} (_hp : (-1 : Int) ≤ -1 ∧ (-1 : Int) ≤ 0) (h : J (-1, q) s) (_t0 : T 11 0) (_t1 : T 109 231) : gT (f_276 0 231 s) (fun r => r.1 = 1 ∧ True ∧ J (-1, 0, q.2) r.2.2.2) := by
  unfold f_276
  refine gT_c1 (A := fun _ u_l => True ∧ J (-1, 0, q.2) u_l) (B := fun t_l u_l => (t_l = 2 ∨ t_l = 3) ∧ J (-1, 0, q.2) u_l) (d_89 h t11) (fun v2 s1_l h1 => ?_) (fun k_l s1_l hk hB_l => ?_)
  · refine gT_chk (by decide) (by decide) ?_
    exact gT_ret ⟨rfl, trivial, J_wa h1.2 t231 rfl⟩
  · refine gT_ite (fun _ => gT_ret ⟨rfl, trivial, hB_l.2⟩) (fun h0 => ?_)
    refine gT_ite (fun _ => gT_ret ⟨rfl, trivial, hB_l.2⟩) (fun h1 => ?_)
    have := hB_l.1
    omega
theorem gT_v1q {Q : Type} {P : Q → Prop} {z : Option gO} {A B : Int → gS → Prop} {E : Int → gS → Option Q} (h : gT z (fun r => r.1 = 1 ∧ A r.2.1 r.2.2.2)) (h' : gQ z (fun r => B r.2.1 r.2.2.2)) (k : ∀ v s, A v s → B v s → gT (E v s) P) : gT (z.bind (gv1 E)) P := by
  obtain ⟨r, h1, h2, h3⟩ := h
  exact gT_v1 (A := fun v s => A v s ∧ B v s) ⟨r, h1, h2, h3, h' r h1⟩ (fun v s hs => k v s hs.1 hs.2)
theorem gT_v0q {Q : Type} {P : Q → Prop} {z : Option gO} {A B : gS → Prop} {E : gS → Option Q} (h : gT z (fun r => r.1 = 0 ∧ A r.2.2.2)) (h' : gQ z (fun r => B r.2.2.2)) (k : ∀ s, A s → B s → gT (E s) P) : gT (z.bind (gv0 E)) P := by
  obtain ⟨r, h1, h2, h3⟩ := h
  exact gT_v0 (A := fun s => A s ∧ B s) ⟨r, h1, h2, h3, h' r h1⟩ (fun s hs => k s hs.1 hs.2)
theorem gcmp_r {x : Int} : gcmp x x = 0 := by
  unfold gcmp
  rw [if_neg (by omega), if_pos rfl]
set_option maxHeartbeats 4000000 in
theorem lw_turn {n : Nat} {sc : Nat → Int} {x4 l i : Int} {s : gS} (hn : n ≤ 3072) (hx : 0 ≤ x4 ∧ x4 ≤ 3072) (hi : i = 0 ∨ i = 1) (hJ : J (-1, l, l, i, i) s) (hR : RX s) : gT (sb_511_23 n sc 0 217 231 x4 s) (Sum.elim (fun z => z.1 = 0 ∧ z.2.1 = 217 ∧ z.2.2.1 = 231 ∧ z.2.2.2.1 = x4 + 6 ∧ x4 + 6 ≤ n ∧ ∃ l i, (i = 0 ∨ i = 1) ∧ J (-1, l, l, i, i) z.2.2.2.2 ∧ RX z.2.2.2.2) (fun r => r.1 = 1 ∧ r.2.1 = 1 ∧ r.2.2.1 = 0)) := by
  have hp : (-1 : Int) ≤ -1 ∧ (-1 : Int) ≤ 0 := by decide
  have g0 := g32_eq (v := (n : Int) - 6) (by omega) (by omega)
  have g1 := g32_eq (v := x4 + 1) (by omega) (by omega)
  have g2 := g32_eq (v := x4 + 2) (by omega) (by omega)
  have g3_l := g32_eq (v := x4 + 3) (by omega) (by omega)
  have g4 := g32_eq (v := x4 + 4) (by omega) (by omega)
  have g5_l := g32_eq (v := x4 + 5) (by omega) (by omega)
  have g6 := g32_eq (v := x4 + 6) (by omega) (by omega)
  unfold sb_511_23
  refine gT_ite (fun _ => gT_map (gT_ret ⟨rfl, rfl, rfl⟩)) (fun hz => ?_)
  refine gT_chk (by omega) (by omega) ?_
  refine gT_ite (fun h1 => ?_) (fun h1n => ?_)
  · exact gT_ret ⟨rfl, rfl, rfl, g6, by omega, ⟨l, i, hi, hJ, hR⟩⟩
  refine gT_ite (fun h2 => ?_) (fun h2n => ?_)
  · refine gT_chk (by omega) (by omega) ?_
    refine gT_chk (by omega) (by omega) ?_
    refine gT_chk (by omega) (by omega) ?_
    refine gT_chk (by omega) (by omega) ?_
    refine gT_chk (by omega) (by omega) ?_
    refine gT_v1q (A := fun w9 u9 => (380 < l ∧ w9 = -1 ∧ J (-1, l, l, i, i) u9) ∨ (l ≤ 380 ∧ w9 = l + 20 ∧ J (-1, l + 20, l, i, i) u9)) (B := fun _ u9 => ((380 < l → Rt u9) ∧ (l ≤ 380 → Mfd l (fd5 ((sc ((g32 (x4 + 1)) : Int).toNat)) ((sc ((g32 (x4 + 2)) : Int).toNat)) ((sc ((g32 (x4 + 3)) : Int).toNat)) ((sc ((g32 (x4 + 4)) : Int).toNat)) ((sc ((g32 (x4 + 5)) : Int).toNat))) u9)) ∧ Rx u9) (c_87 hJ) (gQ_and (rt_87 hJ hR.1) (rx_87 hJ hR.2)) (fun v2 s1_l h3 h3R => ?_)
    rcases h3 with ⟨h3a, h3b, h3j⟩ | ⟨h3a, h3b, h3j⟩
    · refine gT_chk (by omega) (by omega) ?_
      refine gT_chk (by omega) (by omega) ?_
      refine gT_chk (by omega) (by omega) ?_
      refine gT_chk (by omega) (by omega) ?_
      refine gT_chk (by omega) (by omega) ?_
      refine gT_v1q (A := fun w9 u9 => (380 < l ∧ w9 = -1 ∧ J (-1, l, l, i, i) u9) ∨ (l ≤ 380 ∧ w9 = l + 20 ∧ J (-1, l, l + 20, i, i) u9)) (B := fun _ u9 => RX u9) (c_166 h3j) (gQ_and (rt_166a h3j (by omega) (h3R.1.1 h3a)) (rx_166 h3j h3R.2)) (fun v4_l s3_l h4 h4R => ?_)
      rcases h4 with ⟨h4a, h4b, h4j⟩ | ⟨h4a, h4b, h4j⟩
      · exact gT_ret ⟨rfl, rfl, rfl, g6, by omega, ⟨l, i, hi, h4j, h4R⟩⟩
      · omega
    · refine gT_chk (by omega) (by omega) ?_
      refine gT_chk (by omega) (by omega) ?_
      refine gT_chk (by omega) (by omega) ?_
      refine gT_chk (by omega) (by omega) ?_
      refine gT_chk (by omega) (by omega) ?_
      refine gT_v1q (A := fun w9 u9 => (380 < l ∧ w9 = -1 ∧ J (-1, l + 20, l, i, i) u9) ∨ (l ≤ 380 ∧ w9 = l + 20 ∧ J (-1, l + 20, l + 20, i, i) u9)) (B := fun _ u9 => RX u9) (c_166 h3j) (gQ_and (rt_166b h3j (by omega) (h3R.1.2 h3a)) (rx_166 h3j h3R.2)) (fun v4_l s3_l h5 h5R => ?_)
      rcases h5 with ⟨h5a, h5b, h5j⟩ | ⟨h5a, h5b, h5j⟩
      · omega
      · exact gT_ret ⟨rfl, rfl, rfl, g6, by omega, ⟨l + 20, i, hi, h5j, h5R⟩⟩
  refine gT_ite (fun h6 => ?_) (fun h6n => ?_)
  · refine gT_chk (by omega) (by omega) ?_
    refine gT_v1q (A := fun w9 u9 => (((sc ((g32 (x4 + 1)) : Int).toNat) < 0 ∨ l < (sc ((g32 (x4 + 1)) : Int).toNat)) ∧ w9 = 0 ∧ J (-1, l, l, i, i) u9) ∨ ((0 ≤ (sc ((g32 (x4 + 1)) : Int).toNat) ∧ (sc ((g32 (x4 + 1)) : Int).toNat) ≤ l) ∧ w9 = 1 ∧ J (-1, (sc ((g32 (x4 + 1)) : Int).toNat), l, i, i) u9)) (B := fun _ u9 => RX u9) (c_88 hJ) (gQ_and (rs_88 hJ hR.1) (rx_88 hJ hR.2)) (fun v6 s5 h7 h7R => ?_)
    rcases h7 with ⟨h7a, h7b, h7j⟩ | ⟨h7a, h7b, h7j⟩
    · refine gT_chk (by omega) (by omega) ?_
      refine gT_v1q (A := fun w9 u9 => (((sc ((g32 (x4 + 1)) : Int).toNat) < 0 ∨ l < (sc ((g32 (x4 + 1)) : Int).toNat)) ∧ w9 = 0 ∧ J (-1, l, l, i, i) u9) ∨ ((0 ≤ (sc ((g32 (x4 + 1)) : Int).toNat) ∧ (sc ((g32 (x4 + 1)) : Int).toNat) ≤ l) ∧ w9 = 1 ∧ J (-1, l, (sc ((g32 (x4 + 1)) : Int).toNat), i, i) u9)) (B := fun _ u9 => RX u9) (c_167 h7j) (gQ_and (rs_167 h7j h7R.1) (rx_167 h7j h7R.2)) (fun v9 s8 h8 h8R => ?_)
      rcases h8 with ⟨h8a, h8b, h8j⟩ | ⟨h8a, h8b, h8j⟩
      · exact gT_ret ⟨rfl, rfl, rfl, g6, by omega, ⟨l, i, hi, h8j, h8R⟩⟩
      · omega
    · refine gT_chk (by omega) (by omega) ?_
      refine gT_v1q (A := fun w9 u9 => (((sc ((g32 (x4 + 1)) : Int).toNat) < 0 ∨ l < (sc ((g32 (x4 + 1)) : Int).toNat)) ∧ w9 = 0 ∧ J (-1, (sc ((g32 (x4 + 1)) : Int).toNat), l, i, i) u9) ∨ ((0 ≤ (sc ((g32 (x4 + 1)) : Int).toNat) ∧ (sc ((g32 (x4 + 1)) : Int).toNat) ≤ l) ∧ w9 = 1 ∧ J (-1, (sc ((g32 (x4 + 1)) : Int).toNat), (sc ((g32 (x4 + 1)) : Int).toNat), i, i) u9)) (B := fun _ u9 => RX u9) (c_167 h7j) (gQ_and (rs_167 h7j h7R.1) (rx_167 h7j h7R.2)) (fun v9 s8 h9 h9R => ?_)
      rcases h9 with ⟨h9a, h9b, h9j⟩ | ⟨h9a, h9b, h9j⟩
      · omega
      · exact gT_ret ⟨rfl, rfl, rfl, g6, by omega, ⟨(sc ((g32 (x4 + 1)) : Int).toNat), i, hi, h9j, h9R⟩⟩
  refine gT_ite (fun h10 => ?_) (fun h10n => ?_)
  · refine gT_v1q (A := fun w9 u9 => True ∧ J (-1, 0, l, i, i) u9) (B := fun w9 u9 => Mbo l.toNat w9 u9 ∧ ∀ p9, J p9 u9 → (-1 ≤ p9.1 ∧ p9.1 ≤ 0) → gQ (f_187 217 u9) (fun q_l => ∀ p8, J p8 q_l.2.2.2 → Rx q_l.2.2.2)) (d_276 hp hJ t11 t231) (gQ_and (rb_276 hJ hR.1) (ax_276 rfl hJ hR.1 hR.2)) (fun v12 s11 h11 h11R => ?_)
    obtain ⟨h11r, h11j⟩ := h11
    refine gT_v1q (A := fun w9 u9 => True ∧ J (-1, 0, 0, i, i) u9) (B := fun w9 u9 => (Rt u9 ∧ gI u9 217 0 = v12 ∧ (v12 = 0 → gI u9 231 0 = w9)) ∧ ∀ p8, J p8 u9 → Rx u9) (d_187 hp h11j t12) (gQ_and (rb_187 hp h11j h11R.1) (h11R.2 _ h11j hp)) (fun v14 s13 h12 h12R => ?_)
    obtain ⟨h12r, h12j⟩ := h12
    have h12K : RX s13 := ⟨h12R.1.1, h12R.2 _ h12j⟩
    exact gT_ret ⟨rfl, rfl, rfl, g6, by omega, ⟨0, i, hi, h12j, h12K⟩⟩
  refine gT_ite (fun h13 => ?_) (fun h13n => ?_)
  · refine gT_v1q (A := fun w9 u9 => True ∧ J (-1, 0, l, i, i) u9) (B := fun w9 u9 => Rt u9 ∧ ∀ p9, J p9 u9 → gQ (f_195 217 u9) (fun q_l => Rx q_l.2.2.2)) (d_277 hp hJ t11 t231) (gQ_and (rs_277 hJ hR.1) (ax_277 rfl hJ hR.1 hR.2)) (fun v16 s15 h14 h14R => ?_)
    obtain ⟨h14r, h14j⟩ := h14
    refine gT_v1q (A := fun w9 u9 => True ∧ J (-1, 0, 0, i, i) u9) (B := fun _ u9 => RX u9) (d_195 hp h14j t12) (gQ_and (rs_195 h14j h14R.1) (h14R.2 _ h14j)) (fun v18 s17 h15 h15R => ?_)
    obtain ⟨h15r, h15j⟩ := h15
    exact gT_ret ⟨rfl, rfl, rfl, g6, by omega, ⟨0, i, hi, h15j, h15R⟩⟩
  refine gT_ite (fun h16_l => ?_) (fun h16n => ?_)
  · refine gT_v1q (A := fun w9 u9 => True ∧ J (-1, l, l, i, i) u9) (B := fun _ u9 => RX u9) (d_91 hp hJ t11) (gQ_and (rs_91 hJ hR.1) (rx_91 hJ hR.2)) (fun v20 s19 h17 h17R => ?_)
    obtain ⟨h17r, h17j⟩ := h17
    refine gT_v1q (A := fun w9 u9 => True ∧ J (-1, l, l, i, i) u9) (B := fun _ u9 => RX u9) (d_196 hp h17j t12) (gQ_and (rs_196 h17j h17R.1) (rx_196 h17j h17R.2)) (fun v22 s21 h18 h18R => ?_)
    obtain ⟨h18r, h18j⟩ := h18
    exact gT_ret ⟨rfl, rfl, rfl, g6, by omega, ⟨l, i, hi, h18j, h18R⟩⟩
  refine gT_ite (fun h19 => ?_) (fun h19n => ?_)
  · refine gT_chk (by omega) (by omega) ?_
    refine gT_chk (by omega) (by omega) ?_
    refine gT_v1q (A := fun w9 u9 => True ∧ J (-1, l, l, i, i) u9) (B := fun _ u9 => RX u9) (d_278 hp hJ t11 t231) (gQ_and (rs_278 hJ hR.1) (rx_278 hJ hR.2)) (fun v24 s23 h20 h20R => ?_)
    obtain ⟨h20r, h20j⟩ := h20
    refine gT_chk (by omega) (by omega) ?_
    refine gT_chk (by omega) (by omega) ?_
    refine gT_v1q (A := fun w9 u9 => True ∧ J (-1, l, l, i, i) u9) (B := fun _ u9 => RX u9) (d_203 hp h20j t12) (gQ_and (rs_203 h20j h20R.1) (rx_203 h20j h20R.2)) (fun v26 s25 h21 h21R => ?_)
    obtain ⟨h21r, h21j⟩ := h21
    exact gT_ret ⟨rfl, rfl, rfl, g6, by omega, ⟨l, i, hi, h21j, h21R⟩⟩
  refine gT_ite (fun h22 => ?_) (fun h22n => ?_)
  · refine gT_chk (by omega) (by omega) ?_
    refine gT_chk (by omega) (by omega) ?_
    refine gT_v1q (A := fun w9 u9 => True ∧ J (-1, l, l, i, i) u9) (B := fun _ u9 => RX u9) (d_279 hp hJ t11 t231) (gQ_and (rs_279 hJ hR.1) (rx_279 hJ hR.2)) (fun v28 s27 h23 h23R => ?_)
    obtain ⟨h23r, h23j⟩ := h23
    refine gT_chk (by omega) (by omega) ?_
    refine gT_chk (by omega) (by omega) ?_
    refine gT_v1q (A := fun w9 u9 => True ∧ J (-1, l, l, i, i) u9) (B := fun _ u9 => RX u9) (d_206 hp h23j t12) (gQ_and (rs_206 h23j h23R.1) (rx_206 h23j h23R.2)) (fun v30 s29 h24 h24R => ?_)
    obtain ⟨h24r, h24j⟩ := h24
    exact gT_ret ⟨rfl, rfl, rfl, g6, by omega, ⟨l, i, hi, h24j, h24R⟩⟩
  refine gT_ite (fun h25 => ?_) (fun h25n => ?_)
  · refine gT_chk (by omega) (by omega) ?_
    refine gT_chk (by omega) (by omega) ?_
    refine gT_ite (fun h26 => ?_) (fun h26n => ?_)
    · unfold fb_511_488
      refine gT_v1q (A := fun w9 u9 => True ∧ J (-1, l, l, i, i) u9) (B := fun _ u9 => RX u9) (d_280 hp hJ t11 t231 (show (0 : Int) ≤ 0 ∧ 0 ≤ 1 by constructor <;> omega)) (gQ_and (rs_280 hJ hR.1) (rx_280 hJ hR.2)) (fun v32 s31 h27 h27R => ?_)
      obtain ⟨h27r, h27j⟩ := h27
      refine gT_chk (by omega) (by omega) ?_
      refine gT_chk (by omega) (by omega) ?_
      rw [if_pos h26]
      unfold fb_511_515
      refine gT_v1q (A := fun w9 u9 => True ∧ J (-1, l, l, i, i) u9) (B := fun _ u9 => RX u9) (d_207 hp h27j t12 (show (0 : Int) ≤ 0 ∧ 0 ≤ 1 by constructor <;> omega)) (gQ_and (rs_207 h27j h27R.1) (rx_207 h27j h27R.2)) (fun v34 s33 h28 h28R => ?_)
      obtain ⟨h28r, h28j⟩ := h28
      exact gT_ret ⟨rfl, rfl, rfl, g6, by omega, ⟨l, i, hi, h28j, h28R⟩⟩
    unfold fb_511_488
    refine gT_v1q (A := fun w9 u9 => True ∧ J (-1, l, l, i, i) u9) (B := fun _ u9 => RX u9) (d_280 hp hJ t11 t231 (show (0 : Int) ≤ 1 ∧ 1 ≤ 1 by constructor <;> omega)) (gQ_and (rs_280 hJ hR.1) (rx_280 hJ hR.2)) (fun v32 s31 h29 h29R => ?_)
    obtain ⟨h29r, h29j⟩ := h29
    refine gT_chk (by omega) (by omega) ?_
    refine gT_chk (by omega) (by omega) ?_
    rw [if_neg h26n]
    unfold fb_511_515
    refine gT_v1q (A := fun w9 u9 => True ∧ J (-1, l, l, i, i) u9) (B := fun _ u9 => RX u9) (d_207 hp h29j t12 (show (0 : Int) ≤ 1 ∧ 1 ≤ 1 by constructor <;> omega)) (gQ_and (rs_207 h29j h29R.1) (rx_207 h29j h29R.2)) (fun v34 s33 h30 h30R => ?_)
    obtain ⟨h30r, h30j⟩ := h30
    exact gT_ret ⟨rfl, rfl, rfl, g6, by omega, ⟨l, i, hi, h30j, h30R⟩⟩
  refine gT_ite (fun h31 => ?_) (fun h31n => ?_)
  · refine gT_chk (by omega) (by omega) ?_
    refine gT_chk (by omega) (by omega) ?_
    refine gT_ite (fun h32 => ?_) (fun h32n => ?_)
    · unfold fb_511_544
      refine gT_v1q (A := fun w9 u9 => True ∧ J (-1, l, l, i, i) u9) (B := fun _ u9 => RX u9) (d_281 hp hJ t11 t231 (show (0 : Int) ≤ 0 ∧ 0 ≤ 1 by constructor <;> omega)) (gQ_and (rs_281 hJ hR.1) (rx_281 hJ hR.2)) (fun v36 s35 h33 h33R => ?_)
      obtain ⟨h33r, h33j⟩ := h33
      refine gT_chk (by omega) (by omega) ?_
      refine gT_chk (by omega) (by omega) ?_
      rw [if_pos h32]
      unfold fb_511_571
      refine gT_v1q (A := fun w9 u9 => True ∧ J (-1, l, l, i, i) u9) (B := fun _ u9 => RX u9) (d_208 hp h33j t12 (show (0 : Int) ≤ 0 ∧ 0 ≤ 1 by constructor <;> omega)) (gQ_and (rs_208 h33j h33R.1) (rx_208 h33j h33R.2)) (fun v38 s37 h34 h34R => ?_)
      obtain ⟨h34r, h34j⟩ := h34
      exact gT_ret ⟨rfl, rfl, rfl, g6, by omega, ⟨l, i, hi, h34j, h34R⟩⟩
    unfold fb_511_544
    refine gT_v1q (A := fun w9 u9 => True ∧ J (-1, l, l, i, i) u9) (B := fun _ u9 => RX u9) (d_281 hp hJ t11 t231 (show (0 : Int) ≤ 1 ∧ 1 ≤ 1 by constructor <;> omega)) (gQ_and (rs_281 hJ hR.1) (rx_281 hJ hR.2)) (fun v36 s35 h35 h35R => ?_)
    obtain ⟨h35r, h35j⟩ := h35
    refine gT_chk (by omega) (by omega) ?_
    refine gT_chk (by omega) (by omega) ?_
    rw [if_neg h32n]
    unfold fb_511_571
    refine gT_v1q (A := fun w9 u9 => True ∧ J (-1, l, l, i, i) u9) (B := fun _ u9 => RX u9) (d_208 hp h35j t12 (show (0 : Int) ≤ 1 ∧ 1 ≤ 1 by constructor <;> omega)) (gQ_and (rs_208 h35j h35R.1) (rx_208 h35j h35R.2)) (fun v38 s37 h36 h36R => ?_)
    obtain ⟨h36r, h36j⟩ := h36
    exact gT_ret ⟨rfl, rfl, rfl, g6, by omega, ⟨l, i, hi, h36j, h36R⟩⟩
  refine gT_ite (fun h37 => ?_) (fun h37n => ?_)
  · refine gT_chk (by omega) (by omega) ?_
    refine gT_v1q (A := fun w9 u9 => True ∧ J (-1, l, l, i, i) u9) (B := fun w9 u9 => Rt u9 ∧ Xn (f_211 217 ((sc ((g32 (x4 + 1)) : Int).toNat))) w9 u9) (d_282 hp hJ t11 t231) (gQ_and (rs_282 hJ hR.1) (ax_282 hJ hR.1 hR.2)) (fun v40 s39 h38 h38R => ?_)
    obtain ⟨h38r, h38j⟩ := h38
    refine gT_chk (by omega) (by omega) ?_
    refine gT_v1q (A := fun w9 u9 => True ∧ J (-1, l, l, i, i) u9) (B := fun w9 u9 => RX u9 ∧ gI u9 217 0 = v40 ∧ (v40 = 0 → gI u9 231 0 = w9)) (d_211 hp h38j t12) (xn_m h38j h38R.1 h38R.2 (rs_211 h38j h38R.1)) (fun v42 s41 h39 h39R => ?_)
    obtain ⟨h39r, h39j⟩ := h39
    exact gT_ret ⟨rfl, rfl, rfl, g6, by omega, ⟨l, i, hi, h39j, h39R.1⟩⟩
  refine gT_ite (fun h40 => ?_) (fun h40n => ?_)
  · refine gT_chk (by omega) (by omega) ?_
    refine gT_chk (by omega) (by omega) ?_
    refine gT_v1q (A := fun w9 u9 => True ∧ J (-1, l, l, i, i) u9) (B := fun w9 u9 => Rt u9 ∧ Xn (f_213 217 ((sc ((g32 (x4 + 1)) : Int).toNat)) ((sc ((g32 (x4 + 2)) : Int).toNat))) w9 u9) (d_283 hp hJ t11 t231) (gQ_and (rs_283 hJ hR.1) (ax_283 hJ hR.1 hR.2)) (fun v44 s43 h41 h41R => ?_)
    obtain ⟨h41r, h41j⟩ := h41
    refine gT_chk (by omega) (by omega) ?_
    refine gT_chk (by omega) (by omega) ?_
    refine gT_v1q (A := fun w9 u9 => (0 ≤ w9 ∧ w9 ≤ 1) ∧ J (-1, l, l, i, i) u9) (B := fun w9 u9 => RX u9 ∧ gI u9 217 0 = v44 ∧ (v44 = 0 → gI u9 231 0 = w9)) (d_213 hp h41j t12) (xn_m h41j h41R.1 h41R.2 (rs_213 h41j h41R.1)) (fun v46 s45 h42 h42R => ?_)
    obtain ⟨h42r, h42j⟩ := h42
    exact gT_ret ⟨rfl, rfl, rfl, g6, by omega, ⟨l, i, hi, h42j, h42R.1⟩⟩
  refine gT_ite (fun h43 => ?_) (fun h43n => ?_)
  · refine gT_chk (by omega) (by omega) ?_
    refine gT_v1q (A := fun w9 u9 => True ∧ J (-1, l, l, i, i) u9) (B := fun w9 u9 => Rt u9 ∧ Xn (f_214 217 ((sc ((g32 (x4 + 1)) : Int).toNat))) w9 u9) (d_284 hp hJ t11 t231) (gQ_and (rs_284 hJ hR.1) (ax_284 hJ hR.1 hR.2)) (fun v49 s48 h44 h44R => ?_)
    obtain ⟨h44r, h44j⟩ := h44
    refine gT_chk (by omega) (by omega) ?_
    refine gT_v1q (A := fun w9 u9 => True ∧ J (-1, l, l, i, i) u9) (B := fun w9 u9 => RX u9 ∧ gI u9 217 0 = v49 ∧ (v49 = 0 → gI u9 231 0 = w9)) (d_214 hp h44j t12) (xn_m h44j h44R.1 h44R.2 (rs_214 h44j h44R.1)) (fun v51 s50 h45 h45R => ?_)
    obtain ⟨h45r, h45j⟩ := h45
    exact gT_ret ⟨rfl, rfl, rfl, g6, by omega, ⟨l, i, hi, h45j, h45R.1⟩⟩
  refine gT_ite (fun h46 => ?_) (fun h46n => ?_)
  · refine gT_chk (by omega) (by omega) ?_
    refine gT_chk (by omega) (by omega) ?_
    refine gT_chk (by omega) (by omega) ?_
    refine gT_v1q (A := fun w9 u9 => True ∧ J (-1, l, l, i, i) u9) (B := fun w9 u9 => Rt u9 ∧ Xn (f_215 217 ((sc ((g32 (x4 + 1)) : Int).toNat)) ((sc ((g32 (x4 + 2)) : Int).toNat)) ((sc ((g32 (x4 + 3)) : Int).toNat))) w9 u9) (d_285 hp hJ t11 t231) (gQ_and (rs_285 hJ hR.1) (ax_285 hJ hR.1 hR.2)) (fun v53 s52 h47 h47R => ?_)
    obtain ⟨h47r, h47j⟩ := h47
    refine gT_chk (by omega) (by omega) ?_
    refine gT_chk (by omega) (by omega) ?_
    refine gT_chk (by omega) (by omega) ?_
    refine gT_v1q (A := fun w9 u9 => True ∧ J (-1, l, l, i, i) u9) (B := fun w9 u9 => RX u9 ∧ gI u9 217 0 = v53 ∧ (v53 = 0 → gI u9 231 0 = w9)) (d_215 hp h47j t12) (xn_m h47j h47R.1 h47R.2 (rs_215 h47j h47R.1)) (fun v55 s54 h48 h48R => ?_)
    obtain ⟨h48r, h48j⟩ := h48
    exact gT_ret ⟨rfl, rfl, rfl, g6, by omega, ⟨l, i, hi, h48j, h48R.1⟩⟩
  refine gT_ite (fun h49 => ?_) (fun h49n => ?_)
  · refine gT_chk (by omega) (by omega) ?_
    refine gT_chk (by omega) (by omega) ?_
    refine gT_v1q (A := fun w9 u9 => True ∧ J (-1, l, l, i, i) u9) (B := fun w9 u9 => Rt u9 ∧ Xn (f_216 217 ((sc ((g32 (x4 + 1)) : Int).toNat)) ((sc ((g32 (x4 + 2)) : Int).toNat))) w9 u9) (d_286 hp hJ t11 t231) (gQ_and (rs_286 hJ hR.1) (ax_286 hJ hR.1 hR.2)) (fun v57 s56 h50 h50R => ?_)
    obtain ⟨h50r, h50j⟩ := h50
    refine gT_chk (by omega) (by omega) ?_
    refine gT_chk (by omega) (by omega) ?_
    refine gT_v1q (A := fun w9 u9 => True ∧ J (-1, l, l, i, i) u9) (B := fun w9 u9 => RX u9 ∧ gI u9 217 0 = v57 ∧ (v57 = 0 → gI u9 231 0 = w9)) (d_216 hp h50j t12) (xn_m h50j h50R.1 h50R.2 (rs_216 h50j h50R.1)) (fun v59 s58 h51 h51R => ?_)
    obtain ⟨h51r, h51j⟩ := h51
    exact gT_ret ⟨rfl, rfl, rfl, g6, by omega, ⟨l, i, hi, h51j, h51R.1⟩⟩
  refine gT_ite (fun h52 => ?_) (fun h52n => ?_)
  · refine gT_chk (by omega) (by omega) ?_
    refine gT_v1q (A := fun w9 u9 => True ∧ J (-1, l, l, i, i) u9) (B := fun w9 u9 => Rt u9 ∧ Xn (f_217 217 ((sc ((g32 (x4 + 1)) : Int).toNat))) w9 u9) (d_287 hp hJ t11 t231) (gQ_and (rs_287 hJ hR.1) (ax_287 hJ hR.1 hR.2)) (fun v61 s60 h53 h53R => ?_)
    obtain ⟨h53r, h53j⟩ := h53
    refine gT_chk (by omega) (by omega) ?_
    refine gT_v1q (A := fun w9 u9 => True ∧ J (-1, l, l, i, i) u9) (B := fun w9 u9 => RX u9 ∧ gI u9 217 0 = v61 ∧ (v61 = 0 → gI u9 231 0 = w9)) (d_217 hp h53j t12) (xn_m h53j h53R.1 h53R.2 (rs_217 h53j h53R.1)) (fun v63 s62 h54 h54R => ?_)
    obtain ⟨h54r, h54j⟩ := h54
    exact gT_ret ⟨rfl, rfl, rfl, g6, by omega, ⟨l, i, hi, h54j, h54R.1⟩⟩
  refine gT_ite (fun h55 => ?_) (fun h55n => ?_)
  · refine gT_chk (by omega) (by omega) ?_
    refine gT_v1q (A := fun w9 u9 => True ∧ J (-1, l, l, i, i) u9) (B := fun w9 u9 => Rt u9 ∧ Xn (f_218 217 ((sc ((g32 (x4 + 1)) : Int).toNat))) w9 u9) (d_288 hp hJ t11 t231) (gQ_and (rs_288 hJ hR.1) (ax_288 hJ hR.1 hR.2)) (fun v65 s64 h56 h56R => ?_)
    obtain ⟨h56r, h56j⟩ := h56
    refine gT_chk (by omega) (by omega) ?_
    refine gT_v1q (A := fun w9 u9 => True ∧ J (-1, l, l, i, i) u9) (B := fun w9 u9 => RX u9 ∧ gI u9 217 0 = v65 ∧ (v65 = 0 → gI u9 231 0 = w9)) (d_218 hp h56j t12) (xn_m h56j h56R.1 h56R.2 (rs_218 h56j h56R.1)) (fun v67 s66 h57 h57R => ?_)
    obtain ⟨h57r, h57j⟩ := h57
    exact gT_ret ⟨rfl, rfl, rfl, g6, by omega, ⟨l, i, hi, h57j, h57R.1⟩⟩
  refine gT_ite (fun h58 => ?_) (fun h58n => ?_)
  · refine gT_chk (by omega) (by omega) ?_
    refine gT_chk (by omega) (by omega) ?_
    refine gT_chk (by omega) (by omega) ?_
    refine gT_v1q (A := fun w9 u9 => True ∧ J (-1, l, l, i, i) u9) (B := fun _ u9 => RX u9) (d_289 hp hJ t11 t231) (gQ_and (rs_289 hJ hR.1) (rx_289 hJ hR.2)) (fun v69 s68 h59 h59R => ?_)
    obtain ⟨h59r, h59j⟩ := h59
    refine gT_chk (by omega) (by omega) ?_
    refine gT_chk (by omega) (by omega) ?_
    refine gT_chk (by omega) (by omega) ?_
    refine gT_v1q (A := fun w9 u9 => True ∧ J (-1, l, l, i, i) u9) (B := fun _ u9 => RX u9) (d_219 hp h59j t12) (gQ_and (rs_219 h59j h59R.1) (rx_219 h59j h59R.2)) (fun v71 s70 h60 h60R => ?_)
    obtain ⟨h60r, h60j⟩ := h60
    exact gT_ret ⟨rfl, rfl, rfl, g6, by omega, ⟨l, i, hi, h60j, h60R⟩⟩
  refine gT_ite (fun h61 => ?_) (fun h61n => ?_)
  · refine gT_chk (by omega) (by omega) ?_
    refine gT_v1q (A := fun w9 u9 => True ∧ J (-1, l, l, i, i) u9) (B := fun w9 u9 => RX u9 ∧ Xc (f_220 217 ((sc ((g32 (x4 + 1)) : Int).toNat))) w9 u9) (d_290 hp hJ t11 t231) (gQ_and ((gQ_and (rs_290 hJ hR.1) (rx_290 hJ hR.2))) (xc_290 hJ hR)) (fun v73 s72 h62 h62R => ?_)
    obtain ⟨h62r, h62j⟩ := h62
    refine gT_chk (by omega) (by omega) ?_
    refine gT_v1q (A := fun w9 u9 => True ∧ J (-1, l, l, i, i) u9) (B := fun w9 u9 => RX u9 ∧ gI u9 217 0 = v73 ∧ (v73 = 0 → gI u9 231 0 = w9)) (d_220 hp h62j t12) (xc_m h62j h62R.1 h62R.2 (gQ_and (rs_220 h62j h62R.1.1) (rx_220 h62j h62R.1.2))) (fun v75 s74 h63 h63R => ?_)
    obtain ⟨h63r, h63j⟩ := h63
    refine gT_v1 (A := fun w9 u9 => w9 = gI s74 217 0 ∧ u9 = s74) ⟨_, rfl, rfl, rfl, rfl⟩ (fun v77 s76 h64 => ?_)
    obtain ⟨h64a, h64b⟩ := h64
    rw [h64b]
    have h64c : v77 = v73 := h64a.trans h63R.2.1
    rw [if_pos h64c]
    refine gT_ite (fun h64d => ?_) (fun _ => gT_ret ⟨rfl, rfl, rfl, g6, by omega, ⟨l, i, hi, h63j, h63R.1⟩⟩)
    refine gT_chk (by omega) (by omega) ?_
    have h64e : gI s74 231 (0 : Int).toNat = v75 := h63R.2.2 h64d
    rw [h64e, gcmp_r, if_pos rfl]
    exact gT_ret ⟨rfl, rfl, rfl, g6, by omega, ⟨l, i, hi, h63j, h63R.1⟩⟩
  refine gT_ite (fun h65 => ?_) (fun h65n => ?_)
  · refine gT_chk (by omega) (by omega) ?_
    refine gT_v1q (A := fun w9 u9 => True ∧ J (-1, l, l, i, i) u9) (B := fun _ u9 => RX u9) (d_291 hp hJ t11 t231) (gQ_and (rs_291 hJ hR.1) (rx_291 hJ hR.2)) (fun v79 s78 h66 h66R => ?_)
    obtain ⟨h66r, h66j⟩ := h66
    refine gT_chk (by omega) (by omega) ?_
    refine gT_v1q (A := fun w9 u9 => True ∧ J (-1, l, l, i, i) u9) (B := fun _ u9 => RX u9) (d_221 hp h66j t12) (gQ_and (rs_221 h66j h66R.1) (rx_221 h66j h66R.2)) (fun v81 s80 h67 h67R => ?_)
    obtain ⟨h67r, h67j⟩ := h67
    exact gT_ret ⟨rfl, rfl, rfl, g6, by omega, ⟨l, i, hi, h67j, h67R⟩⟩
  refine gT_ite (fun h68 => ?_) (fun h68n => ?_)
  · refine gT_chk (by omega) (by omega) ?_
    refine gT_v1q (A := fun w9 u9 => True ∧ J (-1, l, l, i, i) u9) (B := fun _ u9 => RX u9) (d_292 hp hJ t11 t231) (gQ_and (rs_292 hJ hR.1) (rx_292 hJ hR.2)) (fun v83 s82 h69 h69R => ?_)
    obtain ⟨h69r, h69j⟩ := h69
    refine gT_chk (by omega) (by omega) ?_
    refine gT_v1q (A := fun w9 u9 => True ∧ J (-1, l, l, i, i) u9) (B := fun _ u9 => RX u9) (d_223 hp h69j t12) (gQ_and (rs_223 h69j h69R.1) (rx_223 h69j h69R.2)) (fun v85 s84 h70 h70R => ?_)
    obtain ⟨h70r, h70j⟩ := h70
    exact gT_ret ⟨rfl, rfl, rfl, g6, by omega, ⟨l, i, hi, h70j, h70R⟩⟩
  refine gT_ite (fun h71 => ?_) (fun h71n => ?_)
  · refine gT_chk (by omega) (by omega) ?_
    refine gT_v1q (A := fun w9 u9 => True ∧ J (-1, l, l, i, i) u9) (B := fun _ u9 => RX u9) (d_293 hp hJ t11 t231) (gQ_and (rs_293 hJ hR.1) (rx_293 hJ hR.2)) (fun v87 s86 h72 h72R => ?_)
    obtain ⟨h72r, h72j⟩ := h72
    refine gT_chk (by omega) (by omega) ?_
    refine gT_v1q (A := fun w9 u9 => True ∧ J (-1, l, l, i, i) u9) (B := fun _ u9 => RX u9) (d_224 hp h72j t12) (gQ_and (rs_224 h72j h72R.1) (rx_224 h72j h72R.2)) (fun v89 s88 h73 h73R => ?_)
    obtain ⟨h73r, h73j⟩ := h73
    exact gT_ret ⟨rfl, rfl, rfl, g6, by omega, ⟨l, i, hi, h73j, h73R⟩⟩
  refine gT_ite (fun h74 => ?_) (fun h74n => ?_)
  · refine gT_chk (by omega) (by omega) ?_
    refine gT_chk (by omega) (by omega) ?_
    refine gT_v1q (A := fun w9 u9 => True ∧ J (-1, l, l, i, i) u9) (B := fun _ u9 => RX u9) (d_294 hp hJ t11 t231) (gQ_and (rs_294 hJ hR.1) (rx_294 hJ hR.2)) (fun v91 s90 h75 h75R => ?_)
    obtain ⟨h75r, h75j⟩ := h75
    refine gT_chk (by omega) (by omega) ?_
    refine gT_chk (by omega) (by omega) ?_
    refine gT_v1q (A := fun w9 u9 => True ∧ J (-1, l, l, i, i) u9) (B := fun _ u9 => RX u9) (d_229 hp h75j t12) (gQ_and (rs_229 h75j h75R.1) (rx_229 h75j h75R.2)) (fun v93 s92 h76 h76R => ?_)
    obtain ⟨h76r, h76j⟩ := h76
    exact gT_ret ⟨rfl, rfl, rfl, g6, by omega, ⟨l, i, hi, h76j, h76R⟩⟩
  refine gT_ite (fun h77 => ?_) (fun h77n => ?_)
  · refine gT_chk (by omega) (by omega) ?_
    refine gT_chk (by omega) (by omega) ?_
    refine gT_v1q (A := fun w9 u9 => True ∧ J (-1, l, l, i, i) u9) (B := fun _ u9 => RX u9) (d_295 hp hJ t11 t231) (gQ_and (rs_295 hJ hR.1) (rx_295 hJ hR.2)) (fun v95 s94 h78 h78R => ?_)
    obtain ⟨h78r, h78j⟩ := h78
    refine gT_chk (by omega) (by omega) ?_
    refine gT_chk (by omega) (by omega) ?_
    refine gT_v1q (A := fun w9 u9 => True ∧ J (-1, l, l, i, i) u9) (B := fun _ u9 => RX u9) (d_230 hp h78j t12) (gQ_and (rs_230 h78j h78R.1) (rx_230 h78j h78R.2)) (fun v97 s96 h79 h79R => ?_)
    obtain ⟨h79r, h79j⟩ := h79
    exact gT_ret ⟨rfl, rfl, rfl, g6, by omega, ⟨l, i, hi, h79j, h79R⟩⟩
  refine gT_ite (fun h80 => ?_) (fun h80n => ?_)
  · refine gT_chk (by omega) (by omega) ?_
    refine gT_chk (by omega) (by omega) ?_
    refine gT_v1q (A := fun w9 u9 => True ∧ J (-1, l, l, i, i) u9) (B := fun _ u9 => RX u9) (d_296 hp hJ t11 t231) (gQ_and (rs_296 hJ hR.1) (rx_296 hJ hR.2)) (fun v99 s98 h81 h81R => ?_)
    obtain ⟨h81r, h81j⟩ := h81
    refine gT_chk (by omega) (by omega) ?_
    refine gT_chk (by omega) (by omega) ?_
    refine gT_v1q (A := fun w9 u9 => (0 ≤ w9 ∧ w9 ≤ 1) ∧ J (-1, l, l, i, i) u9) (B := fun _ u9 => RX u9) (d_233 hp h81j t12) (gQ_and (rs_233 h81j h81R.1) (rx_233 h81j h81R.2)) (fun v101 s100 h82 h82R => ?_)
    obtain ⟨h82r, h82j⟩ := h82
    exact gT_ret ⟨rfl, rfl, rfl, g6, by omega, ⟨l, i, hi, h82j, h82R⟩⟩
  refine gT_ite (fun h83 => ?_) (fun h83n => ?_)
  · refine gT_chk (by omega) (by omega) ?_
    refine gT_v1q (A := fun w9 u9 => True ∧ J (-1, l, l, i, i) u9) (B := fun _ u9 => RX u9) (d_297 hp hJ t11 t231) (gQ_and (rs_297 hJ hR.1) (rx_297 hJ hR.2)) (fun v104 s103 h84 h84R => ?_)
    obtain ⟨h84r, h84j⟩ := h84
    refine gT_chk (by omega) (by omega) ?_
    refine gT_v1q (A := fun w9 u9 => True ∧ J (-1, l, l, i, i) u9) (B := fun _ u9 => RX u9) (d_235 hp h84j t12) (gQ_and (rs_235 h84j h84R.1) (rx_235 h84j h84R.2)) (fun v106 s105 h85 h85R => ?_)
    obtain ⟨h85r, h85j⟩ := h85
    exact gT_ret ⟨rfl, rfl, rfl, g6, by omega, ⟨l, i, hi, h85j, h85R⟩⟩
  refine gT_ite (fun h86 => ?_) (fun h86n => ?_)
  · refine gT_chk (by omega) (by omega) ?_
    refine gT_chk (by omega) (by omega) ?_
    refine gT_ite (fun h87 => ?_) (fun h87n => ?_)
    · unfold fb_511_1184
      refine gT_v1q (A := fun w9 u9 => True ∧ J (-1, l, l, i, i) u9) (B := fun _ u9 => RX u9) (d_298 hp hJ t11 t231 (show (0 : Int) ≤ 0 ∧ 0 ≤ 1 by constructor <;> omega)) (gQ_and (rs_298 hJ hR.1) (rx_298 hJ hR.2)) (fun v108 s107 h88 h88R => ?_)
      obtain ⟨h88r, h88j⟩ := h88
      refine gT_chk (by omega) (by omega) ?_
      refine gT_chk (by omega) (by omega) ?_
      rw [if_pos h87]
      unfold fb_511_1211
      refine gT_v1q (A := fun w9 u9 => True ∧ J (-1, l, l, i, i) u9) (B := fun _ u9 => RX u9) (d_236 hp h88j t12 (show (0 : Int) ≤ 0 ∧ 0 ≤ 1 by constructor <;> omega)) (gQ_and (rs_236 h88j h88R.1) (rx_236 h88j h88R.2)) (fun v110 s109 h89 h89R => ?_)
      obtain ⟨h89r, h89j⟩ := h89
      exact gT_ret ⟨rfl, rfl, rfl, g6, by omega, ⟨l, i, hi, h89j, h89R⟩⟩
    unfold fb_511_1184
    refine gT_v1q (A := fun w9 u9 => True ∧ J (-1, l, l, i, i) u9) (B := fun _ u9 => RX u9) (d_298 hp hJ t11 t231 (show (0 : Int) ≤ 1 ∧ 1 ≤ 1 by constructor <;> omega)) (gQ_and (rs_298 hJ hR.1) (rx_298 hJ hR.2)) (fun v108 s107 h90 h90R => ?_)
    obtain ⟨h90r, h90j⟩ := h90
    refine gT_chk (by omega) (by omega) ?_
    refine gT_chk (by omega) (by omega) ?_
    rw [if_neg h87n]
    unfold fb_511_1211
    refine gT_v1q (A := fun w9 u9 => True ∧ J (-1, l, l, i, i) u9) (B := fun _ u9 => RX u9) (d_236 hp h90j t12 (show (0 : Int) ≤ 1 ∧ 1 ≤ 1 by constructor <;> omega)) (gQ_and (rs_236 h90j h90R.1) (rx_236 h90j h90R.2)) (fun v110 s109 h91 h91R => ?_)
    obtain ⟨h91r, h91j⟩ := h91
    exact gT_ret ⟨rfl, rfl, rfl, g6, by omega, ⟨l, i, hi, h91j, h91R⟩⟩
  refine gT_ite (fun h92 => ?_) (fun h92n => ?_)
  · refine gT_chk (by omega) (by omega) ?_
    refine gT_v1q (A := fun w9 u9 => True ∧ J (-1, l, l, i, i) u9) (B := fun _ u9 => RX u9) (d_299 hp hJ t11 t231) (gQ_and (rs_299 hJ hR.1) (rx_299 hJ hR.2)) (fun v112 s111 h93 h93R => ?_)
    obtain ⟨h93r, h93j⟩ := h93
    refine gT_chk (by omega) (by omega) ?_
    refine gT_v1q (A := fun w9 u9 => True ∧ J (-1, l, l, i, i) u9) (B := fun _ u9 => RX u9) (d_237 hp h93j t12) (gQ_and (rs_237 h93j h93R.1) (rx_237 h93j h93R.2)) (fun v114 s113 h94 h94R => ?_)
    obtain ⟨h94r, h94j⟩ := h94
    exact gT_ret ⟨rfl, rfl, rfl, g6, by omega, ⟨l, i, hi, h94j, h94R⟩⟩
  refine gT_ite (fun h95 => ?_) (fun h95n => ?_)
  · refine gT_chk (by omega) (by omega) ?_
    refine gT_ite (fun h96 => ?_) (fun h96n => ?_)
    · unfold fb_511_1262
      refine gT_v1q (A := fun w9 u9 => True ∧ J (-1, 0, l, i, i) u9) (B := fun _ u9 => RX u9) (d_300 hp hJ t11 t231 (show (0 : Int) ≤ 0 ∧ 0 ≤ 1 by constructor <;> omega)) (gQ_and (rs_300 hJ hR.1) (rx_300 hJ hR.2)) (fun v116 s115 h97 h97R => ?_)
      obtain ⟨h97r, h97j⟩ := h97
      refine gT_chk (by omega) (by omega) ?_
      rw [if_pos h96]
      unfold fb_511_1283
      refine gT_v1q (A := fun w9 u9 => True ∧ J (-1, 0, 0, i, i) u9) (B := fun _ u9 => RX u9) (d_239 hp h97j t12 (show (0 : Int) ≤ 0 ∧ 0 ≤ 1 by constructor <;> omega)) (gQ_and (rs_239 h97j h97R.1) (rx_239 h97j h97R.2)) (fun v118 s117 h98 h98R => ?_)
      obtain ⟨h98r, h98j⟩ := h98
      exact gT_ret ⟨rfl, rfl, rfl, g6, by omega, ⟨0, i, hi, h98j, h98R⟩⟩
    unfold fb_511_1262
    refine gT_v1q (A := fun w9 u9 => True ∧ J (-1, 0, l, i, i) u9) (B := fun _ u9 => RX u9) (d_300 hp hJ t11 t231 (show (0 : Int) ≤ 1 ∧ 1 ≤ 1 by constructor <;> omega)) (gQ_and (rs_300 hJ hR.1) (rx_300 hJ hR.2)) (fun v116 s115 h99 h99R => ?_)
    obtain ⟨h99r, h99j⟩ := h99
    refine gT_chk (by omega) (by omega) ?_
    rw [if_neg h96n]
    unfold fb_511_1283
    refine gT_v1q (A := fun w9 u9 => True ∧ J (-1, 0, 0, i, i) u9) (B := fun _ u9 => RX u9) (d_239 hp h99j t12 (show (0 : Int) ≤ 1 ∧ 1 ≤ 1 by constructor <;> omega)) (gQ_and (rs_239 h99j h99R.1) (rx_239 h99j h99R.2)) (fun v118 s117 h100 h100R => ?_)
    obtain ⟨h100r, h100j⟩ := h100
    exact gT_ret ⟨rfl, rfl, rfl, g6, by omega, ⟨0, i, hi, h100j, h100R⟩⟩
  refine gT_ite (fun h101 => ?_) (fun h101n => ?_)
  · refine gT_v1q (A := fun w9 u9 => True ∧ J (-1, 0, l, i, i) u9) (B := fun _ u9 => RX u9) (d_301 hp hJ t11 t231) (gQ_and (rs_301 hJ hR.1) (rx_301 hJ hR.2)) (fun v120 s119 h102 h102R => ?_)
    obtain ⟨h102r, h102j⟩ := h102
    refine gT_v1q (A := fun w9 u9 => True ∧ J (-1, 0, 0, i, i) u9) (B := fun _ u9 => RX u9) (d_240 hp h102j t12) (gQ_and (rs_240 h102j h102R.1) (rx_240 h102j h102R.2)) (fun v122 s121 h103 h103R => ?_)
    obtain ⟨h103r, h103j⟩ := h103
    exact gT_ret ⟨rfl, rfl, rfl, g6, by omega, ⟨0, i, hi, h103j, h103R⟩⟩
  refine gT_ite (fun h104 => ?_) (fun h104n => ?_)
  · refine gT_chk (by omega) (by omega) ?_
    refine gT_chk (by omega) (by omega) ?_
    refine gT_v1q (A := fun w9 u9 => True ∧ J (-1, l, l, i, i) u9) (B := fun _ u9 => RX u9) (d_302 hp hJ t11 t231) (gQ_and (rs_302 hJ hR.1) (rx_302 hJ hR.2)) (fun v124 s123 h105 h105R => ?_)
    obtain ⟨h105r, h105j⟩ := h105
    refine gT_chk (by omega) (by omega) ?_
    refine gT_chk (by omega) (by omega) ?_
    refine gT_v1q (A := fun w9 u9 => True ∧ J (-1, l, l, i, i) u9) (B := fun _ u9 => RX u9) (d_243 hp h105j t12) (gQ_and (rs_243 h105j h105R.1) (rx_243 h105j h105R.2)) (fun v126 s125 h106 h106R => ?_)
    obtain ⟨h106r, h106j⟩ := h106
    exact gT_ret ⟨rfl, rfl, rfl, g6, by omega, ⟨l, i, hi, h106j, h106R⟩⟩
  refine gT_ite (fun h107 => ?_) (fun h107n => ?_)
  · refine gT_chk (by omega) (by omega) ?_
    refine gT_chk (by omega) (by omega) ?_
    refine gT_v1q (A := fun w9 u9 => True ∧ J (-1, l, l, i, i) u9) (B := fun _ u9 => RX u9) (d_303 hp hJ t11 t231) (gQ_and (rs_303 hJ hR.1) (rx_303 hJ hR.2)) (fun v128 s127 h108 h108R => ?_)
    obtain ⟨h108r, h108j⟩ := h108
    refine gT_chk (by omega) (by omega) ?_
    refine gT_chk (by omega) (by omega) ?_
    refine gT_v1q (A := fun w9 u9 => True ∧ J (-1, l, l, i, i) u9) (B := fun _ u9 => RX u9) (d_244 hp h108j t12) (gQ_and (rs_244 h108j h108R.1) (rx_244 h108j h108R.2)) (fun v130 s129 h109 h109R => ?_)
    obtain ⟨h109r, h109j⟩ := h109
    exact gT_ret ⟨rfl, rfl, rfl, g6, by omega, ⟨l, i, hi, h109j, h109R⟩⟩
  refine gT_ite (fun h110 => ?_) (fun h110n => ?_)
  · refine gT_chk (by omega) (by omega) ?_
    refine gT_ite (fun h111 => ?_) (fun h111n => ?_)
    · unfold fb_511_1402
      refine gT_v1q (A := fun w9 u9 => True ∧ J (-1, l, l, i, i) u9) (B := fun _ u9 => RX u9) (d_118 hp hJ t11 (show (0 : Int) ≤ 0 ∧ 0 ≤ 1 by constructor <;> omega)) (gQ_and (rs_118 hJ hR.1) (rx_118 hJ hR.2)) (fun v132 s131 h112 h112R => ?_)
      obtain ⟨h112r, h112j⟩ := h112
      refine gT_chk (by omega) (by omega) ?_
      rw [if_pos h111]
      unfold fb_511_1421
      refine gT_v1q (A := fun w9 u9 => True ∧ J (-1, l, l, i, i) u9) (B := fun _ u9 => RX u9) (d_245 hp h112j t12 (show (0 : Int) ≤ 0 ∧ 0 ≤ 1 by constructor <;> omega)) (gQ_and (rs_245 h112j h112R.1) (rx_245 h112j h112R.2)) (fun v134 s133 h113 h113R => ?_)
      obtain ⟨h113r, h113j⟩ := h113
      exact gT_ret ⟨rfl, rfl, rfl, g6, by omega, ⟨l, i, hi, h113j, h113R⟩⟩
    unfold fb_511_1402
    refine gT_v1q (A := fun w9 u9 => True ∧ J (-1, l, l, i, i) u9) (B := fun _ u9 => RX u9) (d_118 hp hJ t11 (show (0 : Int) ≤ 1 ∧ 1 ≤ 1 by constructor <;> omega)) (gQ_and (rs_118 hJ hR.1) (rx_118 hJ hR.2)) (fun v132 s131 h114 h114R => ?_)
    obtain ⟨h114r, h114j⟩ := h114
    refine gT_chk (by omega) (by omega) ?_
    rw [if_neg h111n]
    unfold fb_511_1421
    refine gT_v1q (A := fun w9 u9 => True ∧ J (-1, l, l, i, i) u9) (B := fun _ u9 => RX u9) (d_245 hp h114j t12 (show (0 : Int) ≤ 1 ∧ 1 ≤ 1 by constructor <;> omega)) (gQ_and (rs_245 h114j h114R.1) (rx_245 h114j h114R.2)) (fun v134 s133 h115 h115R => ?_)
    obtain ⟨h115r, h115j⟩ := h115
    exact gT_ret ⟨rfl, rfl, rfl, g6, by omega, ⟨l, i, hi, h115j, h115R⟩⟩
  refine gT_ite (fun h116 => ?_) (fun h116n => ?_)
  · refine gT_chk (by omega) (by omega) ?_
    refine gT_v1q (A := fun w9 u9 => True ∧ J (-1, l, l, i, i) u9) (B := fun _ u9 => RX u9) (d_304 hp hJ t11 t231) (gQ_and (rs_304 hJ hR.1) (rx_304 hJ hR.2)) (fun v136 s135 h117 h117R => ?_)
    obtain ⟨h117r, h117j⟩ := h117
    refine gT_chk (by omega) (by omega) ?_
    refine gT_v1q (A := fun w9 u9 => True ∧ J (-1, l, l, i, i) u9) (B := fun _ u9 => RX u9) (d_247 hp h117j t12) (gQ_and (rs_247 h117j h117R.1) (rx_247 h117j h117R.2)) (fun v138 s137 h118 h118R => ?_)
    obtain ⟨h118r, h118j⟩ := h118
    exact gT_ret ⟨rfl, rfl, rfl, g6, by omega, ⟨l, i, hi, h118j, h118R⟩⟩
  refine gT_ite (fun h119 => ?_) (fun h119n => ?_)
  · refine gT_v1q (A := fun w9 u9 => True ∧ J (-1, l, l, i, i) u9) (B := fun _ u9 => RX u9) (d_120 hp hJ t11) (gQ_and (rs_120 hJ hR.1) (rx_120 hJ hR.2)) (fun v140 s139 h120 h120R => ?_)
    obtain ⟨h120r, h120j⟩ := h120
    refine gT_v1q (A := fun w9 u9 => True ∧ J (-1, l, l, i, i) u9) (B := fun _ u9 => RX u9) (d_248 hp h120j t12) (gQ_and (rs_248 h120j h120R.1) (rx_248 h120j h120R.2)) (fun v142 s141 h121 h121R => ?_)
    obtain ⟨h121r, h121j⟩ := h121
    exact gT_ret ⟨rfl, rfl, rfl, g6, by omega, ⟨l, i, hi, h121j, h121R⟩⟩
  refine gT_ite (fun h122 => ?_) (fun h122n => ?_)
  · refine gT_v1q (A := fun w9 u9 => True ∧ J (-1, l, l, i, i) u9) (B := fun _ u9 => RX u9) (d_121 hp hJ t11) (gQ_and (rs_121 hJ hR.1) (rx_121 hJ hR.2)) (fun v144 s143 h123 h123R => ?_)
    obtain ⟨h123r, h123j⟩ := h123
    refine gT_v1q (A := fun w9 u9 => True ∧ J (-1, l, l, i, i) u9) (B := fun _ u9 => RX u9) (d_249 hp h123j t12) (gQ_and (rs_249 h123j h123R.1) (rx_249 h123j h123R.2)) (fun v146 s145 h124 h124R => ?_)
    obtain ⟨h124r, h124j⟩ := h124
    exact gT_ret ⟨rfl, rfl, rfl, g6, by omega, ⟨l, i, hi, h124j, h124R⟩⟩
  refine gT_ite (fun h125 => ?_) (fun h125n => ?_)
  · refine gT_chk (by omega) (by omega) ?_
    refine gT_v1q (A := fun w9 u9 => True ∧ J (-1, l, l, i, i) u9) (B := fun _ u9 => RX u9) (d_305 hp hJ t11 t231) (gQ_and (rs_305 hJ hR.1) (rx_305 hJ hR.2)) (fun v148 s147 h126 h126R => ?_)
    obtain ⟨h126r, h126j⟩ := h126
    refine gT_chk (by omega) (by omega) ?_
    refine gT_v1q (A := fun w9 u9 => True ∧ J (-1, l, l, i, i) u9) (B := fun _ u9 => RX u9) (d_250 hp h126j t12) (gQ_and (rs_250 h126j h126R.1) (rx_250 h126j h126R.2)) (fun v150 s149 h127 h127R => ?_)
    obtain ⟨h127r, h127j⟩ := h127
    exact gT_ret ⟨rfl, rfl, rfl, g6, by omega, ⟨l, i, hi, h127j, h127R⟩⟩
  refine gT_ite (fun h128 => ?_) (fun h128n => ?_)
  · refine gT_v1q (A := fun w9 u9 => True ∧ J (-1, l, l, i, i) u9) (B := fun _ u9 => RX u9) (d_123 hp hJ t11) (gQ_and (rs_123 hJ hR.1) (rx_123 hJ hR.2)) (fun v152 s151 h129 h129R => ?_)
    obtain ⟨h129r, h129j⟩ := h129
    refine gT_v1q (A := fun w9 u9 => True ∧ J (-1, l, l, i, i) u9) (B := fun _ u9 => RX u9) (d_251 hp h129j t12) (gQ_and (rs_251 h129j h129R.1) (rx_251 h129j h129R.2)) (fun v154 s153 h130 h130R => ?_)
    obtain ⟨h130r, h130j⟩ := h130
    exact gT_ret ⟨rfl, rfl, rfl, g6, by omega, ⟨l, i, hi, h130j, h130R⟩⟩
  refine gT_ite (fun h131 => ?_) (fun h131n => ?_)
  · refine gT_chk (by omega) (by omega) ?_
    refine gT_ite (fun h132 => ?_) (fun h132n => ?_)
    · unfold fb_511_1538
      refine gT_v1q (A := fun w9 u9 => True ∧ J (-1, l, l, i, i) u9) (B := fun _ u9 => RX u9) (d_124 hp hJ t11 (show (0 : Int) ≤ 0 ∧ 0 ≤ 1 by constructor <;> omega)) (gQ_and (rs_124 hJ hR.1) (rx_124 hJ hR.2)) (fun v156 s155 h133 h133R => ?_)
      obtain ⟨h133r, h133j⟩ := h133
      refine gT_chk (by omega) (by omega) ?_
      rw [if_pos h132]
      unfold fb_511_1557
      refine gT_v1q (A := fun w9 u9 => True ∧ J (-1, l, l, i, i) u9) (B := fun _ u9 => RX u9) (d_253 hp h133j t12 (show (0 : Int) ≤ 0 ∧ 0 ≤ 1 by constructor <;> omega)) (gQ_and (rs_253 h133j h133R.1) (rx_253 h133j h133R.2)) (fun v158 s157 h134 h134R => ?_)
      obtain ⟨h134r, h134j⟩ := h134
      exact gT_ret ⟨rfl, rfl, rfl, g6, by omega, ⟨l, i, hi, h134j, h134R⟩⟩
    unfold fb_511_1538
    refine gT_v1q (A := fun w9 u9 => True ∧ J (-1, l, l, i, i) u9) (B := fun _ u9 => RX u9) (d_124 hp hJ t11 (show (0 : Int) ≤ 1 ∧ 1 ≤ 1 by constructor <;> omega)) (gQ_and (rs_124 hJ hR.1) (rx_124 hJ hR.2)) (fun v156 s155 h135 h135R => ?_)
    obtain ⟨h135r, h135j⟩ := h135
    refine gT_chk (by omega) (by omega) ?_
    rw [if_neg h132n]
    unfold fb_511_1557
    refine gT_v1q (A := fun w9 u9 => True ∧ J (-1, l, l, i, i) u9) (B := fun _ u9 => RX u9) (d_253 hp h135j t12 (show (0 : Int) ≤ 1 ∧ 1 ≤ 1 by constructor <;> omega)) (gQ_and (rs_253 h135j h135R.1) (rx_253 h135j h135R.2)) (fun v158 s157 h136 h136R => ?_)
    obtain ⟨h136r, h136j⟩ := h136
    exact gT_ret ⟨rfl, rfl, rfl, g6, by omega, ⟨l, i, hi, h136j, h136R⟩⟩
  refine gT_ite (fun h137 => ?_) (fun h137n => ?_)
  · refine gT_chk (by omega) (by omega) ?_
    refine gT_chk (by omega) (by omega) ?_
    refine gT_ite (fun h138 => ?_) (fun h138n => ?_)
    · unfold fb_511_1585
      refine gT_v1q (A := fun w9 u9 => True ∧ J (-1, l, l, i, i) u9) (B := fun _ u9 => RX u9) (d_306 hp hJ t11 t231 (show (0 : Int) ≤ 0 ∧ 0 ≤ 1 by constructor <;> omega)) (gQ_and (rs_306 hJ hR.1) (rx_306 hJ hR.2)) (fun v160 s159 h139 h139R => ?_)
      obtain ⟨h139r, h139j⟩ := h139
      refine gT_chk (by omega) (by omega) ?_
      refine gT_chk (by omega) (by omega) ?_
      rw [if_pos h138]
      unfold fb_511_1612
      refine gT_v1q (A := fun w9 u9 => True ∧ J (-1, l, l, i, i) u9) (B := fun _ u9 => RX u9) (d_254 hp h139j t12 (show (0 : Int) ≤ 0 ∧ 0 ≤ 1 by constructor <;> omega)) (gQ_and (rs_254 h139j h139R.1) (rx_254 h139j h139R.2)) (fun v162 s161 h140 h140R => ?_)
      obtain ⟨h140r, h140j⟩ := h140
      exact gT_ret ⟨rfl, rfl, rfl, g6, by omega, ⟨l, i, hi, h140j, h140R⟩⟩
    unfold fb_511_1585
    refine gT_v1q (A := fun w9 u9 => True ∧ J (-1, l, l, i, i) u9) (B := fun _ u9 => RX u9) (d_306 hp hJ t11 t231 (show (0 : Int) ≤ 1 ∧ 1 ≤ 1 by constructor <;> omega)) (gQ_and (rs_306 hJ hR.1) (rx_306 hJ hR.2)) (fun v160 s159 h141 h141R => ?_)
    obtain ⟨h141r, h141j⟩ := h141
    refine gT_chk (by omega) (by omega) ?_
    refine gT_chk (by omega) (by omega) ?_
    rw [if_neg h138n]
    unfold fb_511_1612
    refine gT_v1q (A := fun w9 u9 => True ∧ J (-1, l, l, i, i) u9) (B := fun _ u9 => RX u9) (d_254 hp h141j t12 (show (0 : Int) ≤ 1 ∧ 1 ≤ 1 by constructor <;> omega)) (gQ_and (rs_254 h141j h141R.1) (rx_254 h141j h141R.2)) (fun v162 s161 h142 h142R => ?_)
    obtain ⟨h142r, h142j⟩ := h142
    exact gT_ret ⟨rfl, rfl, rfl, g6, by omega, ⟨l, i, hi, h142j, h142R⟩⟩
  refine gT_ite (fun h143 => ?_) (fun h143n => ?_)
  · refine gT_chk (by omega) (by omega) ?_
    refine gT_chk (by omega) (by omega) ?_
    refine gT_ite (fun h144 => ?_) (fun h144n => ?_)
    · unfold fb_511_1641
      refine gT_v1q (A := fun w9 u9 => True ∧ J (-1, l, l, i, i) u9) (B := fun _ u9 => RX u9) (d_307 hp hJ t11 t231 (show (0 : Int) ≤ 0 ∧ 0 ≤ 1 by constructor <;> omega)) (gQ_and (rs_307 hJ hR.1) (rx_307 hJ hR.2)) (fun v164 s163 h145 h145R => ?_)
      obtain ⟨h145r, h145j⟩ := h145
      refine gT_chk (by omega) (by omega) ?_
      refine gT_chk (by omega) (by omega) ?_
      rw [if_pos h144]
      unfold fb_511_1668
      refine gT_v1q (A := fun w9 u9 => True ∧ J (-1, l, l, i, i) u9) (B := fun _ u9 => RX u9) (d_255 hp h145j t12 (show (0 : Int) ≤ 0 ∧ 0 ≤ 1 by constructor <;> omega)) (gQ_and (rs_255 h145j h145R.1) (rx_255 h145j h145R.2)) (fun v166 s165 h146 h146R => ?_)
      obtain ⟨h146r, h146j⟩ := h146
      exact gT_ret ⟨rfl, rfl, rfl, g6, by omega, ⟨l, i, hi, h146j, h146R⟩⟩
    unfold fb_511_1641
    refine gT_v1q (A := fun w9 u9 => True ∧ J (-1, l, l, i, i) u9) (B := fun _ u9 => RX u9) (d_307 hp hJ t11 t231 (show (0 : Int) ≤ 1 ∧ 1 ≤ 1 by constructor <;> omega)) (gQ_and (rs_307 hJ hR.1) (rx_307 hJ hR.2)) (fun v164 s163 h147 h147R => ?_)
    obtain ⟨h147r, h147j⟩ := h147
    refine gT_chk (by omega) (by omega) ?_
    refine gT_chk (by omega) (by omega) ?_
    rw [if_neg h144n]
    unfold fb_511_1668
    refine gT_v1q (A := fun w9 u9 => True ∧ J (-1, l, l, i, i) u9) (B := fun _ u9 => RX u9) (d_255 hp h147j t12 (show (0 : Int) ≤ 1 ∧ 1 ≤ 1 by constructor <;> omega)) (gQ_and (rs_255 h147j h147R.1) (rx_255 h147j h147R.2)) (fun v166 s165 h148 h148R => ?_)
    obtain ⟨h148r, h148j⟩ := h148
    exact gT_ret ⟨rfl, rfl, rfl, g6, by omega, ⟨l, i, hi, h148j, h148R⟩⟩
  refine gT_ite (fun h149 => ?_) (fun h149n => ?_)
  · refine gT_chk (by omega) (by omega) ?_
    refine gT_chk (by omega) (by omega) ?_
    refine gT_ite (fun h150 => ?_) (fun h150n => ?_)
    · unfold fb_511_1697
      refine gT_v1q (A := fun w9 u9 => True ∧ J (-1, l, l, i, i) u9) (B := fun _ u9 => RX u9) (d_308 hp hJ t11 t231 (show (0 : Int) ≤ 0 ∧ 0 ≤ 1 by constructor <;> omega)) (gQ_and (rs_308 hJ hR.1) (rx_308 hJ hR.2)) (fun v168 s167 h151 h151R => ?_)
      obtain ⟨h151r, h151j⟩ := h151
      refine gT_chk (by omega) (by omega) ?_
      refine gT_chk (by omega) (by omega) ?_
      rw [if_pos h150]
      unfold fb_511_1724
      refine gT_v1q (A := fun w9 u9 => True ∧ J (-1, l, l, i, i) u9) (B := fun _ u9 => RX u9) (d_257 hp h151j t12 (show (0 : Int) ≤ 0 ∧ 0 ≤ 1 by constructor <;> omega)) (gQ_and (rs_257 h151j h151R.1) (rx_257 h151j h151R.2)) (fun v170 s169 h152 h152R => ?_)
      obtain ⟨h152r, h152j⟩ := h152
      exact gT_ret ⟨rfl, rfl, rfl, g6, by omega, ⟨l, i, hi, h152j, h152R⟩⟩
    unfold fb_511_1697
    refine gT_v1q (A := fun w9 u9 => True ∧ J (-1, l, l, i, i) u9) (B := fun _ u9 => RX u9) (d_308 hp hJ t11 t231 (show (0 : Int) ≤ 1 ∧ 1 ≤ 1 by constructor <;> omega)) (gQ_and (rs_308 hJ hR.1) (rx_308 hJ hR.2)) (fun v168 s167 h153 h153R => ?_)
    obtain ⟨h153r, h153j⟩ := h153
    refine gT_chk (by omega) (by omega) ?_
    refine gT_chk (by omega) (by omega) ?_
    rw [if_neg h150n]
    unfold fb_511_1724
    refine gT_v1q (A := fun w9 u9 => True ∧ J (-1, l, l, i, i) u9) (B := fun _ u9 => RX u9) (d_257 hp h153j t12 (show (0 : Int) ≤ 1 ∧ 1 ≤ 1 by constructor <;> omega)) (gQ_and (rs_257 h153j h153R.1) (rx_257 h153j h153R.2)) (fun v170 s169 h154 h154R => ?_)
    obtain ⟨h154r, h154j⟩ := h154
    exact gT_ret ⟨rfl, rfl, rfl, g6, by omega, ⟨l, i, hi, h154j, h154R⟩⟩
  refine gT_ite (fun h155 => ?_) (fun h155n => ?_)
  · refine gT_chk (by omega) (by omega) ?_
    refine gT_chk (by omega) (by omega) ?_
    refine gT_v1q (A := fun w9 u9 => True ∧ J (-1, l, l, i, i) u9) (B := fun _ u9 => RX u9) (d_309 hp hJ t11 t231) (gQ_and (rs_309 hJ hR.1) (rx_309 hJ hR.2)) (fun v172 s171 h156 h156R => ?_)
    obtain ⟨h156r, h156j⟩ := h156
    refine gT_chk (by omega) (by omega) ?_
    refine gT_chk (by omega) (by omega) ?_
    refine gT_v1q (A := fun w9 u9 => True ∧ J (-1, l, l, i, i) u9) (B := fun _ u9 => RX u9) (d_258 hp h156j t12) (gQ_and (rs_258 h156j h156R.1) (rx_258 h156j h156R.2)) (fun v174 s173 h157 h157R => ?_)
    obtain ⟨h157r, h157j⟩ := h157
    exact gT_ret ⟨rfl, rfl, rfl, g6, by omega, ⟨l, i, hi, h157j, h157R⟩⟩
  refine gT_ite (fun h158 => ?_) (fun h158n => ?_)
  · refine gT_chk (by omega) (by omega) ?_
    refine gT_v1q (A := fun w9 u9 => True ∧ J (-1, l, l, i, i) u9) (B := fun w9 u9 => Rt u9 ∧ Xd (f_259 217 ((sc ((g32 (x4 + 1)) : Int).toNat))) w9 u9) (d_129 hp hJ t11) (gQ_and (rs_129 hJ hR.1) (ax_129 hJ hR.1 hR.2)) (fun v176 s175 h159 h159R => ?_)
    obtain ⟨h159r, h159j⟩ := h159
    refine gT_chk (by omega) (by omega) ?_
    refine gT_v1q (A := fun w9 u9 => True ∧ J (-1, l, l, i, i) u9) (B := fun w9 u9 => RX u9 ∧ w9 = v176) (d_259 hp h159j t12) (xd_m h159j h159R.1 h159R.2 (rs_259 h159j h159R.1)) (fun v178 s177 h160 h160R => ?_)
    obtain ⟨h160r, h160j⟩ := h160
    exact gT_ret ⟨rfl, rfl, rfl, g6, by omega, ⟨l, i, hi, h160j, h160R.1⟩⟩
  refine gT_ite (fun h161 => ?_) (fun h161n => ?_)
  · refine gT_v1q (A := fun w9 u9 => (0 ≤ w9 ∧ w9 ≤ 1) ∧ J (-1, l, l, i, i) u9) (B := fun w9 u9 => Rt u9 ∧ Xd (f_260 217) w9 u9) (d_130 hp hJ t11) (gQ_and (rs_130 hJ hR.1) (ax_130 hJ hR.1 hR.2)) (fun v180 s179 h162 h162R => ?_)
    obtain ⟨h162r, h162j⟩ := h162
    refine gT_v1q (A := fun w9 u9 => (0 ≤ w9 ∧ w9 ≤ 1) ∧ J (-1, l, l, i, i) u9) (B := fun w9 u9 => RX u9 ∧ w9 = v180) (d_260 hp h162j t12) (xd_m h162j h162R.1 h162R.2 (rs_260 h162j h162R.1)) (fun v183 s182 h163 h163R => ?_)
    obtain ⟨h163r, h163j⟩ := h163
    exact gT_ret ⟨rfl, rfl, rfl, g6, by omega, ⟨l, i, hi, h163j, h163R.1⟩⟩
  refine gT_ite (fun h164 => ?_) (fun h164n => ?_)
  · refine gT_v0q (A := fun u9 => J (-1, l, l, 1, i) u9) (B := fun u9 => Mim u9 ∧ ∀ p9, J p9 u9 → gQ (f_261 217 u9) (fun q_l => Rx q_l.2.2.2)) (d_131 hp hJ t11) (gQ_and (rt_131 hJ hR.1) (ax_131 hJ hR.2)) (fun s185 h165 h165R => ?_)
    have h165j := h165
    refine gT_v0q (A := fun u9 => J (-1, l, l, 1, 1) u9) (B := RX) (d_261 hp h165j t12) (gQ_and (rt_261 h165j h165R.1) (h165R.2 _ h165j)) (fun s187 h166 h166R => ?_)
    have h166j := h166
    exact gT_ret ⟨rfl, rfl, rfl, g6, by omega, ⟨l, 1, (Or.inr rfl), h166j, h166R⟩⟩
  refine gT_ite (fun h167 => ?_) (fun h167n => ?_)
  · refine gT_v1q (A := fun w9 u9 => (0 ≤ w9 ∧ w9 ≤ 1) ∧ J (-1, l, l, i, i) u9) (B := fun _ u9 => ((i = 0 → Rt u9) ∧ (i ≠ 0 → Mbk u9)) ∧ ∀ p9, J p9 u9 → gQ (f_262 217 u9) (fun q_l => Rx q_l.2.2.2)) (d_132 hp hJ t11) (gQ_and (rt_132 hJ hR.1) (ax_132 hJ rfl hi hR.2)) (fun v190 s189 h168 h168R => ?_)
    rcases hi with hi0_l | hi1
    · refine gT_v1q (A := fun w9 u9 => (0 ≤ w9 ∧ w9 ≤ 1) ∧ J (-1, l, l, i, i) u9) (B := fun _ u9 => RX u9) (d_262 hp h168.2 t12) (gQ_and (rt_262a h168.2 hi0_l (h168R.1.1 hi0_l)) (h168R.2 _ h168.2)) (fun v193 s192 h169 h169R => ?_)
      exact gT_ret ⟨rfl, rfl, rfl, g6, by omega, ⟨l, i, Or.inl hi0_l, h169.2, h169R⟩⟩
    · refine gT_v1q (A := fun w9 u9 => (0 ≤ w9 ∧ w9 ≤ 1) ∧ J (-1, l, l, i, i) u9) (B := fun _ u9 => RX u9) (d_262 hp h168.2 t12) (gQ_and (rt_262b h168.2 hi1 (h168R.1.2 (by omega))) (h168R.2 _ h168.2)) (fun v193 s192 h170 h170R => ?_)
      exact gT_ret ⟨rfl, rfl, rfl, g6, by omega, ⟨l, i, Or.inr hi1, h170.2, h170R⟩⟩
  refine gT_ite (fun h171 => ?_) (fun h171n => ?_)
  · refine gT_chk (by omega) (by omega) ?_
    refine gT_v1q (A := fun w9 u9 => True ∧ J (-1, l, l, i, i) u9) (B := fun _ u9 => RX u9) (d_133 hp hJ t11) (gQ_and (rs_133 hJ hR.1) (rx_133 hJ hR.2)) (fun v196 s195 h172 h172R => ?_)
    obtain ⟨h172r, h172j⟩ := h172
    refine gT_chk (by omega) (by omega) ?_
    refine gT_v1q (A := fun w9 u9 => True ∧ J (-1, l, l, i, i) u9) (B := fun _ u9 => RX u9) (d_263 hp h172j t12) (gQ_and (rs_263 h172j h172R.1) (rx_263 h172j h172R.2)) (fun v198 s197 h173 h173R => ?_)
    obtain ⟨h173r, h173j⟩ := h173
    exact gT_ret ⟨rfl, rfl, rfl, g6, by omega, ⟨l, i, hi, h173j, h173R⟩⟩
  exact gT_ret ⟨rfl, rfl, rfl, g6, by omega, ⟨l, i, hi, hJ, hR⟩⟩
