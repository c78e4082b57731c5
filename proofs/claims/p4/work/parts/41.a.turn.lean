theorem t231 : T 109 231 := ⟨by decide, by decide +kernel⟩
theorem d_276 {q : Int × Int × Int × Int} {s : gS} (_hp : (-1 : Int) ≤ -1 ∧ (-1 : Int) ≤ 0) (h : J (-1, q) s) (_t0 : T 11 0) (_t1 : T 109 231) : gT (f_276 0 231 s) (fun r => r.1 = 1 ∧ True ∧ J (-1, 0, q.2) r.2.2.2) := by
  unfold f_276
  refine gT_c1 (A := fun _ u_l => True ∧ J (-1, 0, q.2) u_l) (B := fun t_l u_l => (t_l = 2 ∨ t_l = 3) ∧ J (-1, 0, q.2) u_l) (d_89 h t11) (fun v2 s1_l h1 => ?_) (fun k_l s1_l hk hB_l => ?_)
  · refine gT_chk (by decide) (by decide) ?_
    exact gT_ret ⟨rfl, trivial, J_wa h1.2 t231 rfl⟩
  · refine gT_ite (fun _ => gT_ret ⟨rfl, trivial, hB_l.2⟩) (fun h0 => ?_)
    refine gT_ite (fun _ => gT_ret ⟨rfl, trivial, hB_l.2⟩) (fun h1 => ?_)
    have := hB_l.1
    omega
theorem gT_v1q {Q : Type} {P : Q → Prop} {z : Option gO} {A B : Int → gS → Prop} {E : Int → gS → Option Q} (h : gT z (fun r => r.1 = 1 ∧ A r.2.1 r.2.2.2)) (h' : gQ z (fun r => B r.2.1 r.2.2.2)) (k : ∀ v s, A v s → B v s → gT (E v s) P) : gT (z.bind (gv1 E)) P := by
  obtain ⟨r, h1, h2, h3⟩ := h
  exact gT_v1 (A := fun v s => A v s ∧ B v s) ⟨r, h1, h2, h3, h' r h1⟩ (fun v s hs => k v s hs.1 hs.2)
theorem gT_v0q {Q : Type} {P : Q → Prop} {z : Option gO} {A B : gS → Prop} {E : gS → Option Q} (h : gT z (fun r => r.1 = 0 ∧ A r.2.2.2)) (h' : gQ z (fun r => B r.2.2.2)) (k : ∀ s, A s → B s → gT (E s) P) : gT (z.bind (gv0 E)) P := by
  obtain ⟨r, h1, h2, h3⟩ := h
  exact gT_v0 (A := fun s => A s ∧ B s) ⟨r, h1, h2, h3, h' r h1⟩ (fun s hs => k s hs.1 hs.2)
theorem gcmp_r {x : Int} : gcmp x x = 0 := by
  unfold gcmp
  rw [if_neg (by omega), if_pos rfl]
set_option maxHeartbeats 4000000 in
theorem lw_turn {n : Nat} {sc : Nat → Int} {x4 l i : Int} {s : gS} (hn : n ≤ 3072) (hx : 0 ≤ x4 ∧ x4 ≤ 3072) (hi : i = 0 ∨ i = 1) (hJ : J (-1, l, l, i, i) s) (hR : Rt s) : gT (sb_511_23 n sc 0 217 231 x4 s) (Sum.elim (fun z => z.1 = 0 ∧ z.2.1 = 217 ∧ z.2.2.1 = 231 ∧ z.2.2.2.1 = x4 + 6 ∧ x4 + 6 ≤ n ∧ ∃ l i, (i = 0 ∨ i = 1) ∧ J (-1, l, l, i, i) z.2.2.2.2 ∧ Rt z.2.2.2.2) (fun r => r.1 = 1 ∧ r.2.1 = 1 ∧ r.2.2.1 = 0)) := by
  have hp : (-1 : Int) ≤ -1 ∧ (-1 : Int) ≤ 0 := by decide
  have g0 := g32_eq (v := (n : Int) - 6) (by omega) (by omega)
  have g1 := g32_eq (v := x4 + 1) (by omega) (by omega)
  have g2 := g32_eq (v := x4 + 2) (by omega) (by omega)
  have g3_l := g32_eq (v := x4 + 3) (by omega) (by omega)
  have g4 := g32_eq (v := x4 + 4) (by omega) (by omega)
  have g5_l := g32_eq (v := x4 + 5) (by omega) (by omega)
  have g6 := g32_eq (v := x4 + 6) (by omega) (by omega)
  unfold sb_511_23
  refine gT_ite (fun _ => gT_map (gT_ret ⟨rfl, rfl, rfl⟩)) (fun hz => ?_)
  refine gT_chk (by omega) (by omega) ?_
  refine gT_ite (fun h1 => ?_) (fun h1n => ?_)
  · exact gT_ret ⟨rfl, rfl, rfl, g6, by omega, ⟨l, i, hi, hJ, hR⟩⟩
  refine gT_ite (fun h2 => ?_) (fun h2n => ?_)
  · refine gT_chk (by omega) (by omega) ?_
    refine gT_chk (by omega) (by omega) ?_
    refine gT_chk (by omega) (by omega) ?_
    refine gT_chk (by omega) (by omega) ?_
    refine gT_chk (by omega) (by omega) ?_
    refine gT_v1q (A := fun w9 u9 => (380 < l ∧ w9 = -1 ∧ J (-1, l, l, i, i) u9) ∨ (l ≤ 380 ∧ w9 = l + 20 ∧ J (-1, l + 20, l, i, i) u9)) (B := fun _ u9 => (380 < l → Rt u9) ∧ (l ≤ 380 → Mfd l (fd5 ((sc ((g32 (x4 + 1)) : Int).toNat)) ((sc ((g32 (x4 + 2)) : Int).toNat)) ((sc ((g32 (x4 + 3)) : Int).toNat)) ((sc ((g32 (x4 + 4)) : Int).toNat)) ((sc ((g32 (x4 + 5)) : Int).toNat))) u9)) (c_87 hJ) (rt_87 hJ hR) (fun v2 s1_l h3 h3R => ?_)
    rcases h3 with ⟨h3a, h3b, h3j⟩ | ⟨h3a, h3b, h3j⟩
    · refine gT_chk (by omega) (by omega) ?_
      refine gT_chk (by omega) (by omega) ?_
      refine gT_chk (by omega) (by omega) ?_
      refine gT_chk (by omega) (by omega) ?_
      refine gT_chk (by omega) (by omega) ?_
      refine gT_v1q (A := fun w9 u9 => (380 < l ∧ w9 = -1 ∧ J (-1, l, l, i, i) u9) ∨ (l ≤ 380 ∧ w9 = l + 20 ∧ J (-1, l, l + 20, i, i) u9)) (B := fun _ u9 => Rt u9) (c_166 h3j) (rt_166a h3j (by omega) (h3R.1 h3a)) (fun v4_l s3_l h4 h4R => ?_)
      rcases h4 with ⟨h4a, h4b, h4j⟩ | ⟨h4a, h4b, h4j⟩
      · exact gT_ret ⟨rfl, rfl, rfl, g6, by omega, ⟨l, i, hi, h4j, h4R⟩⟩
      · omega
    · refine gT_chk (by omega) (by omega) ?_
      refine gT_chk (by omega) (by omega) ?_
      refine gT_chk (by omega) (by omega) ?_
      refine gT_chk (by omega) (by omega) ?_
      refine gT_chk (by omega) (by omega) ?_
      refine gT_v1q (A := fun w9 u9 => (380 < l ∧ w9 = -1 ∧ J (-1, l + 20, l, i, i) u9) ∨ (l ≤ 380 ∧ w9 = l + 20 ∧ J (-1, l + 20, l + 20, i, i) u9)) (B := fun _ u9 => Rt u9) (c_166 h3j) (rt_166b h3j (by omega) (h3R.2 h3a)) (fun v4_l s3_l h5 h5R => ?_)
      rcases h5 with ⟨h5a, h5b, h5j⟩ | ⟨h5a, h5b, h5j⟩
      · omega
      · exact gT_ret ⟨rfl, rfl, rfl, g6, by omega, ⟨l + 20, i, hi, h5j, h5R⟩⟩
  refine gT_ite (fun h6 => ?_) (fun h6n => ?_)
  · refine gT_chk (by omega) (by omega) ?_
    refine gT_v1q (A := fun w9 u9 => (((sc ((g32 (x4 + 1)) : Int).toNat) < 0 ∨ l < (sc ((g32 (x4 + 1)) : Int).toNat)) ∧ w9 = 0 ∧ J (-1, l, l, i, i) u9) ∨ ((0 ≤ (sc ((g32 (x4 + 1)) : Int).toNat) ∧ (sc ((g32 (x4 + 1)) : Int).toNat) ≤ l) ∧ w9 = 1 ∧ J (-1, (sc ((g32 (x4 + 1)) : Int).toNat), l, i, i) u9)) (B := fun _ u9 => Rt u9) (c_88 hJ) (rs_88 hJ hR) (fun v6 s5 h7 h7R => ?_)
    rcases h7 with ⟨h7a, h7b, h7j⟩ | ⟨h7a, h7b, h7j⟩
    · refine gT_chk (by omega) (by omega) ?_
      refine gT_v1q (A := fun w9 u9 => (((sc ((g32 (x4 + 1)) : Int).toNat) < 0 ∨ l < (sc ((g32 (x4 + 1)) : Int).toNat)) ∧ w9 = 0 ∧ J (-1, l, l, i, i) u9) ∨ ((0 ≤ (sc ((g32 (x4 + 1)) : Int).toNat) ∧ (sc ((g32 (x4 + 1)) : Int).toNat) ≤ l) ∧ w9 = 1 ∧ J (-1, l, (sc ((g32 (x4 + 1)) : Int).toNat), i, i) u9)) (B := fun _ u9 => Rt u9) (c_167 h7j) (rs_167 h7j h7R) (fun v9 s8 h8 h8R => ?_)
      rcases h8 with ⟨h8a, h8b, h8j⟩ | ⟨h8a, h8b, h8j⟩
      · exact gT_ret ⟨rfl, rfl, rfl, g6, by omega, ⟨l, i, hi, h8j, h8R⟩⟩
      · omega
    · refine gT_chk (by omega) (by omega) ?_
      refine gT_v1q (A := fun w9 u9 => (((sc ((g32 (x4 + 1)) : Int).toNat) < 0 ∨ l < (sc ((g32 (x4 + 1)) : Int).toNat)) ∧ w9 = 0 ∧ J (-1, (sc ((g32 (x4 + 1)) : Int).toNat), l, i, i) u9) ∨ ((0 ≤ (sc ((g32 (x4 + 1)) : Int).toNat) ∧ (sc ((g32 (x4 + 1)) : Int).toNat) ≤ l) ∧ w9 = 1 ∧ J (-1, (sc ((g32 (x4 + 1)) : Int).toNat), (sc ((g32 (x4 + 1)) : Int).toNat), i, i) u9)) (B := fun _ u9 => Rt u9) (c_167 h7j) (rs_167 h7j h7R) (fun v9 s8 h9 h9R => ?_)
      rcases h9 with ⟨h9a, h9b, h9j⟩ | ⟨h9a, h9b, h9j⟩
      · omega
      · exact gT_ret ⟨rfl, rfl, rfl, g6, by omega, ⟨(sc ((g32 (x4 + 1)) : Int).toNat), i, hi, h9j, h9R⟩⟩
  refine gT_ite (fun h10 => ?_) (fun h10n => ?_)
  · refine gT_v1q (A := fun w9 u9 => True ∧ J (-1, 0, l, i, i) u9) (B := fun w9 u9 => Mbo l.toNat w9 u9) (d_276 hp hJ t11 t231) (rb_276 hJ hR) (fun v12 s11 h11 h11R => ?_)
    obtain ⟨h11r, h11j⟩ := h11
    refine gT_v1q (A := fun w9 u9 => True ∧ J (-1, 0, 0, i, i) u9) (B := fun w9 u9 => Rt u9 ∧ gI u9 217 0 = v12 ∧ (v12 = 0 → gI u9 231 0 = w9)) (d_187 hp h11j t12) (rb_187 hp h11j h11R) (fun v14 s13 h12 h12R => ?_)
    obtain ⟨h12r, h12j⟩ := h12
    refine gT_v1 (A := fun w9 u9 => w9 = gI s13 217 0 ∧ u9 = s13) ⟨_, rfl, rfl, rfl, rfl⟩ (fun v16 s15 h13 => ?_)
    obtain ⟨h13a, h13b⟩ := h13
    rw [h13b]
    have h13c : v16 = v12 := h13a.trans h12R.2.1
    rw [if_pos h13c]
    refine gT_ite (fun h13d => ?_) (fun _ => gT_ret ⟨rfl, rfl, rfl, g6, by omega, ⟨0, i, hi, h12j, h12R.1⟩⟩)
    refine gT_chk (by omega) (by omega) ?_
    have h13e : gI s13 231 (0 : Int).toNat = v14 := h12R.2.2 h13d
    rw [h13e, gcmp_r, if_pos rfl]
    exact gT_ret ⟨rfl, rfl, rfl, g6, by omega, ⟨0, i, hi, h12j, h12R.1⟩⟩
  refine gT_ite (fun h14 => ?_) (fun h14n => ?_)
  · refine gT_v1q (A := fun w9 u9 => True ∧ J (-1, 0, l, i, i) u9) (B := fun _ u9 => Rt u9) (d_277 hp hJ t11 t231) (rs_277 hJ hR) (fun v18 s17 h15 h15R => ?_)
    obtain ⟨h15r, h15j⟩ := h15
    refine gT_v1q (A := fun w9 u9 => True ∧ J (-1, 0, 0, i, i) u9) (B := fun _ u9 => Rt u9) (d_195 hp h15j t12) (rs_195 h15j h15R) (fun v20 s19 h16_l h16R => ?_)
    obtain ⟨h16r, h16j⟩ := h16_l
    exact gT_ret ⟨rfl, rfl, rfl, g6, by omega, ⟨0, i, hi, h16j, h16R⟩⟩
  refine gT_ite (fun h17 => ?_) (fun h17n => ?_)
  · refine gT_v1q (A := fun w9 u9 => True ∧ J (-1, l, l, i, i) u9) (B := fun _ u9 => Rt u9) (d_91 hp hJ t11) (rs_91 hJ hR) (fun v22 s21 h18 h18R => ?_)
    obtain ⟨h18r, h18j⟩ := h18
    refine gT_v1q (A := fun w9 u9 => True ∧ J (-1, l, l, i, i) u9) (B := fun _ u9 => Rt u9) (d_196 hp h18j t12) (rs_196 h18j h18R) (fun v24 s23 h19 h19R => ?_)
    obtain ⟨h19r, h19j⟩ := h19
    exact gT_ret ⟨rfl, rfl, rfl, g6, by omega, ⟨l, i, hi, h19j, h19R⟩⟩
  refine gT_ite (fun h20 => ?_) (fun h20n => ?_)
  · refine gT_chk (by omega) (by omega) ?_
    refine gT_chk (by omega) (by omega) ?_
    refine gT_v1q (A := fun w9 u9 => True ∧ J (-1, l, l, i, i) u9) (B := fun _ u9 => Rt u9) (d_278 hp hJ t11 t231) (rs_278 hJ hR) (fun v26 s25 h21 h21R => ?_)
    obtain ⟨h21r, h21j⟩ := h21
    refine gT_chk (by omega) (by omega) ?_
    refine gT_chk (by omega) (by omega) ?_
    refine gT_v1q (A := fun w9 u9 => True ∧ J (-1, l, l, i, i) u9) (B := fun _ u9 => Rt u9) (d_203 hp h21j t12) (rs_203 h21j h21R) (fun v28 s27 h22 h22R => ?_)
    obtain ⟨h22r, h22j⟩ := h22
    exact gT_ret ⟨rfl, rfl, rfl, g6, by omega, ⟨l, i, hi, h22j, h22R⟩⟩
  refine gT_ite (fun h23 => ?_) (fun h23n => ?_)
  · refine gT_chk (by omega) (by omega) ?_
    refine gT_chk (by omega) (by omega) ?_
    refine gT_v1q (A := fun w9 u9 => True ∧ J (-1, l, l, i, i) u9) (B := fun _ u9 => Rt u9) (d_279 hp hJ t11 t231) (rs_279 hJ hR) (fun v30 s29 h24 h24R => ?_)
    obtain ⟨h24r, h24j⟩ := h24
    refine gT_chk (by omega) (by omega) ?_
    refine gT_chk (by omega) (by omega) ?_
    refine gT_v1q (A := fun w9 u9 => True ∧ J (-1, l, l, i, i) u9) (B := fun _ u9 => Rt u9) (d_206 hp h24j t12) (rs_206 h24j h24R) (fun v32 s31 h25 h25R => ?_)
    obtain ⟨h25r, h25j⟩ := h25
    exact gT_ret ⟨rfl, rfl, rfl, g6, by omega, ⟨l, i, hi, h25j, h25R⟩⟩
  refine gT_ite (fun h26 => ?_) (fun h26n => ?_)
  · refine gT_chk (by omega) (by omega) ?_
    refine gT_chk (by omega) (by omega) ?_
    refine gT_ite (fun h27 => ?_) (fun h27n => ?_)
    · unfold fb_511_516
      refine gT_v1q (A := fun w9 u9 => True ∧ J (-1, l, l, i, i) u9) (B := fun _ u9 => Rt u9) (d_280 hp hJ t11 t231 (show (0 : Int) ≤ 0 ∧ 0 ≤ 1 by constructor <;> omega)) (rs_280 hJ hR) (fun v34 s33 h28 h28R => ?_)
      obtain ⟨h28r, h28j⟩ := h28
      refine gT_chk (by omega) (by omega) ?_
      refine gT_chk (by omega) (by omega) ?_
      refine gT_ite (fun h29 => ?_) (fun h29n => ?_)
      · unfold fb_511_543
        refine gT_v1q (A := fun w9 u9 => True ∧ J (-1, l, l, i, i) u9) (B := fun _ u9 => Rt u9) (d_207 hp h28j t12 (show (0 : Int) ≤ 0 ∧ 0 ≤ 1 by constructor <;> omega)) (rs_207 h28j h28R) (fun v36 s35 h30 h30R => ?_)
        obtain ⟨h30r, h30j⟩ := h30
        exact gT_ret ⟨rfl, rfl, rfl, g6, by omega, ⟨l, i, hi, h30j, h30R⟩⟩
      unfold fb_511_543
      refine gT_v1q (A := fun w9 u9 => True ∧ J (-1, l, l, i, i) u9) (B := fun _ u9 => Rt u9) (d_207 hp h28j t12 (show (0 : Int) ≤ 1 ∧ 1 ≤ 1 by constructor <;> omega)) (rs_207 h28j h28R) (fun v36 s35 h31 h31R => ?_)
      obtain ⟨h31r, h31j⟩ := h31
      exact gT_ret ⟨rfl, rfl, rfl, g6, by omega, ⟨l, i, hi, h31j, h31R⟩⟩
    unfold fb_511_516
    refine gT_v1q (A := fun w9 u9 => True ∧ J (-1, l, l, i, i) u9) (B := fun _ u9 => Rt u9) (d_280 hp hJ t11 t231 (show (0 : Int) ≤ 1 ∧ 1 ≤ 1 by constructor <;> omega)) (rs_280 hJ hR) (fun v34 s33 h32 h32R => ?_)
    obtain ⟨h32r, h32j⟩ := h32
    refine gT_chk (by omega) (by omega) ?_
    refine gT_chk (by omega) (by omega) ?_
    refine gT_ite (fun h33 => ?_) (fun h33n => ?_)
    · unfold fb_511_543
      refine gT_v1q (A := fun w9 u9 => True ∧ J (-1, l, l, i, i) u9) (B := fun _ u9 => Rt u9) (d_207 hp h32j t12 (show (0 : Int) ≤ 0 ∧ 0 ≤ 1 by constructor <;> omega)) (rs_207 h32j h32R) (fun v36 s35 h34 h34R => ?_)
      obtain ⟨h34r, h34j⟩ := h34
      exact gT_ret ⟨rfl, rfl, rfl, g6, by omega, ⟨l, i, hi, h34j, h34R⟩⟩
    unfold fb_511_543
    refine gT_v1q (A := fun w9 u9 => True ∧ J (-1, l, l, i, i) u9) (B := fun _ u9 => Rt u9) (d_207 hp h32j t12 (show (0 : Int) ≤ 1 ∧ 1 ≤ 1 by constructor <;> omega)) (rs_207 h32j h32R) (fun v36 s35 h35 h35R => ?_)
    obtain ⟨h35r, h35j⟩ := h35
    exact gT_ret ⟨rfl, rfl, rfl, g6, by omega, ⟨l, i, hi, h35j, h35R⟩⟩
  refine gT_ite (fun h36 => ?_) (fun h36n => ?_)
  · refine gT_chk (by omega) (by omega) ?_
    refine gT_chk (by omega) (by omega) ?_
    refine gT_ite (fun h37 => ?_) (fun h37n => ?_)
    · unfold fb_511_572
      refine gT_v1q (A := fun w9 u9 => True ∧ J (-1, l, l, i, i) u9) (B := fun _ u9 => Rt u9) (d_281 hp hJ t11 t231 (show (0 : Int) ≤ 0 ∧ 0 ≤ 1 by constructor <;> omega)) (rs_281 hJ hR) (fun v38 s37 h38 h38R => ?_)
      obtain ⟨h38r, h38j⟩ := h38
      refine gT_chk (by omega) (by omega) ?_
      refine gT_chk (by omega) (by omega) ?_
      refine gT_ite (fun h39 => ?_) (fun h39n => ?_)
      · unfold fb_511_599
        refine gT_v1q (A := fun w9 u9 => True ∧ J (-1, l, l, i, i) u9) (B := fun _ u9 => Rt u9) (d_208 hp h38j t12 (show (0 : Int) ≤ 0 ∧ 0 ≤ 1 by constructor <;> omega)) (rs_208 h38j h38R) (fun v40 s39 h40 h40R => ?_)
        obtain ⟨h40r, h40j⟩ := h40
        exact gT_ret ⟨rfl, rfl, rfl, g6, by omega, ⟨l, i, hi, h40j, h40R⟩⟩
      unfold fb_511_599
      refine gT_v1q (A := fun w9 u9 => True ∧ J (-1, l, l, i, i) u9) (B := fun _ u9 => Rt u9) (d_208 hp h38j t12 (show (0 : Int) ≤ 1 ∧ 1 ≤ 1 by constructor <;> omega)) (rs_208 h38j h38R) (fun v40 s39 h41 h41R => ?_)
      obtain ⟨h41r, h41j⟩ := h41
      exact gT_ret ⟨rfl, rfl, rfl, g6, by omega, ⟨l, i, hi, h41j, h41R⟩⟩
    unfold fb_511_572
    refine gT_v1q (A := fun w9 u9 => True ∧ J (-1, l, l, i, i) u9) (B := fun _ u9 => Rt u9) (d_281 hp hJ t11 t231 (show (0 : Int) ≤ 1 ∧ 1 ≤ 1 by constructor <;> omega)) (rs_281 hJ hR) (fun v38 s37 h42 h42R => ?_)
    obtain ⟨h42r, h42j⟩ := h42
    refine gT_chk (by omega) (by omega) ?_
    refine gT_chk (by omega) (by omega) ?_
    refine gT_ite (fun h43 => ?_) (fun h43n => ?_)
    · unfold fb_511_599
      refine gT_v1q (A := fun w9 u9 => True ∧ J (-1, l, l, i, i) u9) (B := fun _ u9 => Rt u9) (d_208 hp h42j t12 (show (0 : Int) ≤ 0 ∧ 0 ≤ 1 by constructor <;> omega)) (rs_208 h42j h42R) (fun v40 s39 h44 h44R => ?_)
      obtain ⟨h44r, h44j⟩ := h44
      exact gT_ret ⟨rfl, rfl, rfl, g6, by omega, ⟨l, i, hi, h44j, h44R⟩⟩
    unfold fb_511_599
    refine gT_v1q (A := fun w9 u9 => True ∧ J (-1, l, l, i, i) u9) (B := fun _ u9 => Rt u9) (d_208 hp h42j t12 (show (0 : Int) ≤ 1 ∧ 1 ≤ 1 by constructor <;> omega)) (rs_208 h42j h42R) (fun v40 s39 h45 h45R => ?_)
    obtain ⟨h45r, h45j⟩ := h45
    exact gT_ret ⟨rfl, rfl, rfl, g6, by omega, ⟨l, i, hi, h45j, h45R⟩⟩
  refine gT_ite (fun h46 => ?_) (fun h46n => ?_)
  · refine gT_chk (by omega) (by omega) ?_
    refine gT_v1q (A := fun w9 u9 => True ∧ J (-1, l, l, i, i) u9) (B := fun _ u9 => Rt u9) (d_282 hp hJ t11 t231) (rs_282 hJ hR) (fun v42 s41 h47 h47R => ?_)
    obtain ⟨h47r, h47j⟩ := h47
    refine gT_chk (by omega) (by omega) ?_
    refine gT_v1q (A := fun w9 u9 => True ∧ J (-1, l, l, i, i) u9) (B := fun _ u9 => Rt u9) (d_211 hp h47j t12) (rs_211 h47j h47R) (fun v44 s43 h48 h48R => ?_)
    obtain ⟨h48r, h48j⟩ := h48
    exact gT_ret ⟨rfl, rfl, rfl, g6, by omega, ⟨l, i, hi, h48j, h48R⟩⟩
  refine gT_ite (fun h49 => ?_) (fun h49n => ?_)
  · refine gT_chk (by omega) (by omega) ?_
    refine gT_chk (by omega) (by omega) ?_
    refine gT_v1q (A := fun w9 u9 => True ∧ J (-1, l, l, i, i) u9) (B := fun _ u9 => Rt u9) (d_283 hp hJ t11 t231) (rs_283 hJ hR) (fun v46 s45 h50 h50R => ?_)
    obtain ⟨h50r, h50j⟩ := h50
    refine gT_chk (by omega) (by omega) ?_
    refine gT_chk (by omega) (by omega) ?_
    refine gT_v1q (A := fun w9 u9 => (0 ≤ w9 ∧ w9 ≤ 1) ∧ J (-1, l, l, i, i) u9) (B := fun _ u9 => Rt u9) (d_213 hp h50j t12) (rs_213 h50j h50R) (fun v48 s47 h51 h51R => ?_)
    obtain ⟨h51r, h51j⟩ := h51
    exact gT_ret ⟨rfl, rfl, rfl, g6, by omega, ⟨l, i, hi, h51j, h51R⟩⟩
  refine gT_ite (fun h52 => ?_) (fun h52n => ?_)
  · refine gT_chk (by omega) (by omega) ?_
    refine gT_v1q (A := fun w9 u9 => True ∧ J (-1, l, l, i, i) u9) (B := fun _ u9 => Rt u9) (d_284 hp hJ t11 t231) (rs_284 hJ hR) (fun v51 s50 h53 h53R => ?_)
    obtain ⟨h53r, h53j⟩ := h53
    refine gT_chk (by omega) (by omega) ?_
    refine gT_v1q (A := fun w9 u9 => True ∧ J (-1, l, l, i, i) u9) (B := fun _ u9 => Rt u9) (d_214 hp h53j t12) (rs_214 h53j h53R) (fun v53 s52 h54 h54R => ?_)
    obtain ⟨h54r, h54j⟩ := h54
    exact gT_ret ⟨rfl, rfl, rfl, g6, by omega, ⟨l, i, hi, h54j, h54R⟩⟩
  refine gT_ite (fun h55 => ?_) (fun h55n => ?_)
  · refine gT_chk (by omega) (by omega) ?_
    refine gT_chk (by omega) (by omega) ?_
    refine gT_chk (by omega) (by omega) ?_
    refine gT_v1q (A := fun w9 u9 => True ∧ J (-1, l, l, i, i) u9) (B := fun _ u9 => Rt u9) (d_285 hp hJ t11 t231) (rs_285 hJ hR) (fun v55 s54 h56 h56R => ?_)
    obtain ⟨h56r, h56j⟩ := h56
    refine gT_chk (by omega) (by omega) ?_
    refine gT_chk (by omega) (by omega) ?_
    refine gT_chk (by omega) (by omega) ?_
    refine gT_v1q (A := fun w9 u9 => True ∧ J (-1, l, l, i, i) u9) (B := fun _ u9 => Rt u9) (d_215 hp h56j t12) (rs_215 h56j h56R) (fun v57 s56 h57 h57R => ?_)
    obtain ⟨h57r, h57j⟩ := h57
    exact gT_ret ⟨rfl, rfl, rfl, g6, by omega, ⟨l, i, hi, h57j, h57R⟩⟩
  refine gT_ite (fun h58 => ?_) (fun h58n => ?_)
  · refine gT_chk (by omega) (by omega) ?_
    refine gT_chk (by omega) (by omega) ?_
    refine gT_v1q (A := fun w9 u9 => True ∧ J (-1, l, l, i, i) u9) (B := fun _ u9 => Rt u9) (d_286 hp hJ t11 t231) (rs_286 hJ hR) (fun v59 s58 h59 h59R => ?_)
    obtain ⟨h59r, h59j⟩ := h59
    refine gT_chk (by omega) (by omega) ?_
    refine gT_chk (by omega) (by omega) ?_
    refine gT_v1q (A := fun w9 u9 => True ∧ J (-1, l, l, i, i) u9) (B := fun _ u9 => Rt u9) (d_216 hp h59j t12) (rs_216 h59j h59R) (fun v61 s60 h60 h60R => ?_)
    obtain ⟨h60r, h60j⟩ := h60
    exact gT_ret ⟨rfl, rfl, rfl, g6, by omega, ⟨l, i, hi, h60j, h60R⟩⟩
  refine gT_ite (fun h61 => ?_) (fun h61n => ?_)
  · refine gT_chk (by omega) (by omega) ?_
    refine gT_v1q (A := fun w9 u9 => True ∧ J (-1, l, l, i, i) u9) (B := fun _ u9 => Rt u9) (d_287 hp hJ t11 t231) (rs_287 hJ hR) (fun v63 s62 h62 h62R => ?_)
    obtain ⟨h62r, h62j⟩ := h62
    refine gT_chk (by omega) (by omega) ?_
    refine gT_v1q (A := fun w9 u9 => True ∧ J (-1, l, l, i, i) u9) (B := fun _ u9 => Rt u9) (d_217 hp h62j t12) (rs_217 h62j h62R) (fun v65 s64 h63 h63R => ?_)
    obtain ⟨h63r, h63j⟩ := h63
    exact gT_ret ⟨rfl, rfl, rfl, g6, by omega, ⟨l, i, hi, h63j, h63R⟩⟩
  refine gT_ite (fun h64 => ?_) (fun h64n => ?_)
  · refine gT_chk (by omega) (by omega) ?_
    refine gT_v1q (A := fun w9 u9 => True ∧ J (-1, l, l, i, i) u9) (B := fun _ u9 => Rt u9) (d_288 hp hJ t11 t231) (rs_288 hJ hR) (fun v67 s66 h65 h65R => ?_)
    obtain ⟨h65r, h65j⟩ := h65
    refine gT_chk (by omega) (by omega) ?_
    refine gT_v1q (A := fun w9 u9 => True ∧ J (-1, l, l, i, i) u9) (B := fun _ u9 => Rt u9) (d_218 hp h65j t12) (rs_218 h65j h65R) (fun v69 s68 h66 h66R => ?_)
    obtain ⟨h66r, h66j⟩ := h66
    exact gT_ret ⟨rfl, rfl, rfl, g6, by omega, ⟨l, i, hi, h66j, h66R⟩⟩
  refine gT_ite (fun h67 => ?_) (fun h67n => ?_)
  · refine gT_chk (by omega) (by omega) ?_
    refine gT_chk (by omega) (by omega) ?_
    refine gT_chk (by omega) (by omega) ?_
    refine gT_v1q (A := fun w9 u9 => True ∧ J (-1, l, l, i, i) u9) (B := fun _ u9 => Rt u9) (d_289 hp hJ t11 t231) (rs_289 hJ hR) (fun v71 s70 h68 h68R => ?_)
    obtain ⟨h68r, h68j⟩ := h68
    refine gT_chk (by omega) (by omega) ?_
    refine gT_chk (by omega) (by omega) ?_
    refine gT_chk (by omega) (by omega) ?_
    refine gT_v1q (A := fun w9 u9 => True ∧ J (-1, l, l, i, i) u9) (B := fun _ u9 => Rt u9) (d_219 hp h68j t12) (rs_219 h68j h68R) (fun v73 s72 h69 h69R => ?_)
    obtain ⟨h69r, h69j⟩ := h69
    exact gT_ret ⟨rfl, rfl, rfl, g6, by omega, ⟨l, i, hi, h69j, h69R⟩⟩
  refine gT_ite (fun h70 => ?_) (fun h70n => ?_)
  · refine gT_chk (by omega) (by omega) ?_
    refine gT_v1q (A := fun w9 u9 => True ∧ J (-1, l, l, i, i) u9) (B := fun _ u9 => Rt u9) (d_290 hp hJ t11 t231) (rs_290 hJ hR) (fun v75 s74 h71 h71R => ?_)
    obtain ⟨h71r, h71j⟩ := h71
    refine gT_chk (by omega) (by omega) ?_
    refine gT_v1q (A := fun w9 u9 => True ∧ J (-1, l, l, i, i) u9) (B := fun _ u9 => Rt u9) (d_220 hp h71j t12) (rs_220 h71j h71R) (fun v77 s76 h72 h72R => ?_)
    obtain ⟨h72r, h72j⟩ := h72
    exact gT_ret ⟨rfl, rfl, rfl, g6, by omega, ⟨l, i, hi, h72j, h72R⟩⟩
  refine gT_ite (fun h73 => ?_) (fun h73n => ?_)
  · refine gT_chk (by omega) (by omega) ?_
    refine gT_v1q (A := fun w9 u9 => True ∧ J (-1, l, l, i, i) u9) (B := fun _ u9 => Rt u9) (d_291 hp hJ t11 t231) (rs_291 hJ hR) (fun v79 s78 h74 h74R => ?_)
    obtain ⟨h74r, h74j⟩ := h74
    refine gT_chk (by omega) (by omega) ?_
    refine gT_v1q (A := fun w9 u9 => True ∧ J (-1, l, l, i, i) u9) (B := fun _ u9 => Rt u9) (d_221 hp h74j t12) (rs_221 h74j h74R) (fun v81 s80 h75 h75R => ?_)
    obtain ⟨h75r, h75j⟩ := h75
    exact gT_ret ⟨rfl, rfl, rfl, g6, by omega, ⟨l, i, hi, h75j, h75R⟩⟩
  refine gT_ite (fun h76 => ?_) (fun h76n => ?_)
  · refine gT_chk (by omega) (by omega) ?_
    refine gT_v1q (A := fun w9 u9 => True ∧ J (-1, l, l, i, i) u9) (B := fun _ u9 => Rt u9) (d_292 hp hJ t11 t231) (rs_292 hJ hR) (fun v83 s82 h77 h77R => ?_)
    obtain ⟨h77r, h77j⟩ := h77
    refine gT_chk (by omega) (by omega) ?_
    refine gT_v1q (A := fun w9 u9 => True ∧ J (-1, l, l, i, i) u9) (B := fun _ u9 => Rt u9) (d_223 hp h77j t12) (rs_223 h77j h77R) (fun v85 s84 h78 h78R => ?_)
    obtain ⟨h78r, h78j⟩ := h78
    exact gT_ret ⟨rfl, rfl, rfl, g6, by omega, ⟨l, i, hi, h78j, h78R⟩⟩
  refine gT_ite (fun h79 => ?_) (fun h79n => ?_)
  · refine gT_chk (by omega) (by omega) ?_
    refine gT_v1q (A := fun w9 u9 => True ∧ J (-1, l, l, i, i) u9) (B := fun _ u9 => Rt u9) (d_293 hp hJ t11 t231) (rs_293 hJ hR) (fun v87 s86 h80 h80R => ?_)
    obtain ⟨h80r, h80j⟩ := h80
    refine gT_chk (by omega) (by omega) ?_
    refine gT_v1q (A := fun w9 u9 => True ∧ J (-1, l, l, i, i) u9) (B := fun _ u9 => Rt u9) (d_224 hp h80j t12) (rs_224 h80j h80R) (fun v89 s88 h81 h81R => ?_)
    obtain ⟨h81r, h81j⟩ := h81
    exact gT_ret ⟨rfl, rfl, rfl, g6, by omega, ⟨l, i, hi, h81j, h81R⟩⟩
  refine gT_ite (fun h82 => ?_) (fun h82n => ?_)
  · refine gT_chk (by omega) (by omega) ?_
    refine gT_chk (by omega) (by omega) ?_
    refine gT_v1q (A := fun w9 u9 => True ∧ J (-1, l, l, i, i) u9) (B := fun _ u9 => Rt u9) (d_294 hp hJ t11 t231) (rs_294 hJ hR) (fun v91 s90 h83 h83R => ?_)
    obtain ⟨h83r, h83j⟩ := h83
    refine gT_chk (by omega) (by omega) ?_
    refine gT_chk (by omega) (by omega) ?_
    refine gT_v1q (A := fun w9 u9 => True ∧ J (-1, l, l, i, i) u9) (B := fun _ u9 => Rt u9) (d_229 hp h83j t12) (rs_229 h83j h83R) (fun v93 s92 h84 h84R => ?_)
    obtain ⟨h84r, h84j⟩ := h84
    exact gT_ret ⟨rfl, rfl, rfl, g6, by omega, ⟨l, i, hi, h84j, h84R⟩⟩
  refine gT_ite (fun h85 => ?_) (fun h85n => ?_)
  · refine gT_chk (by omega) (by omega) ?_
    refine gT_chk (by omega) (by omega) ?_
    refine gT_v1q (A := fun w9 u9 => True ∧ J (-1, l, l, i, i) u9) (B := fun _ u9 => Rt u9) (d_295 hp hJ t11 t231) (rs_295 hJ hR) (fun v95 s94 h86 h86R => ?_)
    obtain ⟨h86r, h86j⟩ := h86
    refine gT_chk (by omega) (by omega) ?_
    refine gT_chk (by omega) (by omega) ?_
    refine gT_v1q (A := fun w9 u9 => True ∧ J (-1, l, l, i, i) u9) (B := fun _ u9 => Rt u9) (d_230 hp h86j t12) (rs_230 h86j h86R) (fun v97 s96 h87 h87R => ?_)
    obtain ⟨h87r, h87j⟩ := h87
    exact gT_ret ⟨rfl, rfl, rfl, g6, by omega, ⟨l, i, hi, h87j, h87R⟩⟩
  refine gT_ite (fun h88 => ?_) (fun h88n => ?_)
  · refine gT_chk (by omega) (by omega) ?_
    refine gT_chk (by omega) (by omega) ?_
    refine gT_v1q (A := fun w9 u9 => True ∧ J (-1, l, l, i, i) u9) (B := fun _ u9 => Rt u9) (d_296 hp hJ t11 t231) (rs_296 hJ hR) (fun v99 s98 h89 h89R => ?_)
    obtain ⟨h89r, h89j⟩ := h89
    refine gT_chk (by omega) (by omega) ?_
    refine gT_chk (by omega) (by omega) ?_
    refine gT_v1q (A := fun w9 u9 => (0 ≤ w9 ∧ w9 ≤ 1) ∧ J (-1, l, l, i, i) u9) (B := fun _ u9 => Rt u9) (d_233 hp h89j t12) (rs_233 h89j h89R) (fun v101 s100 h90 h90R => ?_)
    obtain ⟨h90r, h90j⟩ := h90
    exact gT_ret ⟨rfl, rfl, rfl, g6, by omega, ⟨l, i, hi, h90j, h90R⟩⟩
  refine gT_ite (fun h91 => ?_) (fun h91n => ?_)
  · refine gT_chk (by omega) (by omega) ?_
    refine gT_v1q (A := fun w9 u9 => True ∧ J (-1, l, l, i, i) u9) (B := fun _ u9 => Rt u9) (d_297 hp hJ t11 t231) (rs_297 hJ hR) (fun v104 s103 h92 h92R => ?_)
    obtain ⟨h92r, h92j⟩ := h92
    refine gT_chk (by omega) (by omega) ?_
    refine gT_v1q (A := fun w9 u9 => True ∧ J (-1, l, l, i, i) u9) (B := fun _ u9 => Rt u9) (d_235 hp h92j t12) (rs_235 h92j h92R) (fun v106 s105 h93 h93R => ?_)
    obtain ⟨h93r, h93j⟩ := h93
    exact gT_ret ⟨rfl, rfl, rfl, g6, by omega, ⟨l, i, hi, h93j, h93R⟩⟩
  refine gT_ite (fun h94 => ?_) (fun h94n => ?_)
  · refine gT_chk (by omega) (by omega) ?_
    refine gT_chk (by omega) (by omega) ?_
    refine gT_ite (fun h95 => ?_) (fun h95n => ?_)
    · unfold fb_511_1184
      refine gT_v1q (A := fun w9 u9 => True ∧ J (-1, l, l, i, i) u9) (B := fun _ u9 => Rt u9) (d_298 hp hJ t11 t231 (show (0 : Int) ≤ 0 ∧ 0 ≤ 1 by constructor <;> omega)) (rs_298 hJ hR) (fun v108 s107 h96 h96R => ?_)
      obtain ⟨h96r, h96j⟩ := h96
      refine gT_chk (by omega) (by omega) ?_
      refine gT_chk (by omega) (by omega) ?_
      refine gT_ite (fun h97 => ?_) (fun h97n => ?_)
      · unfold fb_511_1211
        refine gT_v1q (A := fun w9 u9 => True ∧ J (-1, l, l, i, i) u9) (B := fun _ u9 => Rt u9) (d_236 hp h96j t12 (show (0 : Int) ≤ 0 ∧ 0 ≤ 1 by constructor <;> omega)) (rs_236 h96j h96R) (fun v110 s109 h98 h98R => ?_)
        obtain ⟨h98r, h98j⟩ := h98
        exact gT_ret ⟨rfl, rfl, rfl, g6, by omega, ⟨l, i, hi, h98j, h98R⟩⟩
      unfold fb_511_1211
      refine gT_v1q (A := fun w9 u9 => True ∧ J (-1, l, l, i, i) u9) (B := fun _ u9 => Rt u9) (d_236 hp h96j t12 (show (0 : Int) ≤ 1 ∧ 1 ≤ 1 by constructor <;> omega)) (rs_236 h96j h96R) (fun v110 s109 h99 h99R => ?_)
      obtain ⟨h99r, h99j⟩ := h99
      exact gT_ret ⟨rfl, rfl, rfl, g6, by omega, ⟨l, i, hi, h99j, h99R⟩⟩
    unfold fb_511_1184
    refine gT_v1q (A := fun w9 u9 => True ∧ J (-1, l, l, i, i) u9) (B := fun _ u9 => Rt u9) (d_298 hp hJ t11 t231 (show (0 : Int) ≤ 1 ∧ 1 ≤ 1 by constructor <;> omega)) (rs_298 hJ hR) (fun v108 s107 h100 h100R => ?_)
    obtain ⟨h100r, h100j⟩ := h100
    refine gT_chk (by omega) (by omega) ?_
    refine gT_chk (by omega) (by omega) ?_
    refine gT_ite (fun h101 => ?_) (fun h101n => ?_)
    · unfold fb_511_1211
      refine gT_v1q (A := fun w9 u9 => True ∧ J (-1, l, l, i, i) u9) (B := fun _ u9 => Rt u9) (d_236 hp h100j t12 (show (0 : Int) ≤ 0 ∧ 0 ≤ 1 by constructor <;> omega)) (rs_236 h100j h100R) (fun v110 s109 h102 h102R => ?_)
      obtain ⟨h102r, h102j⟩ := h102
      exact gT_ret ⟨rfl, rfl, rfl, g6, by omega, ⟨l, i, hi, h102j, h102R⟩⟩
    unfold fb_511_1211
    refine gT_v1q (A := fun w9 u9 => True ∧ J (-1, l, l, i, i) u9) (B := fun _ u9 => Rt u9) (d_236 hp h100j t12 (show (0 : Int) ≤ 1 ∧ 1 ≤ 1 by constructor <;> omega)) (rs_236 h100j h100R) (fun v110 s109 h103 h103R => ?_)
    obtain ⟨h103r, h103j⟩ := h103
    exact gT_ret ⟨rfl, rfl, rfl, g6, by omega, ⟨l, i, hi, h103j, h103R⟩⟩
  refine gT_ite (fun h104 => ?_) (fun h104n => ?_)
  · refine gT_chk (by omega) (by omega) ?_
    refine gT_v1q (A := fun w9 u9 => True ∧ J (-1, l, l, i, i) u9) (B := fun _ u9 => Rt u9) (d_299 hp hJ t11 t231) (rs_299 hJ hR) (fun v112 s111 h105 h105R => ?_)
    obtain ⟨h105r, h105j⟩ := h105
    refine gT_chk (by omega) (by omega) ?_
    refine gT_v1q (A := fun w9 u9 => True ∧ J (-1, l, l, i, i) u9) (B := fun _ u9 => Rt u9) (d_237 hp h105j t12) (rs_237 h105j h105R) (fun v114 s113 h106 h106R => ?_)
    obtain ⟨h106r, h106j⟩ := h106
    exact gT_ret ⟨rfl, rfl, rfl, g6, by omega, ⟨l, i, hi, h106j, h106R⟩⟩
  refine gT_ite (fun h107 => ?_) (fun h107n => ?_)
  · refine gT_chk (by omega) (by omega) ?_
    refine gT_ite (fun h108 => ?_) (fun h108n => ?_)
    · unfold fb_511_1262
      refine gT_v1q (A := fun w9 u9 => True ∧ J (-1, 0, l, i, i) u9) (B := fun _ u9 => Rt u9) (d_300 hp hJ t11 t231 (show (0 : Int) ≤ 0 ∧ 0 ≤ 1 by constructor <;> omega)) (rs_300 hJ hR) (fun v116 s115 h109 h109R => ?_)
      obtain ⟨h109r, h109j⟩ := h109
      refine gT_chk (by omega) (by omega) ?_
      refine gT_ite (fun h110 => ?_) (fun h110n => ?_)
      · unfold fb_511_1283
        refine gT_v1q (A := fun w9 u9 => True ∧ J (-1, 0, 0, i, i) u9) (B := fun _ u9 => Rt u9) (d_239 hp h109j t12 (show (0 : Int) ≤ 0 ∧ 0 ≤ 1 by constructor <;> omega)) (rs_239 h109j h109R) (fun v118 s117 h111 h111R => ?_)
        obtain ⟨h111r, h111j⟩ := h111
        exact gT_ret ⟨rfl, rfl, rfl, g6, by omega, ⟨0, i, hi, h111j, h111R⟩⟩
      unfold fb_511_1283
      refine gT_v1q (A := fun w9 u9 => True ∧ J (-1, 0, 0, i, i) u9) (B := fun _ u9 => Rt u9) (d_239 hp h109j t12 (show (0 : Int) ≤ 1 ∧ 1 ≤ 1 by constructor <;> omega)) (rs_239 h109j h109R) (fun v118 s117 h112 h112R => ?_)
      obtain ⟨h112r, h112j⟩ := h112
      exact gT_ret ⟨rfl, rfl, rfl, g6, by omega, ⟨0, i, hi, h112j, h112R⟩⟩
    unfold fb_511_1262
    refine gT_v1q (A := fun w9 u9 => True ∧ J (-1, 0, l, i, i) u9) (B := fun _ u9 => Rt u9) (d_300 hp hJ t11 t231 (show (0 : Int) ≤ 1 ∧ 1 ≤ 1 by constructor <;> omega)) (rs_300 hJ hR) (fun v116 s115 h113 h113R => ?_)
    obtain ⟨h113r, h113j⟩ := h113
    refine gT_chk (by omega) (by omega) ?_
    refine gT_ite (fun h114 => ?_) (fun h114n => ?_)
    · unfold fb_511_1283
      refine gT_v1q (A := fun w9 u9 => True ∧ J (-1, 0, 0, i, i) u9) (B := fun _ u9 => Rt u9) (d_239 hp h113j t12 (show (0 : Int) ≤ 0 ∧ 0 ≤ 1 by constructor <;> omega)) (rs_239 h113j h113R) (fun v118 s117 h115 h115R => ?_)
      obtain ⟨h115r, h115j⟩ := h115
      exact gT_ret ⟨rfl, rfl, rfl, g6, by omega, ⟨0, i, hi, h115j, h115R⟩⟩
    unfold fb_511_1283
    refine gT_v1q (A := fun w9 u9 => True ∧ J (-1, 0, 0, i, i) u9) (B := fun _ u9 => Rt u9) (d_239 hp h113j t12 (show (0 : Int) ≤ 1 ∧ 1 ≤ 1 by constructor <;> omega)) (rs_239 h113j h113R) (fun v118 s117 h116 h116R => ?_)
    obtain ⟨h116r, h116j⟩ := h116
    exact gT_ret ⟨rfl, rfl, rfl, g6, by omega, ⟨0, i, hi, h116j, h116R⟩⟩
  refine gT_ite (fun h117 => ?_) (fun h117n => ?_)
  · refine gT_v1q (A := fun w9 u9 => True ∧ J (-1, 0, l, i, i) u9) (B := fun _ u9 => Rt u9) (d_301 hp hJ t11 t231) (rs_301 hJ hR) (fun v120 s119 h118 h118R => ?_)
    obtain ⟨h118r, h118j⟩ := h118
    refine gT_v1q (A := fun w9 u9 => True ∧ J (-1, 0, 0, i, i) u9) (B := fun _ u9 => Rt u9) (d_240 hp h118j t12) (rs_240 h118j h118R) (fun v122 s121 h119 h119R => ?_)
    obtain ⟨h119r, h119j⟩ := h119
    exact gT_ret ⟨rfl, rfl, rfl, g6, by omega, ⟨0, i, hi, h119j, h119R⟩⟩
  refine gT_ite (fun h120 => ?_) (fun h120n => ?_)
  · refine gT_chk (by omega) (by omega) ?_
    refine gT_chk (by omega) (by omega) ?_
    refine gT_v1q (A := fun w9 u9 => True ∧ J (-1, l, l, i, i) u9) (B := fun _ u9 => Rt u9) (d_302 hp hJ t11 t231) (rs_302 hJ hR) (fun v124 s123 h121 h121R => ?_)
    obtain ⟨h121r, h121j⟩ := h121
    refine gT_chk (by omega) (by omega) ?_
    refine gT_chk (by omega) (by omega) ?_
    refine gT_v1q (A := fun w9 u9 => True ∧ J (-1, l, l, i, i) u9) (B := fun _ u9 => Rt u9) (d_243 hp h121j t12) (rs_243 h121j h121R) (fun v126 s125 h122 h122R => ?_)
    obtain ⟨h122r, h122j⟩ := h122
    exact gT_ret ⟨rfl, rfl, rfl, g6, by omega, ⟨l, i, hi, h122j, h122R⟩⟩
  refine gT_ite (fun h123 => ?_) (fun h123n => ?_)
  · refine gT_chk (by omega) (by omega) ?_
    refine gT_chk (by omega) (by omega) ?_
    refine gT_v1q (A := fun w9 u9 => True ∧ J (-1, l, l, i, i) u9) (B := fun _ u9 => Rt u9) (d_303 hp hJ t11 t231) (rs_303 hJ hR) (fun v128 s127 h124 h124R => ?_)
    obtain ⟨h124r, h124j⟩ := h124
    refine gT_chk (by omega) (by omega) ?_
    refine gT_chk (by omega) (by omega) ?_
    refine gT_v1q (A := fun w9 u9 => True ∧ J (-1, l, l, i, i) u9) (B := fun _ u9 => Rt u9) (d_244 hp h124j t12) (rs_244 h124j h124R) (fun v130 s129 h125 h125R => ?_)
    obtain ⟨h125r, h125j⟩ := h125
    exact gT_ret ⟨rfl, rfl, rfl, g6, by omega, ⟨l, i, hi, h125j, h125R⟩⟩
  refine gT_ite (fun h126 => ?_) (fun h126n => ?_)
  · refine gT_chk (by omega) (by omega) ?_
    refine gT_ite (fun h127 => ?_) (fun h127n => ?_)
    · unfold fb_511_1402
      refine gT_v1q (A := fun w9 u9 => True ∧ J (-1, l, l, i, i) u9) (B := fun _ u9 => Rt u9) (d_118 hp hJ t11 (show (0 : Int) ≤ 0 ∧ 0 ≤ 1 by constructor <;> omega)) (rs_118 hJ hR) (fun v132 s131 h128 h128R => ?_)
      obtain ⟨h128r, h128j⟩ := h128
      refine gT_chk (by omega) (by omega) ?_
      refine gT_ite (fun h129 => ?_) (fun h129n => ?_)
      · unfold fb_511_1421
        refine gT_v1q (A := fun w9 u9 => True ∧ J (-1, l, l, i, i) u9) (B := fun _ u9 => Rt u9) (d_245 hp h128j t12 (show (0 : Int) ≤ 0 ∧ 0 ≤ 1 by constructor <;> omega)) (rs_245 h128j h128R) (fun v134 s133 h130 h130R => ?_)
        obtain ⟨h130r, h130j⟩ := h130
        exact gT_ret ⟨rfl, rfl, rfl, g6, by omega, ⟨l, i, hi, h130j, h130R⟩⟩
      unfold fb_511_1421
      refine gT_v1q (A := fun w9 u9 => True ∧ J (-1, l, l, i, i) u9) (B := fun _ u9 => Rt u9) (d_245 hp h128j t12 (show (0 : Int) ≤ 1 ∧ 1 ≤ 1 by constructor <;> omega)) (rs_245 h128j h128R) (fun v134 s133 h131 h131R => ?_)
      obtain ⟨h131r, h131j⟩ := h131
      exact gT_ret ⟨rfl, rfl, rfl, g6, by omega, ⟨l, i, hi, h131j, h131R⟩⟩
    unfold fb_511_1402
    refine gT_v1q (A := fun w9 u9 => True ∧ J (-1, l, l, i, i) u9) (B := fun _ u9 => Rt u9) (d_118 hp hJ t11 (show (0 : Int) ≤ 1 ∧ 1 ≤ 1 by constructor <;> omega)) (rs_118 hJ hR) (fun v132 s131 h132 h132R => ?_)
    obtain ⟨h132r, h132j⟩ := h132
    refine gT_chk (by omega) (by omega) ?_
    refine gT_ite (fun h133 => ?_) (fun h133n => ?_)
    · unfold fb_511_1421
      refine gT_v1q (A := fun w9 u9 => True ∧ J (-1, l, l, i, i) u9) (B := fun _ u9 => Rt u9) (d_245 hp h132j t12 (show (0 : Int) ≤ 0 ∧ 0 ≤ 1 by constructor <;> omega)) (rs_245 h132j h132R) (fun v134 s133 h134 h134R => ?_)
      obtain ⟨h134r, h134j⟩ := h134
      exact gT_ret ⟨rfl, rfl, rfl, g6, by omega, ⟨l, i, hi, h134j, h134R⟩⟩
    unfold fb_511_1421
    refine gT_v1q (A := fun w9 u9 => True ∧ J (-1, l, l, i, i) u9) (B := fun _ u9 => Rt u9) (d_245 hp h132j t12 (show (0 : Int) ≤ 1 ∧ 1 ≤ 1 by constructor <;> omega)) (rs_245 h132j h132R) (fun v134 s133 h135 h135R => ?_)
    obtain ⟨h135r, h135j⟩ := h135
    exact gT_ret ⟨rfl, rfl, rfl, g6, by omega, ⟨l, i, hi, h135j, h135R⟩⟩
  refine gT_ite (fun h136 => ?_) (fun h136n => ?_)
  · refine gT_chk (by omega) (by omega) ?_
    refine gT_v1q (A := fun w9 u9 => True ∧ J (-1, l, l, i, i) u9) (B := fun _ u9 => Rt u9) (d_304 hp hJ t11 t231) (rs_304 hJ hR) (fun v136 s135 h137 h137R => ?_)
    obtain ⟨h137r, h137j⟩ := h137
    refine gT_chk (by omega) (by omega) ?_
    refine gT_v1q (A := fun w9 u9 => True ∧ J (-1, l, l, i, i) u9) (B := fun _ u9 => Rt u9) (d_247 hp h137j t12) (rs_247 h137j h137R) (fun v138 s137 h138 h138R => ?_)
    obtain ⟨h138r, h138j⟩ := h138
    exact gT_ret ⟨rfl, rfl, rfl, g6, by omega, ⟨l, i, hi, h138j, h138R⟩⟩
  refine gT_ite (fun h139 => ?_) (fun h139n => ?_)
  · refine gT_v1q (A := fun w9 u9 => True ∧ J (-1, l, l, i, i) u9) (B := fun _ u9 => Rt u9) (d_120 hp hJ t11) (rs_120 hJ hR) (fun v140 s139 h140 h140R => ?_)
    obtain ⟨h140r, h140j⟩ := h140
    refine gT_v1q (A := fun w9 u9 => True ∧ J (-1, l, l, i, i) u9) (B := fun _ u9 => Rt u9) (d_248 hp h140j t12) (rs_248 h140j h140R) (fun v142 s141 h141 h141R => ?_)
    obtain ⟨h141r, h141j⟩ := h141
    exact gT_ret ⟨rfl, rfl, rfl, g6, by omega, ⟨l, i, hi, h141j, h141R⟩⟩
  refine gT_ite (fun h142 => ?_) (fun h142n => ?_)
  · refine gT_v1q (A := fun w9 u9 => True ∧ J (-1, l, l, i, i) u9) (B := fun _ u9 => Rt u9) (d_121 hp hJ t11) (rs_121 hJ hR) (fun v144 s143 h143 h143R => ?_)
    obtain ⟨h143r, h143j⟩ := h143
    refine gT_v1q (A := fun w9 u9 => True ∧ J (-1, l, l, i, i) u9) (B := fun _ u9 => Rt u9) (d_249 hp h143j t12) (rs_249 h143j h143R) (fun v146 s145 h144 h144R => ?_)
    obtain ⟨h144r, h144j⟩ := h144
    exact gT_ret ⟨rfl, rfl, rfl, g6, by omega, ⟨l, i, hi, h144j, h144R⟩⟩
  refine gT_ite (fun h145 => ?_) (fun h145n => ?_)
  · refine gT_chk (by omega) (by omega) ?_
    refine gT_v1q (A := fun w9 u9 => True ∧ J (-1, l, l, i, i) u9) (B := fun _ u9 => Rt u9) (d_305 hp hJ t11 t231) (rs_305 hJ hR) (fun v148 s147 h146 h146R => ?_)
    obtain ⟨h146r, h146j⟩ := h146
    refine gT_chk (by omega) (by omega) ?_
    refine gT_v1q (A := fun w9 u9 => True ∧ J (-1, l, l, i, i) u9) (B := fun _ u9 => Rt u9) (d_250 hp h146j t12) (rs_250 h146j h146R) (fun v150 s149 h147 h147R => ?_)
    obtain ⟨h147r, h147j⟩ := h147
    exact gT_ret ⟨rfl, rfl, rfl, g6, by omega, ⟨l, i, hi, h147j, h147R⟩⟩
  refine gT_ite (fun h148 => ?_) (fun h148n => ?_)
  · refine gT_v1q (A := fun w9 u9 => True ∧ J (-1, l, l, i, i) u9) (B := fun _ u9 => Rt u9) (d_123 hp hJ t11) (rs_123 hJ hR) (fun v152 s151 h149 h149R => ?_)
    obtain ⟨h149r, h149j⟩ := h149
    refine gT_v1q (A := fun w9 u9 => True ∧ J (-1, l, l, i, i) u9) (B := fun _ u9 => Rt u9) (d_251 hp h149j t12) (rs_251 h149j h149R) (fun v154 s153 h150 h150R => ?_)
    obtain ⟨h150r, h150j⟩ := h150
    exact gT_ret ⟨rfl, rfl, rfl, g6, by omega, ⟨l, i, hi, h150j, h150R⟩⟩
  refine gT_ite (fun h151 => ?_) (fun h151n => ?_)
  · refine gT_chk (by omega) (by omega) ?_
    refine gT_ite (fun h152 => ?_) (fun h152n => ?_)
    · unfold fb_511_1538
      refine gT_v1q (A := fun w9 u9 => True ∧ J (-1, l, l, i, i) u9) (B := fun _ u9 => Rt u9) (d_124 hp hJ t11 (show (0 : Int) ≤ 0 ∧ 0 ≤ 1 by constructor <;> omega)) (rs_124 hJ hR) (fun v156 s155 h153 h153R => ?_)
      obtain ⟨h153r, h153j⟩ := h153
      refine gT_chk (by omega) (by omega) ?_
      refine gT_ite (fun h154 => ?_) (fun h154n => ?_)
      · unfold fb_511_1557
        refine gT_v1q (A := fun w9 u9 => True ∧ J (-1, l, l, i, i) u9) (B := fun _ u9 => Rt u9) (d_253 hp h153j t12 (show (0 : Int) ≤ 0 ∧ 0 ≤ 1 by constructor <;> omega)) (rs_253 h153j h153R) (fun v158 s157 h155 h155R => ?_)
        obtain ⟨h155r, h155j⟩ := h155
        exact gT_ret ⟨rfl, rfl, rfl, g6, by omega, ⟨l, i, hi, h155j, h155R⟩⟩
      unfold fb_511_1557
      refine gT_v1q (A := fun w9 u9 => True ∧ J (-1, l, l, i, i) u9) (B := fun _ u9 => Rt u9) (d_253 hp h153j t12 (show (0 : Int) ≤ 1 ∧ 1 ≤ 1 by constructor <;> omega)) (rs_253 h153j h153R) (fun v158 s157 h156 h156R => ?_)
      obtain ⟨h156r, h156j⟩ := h156
      exact gT_ret ⟨rfl, rfl, rfl, g6, by omega, ⟨l, i, hi, h156j, h156R⟩⟩
    unfold fb_511_1538
    refine gT_v1q (A := fun w9 u9 => True ∧ J (-1, l, l, i, i) u9) (B := fun _ u9 => Rt u9) (d_124 hp hJ t11 (show (0 : Int) ≤ 1 ∧ 1 ≤ 1 by constructor <;> omega)) (rs_124 hJ hR) (fun v156 s155 h157 h157R => ?_)
    obtain ⟨h157r, h157j⟩ := h157
    refine gT_chk (by omega) (by omega) ?_
    refine gT_ite (fun h158 => ?_) (fun h158n => ?_)
    · unfold fb_511_1557
      refine gT_v1q (A := fun w9 u9 => True ∧ J (-1, l, l, i, i) u9) (B := fun _ u9 => Rt u9) (d_253 hp h157j t12 (show (0 : Int) ≤ 0 ∧ 0 ≤ 1 by constructor <;> omega)) (rs_253 h157j h157R) (fun v158 s157 h159 h159R => ?_)
      obtain ⟨h159r, h159j⟩ := h159
      exact gT_ret ⟨rfl, rfl, rfl, g6, by omega, ⟨l, i, hi, h159j, h159R⟩⟩
    unfold fb_511_1557
    refine gT_v1q (A := fun w9 u9 => True ∧ J (-1, l, l, i, i) u9) (B := fun _ u9 => Rt u9) (d_253 hp h157j t12 (show (0 : Int) ≤ 1 ∧ 1 ≤ 1 by constructor <;> omega)) (rs_253 h157j h157R) (fun v158 s157 h160 h160R => ?_)
    obtain ⟨h160r, h160j⟩ := h160
    exact gT_ret ⟨rfl, rfl, rfl, g6, by omega, ⟨l, i, hi, h160j, h160R⟩⟩
  refine gT_ite (fun h161 => ?_) (fun h161n => ?_)
  · refine gT_chk (by omega) (by omega) ?_
    refine gT_chk (by omega) (by omega) ?_
    refine gT_ite (fun h162 => ?_) (fun h162n => ?_)
    · unfold fb_511_1585
      refine gT_v1q (A := fun w9 u9 => True ∧ J (-1, l, l, i, i) u9) (B := fun _ u9 => Rt u9) (d_306 hp hJ t11 t231 (show (0 : Int) ≤ 0 ∧ 0 ≤ 1 by constructor <;> omega)) (rs_306 hJ hR) (fun v160 s159 h163 h163R => ?_)
      obtain ⟨h163r, h163j⟩ := h163
      refine gT_chk (by omega) (by omega) ?_
      refine gT_chk (by omega) (by omega) ?_
      refine gT_ite (fun h164 => ?_) (fun h164n => ?_)
      · unfold fb_511_1612
        refine gT_v1q (A := fun w9 u9 => True ∧ J (-1, l, l, i, i) u9) (B := fun _ u9 => Rt u9) (d_254 hp h163j t12 (show (0 : Int) ≤ 0 ∧ 0 ≤ 1 by constructor <;> omega)) (rs_254 h163j h163R) (fun v162 s161 h165 h165R => ?_)
        obtain ⟨h165r, h165j⟩ := h165
        exact gT_ret ⟨rfl, rfl, rfl, g6, by omega, ⟨l, i, hi, h165j, h165R⟩⟩
      unfold fb_511_1612
      refine gT_v1q (A := fun w9 u9 => True ∧ J (-1, l, l, i, i) u9) (B := fun _ u9 => Rt u9) (d_254 hp h163j t12 (show (0 : Int) ≤ 1 ∧ 1 ≤ 1 by constructor <;> omega)) (rs_254 h163j h163R) (fun v162 s161 h166 h166R => ?_)
      obtain ⟨h166r, h166j⟩ := h166
      exact gT_ret ⟨rfl, rfl, rfl, g6, by omega, ⟨l, i, hi, h166j, h166R⟩⟩
    unfold fb_511_1585
    refine gT_v1q (A := fun w9 u9 => True ∧ J (-1, l, l, i, i) u9) (B := fun _ u9 => Rt u9) (d_306 hp hJ t11 t231 (show (0 : Int) ≤ 1 ∧ 1 ≤ 1 by constructor <;> omega)) (rs_306 hJ hR) (fun v160 s159 h167 h167R => ?_)
    obtain ⟨h167r, h167j⟩ := h167
    refine gT_chk (by omega) (by omega) ?_
    refine gT_chk (by omega) (by omega) ?_
    refine gT_ite (fun h168 => ?_) (fun h168n => ?_)
    · unfold fb_511_1612
      refine gT_v1q (A := fun w9 u9 => True ∧ J (-1, l, l, i, i) u9) (B := fun _ u9 => Rt u9) (d_254 hp h167j t12 (show (0 : Int) ≤ 0 ∧ 0 ≤ 1 by constructor <;> omega)) (rs_254 h167j h167R) (fun v162 s161 h169 h169R => ?_)
      obtain ⟨h169r, h169j⟩ := h169
      exact gT_ret ⟨rfl, rfl, rfl, g6, by omega, ⟨l, i, hi, h169j, h169R⟩⟩
    unfold fb_511_1612
    refine gT_v1q (A := fun w9 u9 => True ∧ J (-1, l, l, i, i) u9) (B := fun _ u9 => Rt u9) (d_254 hp h167j t12 (show (0 : Int) ≤ 1 ∧ 1 ≤ 1 by constructor <;> omega)) (rs_254 h167j h167R) (fun v162 s161 h170 h170R => ?_)
    obtain ⟨h170r, h170j⟩ := h170
    exact gT_ret ⟨rfl, rfl, rfl, g6, by omega, ⟨l, i, hi, h170j, h170R⟩⟩
  refine gT_ite (fun h171 => ?_) (fun h171n => ?_)
  · refine gT_chk (by omega) (by omega) ?_
    refine gT_chk (by omega) (by omega) ?_
    refine gT_ite (fun h172 => ?_) (fun h172n => ?_)
    · unfold fb_511_1641
      refine gT_v1q (A := fun w9 u9 => True ∧ J (-1, l, l, i, i) u9) (B := fun _ u9 => Rt u9) (d_307 hp hJ t11 t231 (show (0 : Int) ≤ 0 ∧ 0 ≤ 1 by constructor <;> omega)) (rs_307 hJ hR) (fun v164 s163 h173 h173R => ?_)
      obtain ⟨h173r, h173j⟩ := h173
      refine gT_chk (by omega) (by omega) ?_
      refine gT_chk (by omega) (by omega) ?_
      refine gT_ite (fun h174 => ?_) (fun h174n => ?_)
      · unfold fb_511_1668
        refine gT_v1q (A := fun w9 u9 => True ∧ J (-1, l, l, i, i) u9) (B := fun _ u9 => Rt u9) (d_255 hp h173j t12 (show (0 : Int) ≤ 0 ∧ 0 ≤ 1 by constructor <;> omega)) (rs_255 h173j h173R) (fun v166 s165 h175 h175R => ?_)
        obtain ⟨h175r, h175j⟩ := h175
        exact gT_ret ⟨rfl, rfl, rfl, g6, by omega, ⟨l, i, hi, h175j, h175R⟩⟩
      unfold fb_511_1668
      refine gT_v1q (A := fun w9 u9 => True ∧ J (-1, l, l, i, i) u9) (B := fun _ u9 => Rt u9) (d_255 hp h173j t12 (show (0 : Int) ≤ 1 ∧ 1 ≤ 1 by constructor <;> omega)) (rs_255 h173j h173R) (fun v166 s165 h176 h176R => ?_)
      obtain ⟨h176r, h176j⟩ := h176
      exact gT_ret ⟨rfl, rfl, rfl, g6, by omega, ⟨l, i, hi, h176j, h176R⟩⟩
    unfold fb_511_1641
    refine gT_v1q (A := fun w9 u9 => True ∧ J (-1, l, l, i, i) u9) (B := fun _ u9 => Rt u9) (d_307 hp hJ t11 t231 (show (0 : Int) ≤ 1 ∧ 1 ≤ 1 by constructor <;> omega)) (rs_307 hJ hR) (fun v164 s163 h177 h177R => ?_)
    obtain ⟨h177r, h177j⟩ := h177
    refine gT_chk (by omega) (by omega) ?_
    refine gT_chk (by omega) (by omega) ?_
    refine gT_ite (fun h178 => ?_) (fun h178n => ?_)
    · unfold fb_511_1668
      refine gT_v1q (A := fun w9 u9 => True ∧ J (-1, l, l, i, i) u9) (B := fun _ u9 => Rt u9) (d_255 hp h177j t12 (show (0 : Int) ≤ 0 ∧ 0 ≤ 1 by constructor <;> omega)) (rs_255 h177j h177R) (fun v166 s165 h179 h179R => ?_)
      obtain ⟨h179r, h179j⟩ := h179
      exact gT_ret ⟨rfl, rfl, rfl, g6, by omega, ⟨l, i, hi, h179j, h179R⟩⟩
    unfold fb_511_1668
    refine gT_v1q (A := fun w9 u9 => True ∧ J (-1, l, l, i, i) u9) (B := fun _ u9 => Rt u9) (d_255 hp h177j t12 (show (0 : Int) ≤ 1 ∧ 1 ≤ 1 by constructor <;> omega)) (rs_255 h177j h177R) (fun v166 s165 h180 h180R => ?_)
    obtain ⟨h180r, h180j⟩ := h180
    exact gT_ret ⟨rfl, rfl, rfl, g6, by omega, ⟨l, i, hi, h180j, h180R⟩⟩
  refine gT_ite (fun h181 => ?_) (fun h181n => ?_)
  · refine gT_chk (by omega) (by omega) ?_
    refine gT_chk (by omega) (by omega) ?_
    refine gT_ite (fun h182 => ?_) (fun h182n => ?_)
    · unfold fb_511_1697
      refine gT_v1q (A := fun w9 u9 => True ∧ J (-1, l, l, i, i) u9) (B := fun _ u9 => Rt u9) (d_308 hp hJ t11 t231 (show (0 : Int) ≤ 0 ∧ 0 ≤ 1 by constructor <;> omega)) (rs_308 hJ hR) (fun v168 s167 h183 h183R => ?_)
      obtain ⟨h183r, h183j⟩ := h183
      refine gT_chk (by omega) (by omega) ?_
      refine gT_chk (by omega) (by omega) ?_
      refine gT_ite (fun h184 => ?_) (fun h184n => ?_)
      · unfold fb_511_1724
        refine gT_v1q (A := fun w9 u9 => True ∧ J (-1, l, l, i, i) u9) (B := fun _ u9 => Rt u9) (d_257 hp h183j t12 (show (0 : Int) ≤ 0 ∧ 0 ≤ 1 by constructor <;> omega)) (rs_257 h183j h183R) (fun v170 s169 h185 h185R => ?_)
        obtain ⟨h185r, h185j⟩ := h185
        exact gT_ret ⟨rfl, rfl, rfl, g6, by omega, ⟨l, i, hi, h185j, h185R⟩⟩
      unfold fb_511_1724
      refine gT_v1q (A := fun w9 u9 => True ∧ J (-1, l, l, i, i) u9) (B := fun _ u9 => Rt u9) (d_257 hp h183j t12 (show (0 : Int) ≤ 1 ∧ 1 ≤ 1 by constructor <;> omega)) (rs_257 h183j h183R) (fun v170 s169 h186 h186R => ?_)
      obtain ⟨h186r, h186j⟩ := h186
      exact gT_ret ⟨rfl, rfl, rfl, g6, by omega, ⟨l, i, hi, h186j, h186R⟩⟩
    unfold fb_511_1697
    refine gT_v1q (A := fun w9 u9 => True ∧ J (-1, l, l, i, i) u9) (B := fun _ u9 => Rt u9) (d_308 hp hJ t11 t231 (show (0 : Int) ≤ 1 ∧ 1 ≤ 1 by constructor <;> omega)) (rs_308 hJ hR) (fun v168 s167 h187 h187R => ?_)
    obtain ⟨h187r, h187j⟩ := h187
    refine gT_chk (by omega) (by omega) ?_
    refine gT_chk (by omega) (by omega) ?_
    refine gT_ite (fun h188 => ?_) (fun h188n => ?_)
    · unfold fb_511_1724
      refine gT_v1q (A := fun w9 u9 => True ∧ J (-1, l, l, i, i) u9) (B := fun _ u9 => Rt u9) (d_257 hp h187j t12 (show (0 : Int) ≤ 0 ∧ 0 ≤ 1 by constructor <;> omega)) (rs_257 h187j h187R) (fun v170 s169 h189 h189R => ?_)
      obtain ⟨h189r, h189j⟩ := h189
      exact gT_ret ⟨rfl, rfl, rfl, g6, by omega, ⟨l, i, hi, h189j, h189R⟩⟩
    unfold fb_511_1724
    refine gT_v1q (A := fun w9 u9 => True ∧ J (-1, l, l, i, i) u9) (B := fun _ u9 => Rt u9) (d_257 hp h187j t12 (show (0 : Int) ≤ 1 ∧ 1 ≤ 1 by constructor <;> omega)) (rs_257 h187j h187R) (fun v170 s169 h190 h190R => ?_)
    obtain ⟨h190r, h190j⟩ := h190
    exact gT_ret ⟨rfl, rfl, rfl, g6, by omega, ⟨l, i, hi, h190j, h190R⟩⟩
  refine gT_ite (fun h191 => ?_) (fun h191n => ?_)
  · refine gT_chk (by omega) (by omega) ?_
    refine gT_chk (by omega) (by omega) ?_
    refine gT_v1q (A := fun w9 u9 => True ∧ J (-1, l, l, i, i) u9) (B := fun _ u9 => Rt u9) (d_309 hp hJ t11 t231) (rs_309 hJ hR) (fun v172 s171 h192 h192R => ?_)
    obtain ⟨h192r, h192j⟩ := h192
    refine gT_chk (by omega) (by omega) ?_
    refine gT_chk (by omega) (by omega) ?_
    refine gT_v1q (A := fun w9 u9 => True ∧ J (-1, l, l, i, i) u9) (B := fun _ u9 => Rt u9) (d_258 hp h192j t12) (rs_258 h192j h192R) (fun v174 s173 h193 h193R => ?_)
    obtain ⟨h193r, h193j⟩ := h193
    exact gT_ret ⟨rfl, rfl, rfl, g6, by omega, ⟨l, i, hi, h193j, h193R⟩⟩
  refine gT_ite (fun h194 => ?_) (fun h194n => ?_)
  · refine gT_chk (by omega) (by omega) ?_
    refine gT_v1q (A := fun w9 u9 => True ∧ J (-1, l, l, i, i) u9) (B := fun _ u9 => Rt u9) (d_129 hp hJ t11) (rs_129 hJ hR) (fun v176 s175 h195 h195R => ?_)
    obtain ⟨h195r, h195j⟩ := h195
    refine gT_chk (by omega) (by omega) ?_
    refine gT_v1q (A := fun w9 u9 => True ∧ J (-1, l, l, i, i) u9) (B := fun _ u9 => Rt u9) (d_259 hp h195j t12) (rs_259 h195j h195R) (fun v178 s177 h196 h196R => ?_)
    obtain ⟨h196r, h196j⟩ := h196
    exact gT_ret ⟨rfl, rfl, rfl, g6, by omega, ⟨l, i, hi, h196j, h196R⟩⟩
  refine gT_ite (fun h197 => ?_) (fun h197n => ?_)
  · refine gT_v1q (A := fun w9 u9 => (0 ≤ w9 ∧ w9 ≤ 1) ∧ J (-1, l, l, i, i) u9) (B := fun _ u9 => Rt u9) (d_130 hp hJ t11) (rs_130 hJ hR) (fun v180 s179 h198 h198R => ?_)
    obtain ⟨h198r, h198j⟩ := h198
    refine gT_v1q (A := fun w9 u9 => (0 ≤ w9 ∧ w9 ≤ 1) ∧ J (-1, l, l, i, i) u9) (B := fun _ u9 => Rt u9) (d_260 hp h198j t12) (rs_260 h198j h198R) (fun v183 s182 h199 h199R => ?_)
    obtain ⟨h199r, h199j⟩ := h199
    exact gT_ret ⟨rfl, rfl, rfl, g6, by omega, ⟨l, i, hi, h199j, h199R⟩⟩
  refine gT_ite (fun h200 => ?_) (fun h200n => ?_)
  · refine gT_v0q (A := fun u9 => J (-1, l, l, 1, i) u9) (B := Mim) (d_131 hp hJ t11) (rt_131 hJ hR) (fun s185 h201 h201R => ?_)
    have h201j := h201
    refine gT_v0q (A := fun u9 => J (-1, l, l, 1, 1) u9) (B := Rt) (d_261 hp h201j t12) (rt_261 h201j h201R) (fun s187 h202 h202R => ?_)
    have h202j := h202
    exact gT_ret ⟨rfl, rfl, rfl, g6, by omega, ⟨l, 1, (Or.inr rfl), h202j, h202R⟩⟩
  refine gT_ite (fun h203 => ?_) (fun h203n => ?_)
  · refine gT_v1q (A := fun w9 u9 => (0 ≤ w9 ∧ w9 ≤ 1) ∧ J (-1, l, l, i, i) u9) (B := fun _ u9 => (i = 0 → Rt u9) ∧ (i ≠ 0 → Mbk u9)) (d_132 hp hJ t11) (rt_132 hJ hR) (fun v190 s189 h204 h204R => ?_)
    rcases hi with hi0_l | hi1
    · refine gT_v1q (A := fun w9 u9 => (0 ≤ w9 ∧ w9 ≤ 1) ∧ J (-1, l, l, i, i) u9) (B := fun _ u9 => Rt u9) (d_262 hp h204.2 t12) (rt_262a h204.2 hi0_l (h204R.1 hi0_l)) (fun v193 s192 h205 h205R => ?_)
      exact gT_ret ⟨rfl, rfl, rfl, g6, by omega, ⟨l, i, Or.inl hi0_l, h205.2, h205R⟩⟩
    · refine gT_v1q (A := fun w9 u9 => (0 ≤ w9 ∧ w9 ≤ 1) ∧ J (-1, l, l, i, i) u9) (B := fun _ u9 => Rt u9) (d_262 hp h204.2 t12) (rt_262b h204.2 hi1 (h204R.2 (by omega))) (fun v193 s192 h206 h206R => ?_)
      exact gT_ret ⟨rfl, rfl, rfl, g6, by omega, ⟨l, i, Or.inr hi1, h206.2, h206R⟩⟩
  refine gT_ite (fun h207 => ?_) (fun h207n => ?_)
  · refine gT_chk (by omega) (by omega) ?_
    refine gT_v1q (A := fun w9 u9 => True ∧ J (-1, l, l, i, i) u9) (B := fun _ u9 => Rt u9) (d_133 hp hJ t11) (rs_133 hJ hR) (fun v196 s195 h208 h208R => ?_)
    obtain ⟨h208r, h208j⟩ := h208
    refine gT_chk (by omega) (by omega) ?_
    refine gT_v1q (A := fun w9 u9 => True ∧ J (-1, l, l, i, i) u9) (B := fun _ u9 => Rt u9) (d_263 hp h208j t12) (rs_263 h208j h208R) (fun v198 s197 h209 h209R => ?_)
    obtain ⟨h209r, h209j⟩ := h209
    exact gT_ret ⟨rfl, rfl, rfl, g6, by omega, ⟨l, i, hi, h209j, h209R⟩⟩
  exact gT_ret ⟨rfl, rfl, rfl, g6, by omega, ⟨l, i, hi, hJ, hR⟩⟩
