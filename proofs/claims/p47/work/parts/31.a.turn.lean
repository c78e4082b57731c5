theorem t231 : T 109 231 := ⟨by decide, by decide +kernel⟩
theorem d_276 {q : Int × Int × Int × Int} {s : gS} (_hp : (-1 : Int) ≤ -1 ∧ (-1 : Int) ≤ 0) (h : J (-1, q) s) (_t0 : T 11 0) (_t1 : T 109 231) : gT (f_276 0 231 s) (fun r => r.1 = 1 ∧ True ∧ J (-1, 0, q.2) r.2.2.2) := by
  unfold f_276
  refine gT_c1 (A := fun _ u => True ∧ J (-1, 0, q.2) u) (B := fun t u => (t = 2 ∨ t = 3) ∧ J (-1, 0, q.2) u) (d_89 h t11) (fun v2 s1 h1 => ?_) (fun k s1 hk hB => ?_)
  · refine gT_chk (by decide) (by decide) ?_
    exact gT_ret ⟨rfl, trivial, J_wa h1.2 t231 rfl⟩
  · refine gT_ite (fun _ => gT_ret ⟨rfl, trivial, hB.2⟩) (fun h0 => ?_)
    refine gT_ite (fun _ => gT_ret ⟨rfl, trivial, hB.2⟩) (fun h1 => ?_)
    have := hB.1
    omega
set_option maxHeartbeats 4000000 in
theorem lw_turn {n : Nat} {sc : Nat → Int} {x4 l i : Int} {s : gS} (hn : n ≤ 3072) (hx : 0 ≤ x4 ∧ x4 ≤ 3072) (hJ : J (-1, l, l, i, i) s) : gT (sb_511_23 n sc 0 217 231 x4 s) (Sum.elim (fun z => z.1 = 0 ∧ z.2.1 = 217 ∧ z.2.2.1 = 231 ∧ z.2.2.2.1 = x4 + 6 ∧ x4 + 6 ≤ n ∧ ∃ l i, J (-1, l, l, i, i) z.2.2.2.2) (fun r => r.1 = 1 ∧ r.2.1 = 1 ∧ r.2.2.1 = 0)) := by
  have hp : (-1 : Int) ≤ -1 ∧ (-1 : Int) ≤ 0 := by decide
  have g0 := g32_eq (v := (n : Int) - 6) (by omega) (by omega)
  have g1 := g32_eq (v := x4 + 1) (by omega) (by omega)
  have g2 := g32_eq (v := x4 + 2) (by omega) (by omega)
  have g3 := g32_eq (v := x4 + 3) (by omega) (by omega)
  have g4 := g32_eq (v := x4 + 4) (by omega) (by omega)
  have g5 := g32_eq (v := x4 + 5) (by omega) (by omega)
  have g6 := g32_eq (v := x4 + 6) (by omega) (by omega)
  unfold sb_511_23
  refine gT_ite (fun _ => gT_map (gT_ret ⟨rfl, rfl, rfl⟩)) (fun hz => ?_)
  refine gT_chk (by omega) (by omega) ?_
  refine gT_ite (fun h1 => ?_) (fun h1n => ?_)
  · exact gT_ret ⟨rfl, rfl, rfl, g6, by omega, ⟨l, i, hJ⟩⟩
  refine gT_ite (fun h2 => ?_) (fun h2n => ?_)
  · refine gT_chk (by omega) (by omega) ?_
    refine gT_chk (by omega) (by omega) ?_
    refine gT_chk (by omega) (by omega) ?_
    refine gT_chk (by omega) (by omega) ?_
    refine gT_chk (by omega) (by omega) ?_
    refine gT_v1 (A := fun w9 u9 => (380 < l ∧ w9 = -1 ∧ J (-1, l, l, i, i) u9) ∨ (l ≤ 380 ∧ w9 = l + 20 ∧ J (-1, l + 20, l, i, i) u9)) (c_87 hJ) (fun v2 s1 h3 => ?_)
    rcases h3 with ⟨h3a, h3b, h3j⟩ | ⟨h3a, h3b, h3j⟩
    · refine gT_chk (by omega) (by omega) ?_
      refine gT_chk (by omega) (by omega) ?_
      refine gT_chk (by omega) (by omega) ?_
      refine gT_chk (by omega) (by omega) ?_
      refine gT_chk (by omega) (by omega) ?_
      refine gT_v1 (A := fun w9 u9 => (380 < l ∧ w9 = -1 ∧ J (-1, l, l, i, i) u9) ∨ (l ≤ 380 ∧ w9 = l + 20 ∧ J (-1, l, l + 20, i, i) u9)) (c_166 h3j) (fun v4 s3 h4 => ?_)
      rcases h4 with ⟨h4a, h4b, h4j⟩ | ⟨h4a, h4b, h4j⟩
      · exact gT_ret ⟨rfl, rfl, rfl, g6, by omega, ⟨l, i, h4j⟩⟩
      · omega
    · refine gT_chk (by omega) (by omega) ?_
      refine gT_chk (by omega) (by omega) ?_
      refine gT_chk (by omega) (by omega) ?_
      refine gT_chk (by omega) (by omega) ?_
      refine gT_chk (by omega) (by omega) ?_
      refine gT_v1 (A := fun w9 u9 => (380 < l ∧ w9 = -1 ∧ J (-1, l + 20, l, i, i) u9) ∨ (l ≤ 380 ∧ w9 = l + 20 ∧ J (-1, l + 20, l + 20, i, i) u9)) (c_166 h3j) (fun v4 s3 h5 => ?_)
      rcases h5 with ⟨h5a, h5b, h5j⟩ | ⟨h5a, h5b, h5j⟩
      · omega
      · exact gT_ret ⟨rfl, rfl, rfl, g6, by omega, ⟨l + 20, i, h5j⟩⟩
  refine gT_ite (fun h6 => ?_) (fun h6n => ?_)
  · refine gT_chk (by omega) (by omega) ?_
    refine gT_v1 (A := fun w9 u9 => (((sc ((g32 (x4 + 1)) : Int).toNat) < 0 ∨ l < (sc ((g32 (x4 + 1)) : Int).toNat)) ∧ w9 = 0 ∧ J (-1, l, l, i, i) u9) ∨ ((0 ≤ (sc ((g32 (x4 + 1)) : Int).toNat) ∧ (sc ((g32 (x4 + 1)) : Int).toNat) ≤ l) ∧ w9 = 1 ∧ J (-1, (sc ((g32 (x4 + 1)) : Int).toNat), l, i, i) u9)) (c_88 hJ) (fun v6 s5 h7 => ?_)
    rcases h7 with ⟨h7a, h7b, h7j⟩ | ⟨h7a, h7b, h7j⟩
    · refine gT_chk (by omega) (by omega) ?_
      refine gT_v1 (A := fun w9 u9 => (((sc ((g32 (x4 + 1)) : Int).toNat) < 0 ∨ l < (sc ((g32 (x4 + 1)) : Int).toNat)) ∧ w9 = 0 ∧ J (-1, l, l, i, i) u9) ∨ ((0 ≤ (sc ((g32 (x4 + 1)) : Int).toNat) ∧ (sc ((g32 (x4 + 1)) : Int).toNat) ≤ l) ∧ w9 = 1 ∧ J (-1, l, (sc ((g32 (x4 + 1)) : Int).toNat), i, i) u9)) (c_167 h7j) (fun v9 s8 h8 => ?_)
      rcases h8 with ⟨h8a, h8b, h8j⟩ | ⟨h8a, h8b, h8j⟩
      · exact gT_ret ⟨rfl, rfl, rfl, g6, by omega, ⟨l, i, h8j⟩⟩
      · omega
    · refine gT_chk (by omega) (by omega) ?_
      refine gT_v1 (A := fun w9 u9 => (((sc ((g32 (x4 + 1)) : Int).toNat) < 0 ∨ l < (sc ((g32 (x4 + 1)) : Int).toNat)) ∧ w9 = 0 ∧ J (-1, (sc ((g32 (x4 + 1)) : Int).toNat), l, i, i) u9) ∨ ((0 ≤ (sc ((g32 (x4 + 1)) : Int).toNat) ∧ (sc ((g32 (x4 + 1)) : Int).toNat) ≤ l) ∧ w9 = 1 ∧ J (-1, (sc ((g32 (x4 + 1)) : Int).toNat), (sc ((g32 (x4 + 1)) : Int).toNat), i, i) u9)) (c_167 h7j) (fun v9 s8 h9 => ?_)
      rcases h9 with ⟨h9a, h9b, h9j⟩ | ⟨h9a, h9b, h9j⟩
      · omega
      · exact gT_ret ⟨rfl, rfl, rfl, g6, by omega, ⟨(sc ((g32 (x4 + 1)) : Int).toNat), i, h9j⟩⟩
  refine gT_ite (fun h10 => ?_) (fun h10n => ?_)
  · refine gT_v1 (A := fun w9 u9 => True ∧ J (-1, 0, l, i, i) u9) (d_276 hp hJ t11 t231) (fun v12 s11 h11 => ?_)
    obtain ⟨h11r, h11j⟩ := h11
    refine gT_v1 (A := fun w9 u9 => True ∧ J (-1, 0, 0, i, i) u9) (d_187 hp h11j t12) (fun v14 s13 h12 => ?_)
    obtain ⟨h12r, h12j⟩ := h12
    exact gT_ret ⟨rfl, rfl, rfl, g6, by omega, ⟨0, i, h12j⟩⟩
  refine gT_ite (fun h13 => ?_) (fun h13n => ?_)
  · refine gT_v1 (A := fun w9 u9 => True ∧ J (-1, 0, l, i, i) u9) (d_277 hp hJ t11 t231) (fun v16 s15 h14 => ?_)
    obtain ⟨h14r, h14j⟩ := h14
    refine gT_v1 (A := fun w9 u9 => True ∧ J (-1, 0, 0, i, i) u9) (d_195 hp h14j t12) (fun v18 s17 h15 => ?_)
    obtain ⟨h15r, h15j⟩ := h15
    exact gT_ret ⟨rfl, rfl, rfl, g6, by omega, ⟨0, i, h15j⟩⟩
  refine gT_ite (fun h16 => ?_) (fun h16n => ?_)
  · refine gT_v1 (A := fun w9 u9 => True ∧ J (-1, l, l, i, i) u9) (d_91 hp hJ t11) (fun v20 s19 h17 => ?_)
    obtain ⟨h17r, h17j⟩ := h17
    refine gT_v1 (A := fun w9 u9 => True ∧ J (-1, l, l, i, i) u9) (d_196 hp h17j t12) (fun v22 s21 h18 => ?_)
    obtain ⟨h18r, h18j⟩ := h18
    exact gT_ret ⟨rfl, rfl, rfl, g6, by omega, ⟨l, i, h18j⟩⟩
  refine gT_ite (fun h19 => ?_) (fun h19n => ?_)
  · refine gT_chk (by omega) (by omega) ?_
    refine gT_chk (by omega) (by omega) ?_
    refine gT_v1 (A := fun w9 u9 => True ∧ J (-1, l, l, i, i) u9) (d_278 hp hJ t11 t231) (fun v24 s23 h20 => ?_)
    obtain ⟨h20r, h20j⟩ := h20
    refine gT_chk (by omega) (by omega) ?_
    refine gT_chk (by omega) (by omega) ?_
    refine gT_v1 (A := fun w9 u9 => True ∧ J (-1, l, l, i, i) u9) (d_203 hp h20j t12) (fun v26 s25 h21 => ?_)
    obtain ⟨h21r, h21j⟩ := h21
    exact gT_ret ⟨rfl, rfl, rfl, g6, by omega, ⟨l, i, h21j⟩⟩
  refine gT_ite (fun h22 => ?_) (fun h22n => ?_)
  · refine gT_chk (by omega) (by omega) ?_
    refine gT_chk (by omega) (by omega) ?_
    refine gT_v1 (A := fun w9 u9 => True ∧ J (-1, l, l, i, i) u9) (d_279 hp hJ t11 t231) (fun v28 s27 h23 => ?_)
    obtain ⟨h23r, h23j⟩ := h23
    refine gT_chk (by omega) (by omega) ?_
    refine gT_chk (by omega) (by omega) ?_
    refine gT_v1 (A := fun w9 u9 => True ∧ J (-1, l, l, i, i) u9) (d_206 hp h23j t12) (fun v30 s29 h24 => ?_)
    obtain ⟨h24r, h24j⟩ := h24
    exact gT_ret ⟨rfl, rfl, rfl, g6, by omega, ⟨l, i, h24j⟩⟩
  refine gT_ite (fun h25 => ?_) (fun h25n => ?_)
  · refine gT_chk (by omega) (by omega) ?_
    refine gT_chk (by omega) (by omega) ?_
    refine gT_ite (fun h26 => ?_) (fun h26n => ?_)
    · unfold fb_511_488
      refine gT_v1 (A := fun w9 u9 => True ∧ J (-1, l, l, i, i) u9) (d_280 hp hJ t11 t231 (show (0 : Int) ≤ 0 ∧ 0 ≤ 1 by constructor <;> omega)) (fun v32 s31 h27 => ?_)
      obtain ⟨h27r, h27j⟩ := h27
      refine gT_chk (by omega) (by omega) ?_
      refine gT_chk (by omega) (by omega) ?_
      refine gT_ite (fun h28 => ?_) (fun h28n => ?_)
      · unfold fb_511_515
        refine gT_v1 (A := fun w9 u9 => True ∧ J (-1, l, l, i, i) u9) (d_207 hp h27j t12 (show (0 : Int) ≤ 0 ∧ 0 ≤ 1 by constructor <;> omega)) (fun v34 s33 h29 => ?_)
        obtain ⟨h29r, h29j⟩ := h29
        exact gT_ret ⟨rfl, rfl, rfl, g6, by omega, ⟨l, i, h29j⟩⟩
      unfold fb_511_515
      refine gT_v1 (A := fun w9 u9 => True ∧ J (-1, l, l, i, i) u9) (d_207 hp h27j t12 (show (0 : Int) ≤ 1 ∧ 1 ≤ 1 by constructor <;> omega)) (fun v34 s33 h30 => ?_)
      obtain ⟨h30r, h30j⟩ := h30
      exact gT_ret ⟨rfl, rfl, rfl, g6, by omega, ⟨l, i, h30j⟩⟩
    unfold fb_511_488
    refine gT_v1 (A := fun w9 u9 => True ∧ J (-1, l, l, i, i) u9) (d_280 hp hJ t11 t231 (show (0 : Int) ≤ 1 ∧ 1 ≤ 1 by constructor <;> omega)) (fun v32 s31 h31 => ?_)
    obtain ⟨h31r, h31j⟩ := h31
    refine gT_chk (by omega) (by omega) ?_
    refine gT_chk (by omega) (by omega) ?_
    refine gT_ite (fun h32 => ?_) (fun h32n => ?_)
    · unfold fb_511_515
      refine gT_v1 (A := fun w9 u9 => True ∧ J (-1, l, l, i, i) u9) (d_207 hp h31j t12 (show (0 : Int) ≤ 0 ∧ 0 ≤ 1 by constructor <;> omega)) (fun v34 s33 h33 => ?_)
      obtain ⟨h33r, h33j⟩ := h33
      exact gT_ret ⟨rfl, rfl, rfl, g6, by omega, ⟨l, i, h33j⟩⟩
    unfold fb_511_515
    refine gT_v1 (A := fun w9 u9 => True ∧ J (-1, l, l, i, i) u9) (d_207 hp h31j t12 (show (0 : Int) ≤ 1 ∧ 1 ≤ 1 by constructor <;> omega)) (fun v34 s33 h34 => ?_)
    obtain ⟨h34r, h34j⟩ := h34
    exact gT_ret ⟨rfl, rfl, rfl, g6, by omega, ⟨l, i, h34j⟩⟩
  refine gT_ite (fun h35 => ?_) (fun h35n => ?_)
  · refine gT_chk (by omega) (by omega) ?_
    refine gT_chk (by omega) (by omega) ?_
    refine gT_ite (fun h36 => ?_) (fun h36n => ?_)
    · unfold fb_511_544
      refine gT_v1 (A := fun w9 u9 => True ∧ J (-1, l, l, i, i) u9) (d_281 hp hJ t11 t231 (show (0 : Int) ≤ 0 ∧ 0 ≤ 1 by constructor <;> omega)) (fun v36 s35 h37 => ?_)
      obtain ⟨h37r, h37j⟩ := h37
      refine gT_chk (by omega) (by omega) ?_
      refine gT_chk (by omega) (by omega) ?_
      refine gT_ite (fun h38 => ?_) (fun h38n => ?_)
      · unfold fb_511_571
        refine gT_v1 (A := fun w9 u9 => True ∧ J (-1, l, l, i, i) u9) (d_208 hp h37j t12 (show (0 : Int) ≤ 0 ∧ 0 ≤ 1 by constructor <;> omega)) (fun v38 s37 h39 => ?_)
        obtain ⟨h39r, h39j⟩ := h39
        exact gT_ret ⟨rfl, rfl, rfl, g6, by omega, ⟨l, i, h39j⟩⟩
      unfold fb_511_571
      refine gT_v1 (A := fun w9 u9 => True ∧ J (-1, l, l, i, i) u9) (d_208 hp h37j t12 (show (0 : Int) ≤ 1 ∧ 1 ≤ 1 by constructor <;> omega)) (fun v38 s37 h40 => ?_)
      obtain ⟨h40r, h40j⟩ := h40
      exact gT_ret ⟨rfl, rfl, rfl, g6, by omega, ⟨l, i, h40j⟩⟩
    unfold fb_511_544
    refine gT_v1 (A := fun w9 u9 => True ∧ J (-1, l, l, i, i) u9) (d_281 hp hJ t11 t231 (show (0 : Int) ≤ 1 ∧ 1 ≤ 1 by constructor <;> omega)) (fun v36 s35 h41 => ?_)
    obtain ⟨h41r, h41j⟩ := h41
    refine gT_chk (by omega) (by omega) ?_
    refine gT_chk (by omega) (by omega) ?_
    refine gT_ite (fun h42 => ?_) (fun h42n => ?_)
    · unfold fb_511_571
      refine gT_v1 (A := fun w9 u9 => True ∧ J (-1, l, l, i, i) u9) (d_208 hp h41j t12 (show (0 : Int) ≤ 0 ∧ 0 ≤ 1 by constructor <;> omega)) (fun v38 s37 h43 => ?_)
      obtain ⟨h43r, h43j⟩ := h43
      exact gT_ret ⟨rfl, rfl, rfl, g6, by omega, ⟨l, i, h43j⟩⟩
    unfold fb_511_571
    refine gT_v1 (A := fun w9 u9 => True ∧ J (-1, l, l, i, i) u9) (d_208 hp h41j t12 (show (0 : Int) ≤ 1 ∧ 1 ≤ 1 by constructor <;> omega)) (fun v38 s37 h44 => ?_)
    obtain ⟨h44r, h44j⟩ := h44
    exact gT_ret ⟨rfl, rfl, rfl, g6, by omega, ⟨l, i, h44j⟩⟩
  refine gT_ite (fun h45 => ?_) (fun h45n => ?_)
  · refine gT_chk (by omega) (by omega) ?_
    refine gT_v1 (A := fun w9 u9 => True ∧ J (-1, l, l, i, i) u9) (d_282 hp hJ t11 t231) (fun v40 s39 h46 => ?_)
    obtain ⟨h46r, h46j⟩ := h46
    refine gT_chk (by omega) (by omega) ?_
    refine gT_v1 (A := fun w9 u9 => True ∧ J (-1, l, l, i, i) u9) (d_211 hp h46j t12) (fun v42 s41 h47 => ?_)
    obtain ⟨h47r, h47j⟩ := h47
    exact gT_ret ⟨rfl, rfl, rfl, g6, by omega, ⟨l, i, h47j⟩⟩
  refine gT_ite (fun h48 => ?_) (fun h48n => ?_)
  · refine gT_chk (by omega) (by omega) ?_
    refine gT_chk (by omega) (by omega) ?_
    refine gT_v1 (A := fun w9 u9 => True ∧ J (-1, l, l, i, i) u9) (d_283 hp hJ t11 t231) (fun v44 s43 h49 => ?_)
    obtain ⟨h49r, h49j⟩ := h49
    refine gT_chk (by omega) (by omega) ?_
    refine gT_chk (by omega) (by omega) ?_
    refine gT_v1 (A := fun w9 u9 => (0 ≤ w9 ∧ w9 ≤ 1) ∧ J (-1, l, l, i, i) u9) (d_213 hp h49j t12) (fun v46 s45 h50 => ?_)
    obtain ⟨h50r, h50j⟩ := h50
    exact gT_ret ⟨rfl, rfl, rfl, g6, by omega, ⟨l, i, h50j⟩⟩
  refine gT_ite (fun h51 => ?_) (fun h51n => ?_)
  · refine gT_chk (by omega) (by omega) ?_
    refine gT_v1 (A := fun w9 u9 => True ∧ J (-1, l, l, i, i) u9) (d_284 hp hJ t11 t231) (fun v49 s48 h52 => ?_)
    obtain ⟨h52r, h52j⟩ := h52
    refine gT_chk (by omega) (by omega) ?_
    refine gT_v1 (A := fun w9 u9 => True ∧ J (-1, l, l, i, i) u9) (d_214 hp h52j t12) (fun v51 s50 h53 => ?_)
    obtain ⟨h53r, h53j⟩ := h53
    exact gT_ret ⟨rfl, rfl, rfl, g6, by omega, ⟨l, i, h53j⟩⟩
  refine gT_ite (fun h54 => ?_) (fun h54n => ?_)
  · refine gT_chk (by omega) (by omega) ?_
    refine gT_chk (by omega) (by omega) ?_
    refine gT_chk (by omega) (by omega) ?_
    refine gT_v1 (A := fun w9 u9 => True ∧ J (-1, l, l, i, i) u9) (d_285 hp hJ t11 t231) (fun v53 s52 h55 => ?_)
    obtain ⟨h55r, h55j⟩ := h55
    refine gT_chk (by omega) (by omega) ?_
    refine gT_chk (by omega) (by omega) ?_
    refine gT_chk (by omega) (by omega) ?_
    refine gT_v1 (A := fun w9 u9 => True ∧ J (-1, l, l, i, i) u9) (d_215 hp h55j t12) (fun v55 s54 h56 => ?_)
    obtain ⟨h56r, h56j⟩ := h56
    exact gT_ret ⟨rfl, rfl, rfl, g6, by omega, ⟨l, i, h56j⟩⟩
  refine gT_ite (fun h57 => ?_) (fun h57n => ?_)
  · refine gT_chk (by omega) (by omega) ?_
    refine gT_chk (by omega) (by omega) ?_
    refine gT_v1 (A := fun w9 u9 => True ∧ J (-1, l, l, i, i) u9) (d_286 hp hJ t11 t231) (fun v57 s56 h58 => ?_)
    obtain ⟨h58r, h58j⟩ := h58
    refine gT_chk (by omega) (by omega) ?_
    refine gT_chk (by omega) (by omega) ?_
    refine gT_v1 (A := fun w9 u9 => True ∧ J (-1, l, l, i, i) u9) (d_216 hp h58j t12) (fun v59 s58 h59 => ?_)
    obtain ⟨h59r, h59j⟩ := h59
    exact gT_ret ⟨rfl, rfl, rfl, g6, by omega, ⟨l, i, h59j⟩⟩
  refine gT_ite (fun h60 => ?_) (fun h60n => ?_)
  · refine gT_chk (by omega) (by omega) ?_
    refine gT_v1 (A := fun w9 u9 => True ∧ J (-1, l, l, i, i) u9) (d_287 hp hJ t11 t231) (fun v61 s60 h61 => ?_)
    obtain ⟨h61r, h61j⟩ := h61
    refine gT_chk (by omega) (by omega) ?_
    refine gT_v1 (A := fun w9 u9 => True ∧ J (-1, l, l, i, i) u9) (d_217 hp h61j t12) (fun v63 s62 h62 => ?_)
    obtain ⟨h62r, h62j⟩ := h62
    exact gT_ret ⟨rfl, rfl, rfl, g6, by omega, ⟨l, i, h62j⟩⟩
  refine gT_ite (fun h63 => ?_) (fun h63n => ?_)
  · refine gT_chk (by omega) (by omega) ?_
    refine gT_v1 (A := fun w9 u9 => True ∧ J (-1, l, l, i, i) u9) (d_288 hp hJ t11 t231) (fun v65 s64 h64 => ?_)
    obtain ⟨h64r, h64j⟩ := h64
    refine gT_chk (by omega) (by omega) ?_
    refine gT_v1 (A := fun w9 u9 => True ∧ J (-1, l, l, i, i) u9) (d_218 hp h64j t12) (fun v67 s66 h65 => ?_)
    obtain ⟨h65r, h65j⟩ := h65
    exact gT_ret ⟨rfl, rfl, rfl, g6, by omega, ⟨l, i, h65j⟩⟩
  refine gT_ite (fun h66 => ?_) (fun h66n => ?_)
  · refine gT_chk (by omega) (by omega) ?_
    refine gT_chk (by omega) (by omega) ?_
    refine gT_chk (by omega) (by omega) ?_
    refine gT_v1 (A := fun w9 u9 => True ∧ J (-1, l, l, i, i) u9) (d_289 hp hJ t11 t231) (fun v69 s68 h67 => ?_)
    obtain ⟨h67r, h67j⟩ := h67
    refine gT_chk (by omega) (by omega) ?_
    refine gT_chk (by omega) (by omega) ?_
    refine gT_chk (by omega) (by omega) ?_
    refine gT_v1 (A := fun w9 u9 => True ∧ J (-1, l, l, i, i) u9) (d_219 hp h67j t12) (fun v71 s70 h68 => ?_)
    obtain ⟨h68r, h68j⟩ := h68
    exact gT_ret ⟨rfl, rfl, rfl, g6, by omega, ⟨l, i, h68j⟩⟩
  refine gT_ite (fun h69 => ?_) (fun h69n => ?_)
  · refine gT_chk (by omega) (by omega) ?_
    refine gT_v1 (A := fun w9 u9 => True ∧ J (-1, l, l, i, i) u9) (d_290 hp hJ t11 t231) (fun v73 s72 h70 => ?_)
    obtain ⟨h70r, h70j⟩ := h70
    refine gT_chk (by omega) (by omega) ?_
    refine gT_v1 (A := fun w9 u9 => True ∧ J (-1, l, l, i, i) u9) (d_220 hp h70j t12) (fun v75 s74 h71 => ?_)
    obtain ⟨h71r, h71j⟩ := h71
    exact gT_ret ⟨rfl, rfl, rfl, g6, by omega, ⟨l, i, h71j⟩⟩
  refine gT_ite (fun h72 => ?_) (fun h72n => ?_)
  · refine gT_chk (by omega) (by omega) ?_
    refine gT_v1 (A := fun w9 u9 => True ∧ J (-1, l, l, i, i) u9) (d_291 hp hJ t11 t231) (fun v77 s76 h73 => ?_)
    obtain ⟨h73r, h73j⟩ := h73
    refine gT_chk (by omega) (by omega) ?_
    refine gT_v1 (A := fun w9 u9 => True ∧ J (-1, l, l, i, i) u9) (d_221 hp h73j t12) (fun v79 s78 h74 => ?_)
    obtain ⟨h74r, h74j⟩ := h74
    exact gT_ret ⟨rfl, rfl, rfl, g6, by omega, ⟨l, i, h74j⟩⟩
  refine gT_ite (fun h75 => ?_) (fun h75n => ?_)
  · refine gT_chk (by omega) (by omega) ?_
    refine gT_v1 (A := fun w9 u9 => True ∧ J (-1, l, l, i, i) u9) (d_292 hp hJ t11 t231) (fun v81 s80 h76 => ?_)
    obtain ⟨h76r, h76j⟩ := h76
    refine gT_chk (by omega) (by omega) ?_
    refine gT_v1 (A := fun w9 u9 => True ∧ J (-1, l, l, i, i) u9) (d_223 hp h76j t12) (fun v83 s82 h77 => ?_)
    obtain ⟨h77r, h77j⟩ := h77
    exact gT_ret ⟨rfl, rfl, rfl, g6, by omega, ⟨l, i, h77j⟩⟩
  refine gT_ite (fun h78 => ?_) (fun h78n => ?_)
  · refine gT_chk (by omega) (by omega) ?_
    refine gT_v1 (A := fun w9 u9 => True ∧ J (-1, l, l, i, i) u9) (d_293 hp hJ t11 t231) (fun v85 s84 h79 => ?_)
    obtain ⟨h79r, h79j⟩ := h79
    refine gT_chk (by omega) (by omega) ?_
    refine gT_v1 (A := fun w9 u9 => True ∧ J (-1, l, l, i, i) u9) (d_224 hp h79j t12) (fun v87 s86 h80 => ?_)
    obtain ⟨h80r, h80j⟩ := h80
    exact gT_ret ⟨rfl, rfl, rfl, g6, by omega, ⟨l, i, h80j⟩⟩
  refine gT_ite (fun h81 => ?_) (fun h81n => ?_)
  · refine gT_chk (by omega) (by omega) ?_
    refine gT_chk (by omega) (by omega) ?_
    refine gT_v1 (A := fun w9 u9 => True ∧ J (-1, l, l, i, i) u9) (d_294 hp hJ t11 t231) (fun v89 s88 h82 => ?_)
    obtain ⟨h82r, h82j⟩ := h82
    refine gT_chk (by omega) (by omega) ?_
    refine gT_chk (by omega) (by omega) ?_
    refine gT_v1 (A := fun w9 u9 => True ∧ J (-1, l, l, i, i) u9) (d_229 hp h82j t12) (fun v91 s90 h83 => ?_)
    obtain ⟨h83r, h83j⟩ := h83
    exact gT_ret ⟨rfl, rfl, rfl, g6, by omega, ⟨l, i, h83j⟩⟩
  refine gT_ite (fun h84 => ?_) (fun h84n => ?_)
  · refine gT_chk (by omega) (by omega) ?_
    refine gT_chk (by omega) (by omega) ?_
    refine gT_v1 (A := fun w9 u9 => True ∧ J (-1, l, l, i, i) u9) (d_295 hp hJ t11 t231) (fun v93 s92 h85 => ?_)
    obtain ⟨h85r, h85j⟩ := h85
    refine gT_chk (by omega) (by omega) ?_
    refine gT_chk (by omega) (by omega) ?_
    refine gT_v1 (A := fun w9 u9 => True ∧ J (-1, l, l, i, i) u9) (d_230 hp h85j t12) (fun v95 s94 h86 => ?_)
    obtain ⟨h86r, h86j⟩ := h86
    exact gT_ret ⟨rfl, rfl, rfl, g6, by omega, ⟨l, i, h86j⟩⟩
  refine gT_ite (fun h87 => ?_) (fun h87n => ?_)
  · refine gT_chk (by omega) (by omega) ?_
    refine gT_chk (by omega) (by omega) ?_
    refine gT_v1 (A := fun w9 u9 => True ∧ J (-1, l, l, i, i) u9) (d_296 hp hJ t11 t231) (fun v97 s96 h88 => ?_)
    obtain ⟨h88r, h88j⟩ := h88
    refine gT_chk (by omega) (by omega) ?_
    refine gT_chk (by omega) (by omega) ?_
    refine gT_v1 (A := fun w9 u9 => (0 ≤ w9 ∧ w9 ≤ 1) ∧ J (-1, l, l, i, i) u9) (d_233 hp h88j t12) (fun v99 s98 h89 => ?_)
    obtain ⟨h89r, h89j⟩ := h89
    exact gT_ret ⟨rfl, rfl, rfl, g6, by omega, ⟨l, i, h89j⟩⟩
  refine gT_ite (fun h90 => ?_) (fun h90n => ?_)
  · refine gT_chk (by omega) (by omega) ?_
    refine gT_v1 (A := fun w9 u9 => True ∧ J (-1, l, l, i, i) u9) (d_297 hp hJ t11 t231) (fun v102 s101 h91 => ?_)
    obtain ⟨h91r, h91j⟩ := h91
    refine gT_chk (by omega) (by omega) ?_
    refine gT_v1 (A := fun w9 u9 => True ∧ J (-1, l, l, i, i) u9) (d_235 hp h91j t12) (fun v104 s103 h92 => ?_)
    obtain ⟨h92r, h92j⟩ := h92
    exact gT_ret ⟨rfl, rfl, rfl, g6, by omega, ⟨l, i, h92j⟩⟩
  refine gT_ite (fun h93 => ?_) (fun h93n => ?_)
  · refine gT_chk (by omega) (by omega) ?_
    refine gT_chk (by omega) (by omega) ?_
    refine gT_ite (fun h94 => ?_) (fun h94n => ?_)
    · unfold fb_511_1156
      refine gT_v1 (A := fun w9 u9 => True ∧ J (-1, l, l, i, i) u9) (d_298 hp hJ t11 t231 (show (0 : Int) ≤ 0 ∧ 0 ≤ 1 by constructor <;> omega)) (fun v106 s105 h95 => ?_)
      obtain ⟨h95r, h95j⟩ := h95
      refine gT_chk (by omega) (by omega) ?_
      refine gT_chk (by omega) (by omega) ?_
      refine gT_ite (fun h96 => ?_) (fun h96n => ?_)
      · unfold fb_511_1183
        refine gT_v1 (A := fun w9 u9 => True ∧ J (-1, l, l, i, i) u9) (d_236 hp h95j t12 (show (0 : Int) ≤ 0 ∧ 0 ≤ 1 by constructor <;> omega)) (fun v108 s107 h97 => ?_)
        obtain ⟨h97r, h97j⟩ := h97
        exact gT_ret ⟨rfl, rfl, rfl, g6, by omega, ⟨l, i, h97j⟩⟩
      unfold fb_511_1183
      refine gT_v1 (A := fun w9 u9 => True ∧ J (-1, l, l, i, i) u9) (d_236 hp h95j t12 (show (0 : Int) ≤ 1 ∧ 1 ≤ 1 by constructor <;> omega)) (fun v108 s107 h98 => ?_)
      obtain ⟨h98r, h98j⟩ := h98
      exact gT_ret ⟨rfl, rfl, rfl, g6, by omega, ⟨l, i, h98j⟩⟩
    unfold fb_511_1156
    refine gT_v1 (A := fun w9 u9 => True ∧ J (-1, l, l, i, i) u9) (d_298 hp hJ t11 t231 (show (0 : Int) ≤ 1 ∧ 1 ≤ 1 by constructor <;> omega)) (fun v106 s105 h99 => ?_)
    obtain ⟨h99r, h99j⟩ := h99
    refine gT_chk (by omega) (by omega) ?_
    refine gT_chk (by omega) (by omega) ?_
    refine gT_ite (fun h100 => ?_) (fun h100n => ?_)
    · unfold fb_511_1183
      refine gT_v1 (A := fun w9 u9 => True ∧ J (-1, l, l, i, i) u9) (d_236 hp h99j t12 (show (0 : Int) ≤ 0 ∧ 0 ≤ 1 by constructor <;> omega)) (fun v108 s107 h101 => ?_)
      obtain ⟨h101r, h101j⟩ := h101
      exact gT_ret ⟨rfl, rfl, rfl, g6, by omega, ⟨l, i, h101j⟩⟩
    unfold fb_511_1183
    refine gT_v1 (A := fun w9 u9 => True ∧ J (-1, l, l, i, i) u9) (d_236 hp h99j t12 (show (0 : Int) ≤ 1 ∧ 1 ≤ 1 by constructor <;> omega)) (fun v108 s107 h102 => ?_)
    obtain ⟨h102r, h102j⟩ := h102
    exact gT_ret ⟨rfl, rfl, rfl, g6, by omega, ⟨l, i, h102j⟩⟩
  refine gT_ite (fun h103 => ?_) (fun h103n => ?_)
  · refine gT_chk (by omega) (by omega) ?_
    refine gT_v1 (A := fun w9 u9 => True ∧ J (-1, l, l, i, i) u9) (d_299 hp hJ t11 t231) (fun v110 s109 h104 => ?_)
    obtain ⟨h104r, h104j⟩ := h104
    refine gT_chk (by omega) (by omega) ?_
    refine gT_v1 (A := fun w9 u9 => True ∧ J (-1, l, l, i, i) u9) (d_237 hp h104j t12) (fun v112 s111 h105 => ?_)
    obtain ⟨h105r, h105j⟩ := h105
    exact gT_ret ⟨rfl, rfl, rfl, g6, by omega, ⟨l, i, h105j⟩⟩
  refine gT_ite (fun h106 => ?_) (fun h106n => ?_)
  · refine gT_chk (by omega) (by omega) ?_
    refine gT_ite (fun h107 => ?_) (fun h107n => ?_)
    · unfold fb_511_1234
      refine gT_v1 (A := fun w9 u9 => True ∧ J (-1, 0, l, i, i) u9) (d_300 hp hJ t11 t231 (show (0 : Int) ≤ 0 ∧ 0 ≤ 1 by constructor <;> omega)) (fun v114 s113 h108 => ?_)
      obtain ⟨h108r, h108j⟩ := h108
      refine gT_chk (by omega) (by omega) ?_
      refine gT_ite (fun h109 => ?_) (fun h109n => ?_)
      · unfold fb_511_1255
        refine gT_v1 (A := fun w9 u9 => True ∧ J (-1, 0, 0, i, i) u9) (d_239 hp h108j t12 (show (0 : Int) ≤ 0 ∧ 0 ≤ 1 by constructor <;> omega)) (fun v116 s115 h110 => ?_)
        obtain ⟨h110r, h110j⟩ := h110
        exact gT_ret ⟨rfl, rfl, rfl, g6, by omega, ⟨0, i, h110j⟩⟩
      unfold fb_511_1255
      refine gT_v1 (A := fun w9 u9 => True ∧ J (-1, 0, 0, i, i) u9) (d_239 hp h108j t12 (show (0 : Int) ≤ 1 ∧ 1 ≤ 1 by constructor <;> omega)) (fun v116 s115 h111 => ?_)
      obtain ⟨h111r, h111j⟩ := h111
      exact gT_ret ⟨rfl, rfl, rfl, g6, by omega, ⟨0, i, h111j⟩⟩
    unfold fb_511_1234
    refine gT_v1 (A := fun w9 u9 => True ∧ J (-1, 0, l, i, i) u9) (d_300 hp hJ t11 t231 (show (0 : Int) ≤ 1 ∧ 1 ≤ 1 by constructor <;> omega)) (fun v114 s113 h112 => ?_)
    obtain ⟨h112r, h112j⟩ := h112
    refine gT_chk (by omega) (by omega) ?_
    refine gT_ite (fun h113 => ?_) (fun h113n => ?_)
    · unfold fb_511_1255
      refine gT_v1 (A := fun w9 u9 => True ∧ J (-1, 0, 0, i, i) u9) (d_239 hp h112j t12 (show (0 : Int) ≤ 0 ∧ 0 ≤ 1 by constructor <;> omega)) (fun v116 s115 h114 => ?_)
      obtain ⟨h114r, h114j⟩ := h114
      exact gT_ret ⟨rfl, rfl, rfl, g6, by omega, ⟨0, i, h114j⟩⟩
    unfold fb_511_1255
    refine gT_v1 (A := fun w9 u9 => True ∧ J (-1, 0, 0, i, i) u9) (d_239 hp h112j t12 (show (0 : Int) ≤ 1 ∧ 1 ≤ 1 by constructor <;> omega)) (fun v116 s115 h115 => ?_)
    obtain ⟨h115r, h115j⟩ := h115
    exact gT_ret ⟨rfl, rfl, rfl, g6, by omega, ⟨0, i, h115j⟩⟩
  refine gT_ite (fun h116 => ?_) (fun h116n => ?_)
  · refine gT_v1 (A := fun w9 u9 => True ∧ J (-1, 0, l, i, i) u9) (d_301 hp hJ t11 t231) (fun v118 s117 h117 => ?_)
    obtain ⟨h117r, h117j⟩ := h117
    refine gT_v1 (A := fun w9 u9 => True ∧ J (-1, 0, 0, i, i) u9) (d_240 hp h117j t12) (fun v120 s119 h118 => ?_)
    obtain ⟨h118r, h118j⟩ := h118
    exact gT_ret ⟨rfl, rfl, rfl, g6, by omega, ⟨0, i, h118j⟩⟩
  refine gT_ite (fun h119 => ?_) (fun h119n => ?_)
  · refine gT_chk (by omega) (by omega) ?_
    refine gT_chk (by omega) (by omega) ?_
    refine gT_v1 (A := fun w9 u9 => True ∧ J (-1, l, l, i, i) u9) (d_302 hp hJ t11 t231) (fun v122 s121 h120 => ?_)
    obtain ⟨h120r, h120j⟩ := h120
    refine gT_chk (by omega) (by omega) ?_
    refine gT_chk (by omega) (by omega) ?_
    refine gT_v1 (A := fun w9 u9 => True ∧ J (-1, l, l, i, i) u9) (d_243 hp h120j t12) (fun v124 s123 h121 => ?_)
    obtain ⟨h121r, h121j⟩ := h121
    exact gT_ret ⟨rfl, rfl, rfl, g6, by omega, ⟨l, i, h121j⟩⟩
  refine gT_ite (fun h122 => ?_) (fun h122n => ?_)
  · refine gT_chk (by omega) (by omega) ?_
    refine gT_chk (by omega) (by omega) ?_
    refine gT_v1 (A := fun w9 u9 => True ∧ J (-1, l, l, i, i) u9) (d_303 hp hJ t11 t231) (fun v126 s125 h123 => ?_)
    obtain ⟨h123r, h123j⟩ := h123
    refine gT_chk (by omega) (by omega) ?_
    refine gT_chk (by omega) (by omega) ?_
    refine gT_v1 (A := fun w9 u9 => True ∧ J (-1, l, l, i, i) u9) (d_244 hp h123j t12) (fun v128 s127 h124 => ?_)
    obtain ⟨h124r, h124j⟩ := h124
    exact gT_ret ⟨rfl, rfl, rfl, g6, by omega, ⟨l, i, h124j⟩⟩
  refine gT_ite (fun h125 => ?_) (fun h125n => ?_)
  · refine gT_chk (by omega) (by omega) ?_
    refine gT_ite (fun h126 => ?_) (fun h126n => ?_)
    · unfold fb_511_1374
      refine gT_v1 (A := fun w9 u9 => True ∧ J (-1, l, l, i, i) u9) (d_118 hp hJ t11 (show (0 : Int) ≤ 0 ∧ 0 ≤ 1 by constructor <;> omega)) (fun v130 s129 h127 => ?_)
      obtain ⟨h127r, h127j⟩ := h127
      refine gT_chk (by omega) (by omega) ?_
      refine gT_ite (fun h128 => ?_) (fun h128n => ?_)
      · unfold fb_511_1393
        refine gT_v1 (A := fun w9 u9 => True ∧ J (-1, l, l, i, i) u9) (d_245 hp h127j t12 (show (0 : Int) ≤ 0 ∧ 0 ≤ 1 by constructor <;> omega)) (fun v132 s131 h129 => ?_)
        obtain ⟨h129r, h129j⟩ := h129
        exact gT_ret ⟨rfl, rfl, rfl, g6, by omega, ⟨l, i, h129j⟩⟩
      unfold fb_511_1393
      refine gT_v1 (A := fun w9 u9 => True ∧ J (-1, l, l, i, i) u9) (d_245 hp h127j t12 (show (0 : Int) ≤ 1 ∧ 1 ≤ 1 by constructor <;> omega)) (fun v132 s131 h130 => ?_)
      obtain ⟨h130r, h130j⟩ := h130
      exact gT_ret ⟨rfl, rfl, rfl, g6, by omega, ⟨l, i, h130j⟩⟩
    unfold fb_511_1374
    refine gT_v1 (A := fun w9 u9 => True ∧ J (-1, l, l, i, i) u9) (d_118 hp hJ t11 (show (0 : Int) ≤ 1 ∧ 1 ≤ 1 by constructor <;> omega)) (fun v130 s129 h131 => ?_)
    obtain ⟨h131r, h131j⟩ := h131
    refine gT_chk (by omega) (by omega) ?_
    refine gT_ite (fun h132 => ?_) (fun h132n => ?_)
    · unfold fb_511_1393
      refine gT_v1 (A := fun w9 u9 => True ∧ J (-1, l, l, i, i) u9) (d_245 hp h131j t12 (show (0 : Int) ≤ 0 ∧ 0 ≤ 1 by constructor <;> omega)) (fun v132 s131 h133 => ?_)
      obtain ⟨h133r, h133j⟩ := h133
      exact gT_ret ⟨rfl, rfl, rfl, g6, by omega, ⟨l, i, h133j⟩⟩
    unfold fb_511_1393
    refine gT_v1 (A := fun w9 u9 => True ∧ J (-1, l, l, i, i) u9) (d_245 hp h131j t12 (show (0 : Int) ≤ 1 ∧ 1 ≤ 1 by constructor <;> omega)) (fun v132 s131 h134 => ?_)
    obtain ⟨h134r, h134j⟩ := h134
    exact gT_ret ⟨rfl, rfl, rfl, g6, by omega, ⟨l, i, h134j⟩⟩
  refine gT_ite (fun h135 => ?_) (fun h135n => ?_)
  · refine gT_chk (by omega) (by omega) ?_
    refine gT_v1 (A := fun w9 u9 => True ∧ J (-1, l, l, i, i) u9) (d_304 hp hJ t11 t231) (fun v134 s133 h136 => ?_)
    obtain ⟨h136r, h136j⟩ := h136
    refine gT_chk (by omega) (by omega) ?_
    refine gT_v1 (A := fun w9 u9 => True ∧ J (-1, l, l, i, i) u9) (d_247 hp h136j t12) (fun v136 s135 h137 => ?_)
    obtain ⟨h137r, h137j⟩ := h137
    exact gT_ret ⟨rfl, rfl, rfl, g6, by omega, ⟨l, i, h137j⟩⟩
  refine gT_ite (fun h138 => ?_) (fun h138n => ?_)
  · refine gT_v1 (A := fun w9 u9 => True ∧ J (-1, l, l, i, i) u9) (d_120 hp hJ t11) (fun v138 s137 h139 => ?_)
    obtain ⟨h139r, h139j⟩ := h139
    refine gT_v1 (A := fun w9 u9 => True ∧ J (-1, l, l, i, i) u9) (d_248 hp h139j t12) (fun v140 s139 h140 => ?_)
    obtain ⟨h140r, h140j⟩ := h140
    exact gT_ret ⟨rfl, rfl, rfl, g6, by omega, ⟨l, i, h140j⟩⟩
  refine gT_ite (fun h141 => ?_) (fun h141n => ?_)
  · refine gT_v1 (A := fun w9 u9 => True ∧ J (-1, l, l, i, i) u9) (d_121 hp hJ t11) (fun v142 s141 h142 => ?_)
    obtain ⟨h142r, h142j⟩ := h142
    refine gT_v1 (A := fun w9 u9 => True ∧ J (-1, l, l, i, i) u9) (d_249 hp h142j t12) (fun v144 s143 h143 => ?_)
    obtain ⟨h143r, h143j⟩ := h143
    exact gT_ret ⟨rfl, rfl, rfl, g6, by omega, ⟨l, i, h143j⟩⟩
  refine gT_ite (fun h144 => ?_) (fun h144n => ?_)
  · refine gT_chk (by omega) (by omega) ?_
    refine gT_v1 (A := fun w9 u9 => True ∧ J (-1, l, l, i, i) u9) (d_305 hp hJ t11 t231) (fun v146 s145 h145 => ?_)
    obtain ⟨h145r, h145j⟩ := h145
    refine gT_chk (by omega) (by omega) ?_
    refine gT_v1 (A := fun w9 u9 => True ∧ J (-1, l, l, i, i) u9) (d_250 hp h145j t12) (fun v148 s147 h146 => ?_)
    obtain ⟨h146r, h146j⟩ := h146
    exact gT_ret ⟨rfl, rfl, rfl, g6, by omega, ⟨l, i, h146j⟩⟩
  refine gT_ite (fun h147 => ?_) (fun h147n => ?_)
  · refine gT_v1 (A := fun w9 u9 => True ∧ J (-1, l, l, i, i) u9) (d_123 hp hJ t11) (fun v150 s149 h148 => ?_)
    obtain ⟨h148r, h148j⟩ := h148
    refine gT_v1 (A := fun w9 u9 => True ∧ J (-1, l, l, i, i) u9) (d_251 hp h148j t12) (fun v152 s151 h149 => ?_)
    obtain ⟨h149r, h149j⟩ := h149
    exact gT_ret ⟨rfl, rfl, rfl, g6, by omega, ⟨l, i, h149j⟩⟩
  refine gT_ite (fun h150 => ?_) (fun h150n => ?_)
  · refine gT_chk (by omega) (by omega) ?_
    refine gT_ite (fun h151 => ?_) (fun h151n => ?_)
    · unfold fb_511_1510
      refine gT_v1 (A := fun w9 u9 => True ∧ J (-1, l, l, i, i) u9) (d_124 hp hJ t11 (show (0 : Int) ≤ 0 ∧ 0 ≤ 1 by constructor <;> omega)) (fun v154 s153 h152 => ?_)
      obtain ⟨h152r, h152j⟩ := h152
      refine gT_chk (by omega) (by omega) ?_
      refine gT_ite (fun h153 => ?_) (fun h153n => ?_)
      · unfold fb_511_1529
        refine gT_v1 (A := fun w9 u9 => True ∧ J (-1, l, l, i, i) u9) (d_253 hp h152j t12 (show (0 : Int) ≤ 0 ∧ 0 ≤ 1 by constructor <;> omega)) (fun v156 s155 h154 => ?_)
        obtain ⟨h154r, h154j⟩ := h154
        exact gT_ret ⟨rfl, rfl, rfl, g6, by omega, ⟨l, i, h154j⟩⟩
      unfold fb_511_1529
      refine gT_v1 (A := fun w9 u9 => True ∧ J (-1, l, l, i, i) u9) (d_253 hp h152j t12 (show (0 : Int) ≤ 1 ∧ 1 ≤ 1 by constructor <;> omega)) (fun v156 s155 h155 => ?_)
      obtain ⟨h155r, h155j⟩ := h155
      exact gT_ret ⟨rfl, rfl, rfl, g6, by omega, ⟨l, i, h155j⟩⟩
    unfold fb_511_1510
    refine gT_v1 (A := fun w9 u9 => True ∧ J (-1, l, l, i, i) u9) (d_124 hp hJ t11 (show (0 : Int) ≤ 1 ∧ 1 ≤ 1 by constructor <;> omega)) (fun v154 s153 h156 => ?_)
    obtain ⟨h156r, h156j⟩ := h156
    refine gT_chk (by omega) (by omega) ?_
    refine gT_ite (fun h157 => ?_) (fun h157n => ?_)
    · unfold fb_511_1529
      refine gT_v1 (A := fun w9 u9 => True ∧ J (-1, l, l, i, i) u9) (d_253 hp h156j t12 (show (0 : Int) ≤ 0 ∧ 0 ≤ 1 by constructor <;> omega)) (fun v156 s155 h158 => ?_)
      obtain ⟨h158r, h158j⟩ := h158
      exact gT_ret ⟨rfl, rfl, rfl, g6, by omega, ⟨l, i, h158j⟩⟩
    unfold fb_511_1529
    refine gT_v1 (A := fun w9 u9 => True ∧ J (-1, l, l, i, i) u9) (d_253 hp h156j t12 (show (0 : Int) ≤ 1 ∧ 1 ≤ 1 by constructor <;> omega)) (fun v156 s155 h159 => ?_)
    obtain ⟨h159r, h159j⟩ := h159
    exact gT_ret ⟨rfl, rfl, rfl, g6, by omega, ⟨l, i, h159j⟩⟩
  refine gT_ite (fun h160 => ?_) (fun h160n => ?_)
  · refine gT_chk (by omega) (by omega) ?_
    refine gT_chk (by omega) (by omega) ?_
    refine gT_ite (fun h161 => ?_) (fun h161n => ?_)
    · unfold fb_511_1557
      refine gT_v1 (A := fun w9 u9 => True ∧ J (-1, l, l, i, i) u9) (d_306 hp hJ t11 t231 (show (0 : Int) ≤ 0 ∧ 0 ≤ 1 by constructor <;> omega)) (fun v158 s157 h162 => ?_)
      obtain ⟨h162r, h162j⟩ := h162
      refine gT_chk (by omega) (by omega) ?_
      refine gT_chk (by omega) (by omega) ?_
      refine gT_ite (fun h163 => ?_) (fun h163n => ?_)
      · unfold fb_511_1584
        refine gT_v1 (A := fun w9 u9 => True ∧ J (-1, l, l, i, i) u9) (d_254 hp h162j t12 (show (0 : Int) ≤ 0 ∧ 0 ≤ 1 by constructor <;> omega)) (fun v160 s159 h164 => ?_)
        obtain ⟨h164r, h164j⟩ := h164
        exact gT_ret ⟨rfl, rfl, rfl, g6, by omega, ⟨l, i, h164j⟩⟩
      unfold fb_511_1584
      refine gT_v1 (A := fun w9 u9 => True ∧ J (-1, l, l, i, i) u9) (d_254 hp h162j t12 (show (0 : Int) ≤ 1 ∧ 1 ≤ 1 by constructor <;> omega)) (fun v160 s159 h165 => ?_)
      obtain ⟨h165r, h165j⟩ := h165
      exact gT_ret ⟨rfl, rfl, rfl, g6, by omega, ⟨l, i, h165j⟩⟩
    unfold fb_511_1557
    refine gT_v1 (A := fun w9 u9 => True ∧ J (-1, l, l, i, i) u9) (d_306 hp hJ t11 t231 (show (0 : Int) ≤ 1 ∧ 1 ≤ 1 by constructor <;> omega)) (fun v158 s157 h166 => ?_)
    obtain ⟨h166r, h166j⟩ := h166
    refine gT_chk (by omega) (by omega) ?_
    refine gT_chk (by omega) (by omega) ?_
    refine gT_ite (fun h167 => ?_) (fun h167n => ?_)
    · unfold fb_511_1584
      refine gT_v1 (A := fun w9 u9 => True ∧ J (-1, l, l, i, i) u9) (d_254 hp h166j t12 (show (0 : Int) ≤ 0 ∧ 0 ≤ 1 by constructor <;> omega)) (fun v160 s159 h168 => ?_)
      obtain ⟨h168r, h168j⟩ := h168
      exact gT_ret ⟨rfl, rfl, rfl, g6, by omega, ⟨l, i, h168j⟩⟩
    unfold fb_511_1584
    refine gT_v1 (A := fun w9 u9 => True ∧ J (-1, l, l, i, i) u9) (d_254 hp h166j t12 (show (0 : Int) ≤ 1 ∧ 1 ≤ 1 by constructor <;> omega)) (fun v160 s159 h169 => ?_)
    obtain ⟨h169r, h169j⟩ := h169
    exact gT_ret ⟨rfl, rfl, rfl, g6, by omega, ⟨l, i, h169j⟩⟩
  refine gT_ite (fun h170 => ?_) (fun h170n => ?_)
  · refine gT_chk (by omega) (by omega) ?_
    refine gT_chk (by omega) (by omega) ?_
    refine gT_ite (fun h171 => ?_) (fun h171n => ?_)
    · unfold fb_511_1613
      refine gT_v1 (A := fun w9 u9 => True ∧ J (-1, l, l, i, i) u9) (d_307 hp hJ t11 t231 (show (0 : Int) ≤ 0 ∧ 0 ≤ 1 by constructor <;> omega)) (fun v162 s161 h172 => ?_)
      obtain ⟨h172r, h172j⟩ := h172
      refine gT_chk (by omega) (by omega) ?_
      refine gT_chk (by omega) (by omega) ?_
      refine gT_ite (fun h173 => ?_) (fun h173n => ?_)
      · unfold fb_511_1640
        refine gT_v1 (A := fun w9 u9 => True ∧ J (-1, l, l, i, i) u9) (d_255 hp h172j t12 (show (0 : Int) ≤ 0 ∧ 0 ≤ 1 by constructor <;> omega)) (fun v164 s163 h174 => ?_)
        obtain ⟨h174r, h174j⟩ := h174
        exact gT_ret ⟨rfl, rfl, rfl, g6, by omega, ⟨l, i, h174j⟩⟩
      unfold fb_511_1640
      refine gT_v1 (A := fun w9 u9 => True ∧ J (-1, l, l, i, i) u9) (d_255 hp h172j t12 (show (0 : Int) ≤ 1 ∧ 1 ≤ 1 by constructor <;> omega)) (fun v164 s163 h175 => ?_)
      obtain ⟨h175r, h175j⟩ := h175
      exact gT_ret ⟨rfl, rfl, rfl, g6, by omega, ⟨l, i, h175j⟩⟩
    unfold fb_511_1613
    refine gT_v1 (A := fun w9 u9 => True ∧ J (-1, l, l, i, i) u9) (d_307 hp hJ t11 t231 (show (0 : Int) ≤ 1 ∧ 1 ≤ 1 by constructor <;> omega)) (fun v162 s161 h176 => ?_)
    obtain ⟨h176r, h176j⟩ := h176
    refine gT_chk (by omega) (by omega) ?_
    refine gT_chk (by omega) (by omega) ?_
    refine gT_ite (fun h177 => ?_) (fun h177n => ?_)
    · unfold fb_511_1640
      refine gT_v1 (A := fun w9 u9 => True ∧ J (-1, l, l, i, i) u9) (d_255 hp h176j t12 (show (0 : Int) ≤ 0 ∧ 0 ≤ 1 by constructor <;> omega)) (fun v164 s163 h178 => ?_)
      obtain ⟨h178r, h178j⟩ := h178
      exact gT_ret ⟨rfl, rfl, rfl, g6, by omega, ⟨l, i, h178j⟩⟩
    unfold fb_511_1640
    refine gT_v1 (A := fun w9 u9 => True ∧ J (-1, l, l, i, i) u9) (d_255 hp h176j t12 (show (0 : Int) ≤ 1 ∧ 1 ≤ 1 by constructor <;> omega)) (fun v164 s163 h179 => ?_)
    obtain ⟨h179r, h179j⟩ := h179
    exact gT_ret ⟨rfl, rfl, rfl, g6, by omega, ⟨l, i, h179j⟩⟩
  refine gT_ite (fun h180 => ?_) (fun h180n => ?_)
  · refine gT_chk (by omega) (by omega) ?_
    refine gT_chk (by omega) (by omega) ?_
    refine gT_ite (fun h181 => ?_) (fun h181n => ?_)
    · unfold fb_511_1669
      refine gT_v1 (A := fun w9 u9 => True ∧ J (-1, l, l, i, i) u9) (d_308 hp hJ t11 t231 (show (0 : Int) ≤ 0 ∧ 0 ≤ 1 by constructor <;> omega)) (fun v166 s165 h182 => ?_)
      obtain ⟨h182r, h182j⟩ := h182
      refine gT_chk (by omega) (by omega) ?_
      refine gT_chk (by omega) (by omega) ?_
      refine gT_ite (fun h183 => ?_) (fun h183n => ?_)
      · unfold fb_511_1696
        refine gT_v1 (A := fun w9 u9 => True ∧ J (-1, l, l, i, i) u9) (d_257 hp h182j t12 (show (0 : Int) ≤ 0 ∧ 0 ≤ 1 by constructor <;> omega)) (fun v168 s167 h184 => ?_)
        obtain ⟨h184r, h184j⟩ := h184
        exact gT_ret ⟨rfl, rfl, rfl, g6, by omega, ⟨l, i, h184j⟩⟩
      unfold fb_511_1696
      refine gT_v1 (A := fun w9 u9 => True ∧ J (-1, l, l, i, i) u9) (d_257 hp h182j t12 (show (0 : Int) ≤ 1 ∧ 1 ≤ 1 by constructor <;> omega)) (fun v168 s167 h185 => ?_)
      obtain ⟨h185r, h185j⟩ := h185
      exact gT_ret ⟨rfl, rfl, rfl, g6, by omega, ⟨l, i, h185j⟩⟩
    unfold fb_511_1669
    refine gT_v1 (A := fun w9 u9 => True ∧ J (-1, l, l, i, i) u9) (d_308 hp hJ t11 t231 (show (0 : Int) ≤ 1 ∧ 1 ≤ 1 by constructor <;> omega)) (fun v166 s165 h186 => ?_)
    obtain ⟨h186r, h186j⟩ := h186
    refine gT_chk (by omega) (by omega) ?_
    refine gT_chk (by omega) (by omega) ?_
    refine gT_ite (fun h187 => ?_) (fun h187n => ?_)
    · unfold fb_511_1696
      refine gT_v1 (A := fun w9 u9 => True ∧ J (-1, l, l, i, i) u9) (d_257 hp h186j t12 (show (0 : Int) ≤ 0 ∧ 0 ≤ 1 by constructor <;> omega)) (fun v168 s167 h188 => ?_)
      obtain ⟨h188r, h188j⟩ := h188
      exact gT_ret ⟨rfl, rfl, rfl, g6, by omega, ⟨l, i, h188j⟩⟩
    unfold fb_511_1696
    refine gT_v1 (A := fun w9 u9 => True ∧ J (-1, l, l, i, i) u9) (d_257 hp h186j t12 (show (0 : Int) ≤ 1 ∧ 1 ≤ 1 by constructor <;> omega)) (fun v168 s167 h189 => ?_)
    obtain ⟨h189r, h189j⟩ := h189
    exact gT_ret ⟨rfl, rfl, rfl, g6, by omega, ⟨l, i, h189j⟩⟩
  refine gT_ite (fun h190 => ?_) (fun h190n => ?_)
  · refine gT_chk (by omega) (by omega) ?_
    refine gT_chk (by omega) (by omega) ?_
    refine gT_v1 (A := fun w9 u9 => True ∧ J (-1, l, l, i, i) u9) (d_309 hp hJ t11 t231) (fun v170 s169 h191 => ?_)
    obtain ⟨h191r, h191j⟩ := h191
    refine gT_chk (by omega) (by omega) ?_
    refine gT_chk (by omega) (by omega) ?_
    refine gT_v1 (A := fun w9 u9 => True ∧ J (-1, l, l, i, i) u9) (d_258 hp h191j t12) (fun v172 s171 h192 => ?_)
    obtain ⟨h192r, h192j⟩ := h192
    exact gT_ret ⟨rfl, rfl, rfl, g6, by omega, ⟨l, i, h192j⟩⟩
  refine gT_ite (fun h193 => ?_) (fun h193n => ?_)
  · refine gT_chk (by omega) (by omega) ?_
    refine gT_v1 (A := fun w9 u9 => True ∧ J (-1, l, l, i, i) u9) (d_129 hp hJ t11) (fun v174 s173 h194 => ?_)
    obtain ⟨h194r, h194j⟩ := h194
    refine gT_chk (by omega) (by omega) ?_
    refine gT_v1 (A := fun w9 u9 => True ∧ J (-1, l, l, i, i) u9) (d_259 hp h194j t12) (fun v176 s175 h195 => ?_)
    obtain ⟨h195r, h195j⟩ := h195
    exact gT_ret ⟨rfl, rfl, rfl, g6, by omega, ⟨l, i, h195j⟩⟩
  refine gT_ite (fun h196 => ?_) (fun h196n => ?_)
  · refine gT_v1 (A := fun w9 u9 => (0 ≤ w9 ∧ w9 ≤ 1) ∧ J (-1, l, l, i, i) u9) (d_130 hp hJ t11) (fun v178 s177 h197 => ?_)
    obtain ⟨h197r, h197j⟩ := h197
    refine gT_v1 (A := fun w9 u9 => (0 ≤ w9 ∧ w9 ≤ 1) ∧ J (-1, l, l, i, i) u9) (d_260 hp h197j t12) (fun v181 s180 h198 => ?_)
    obtain ⟨h198r, h198j⟩ := h198
    exact gT_ret ⟨rfl, rfl, rfl, g6, by omega, ⟨l, i, h198j⟩⟩
  refine gT_ite (fun h199 => ?_) (fun h199n => ?_)
  · refine gT_v0 (A := fun u9 => J (-1, l, l, 1, i) u9) (d_131 hp hJ t11) (fun s183 h200 => ?_)
    have h200j := h200
    refine gT_v0 (A := fun u9 => J (-1, l, l, 1, 1) u9) (d_261 hp h200j t12) (fun s185 h201 => ?_)
    have h201j := h201
    exact gT_ret ⟨rfl, rfl, rfl, g6, by omega, ⟨l, 1, h201j⟩⟩
  refine gT_ite (fun h202 => ?_) (fun h202n => ?_)
  · refine gT_v1 (A := fun w9 u9 => ((i = 0 ∧ w9 = 0) ∨ (i ≠ 0 ∧ w9 = 1)) ∧ J (-1, l, l, i, i) u9) (b_132 hJ) (fun v188 s187 h203 => ?_)
    obtain ⟨h203b, h203j⟩ := h203
    refine gT_v1 (A := fun w9 u9 => ((i = 0 ∧ w9 = 0) ∨ (i ≠ 0 ∧ w9 = 1)) ∧ J (-1, l, l, i, i) u9) (b_262 h203j) (fun v191 s190 h204 => ?_)
    obtain ⟨h204b, h204j⟩ := h204
    refine gT_ite (fun h205 => ?_) (fun h205n => ?_)
    · exact gT_ret ⟨rfl, rfl, rfl, g6, by omega, ⟨l, i, h204j⟩⟩
    refine gT_map ?_
    omega
  refine gT_ite (fun h206 => ?_) (fun h206n => ?_)
  · refine gT_chk (by omega) (by omega) ?_
    refine gT_v1 (A := fun w9 u9 => True ∧ J (-1, l, l, i, i) u9) (d_133 hp hJ t11) (fun v194 s193 h207 => ?_)
    obtain ⟨h207r, h207j⟩ := h207
    refine gT_chk (by omega) (by omega) ?_
    refine gT_v1 (A := fun w9 u9 => True ∧ J (-1, l, l, i, i) u9) (d_263 hp h207j t12) (fun v196 s195 h208 => ?_)
    obtain ⟨h208r, h208j⟩ := h208
    exact gT_ret ⟨rfl, rfl, rfl, g6, by omega, ⟨l, i, h208j⟩⟩
  exact gT_ret ⟨rfl, rfl, rfl, g6, by omega, ⟨l, i, hJ⟩⟩
