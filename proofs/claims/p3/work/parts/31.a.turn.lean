theorem t231 : T 109 231 := ⟨by decide, by decide +kernel⟩
theorem d_276 {q : Int × Int × Int × Int} {s : gS} (_hp : (-1 : Int) ≤ -1 ∧ (-1 : Int) ≤ 0) (h : J (-1, q) s) (_t0 : T 11 0) (_t1 : T 109 231) : gT (f_276 0 231 s) (fun r => r.1 = 1 ∧ True ∧ J (-1, 0, q.2) r.2.2.2) := by
  unfold f_276
  refine gT_c1 (A := fun _ u => True ∧ J (-1, 0, q.2) u) (B := fun t u => (t = 2 ∨ t = 3) ∧ J (-1, 0, q.2) u) (d_89 h t11) (fun v2 s1 h1 => ?_) (fun k s1 hk hB => ?_)
  · refine gT_chk (by decide) (by decide) ?_
    exact gT_ret ⟨rfl, trivial, J_wa h1.2 t231 rfl⟩
  · refine gT_ite (fun _ => gT_ret ⟨rfl, trivial, hB.2⟩) (fun h0 => ?_)
    refine gT_ite (fun _ => gT_ret ⟨rfl, trivial, hB.2⟩) (fun h1 => ?_)
    have := hB.1
    omega
set_option maxHeartbeats 4000000 in
theorem lw_turn {n : Nat} {sc : Nat → Int} {x4 l i : Int} {s : gS} (hn : n ≤ 3072) (hx : 0 ≤ x4 ∧ x4 ≤ 3072) (hJ : J (-1, l, l, i, i) s) : gT (sb_511_23 n sc 0 217 231 x4 s) (Sum.elim (fun z => z.1 = 0 ∧ z.2.1 = 217 ∧ z.2.2.1 = 231 ∧ z.2.2.2.1 = x4 + 6 ∧ x4 + 6 ≤ n ∧ ∃ l i, J (-1, l, l, i, i) z.2.2.2.2) (fun r => r.1 = 1 ∧ r.2.1 = 1 ∧ r.2.2.1 = 0)) := by
  have hp : (-1 : Int) ≤ -1 ∧ (-1 : Int) ≤ 0 := by decide
  have g0 := g32_eq (v := (n : Int) - 6) (by omega) (by omega)
  have g1 := g32_eq (v := x4 + 1) (by omega) (by omega)
  have g2 := g32_eq (v := x4 + 2) (by omega) (by omega)
  have g3 := g32_eq (v := x4 + 3) (by omega) (by omega)
  have g4 := g32_eq (v := x4 + 4) (by omega) (by omega)
  have g5 := g32_eq (v := x4 + 5) (by omega) (by omega)
  have g6 := g32_eq (v := x4 + 6) (by omega) (by omega)
  unfold sb_511_23
  refine gT_ite (fun _ => gT_map (gT_ret ⟨rfl, rfl, rfl⟩)) (fun hz => ?_)
  refine gT_chk (by omega) (by omega) ?_
  refine gT_ite (fun h1 => ?_) (fun h1n => ?_)
  · exact gT_ret ⟨rfl, rfl, rfl, g6, by omega, ⟨l, i, hJ⟩⟩
  refine gT_ite (fun h2 => ?_) (fun h2n => ?_)
  · refine gT_chk (by omega) (by omega) ?_
    refine gT_chk (by omega) (by omega) ?_
    refine gT_chk (by omega) (by omega) ?_
    refine gT_chk (by omega) (by omega) ?_
    refine gT_chk (by omega) (by omega) ?_
    refine gT_v1 (A := fun w9 u9 => (380 < l ∧ w9 = -1 ∧ J (-1, l, l, i, i) u9) ∨ (l ≤ 380 ∧ w9 = l + 20 ∧ J (-1, l + 20, l, i, i) u9)) (c_87 hJ) (fun v2 s1 h3 => ?_)
    rcases h3 with ⟨h3a, h3b, h3j⟩ | ⟨h3a, h3b, h3j⟩
    · refine gT_chk (by omega) (by omega) ?_
      refine gT_chk (by omega) (by omega) ?_
      refine gT_chk (by omega) (by omega) ?_
      refine gT_chk (by omega) (by omega) ?_
      refine gT_chk (by omega) (by omega) ?_
      refine gT_v1 (A := fun w9 u9 => (380 < l ∧ w9 = -1 ∧ J (-1, l, l, i, i) u9) ∨ (l ≤ 380 ∧ w9 = l + 20 ∧ J (-1, l, l + 20, i, i) u9)) (c_166 h3j) (fun v4 s3 h4 => ?_)
      rcases h4 with ⟨h4a, h4b, h4j⟩ | ⟨h4a, h4b, h4j⟩
      · exact gT_ret ⟨rfl, rfl, rfl, g6, by omega, ⟨l, i, h4j⟩⟩
      · omega
    · refine gT_chk (by omega) (by omega) ?_
      refine gT_chk (by omega) (by omega) ?_
      refine gT_chk (by omega) (by omega) ?_
      refine gT_chk (by omega) (by omega) ?_
      refine gT_chk (by omega) (by omega) ?_
      refine gT_v1 (A := fun w9 u9 => (380 < l ∧ w9 = -1 ∧ J (-1, l + 20, l, i, i) u9) ∨ (l ≤ 380 ∧ w9 = l + 20 ∧ J (-1, l + 20, l + 20, i, i) u9)) (c_166 h3j) (fun v4 s3 h5 => ?_)
      rcases h5 with ⟨h5a, h5b, h5j⟩ | ⟨h5a, h5b, h5j⟩
      · omega
      · exact gT_ret ⟨rfl, rfl, rfl, g6, by omega, ⟨l + 20, i, h5j⟩⟩
  refine gT_ite (fun h6 => ?_) (fun h6n => ?_)
  · refine gT_chk (by omega) (by omega) ?_
    refine gT_v1 (A := fun w9 u9 => (((sc ((g32 (x4 + 1)) : Int).toNat) < 0 ∨ l < (sc ((g32 (x4 + 1)) : Int).toNat)) ∧ w9 = 0 ∧ J (-1, l, l, i, i) u9) ∨ ((0 ≤ (sc ((g32 (x4 + 1)) : Int).toNat) ∧ (sc ((g32 (x4 + 1)) : Int).toNat) ≤ l) ∧ w9 = 1 ∧ J (-1, (sc ((g32 (x4 + 1)) : Int).toNat), l, i, i) u9)) (c_88 hJ) (fun v6 s5 h7 => ?_)
    rcases h7 with ⟨h7a, h7b, h7j⟩ | ⟨h7a, h7b, h7j⟩
    · refine gT_chk (by omega) (by omega) ?_
      refine gT_v1 (A := fun w9 u9 => (((sc ((g32 (x4 + 1)) : Int).toNat) < 0 ∨ l < (sc ((g32 (x4 + 1)) : Int).toNat)) ∧ w9 = 0 ∧ J (-1, l, l, i, i) u9) ∨ ((0 ≤ (sc ((g32 (x4 + 1)) : Int).toNat) ∧ (sc ((g32 (x4 + 1)) : Int).toNat) ≤ l) ∧ w9 = 1 ∧ J (-1, l, (sc ((g32 (x4 + 1)) : Int).toNat), i, i) u9)) (c_167 h7j) (fun v9 s8 h8 => ?_)
      rcases h8 with ⟨h8a, h8b, h8j⟩ | ⟨h8a, h8b, h8j⟩
      · refine gT_ite (fun h9 => ?_) (fun h9n => ?_)
        · exact gT_ret ⟨rfl, rfl, rfl, g6, by omega, ⟨l, i, h8j⟩⟩
        refine gT_map ?_
        omega
      · omega
    · refine gT_chk (by omega) (by omega) ?_
      refine gT_v1 (A := fun w9 u9 => (((sc ((g32 (x4 + 1)) : Int).toNat) < 0 ∨ l < (sc ((g32 (x4 + 1)) : Int).toNat)) ∧ w9 = 0 ∧ J (-1, (sc ((g32 (x4 + 1)) : Int).toNat), l, i, i) u9) ∨ ((0 ≤ (sc ((g32 (x4 + 1)) : Int).toNat) ∧ (sc ((g32 (x4 + 1)) : Int).toNat) ≤ l) ∧ w9 = 1 ∧ J (-1, (sc ((g32 (x4 + 1)) : Int).toNat), (sc ((g32 (x4 + 1)) : Int).toNat), i, i) u9)) (c_167 h7j) (fun v9 s8 h10 => ?_)
      rcases h10 with ⟨h10a, h10b, h10j⟩ | ⟨h10a, h10b, h10j⟩
      · omega
      · refine gT_ite (fun h11 => ?_) (fun h11n => ?_)
        · exact gT_ret ⟨rfl, rfl, rfl, g6, by omega, ⟨(sc ((g32 (x4 + 1)) : Int).toNat), i, h10j⟩⟩
        refine gT_map ?_
        omega
  refine gT_ite (fun h12 => ?_) (fun h12n => ?_)
  · refine gT_v1 (A := fun w9 u9 => True ∧ J (-1, 0, l, i, i) u9) (d_276 hp hJ t11 t231) (fun v12 s11 h13 => ?_)
    obtain ⟨h13r, h13j⟩ := h13
    refine gT_v1 (A := fun w9 u9 => True ∧ J (-1, 0, 0, i, i) u9) (d_187 hp h13j t12) (fun v14 s13 h14 => ?_)
    obtain ⟨h14r, h14j⟩ := h14
    exact gT_ret ⟨rfl, rfl, rfl, g6, by omega, ⟨0, i, h14j⟩⟩
  refine gT_ite (fun h15 => ?_) (fun h15n => ?_)
  · refine gT_v1 (A := fun w9 u9 => True ∧ J (-1, 0, l, i, i) u9) (d_277 hp hJ t11 t231) (fun v16 s15 h16 => ?_)
    obtain ⟨h16r, h16j⟩ := h16
    refine gT_v1 (A := fun w9 u9 => True ∧ J (-1, 0, 0, i, i) u9) (d_195 hp h16j t12) (fun v18 s17 h17 => ?_)
    obtain ⟨h17r, h17j⟩ := h17
    exact gT_ret ⟨rfl, rfl, rfl, g6, by omega, ⟨0, i, h17j⟩⟩
  refine gT_ite (fun h18 => ?_) (fun h18n => ?_)
  · refine gT_v1 (A := fun w9 u9 => True ∧ J (-1, l, l, i, i) u9) (d_91 hp hJ t11) (fun v20 s19 h19 => ?_)
    obtain ⟨h19r, h19j⟩ := h19
    refine gT_v1 (A := fun w9 u9 => True ∧ J (-1, l, l, i, i) u9) (d_196 hp h19j t12) (fun v22 s21 h20 => ?_)
    obtain ⟨h20r, h20j⟩ := h20
    exact gT_ret ⟨rfl, rfl, rfl, g6, by omega, ⟨l, i, h20j⟩⟩
  refine gT_ite (fun h21 => ?_) (fun h21n => ?_)
  · refine gT_chk (by omega) (by omega) ?_
    refine gT_chk (by omega) (by omega) ?_
    refine gT_v1 (A := fun w9 u9 => True ∧ J (-1, l, l, i, i) u9) (d_278 hp hJ t11 t231) (fun v24 s23 h22 => ?_)
    obtain ⟨h22r, h22j⟩ := h22
    refine gT_chk (by omega) (by omega) ?_
    refine gT_chk (by omega) (by omega) ?_
    refine gT_v1 (A := fun w9 u9 => True ∧ J (-1, l, l, i, i) u9) (d_203 hp h22j t12) (fun v26 s25 h23 => ?_)
    obtain ⟨h23r, h23j⟩ := h23
    exact gT_ret ⟨rfl, rfl, rfl, g6, by omega, ⟨l, i, h23j⟩⟩
  refine gT_ite (fun h24 => ?_) (fun h24n => ?_)
  · refine gT_chk (by omega) (by omega) ?_
    refine gT_chk (by omega) (by omega) ?_
    refine gT_v1 (A := fun w9 u9 => True ∧ J (-1, l, l, i, i) u9) (d_279 hp hJ t11 t231) (fun v28 s27 h25 => ?_)
    obtain ⟨h25r, h25j⟩ := h25
    refine gT_chk (by omega) (by omega) ?_
    refine gT_chk (by omega) (by omega) ?_
    refine gT_v1 (A := fun w9 u9 => True ∧ J (-1, l, l, i, i) u9) (d_206 hp h25j t12) (fun v30 s29 h26 => ?_)
    obtain ⟨h26r, h26j⟩ := h26
    exact gT_ret ⟨rfl, rfl, rfl, g6, by omega, ⟨l, i, h26j⟩⟩
  refine gT_ite (fun h27 => ?_) (fun h27n => ?_)
  · refine gT_chk (by omega) (by omega) ?_
    refine gT_chk (by omega) (by omega) ?_
    refine gT_ite (fun h28 => ?_) (fun h28n => ?_)
    · unfold fb_511_488
      refine gT_v1 (A := fun w9 u9 => True ∧ J (-1, l, l, i, i) u9) (d_280 hp hJ t11 t231 (show (0 : Int) ≤ 0 ∧ 0 ≤ 1 by constructor <;> omega)) (fun v32 s31 h29 => ?_)
      obtain ⟨h29r, h29j⟩ := h29
      refine gT_chk (by omega) (by omega) ?_
      refine gT_chk (by omega) (by omega) ?_
      refine gT_ite (fun h30 => ?_) (fun h30n => ?_)
      · unfold fb_511_515
        refine gT_v1 (A := fun w9 u9 => True ∧ J (-1, l, l, i, i) u9) (d_207 hp h29j t12 (show (0 : Int) ≤ 0 ∧ 0 ≤ 1 by constructor <;> omega)) (fun v34 s33 h31 => ?_)
        obtain ⟨h31r, h31j⟩ := h31
        exact gT_ret ⟨rfl, rfl, rfl, g6, by omega, ⟨l, i, h31j⟩⟩
      unfold fb_511_515
      refine gT_v1 (A := fun w9 u9 => True ∧ J (-1, l, l, i, i) u9) (d_207 hp h29j t12 (show (0 : Int) ≤ 1 ∧ 1 ≤ 1 by constructor <;> omega)) (fun v34 s33 h32 => ?_)
      obtain ⟨h32r, h32j⟩ := h32
      exact gT_ret ⟨rfl, rfl, rfl, g6, by omega, ⟨l, i, h32j⟩⟩
    unfold fb_511_488
    refine gT_v1 (A := fun w9 u9 => True ∧ J (-1, l, l, i, i) u9) (d_280 hp hJ t11 t231 (show (0 : Int) ≤ 1 ∧ 1 ≤ 1 by constructor <;> omega)) (fun v32 s31 h33 => ?_)
    obtain ⟨h33r, h33j⟩ := h33
    refine gT_chk (by omega) (by omega) ?_
    refine gT_chk (by omega) (by omega) ?_
    refine gT_ite (fun h34 => ?_) (fun h34n => ?_)
    · unfold fb_511_515
      refine gT_v1 (A := fun w9 u9 => True ∧ J (-1, l, l, i, i) u9) (d_207 hp h33j t12 (show (0 : Int) ≤ 0 ∧ 0 ≤ 1 by constructor <;> omega)) (fun v34 s33 h35 => ?_)
      obtain ⟨h35r, h35j⟩ := h35
      exact gT_ret ⟨rfl, rfl, rfl, g6, by omega, ⟨l, i, h35j⟩⟩
    unfold fb_511_515
    refine gT_v1 (A := fun w9 u9 => True ∧ J (-1, l, l, i, i) u9) (d_207 hp h33j t12 (show (0 : Int) ≤ 1 ∧ 1 ≤ 1 by constructor <;> omega)) (fun v34 s33 h36 => ?_)
    obtain ⟨h36r, h36j⟩ := h36
    exact gT_ret ⟨rfl, rfl, rfl, g6, by omega, ⟨l, i, h36j⟩⟩
  refine gT_ite (fun h37 => ?_) (fun h37n => ?_)
  · refine gT_chk (by omega) (by omega) ?_
    refine gT_chk (by omega) (by omega) ?_
    refine gT_ite (fun h38 => ?_) (fun h38n => ?_)
    · unfold fb_511_544
      refine gT_v1 (A := fun w9 u9 => True ∧ J (-1, l, l, i, i) u9) (d_281 hp hJ t11 t231 (show (0 : Int) ≤ 0 ∧ 0 ≤ 1 by constructor <;> omega)) (fun v36 s35 h39 => ?_)
      obtain ⟨h39r, h39j⟩ := h39
      refine gT_chk (by omega) (by omega) ?_
      refine gT_chk (by omega) (by omega) ?_
      refine gT_ite (fun h40 => ?_) (fun h40n => ?_)
      · unfold fb_511_571
        refine gT_v1 (A := fun w9 u9 => True ∧ J (-1, l, l, i, i) u9) (d_208 hp h39j t12 (show (0 : Int) ≤ 0 ∧ 0 ≤ 1 by constructor <;> omega)) (fun v38 s37 h41 => ?_)
        obtain ⟨h41r, h41j⟩ := h41
        exact gT_ret ⟨rfl, rfl, rfl, g6, by omega, ⟨l, i, h41j⟩⟩
      unfold fb_511_571
      refine gT_v1 (A := fun w9 u9 => True ∧ J (-1, l, l, i, i) u9) (d_208 hp h39j t12 (show (0 : Int) ≤ 1 ∧ 1 ≤ 1 by constructor <;> omega)) (fun v38 s37 h42 => ?_)
      obtain ⟨h42r, h42j⟩ := h42
      exact gT_ret ⟨rfl, rfl, rfl, g6, by omega, ⟨l, i, h42j⟩⟩
    unfold fb_511_544
    refine gT_v1 (A := fun w9 u9 => True ∧ J (-1, l, l, i, i) u9) (d_281 hp hJ t11 t231 (show (0 : Int) ≤ 1 ∧ 1 ≤ 1 by constructor <;> omega)) (fun v36 s35 h43 => ?_)
    obtain ⟨h43r, h43j⟩ := h43
    refine gT_chk (by omega) (by omega) ?_
    refine gT_chk (by omega) (by omega) ?_
    refine gT_ite (fun h44 => ?_) (fun h44n => ?_)
    · unfold fb_511_571
      refine gT_v1 (A := fun w9 u9 => True ∧ J (-1, l, l, i, i) u9) (d_208 hp h43j t12 (show (0 : Int) ≤ 0 ∧ 0 ≤ 1 by constructor <;> omega)) (fun v38 s37 h45 => ?_)
      obtain ⟨h45r, h45j⟩ := h45
      exact gT_ret ⟨rfl, rfl, rfl, g6, by omega, ⟨l, i, h45j⟩⟩
    unfold fb_511_571
    refine gT_v1 (A := fun w9 u9 => True ∧ J (-1, l, l, i, i) u9) (d_208 hp h43j t12 (show (0 : Int) ≤ 1 ∧ 1 ≤ 1 by constructor <;> omega)) (fun v38 s37 h46 => ?_)
    obtain ⟨h46r, h46j⟩ := h46
    exact gT_ret ⟨rfl, rfl, rfl, g6, by omega, ⟨l, i, h46j⟩⟩
  refine gT_ite (fun h47 => ?_) (fun h47n => ?_)
  · refine gT_chk (by omega) (by omega) ?_
    refine gT_v1 (A := fun w9 u9 => True ∧ J (-1, l, l, i, i) u9) (d_282 hp hJ t11 t231) (fun v40 s39 h48 => ?_)
    obtain ⟨h48r, h48j⟩ := h48
    refine gT_chk (by omega) (by omega) ?_
    refine gT_v1 (A := fun w9 u9 => True ∧ J (-1, l, l, i, i) u9) (d_211 hp h48j t12) (fun v42 s41 h49 => ?_)
    obtain ⟨h49r, h49j⟩ := h49
    exact gT_ret ⟨rfl, rfl, rfl, g6, by omega, ⟨l, i, h49j⟩⟩
  refine gT_ite (fun h50 => ?_) (fun h50n => ?_)
  · refine gT_chk (by omega) (by omega) ?_
    refine gT_chk (by omega) (by omega) ?_
    refine gT_v1 (A := fun w9 u9 => True ∧ J (-1, l, l, i, i) u9) (d_283 hp hJ t11 t231) (fun v44 s43 h51 => ?_)
    obtain ⟨h51r, h51j⟩ := h51
    refine gT_chk (by omega) (by omega) ?_
    refine gT_chk (by omega) (by omega) ?_
    refine gT_v1 (A := fun w9 u9 => (0 ≤ w9 ∧ w9 ≤ 1) ∧ J (-1, l, l, i, i) u9) (d_213 hp h51j t12) (fun v46 s45 h52 => ?_)
    obtain ⟨h52r, h52j⟩ := h52
    exact gT_ret ⟨rfl, rfl, rfl, g6, by omega, ⟨l, i, h52j⟩⟩
  refine gT_ite (fun h53 => ?_) (fun h53n => ?_)
  · refine gT_chk (by omega) (by omega) ?_
    refine gT_v1 (A := fun w9 u9 => True ∧ J (-1, l, l, i, i) u9) (d_284 hp hJ t11 t231) (fun v49 s48 h54 => ?_)
    obtain ⟨h54r, h54j⟩ := h54
    refine gT_chk (by omega) (by omega) ?_
    refine gT_v1 (A := fun w9 u9 => True ∧ J (-1, l, l, i, i) u9) (d_214 hp h54j t12) (fun v51 s50 h55 => ?_)
    obtain ⟨h55r, h55j⟩ := h55
    exact gT_ret ⟨rfl, rfl, rfl, g6, by omega, ⟨l, i, h55j⟩⟩
  refine gT_ite (fun h56 => ?_) (fun h56n => ?_)
  · refine gT_chk (by omega) (by omega) ?_
    refine gT_chk (by omega) (by omega) ?_
    refine gT_chk (by omega) (by omega) ?_
    refine gT_v1 (A := fun w9 u9 => True ∧ J (-1, l, l, i, i) u9) (d_285 hp hJ t11 t231) (fun v53 s52 h57 => ?_)
    obtain ⟨h57r, h57j⟩ := h57
    refine gT_chk (by omega) (by omega) ?_
    refine gT_chk (by omega) (by omega) ?_
    refine gT_chk (by omega) (by omega) ?_
    refine gT_v1 (A := fun w9 u9 => True ∧ J (-1, l, l, i, i) u9) (d_215 hp h57j t12) (fun v55 s54 h58 => ?_)
    obtain ⟨h58r, h58j⟩ := h58
    exact gT_ret ⟨rfl, rfl, rfl, g6, by omega, ⟨l, i, h58j⟩⟩
  refine gT_ite (fun h59 => ?_) (fun h59n => ?_)
  · refine gT_chk (by omega) (by omega) ?_
    refine gT_chk (by omega) (by omega) ?_
    refine gT_v1 (A := fun w9 u9 => True ∧ J (-1, l, l, i, i) u9) (d_286 hp hJ t11 t231) (fun v57 s56 h60 => ?_)
    obtain ⟨h60r, h60j⟩ := h60
    refine gT_chk (by omega) (by omega) ?_
    refine gT_chk (by omega) (by omega) ?_
    refine gT_v1 (A := fun w9 u9 => True ∧ J (-1, l, l, i, i) u9) (d_216 hp h60j t12) (fun v59 s58 h61 => ?_)
    obtain ⟨h61r, h61j⟩ := h61
    exact gT_ret ⟨rfl, rfl, rfl, g6, by omega, ⟨l, i, h61j⟩⟩
  refine gT_ite (fun h62 => ?_) (fun h62n => ?_)
  · refine gT_chk (by omega) (by omega) ?_
    refine gT_v1 (A := fun w9 u9 => True ∧ J (-1, l, l, i, i) u9) (d_287 hp hJ t11 t231) (fun v61 s60 h63 => ?_)
    obtain ⟨h63r, h63j⟩ := h63
    refine gT_chk (by omega) (by omega) ?_
    refine gT_v1 (A := fun w9 u9 => True ∧ J (-1, l, l, i, i) u9) (d_217 hp h63j t12) (fun v63 s62 h64 => ?_)
    obtain ⟨h64r, h64j⟩ := h64
    exact gT_ret ⟨rfl, rfl, rfl, g6, by omega, ⟨l, i, h64j⟩⟩
  refine gT_ite (fun h65 => ?_) (fun h65n => ?_)
  · refine gT_chk (by omega) (by omega) ?_
    refine gT_v1 (A := fun w9 u9 => True ∧ J (-1, l, l, i, i) u9) (d_288 hp hJ t11 t231) (fun v65 s64 h66 => ?_)
    obtain ⟨h66r, h66j⟩ := h66
    refine gT_chk (by omega) (by omega) ?_
    refine gT_v1 (A := fun w9 u9 => True ∧ J (-1, l, l, i, i) u9) (d_218 hp h66j t12) (fun v67 s66 h67 => ?_)
    obtain ⟨h67r, h67j⟩ := h67
    exact gT_ret ⟨rfl, rfl, rfl, g6, by omega, ⟨l, i, h67j⟩⟩
  refine gT_ite (fun h68 => ?_) (fun h68n => ?_)
  · refine gT_chk (by omega) (by omega) ?_
    refine gT_chk (by omega) (by omega) ?_
    refine gT_chk (by omega) (by omega) ?_
    refine gT_v1 (A := fun w9 u9 => True ∧ J (-1, l, l, i, i) u9) (d_289 hp hJ t11 t231) (fun v69 s68 h69 => ?_)
    obtain ⟨h69r, h69j⟩ := h69
    refine gT_chk (by omega) (by omega) ?_
    refine gT_chk (by omega) (by omega) ?_
    refine gT_chk (by omega) (by omega) ?_
    refine gT_v1 (A := fun w9 u9 => True ∧ J (-1, l, l, i, i) u9) (d_219 hp h69j t12) (fun v71 s70 h70 => ?_)
    obtain ⟨h70r, h70j⟩ := h70
    exact gT_ret ⟨rfl, rfl, rfl, g6, by omega, ⟨l, i, h70j⟩⟩
  refine gT_ite (fun h71 => ?_) (fun h71n => ?_)
  · refine gT_chk (by omega) (by omega) ?_
    refine gT_v1 (A := fun w9 u9 => True ∧ J (-1, l, l, i, i) u9) (d_290 hp hJ t11 t231) (fun v73 s72 h72 => ?_)
    obtain ⟨h72r, h72j⟩ := h72
    refine gT_chk (by omega) (by omega) ?_
    refine gT_v1 (A := fun w9 u9 => True ∧ J (-1, l, l, i, i) u9) (d_220 hp h72j t12) (fun v75 s74 h73 => ?_)
    obtain ⟨h73r, h73j⟩ := h73
    exact gT_ret ⟨rfl, rfl, rfl, g6, by omega, ⟨l, i, h73j⟩⟩
  refine gT_ite (fun h74 => ?_) (fun h74n => ?_)
  · refine gT_chk (by omega) (by omega) ?_
    refine gT_v1 (A := fun w9 u9 => True ∧ J (-1, l, l, i, i) u9) (d_291 hp hJ t11 t231) (fun v77 s76 h75 => ?_)
    obtain ⟨h75r, h75j⟩ := h75
    refine gT_chk (by omega) (by omega) ?_
    refine gT_v1 (A := fun w9 u9 => True ∧ J (-1, l, l, i, i) u9) (d_221 hp h75j t12) (fun v79 s78 h76 => ?_)
    obtain ⟨h76r, h76j⟩ := h76
    exact gT_ret ⟨rfl, rfl, rfl, g6, by omega, ⟨l, i, h76j⟩⟩
  refine gT_ite (fun h77 => ?_) (fun h77n => ?_)
  · refine gT_chk (by omega) (by omega) ?_
    refine gT_v1 (A := fun w9 u9 => True ∧ J (-1, l, l, i, i) u9) (d_292 hp hJ t11 t231) (fun v81 s80 h78 => ?_)
    obtain ⟨h78r, h78j⟩ := h78
    refine gT_chk (by omega) (by omega) ?_
    refine gT_v1 (A := fun w9 u9 => True ∧ J (-1, l, l, i, i) u9) (d_223 hp h78j t12) (fun v83 s82 h79 => ?_)
    obtain ⟨h79r, h79j⟩ := h79
    exact gT_ret ⟨rfl, rfl, rfl, g6, by omega, ⟨l, i, h79j⟩⟩
  refine gT_ite (fun h80 => ?_) (fun h80n => ?_)
  · refine gT_chk (by omega) (by omega) ?_
    refine gT_v1 (A := fun w9 u9 => True ∧ J (-1, l, l, i, i) u9) (d_293 hp hJ t11 t231) (fun v85 s84 h81 => ?_)
    obtain ⟨h81r, h81j⟩ := h81
    refine gT_chk (by omega) (by omega) ?_
    refine gT_v1 (A := fun w9 u9 => True ∧ J (-1, l, l, i, i) u9) (d_224 hp h81j t12) (fun v87 s86 h82 => ?_)
    obtain ⟨h82r, h82j⟩ := h82
    exact gT_ret ⟨rfl, rfl, rfl, g6, by omega, ⟨l, i, h82j⟩⟩
  refine gT_ite (fun h83 => ?_) (fun h83n => ?_)
  · refine gT_chk (by omega) (by omega) ?_
    refine gT_chk (by omega) (by omega) ?_
    refine gT_v1 (A := fun w9 u9 => True ∧ J (-1, l, l, i, i) u9) (d_294 hp hJ t11 t231) (fun v89 s88 h84 => ?_)
    obtain ⟨h84r, h84j⟩ := h84
    refine gT_chk (by omega) (by omega) ?_
    refine gT_chk (by omega) (by omega) ?_
    refine gT_v1 (A := fun w9 u9 => True ∧ J (-1, l, l, i, i) u9) (d_229 hp h84j t12) (fun v91 s90 h85 => ?_)
    obtain ⟨h85r, h85j⟩ := h85
    exact gT_ret ⟨rfl, rfl, rfl, g6, by omega, ⟨l, i, h85j⟩⟩
  refine gT_ite (fun h86 => ?_) (fun h86n => ?_)
  · refine gT_chk (by omega) (by omega) ?_
    refine gT_chk (by omega) (by omega) ?_
    refine gT_v1 (A := fun w9 u9 => True ∧ J (-1, l, l, i, i) u9) (d_295 hp hJ t11 t231) (fun v93 s92 h87 => ?_)
    obtain ⟨h87r, h87j⟩ := h87
    refine gT_chk (by omega) (by omega) ?_
    refine gT_chk (by omega) (by omega) ?_
    refine gT_v1 (A := fun w9 u9 => True ∧ J (-1, l, l, i, i) u9) (d_230 hp h87j t12) (fun v95 s94 h88 => ?_)
    obtain ⟨h88r, h88j⟩ := h88
    exact gT_ret ⟨rfl, rfl, rfl, g6, by omega, ⟨l, i, h88j⟩⟩
  refine gT_ite (fun h89 => ?_) (fun h89n => ?_)
  · refine gT_chk (by omega) (by omega) ?_
    refine gT_chk (by omega) (by omega) ?_
    refine gT_v1 (A := fun w9 u9 => True ∧ J (-1, l, l, i, i) u9) (d_296 hp hJ t11 t231) (fun v97 s96 h90 => ?_)
    obtain ⟨h90r, h90j⟩ := h90
    refine gT_chk (by omega) (by omega) ?_
    refine gT_chk (by omega) (by omega) ?_
    refine gT_v1 (A := fun w9 u9 => (0 ≤ w9 ∧ w9 ≤ 1) ∧ J (-1, l, l, i, i) u9) (d_233 hp h90j t12) (fun v99 s98 h91 => ?_)
    obtain ⟨h91r, h91j⟩ := h91
    exact gT_ret ⟨rfl, rfl, rfl, g6, by omega, ⟨l, i, h91j⟩⟩
  refine gT_ite (fun h92 => ?_) (fun h92n => ?_)
  · refine gT_chk (by omega) (by omega) ?_
    refine gT_v1 (A := fun w9 u9 => True ∧ J (-1, l, l, i, i) u9) (d_297 hp hJ t11 t231) (fun v102 s101 h93 => ?_)
    obtain ⟨h93r, h93j⟩ := h93
    refine gT_chk (by omega) (by omega) ?_
    refine gT_v1 (A := fun w9 u9 => True ∧ J (-1, l, l, i, i) u9) (d_235 hp h93j t12) (fun v104 s103 h94 => ?_)
    obtain ⟨h94r, h94j⟩ := h94
    exact gT_ret ⟨rfl, rfl, rfl, g6, by omega, ⟨l, i, h94j⟩⟩
  refine gT_ite (fun h95 => ?_) (fun h95n => ?_)
  · refine gT_chk (by omega) (by omega) ?_
    refine gT_chk (by omega) (by omega) ?_
    refine gT_ite (fun h96 => ?_) (fun h96n => ?_)
    · unfold fb_511_1156
      refine gT_v1 (A := fun w9 u9 => True ∧ J (-1, l, l, i, i) u9) (d_298 hp hJ t11 t231 (show (0 : Int) ≤ 0 ∧ 0 ≤ 1 by constructor <;> omega)) (fun v106 s105 h97 => ?_)
      obtain ⟨h97r, h97j⟩ := h97
      refine gT_chk (by omega) (by omega) ?_
      refine gT_chk (by omega) (by omega) ?_
      refine gT_ite (fun h98 => ?_) (fun h98n => ?_)
      · unfold fb_511_1183
        refine gT_v1 (A := fun w9 u9 => True ∧ J (-1, l, l, i, i) u9) (d_236 hp h97j t12 (show (0 : Int) ≤ 0 ∧ 0 ≤ 1 by constructor <;> omega)) (fun v108 s107 h99 => ?_)
        obtain ⟨h99r, h99j⟩ := h99
        exact gT_ret ⟨rfl, rfl, rfl, g6, by omega, ⟨l, i, h99j⟩⟩
      unfold fb_511_1183
      refine gT_v1 (A := fun w9 u9 => True ∧ J (-1, l, l, i, i) u9) (d_236 hp h97j t12 (show (0 : Int) ≤ 1 ∧ 1 ≤ 1 by constructor <;> omega)) (fun v108 s107 h100 => ?_)
      obtain ⟨h100r, h100j⟩ := h100
      exact gT_ret ⟨rfl, rfl, rfl, g6, by omega, ⟨l, i, h100j⟩⟩
    unfold fb_511_1156
    refine gT_v1 (A := fun w9 u9 => True ∧ J (-1, l, l, i, i) u9) (d_298 hp hJ t11 t231 (show (0 : Int) ≤ 1 ∧ 1 ≤ 1 by constructor <;> omega)) (fun v106 s105 h101 => ?_)
    obtain ⟨h101r, h101j⟩ := h101
    refine gT_chk (by omega) (by omega) ?_
    refine gT_chk (by omega) (by omega) ?_
    refine gT_ite (fun h102 => ?_) (fun h102n => ?_)
    · unfold fb_511_1183
      refine gT_v1 (A := fun w9 u9 => True ∧ J (-1, l, l, i, i) u9) (d_236 hp h101j t12 (show (0 : Int) ≤ 0 ∧ 0 ≤ 1 by constructor <;> omega)) (fun v108 s107 h103 => ?_)
      obtain ⟨h103r, h103j⟩ := h103
      exact gT_ret ⟨rfl, rfl, rfl, g6, by omega, ⟨l, i, h103j⟩⟩
    unfold fb_511_1183
    refine gT_v1 (A := fun w9 u9 => True ∧ J (-1, l, l, i, i) u9) (d_236 hp h101j t12 (show (0 : Int) ≤ 1 ∧ 1 ≤ 1 by constructor <;> omega)) (fun v108 s107 h104 => ?_)
    obtain ⟨h104r, h104j⟩ := h104
    exact gT_ret ⟨rfl, rfl, rfl, g6, by omega, ⟨l, i, h104j⟩⟩
  refine gT_ite (fun h105 => ?_) (fun h105n => ?_)
  · refine gT_chk (by omega) (by omega) ?_
    refine gT_v1 (A := fun w9 u9 => True ∧ J (-1, l, l, i, i) u9) (d_299 hp hJ t11 t231) (fun v110 s109 h106 => ?_)
    obtain ⟨h106r, h106j⟩ := h106
    refine gT_chk (by omega) (by omega) ?_
    refine gT_v1 (A := fun w9 u9 => True ∧ J (-1, l, l, i, i) u9) (d_237 hp h106j t12) (fun v112 s111 h107 => ?_)
    obtain ⟨h107r, h107j⟩ := h107
    exact gT_ret ⟨rfl, rfl, rfl, g6, by omega, ⟨l, i, h107j⟩⟩
  refine gT_ite (fun h108 => ?_) (fun h108n => ?_)
  · refine gT_chk (by omega) (by omega) ?_
    refine gT_ite (fun h109 => ?_) (fun h109n => ?_)
    · unfold fb_511_1234
      refine gT_v1 (A := fun w9 u9 => True ∧ J (-1, 0, l, i, i) u9) (d_300 hp hJ t11 t231 (show (0 : Int) ≤ 0 ∧ 0 ≤ 1 by constructor <;> omega)) (fun v114 s113 h110 => ?_)
      obtain ⟨h110r, h110j⟩ := h110
      refine gT_chk (by omega) (by omega) ?_
      refine gT_ite (fun h111 => ?_) (fun h111n => ?_)
      · unfold fb_511_1255
        refine gT_v1 (A := fun w9 u9 => True ∧ J (-1, 0, 0, i, i) u9) (d_239 hp h110j t12 (show (0 : Int) ≤ 0 ∧ 0 ≤ 1 by constructor <;> omega)) (fun v116 s115 h112 => ?_)
        obtain ⟨h112r, h112j⟩ := h112
        exact gT_ret ⟨rfl, rfl, rfl, g6, by omega, ⟨0, i, h112j⟩⟩
      unfold fb_511_1255
      refine gT_v1 (A := fun w9 u9 => True ∧ J (-1, 0, 0, i, i) u9) (d_239 hp h110j t12 (show (0 : Int) ≤ 1 ∧ 1 ≤ 1 by constructor <;> omega)) (fun v116 s115 h113 => ?_)
      obtain ⟨h113r, h113j⟩ := h113
      exact gT_ret ⟨rfl, rfl, rfl, g6, by omega, ⟨0, i, h113j⟩⟩
    unfold fb_511_1234
    refine gT_v1 (A := fun w9 u9 => True ∧ J (-1, 0, l, i, i) u9) (d_300 hp hJ t11 t231 (show (0 : Int) ≤ 1 ∧ 1 ≤ 1 by constructor <;> omega)) (fun v114 s113 h114 => ?_)
    obtain ⟨h114r, h114j⟩ := h114
    refine gT_chk (by omega) (by omega) ?_
    refine gT_ite (fun h115 => ?_) (fun h115n => ?_)
    · unfold fb_511_1255
      refine gT_v1 (A := fun w9 u9 => True ∧ J (-1, 0, 0, i, i) u9) (d_239 hp h114j t12 (show (0 : Int) ≤ 0 ∧ 0 ≤ 1 by constructor <;> omega)) (fun v116 s115 h116 => ?_)
      obtain ⟨h116r, h116j⟩ := h116
      exact gT_ret ⟨rfl, rfl, rfl, g6, by omega, ⟨0, i, h116j⟩⟩
    unfold fb_511_1255
    refine gT_v1 (A := fun w9 u9 => True ∧ J (-1, 0, 0, i, i) u9) (d_239 hp h114j t12 (show (0 : Int) ≤ 1 ∧ 1 ≤ 1 by constructor <;> omega)) (fun v116 s115 h117 => ?_)
    obtain ⟨h117r, h117j⟩ := h117
    exact gT_ret ⟨rfl, rfl, rfl, g6, by omega, ⟨0, i, h117j⟩⟩
  refine gT_ite (fun h118 => ?_) (fun h118n => ?_)
  · refine gT_v1 (A := fun w9 u9 => True ∧ J (-1, 0, l, i, i) u9) (d_301 hp hJ t11 t231) (fun v118 s117 h119 => ?_)
    obtain ⟨h119r, h119j⟩ := h119
    refine gT_v1 (A := fun w9 u9 => True ∧ J (-1, 0, 0, i, i) u9) (d_240 hp h119j t12) (fun v120 s119 h120 => ?_)
    obtain ⟨h120r, h120j⟩ := h120
    exact gT_ret ⟨rfl, rfl, rfl, g6, by omega, ⟨0, i, h120j⟩⟩
  refine gT_ite (fun h121 => ?_) (fun h121n => ?_)
  · refine gT_chk (by omega) (by omega) ?_
    refine gT_chk (by omega) (by omega) ?_
    refine gT_v1 (A := fun w9 u9 => True ∧ J (-1, l, l, i, i) u9) (d_302 hp hJ t11 t231) (fun v122 s121 h122 => ?_)
    obtain ⟨h122r, h122j⟩ := h122
    refine gT_chk (by omega) (by omega) ?_
    refine gT_chk (by omega) (by omega) ?_
    refine gT_v1 (A := fun w9 u9 => True ∧ J (-1, l, l, i, i) u9) (d_243 hp h122j t12) (fun v124 s123 h123 => ?_)
    obtain ⟨h123r, h123j⟩ := h123
    exact gT_ret ⟨rfl, rfl, rfl, g6, by omega, ⟨l, i, h123j⟩⟩
  refine gT_ite (fun h124 => ?_) (fun h124n => ?_)
  · refine gT_chk (by omega) (by omega) ?_
    refine gT_chk (by omega) (by omega) ?_
    refine gT_v1 (A := fun w9 u9 => True ∧ J (-1, l, l, i, i) u9) (d_303 hp hJ t11 t231) (fun v126 s125 h125 => ?_)
    obtain ⟨h125r, h125j⟩ := h125
    refine gT_chk (by omega) (by omega) ?_
    refine gT_chk (by omega) (by omega) ?_
    refine gT_v1 (A := fun w9 u9 => True ∧ J (-1, l, l, i, i) u9) (d_244 hp h125j t12) (fun v128 s127 h126 => ?_)
    obtain ⟨h126r, h126j⟩ := h126
    exact gT_ret ⟨rfl, rfl, rfl, g6, by omega, ⟨l, i, h126j⟩⟩
  refine gT_ite (fun h127 => ?_) (fun h127n => ?_)
  · refine gT_chk (by omega) (by omega) ?_
    refine gT_ite (fun h128 => ?_) (fun h128n => ?_)
    · unfold fb_511_1374
      refine gT_v1 (A := fun w9 u9 => True ∧ J (-1, l, l, i, i) u9) (d_118 hp hJ t11 (show (0 : Int) ≤ 0 ∧ 0 ≤ 1 by constructor <;> omega)) (fun v130 s129 h129 => ?_)
      obtain ⟨h129r, h129j⟩ := h129
      refine gT_chk (by omega) (by omega) ?_
      refine gT_ite (fun h130 => ?_) (fun h130n => ?_)
      · unfold fb_511_1393
        refine gT_v1 (A := fun w9 u9 => True ∧ J (-1, l, l, i, i) u9) (d_245 hp h129j t12 (show (0 : Int) ≤ 0 ∧ 0 ≤ 1 by constructor <;> omega)) (fun v132 s131 h131 => ?_)
        obtain ⟨h131r, h131j⟩ := h131
        exact gT_ret ⟨rfl, rfl, rfl, g6, by omega, ⟨l, i, h131j⟩⟩
      unfold fb_511_1393
      refine gT_v1 (A := fun w9 u9 => True ∧ J (-1, l, l, i, i) u9) (d_245 hp h129j t12 (show (0 : Int) ≤ 1 ∧ 1 ≤ 1 by constructor <;> omega)) (fun v132 s131 h132 => ?_)
      obtain ⟨h132r, h132j⟩ := h132
      exact gT_ret ⟨rfl, rfl, rfl, g6, by omega, ⟨l, i, h132j⟩⟩
    unfold fb_511_1374
    refine gT_v1 (A := fun w9 u9 => True ∧ J (-1, l, l, i, i) u9) (d_118 hp hJ t11 (show (0 : Int) ≤ 1 ∧ 1 ≤ 1 by constructor <;> omega)) (fun v130 s129 h133 => ?_)
    obtain ⟨h133r, h133j⟩ := h133
    refine gT_chk (by omega) (by omega) ?_
    refine gT_ite (fun h134 => ?_) (fun h134n => ?_)
    · unfold fb_511_1393
      refine gT_v1 (A := fun w9 u9 => True ∧ J (-1, l, l, i, i) u9) (d_245 hp h133j t12 (show (0 : Int) ≤ 0 ∧ 0 ≤ 1 by constructor <;> omega)) (fun v132 s131 h135 => ?_)
      obtain ⟨h135r, h135j⟩ := h135
      exact gT_ret ⟨rfl, rfl, rfl, g6, by omega, ⟨l, i, h135j⟩⟩
    unfold fb_511_1393
    refine gT_v1 (A := fun w9 u9 => True ∧ J (-1, l, l, i, i) u9) (d_245 hp h133j t12 (show (0 : Int) ≤ 1 ∧ 1 ≤ 1 by constructor <;> omega)) (fun v132 s131 h136 => ?_)
    obtain ⟨h136r, h136j⟩ := h136
    exact gT_ret ⟨rfl, rfl, rfl, g6, by omega, ⟨l, i, h136j⟩⟩
  refine gT_ite (fun h137 => ?_) (fun h137n => ?_)
  · refine gT_chk (by omega) (by omega) ?_
    refine gT_v1 (A := fun w9 u9 => True ∧ J (-1, l, l, i, i) u9) (d_304 hp hJ t11 t231) (fun v134 s133 h138 => ?_)
    obtain ⟨h138r, h138j⟩ := h138
    refine gT_chk (by omega) (by omega) ?_
    refine gT_v1 (A := fun w9 u9 => True ∧ J (-1, l, l, i, i) u9) (d_247 hp h138j t12) (fun v136 s135 h139 => ?_)
    obtain ⟨h139r, h139j⟩ := h139
    exact gT_ret ⟨rfl, rfl, rfl, g6, by omega, ⟨l, i, h139j⟩⟩
  refine gT_ite (fun h140 => ?_) (fun h140n => ?_)
  · refine gT_v1 (A := fun w9 u9 => True ∧ J (-1, l, l, i, i) u9) (d_120 hp hJ t11) (fun v138 s137 h141 => ?_)
    obtain ⟨h141r, h141j⟩ := h141
    refine gT_v1 (A := fun w9 u9 => True ∧ J (-1, l, l, i, i) u9) (d_248 hp h141j t12) (fun v140 s139 h142 => ?_)
    obtain ⟨h142r, h142j⟩ := h142
    exact gT_ret ⟨rfl, rfl, rfl, g6, by omega, ⟨l, i, h142j⟩⟩
  refine gT_ite (fun h143 => ?_) (fun h143n => ?_)
  · refine gT_v1 (A := fun w9 u9 => True ∧ J (-1, l, l, i, i) u9) (d_121 hp hJ t11) (fun v142 s141 h144 => ?_)
    obtain ⟨h144r, h144j⟩ := h144
    refine gT_v1 (A := fun w9 u9 => True ∧ J (-1, l, l, i, i) u9) (d_249 hp h144j t12) (fun v144 s143 h145 => ?_)
    obtain ⟨h145r, h145j⟩ := h145
    exact gT_ret ⟨rfl, rfl, rfl, g6, by omega, ⟨l, i, h145j⟩⟩
  refine gT_ite (fun h146 => ?_) (fun h146n => ?_)
  · refine gT_chk (by omega) (by omega) ?_
    refine gT_v1 (A := fun w9 u9 => True ∧ J (-1, l, l, i, i) u9) (d_305 hp hJ t11 t231) (fun v146 s145 h147 => ?_)
    obtain ⟨h147r, h147j⟩ := h147
    refine gT_chk (by omega) (by omega) ?_
    refine gT_v1 (A := fun w9 u9 => True ∧ J (-1, l, l, i, i) u9) (d_250 hp h147j t12) (fun v148 s147 h148 => ?_)
    obtain ⟨h148r, h148j⟩ := h148
    exact gT_ret ⟨rfl, rfl, rfl, g6, by omega, ⟨l, i, h148j⟩⟩
  refine gT_ite (fun h149 => ?_) (fun h149n => ?_)
  · refine gT_v1 (A := fun w9 u9 => True ∧ J (-1, l, l, i, i) u9) (d_123 hp hJ t11) (fun v150 s149 h150 => ?_)
    obtain ⟨h150r, h150j⟩ := h150
    refine gT_v1 (A := fun w9 u9 => True ∧ J (-1, l, l, i, i) u9) (d_251 hp h150j t12) (fun v152 s151 h151 => ?_)
    obtain ⟨h151r, h151j⟩ := h151
    exact gT_ret ⟨rfl, rfl, rfl, g6, by omega, ⟨l, i, h151j⟩⟩
  refine gT_ite (fun h152 => ?_) (fun h152n => ?_)
  · refine gT_chk (by omega) (by omega) ?_
    refine gT_ite (fun h153 => ?_) (fun h153n => ?_)
    · unfold fb_511_1510
      refine gT_v1 (A := fun w9 u9 => True ∧ J (-1, l, l, i, i) u9) (d_124 hp hJ t11 (show (0 : Int) ≤ 0 ∧ 0 ≤ 1 by constructor <;> omega)) (fun v154 s153 h154 => ?_)
      obtain ⟨h154r, h154j⟩ := h154
      refine gT_chk (by omega) (by omega) ?_
      refine gT_ite (fun h155 => ?_) (fun h155n => ?_)
      · unfold fb_511_1529
        refine gT_v1 (A := fun w9 u9 => True ∧ J (-1, l, l, i, i) u9) (d_253 hp h154j t12 (show (0 : Int) ≤ 0 ∧ 0 ≤ 1 by constructor <;> omega)) (fun v156 s155 h156 => ?_)
        obtain ⟨h156r, h156j⟩ := h156
        exact gT_ret ⟨rfl, rfl, rfl, g6, by omega, ⟨l, i, h156j⟩⟩
      unfold fb_511_1529
      refine gT_v1 (A := fun w9 u9 => True ∧ J (-1, l, l, i, i) u9) (d_253 hp h154j t12 (show (0 : Int) ≤ 1 ∧ 1 ≤ 1 by constructor <;> omega)) (fun v156 s155 h157 => ?_)
      obtain ⟨h157r, h157j⟩ := h157
      exact gT_ret ⟨rfl, rfl, rfl, g6, by omega, ⟨l, i, h157j⟩⟩
    unfold fb_511_1510
    refine gT_v1 (A := fun w9 u9 => True ∧ J (-1, l, l, i, i) u9) (d_124 hp hJ t11 (show (0 : Int) ≤ 1 ∧ 1 ≤ 1 by constructor <;> omega)) (fun v154 s153 h158 => ?_)
    obtain ⟨h158r, h158j⟩ := h158
    refine gT_chk (by omega) (by omega) ?_
    refine gT_ite (fun h159 => ?_) (fun h159n => ?_)
    · unfold fb_511_1529
      refine gT_v1 (A := fun w9 u9 => True ∧ J (-1, l, l, i, i) u9) (d_253 hp h158j t12 (show (0 : Int) ≤ 0 ∧ 0 ≤ 1 by constructor <;> omega)) (fun v156 s155 h160 => ?_)
      obtain ⟨h160r, h160j⟩ := h160
      exact gT_ret ⟨rfl, rfl, rfl, g6, by omega, ⟨l, i, h160j⟩⟩
    unfold fb_511_1529
    refine gT_v1 (A := fun w9 u9 => True ∧ J (-1, l, l, i, i) u9) (d_253 hp h158j t12 (show (0 : Int) ≤ 1 ∧ 1 ≤ 1 by constructor <;> omega)) (fun v156 s155 h161 => ?_)
    obtain ⟨h161r, h161j⟩ := h161
    exact gT_ret ⟨rfl, rfl, rfl, g6, by omega, ⟨l, i, h161j⟩⟩
  refine gT_ite (fun h162 => ?_) (fun h162n => ?_)
  · refine gT_chk (by omega) (by omega) ?_
    refine gT_chk (by omega) (by omega) ?_
    refine gT_ite (fun h163 => ?_) (fun h163n => ?_)
    · unfold fb_511_1557
      refine gT_v1 (A := fun w9 u9 => True ∧ J (-1, l, l, i, i) u9) (d_306 hp hJ t11 t231 (show (0 : Int) ≤ 0 ∧ 0 ≤ 1 by constructor <;> omega)) (fun v158 s157 h164 => ?_)
      obtain ⟨h164r, h164j⟩ := h164
      refine gT_chk (by omega) (by omega) ?_
      refine gT_chk (by omega) (by omega) ?_
      refine gT_ite (fun h165 => ?_) (fun h165n => ?_)
      · unfold fb_511_1584
        refine gT_v1 (A := fun w9 u9 => True ∧ J (-1, l, l, i, i) u9) (d_254 hp h164j t12 (show (0 : Int) ≤ 0 ∧ 0 ≤ 1 by constructor <;> omega)) (fun v160 s159 h166 => ?_)
        obtain ⟨h166r, h166j⟩ := h166
        exact gT_ret ⟨rfl, rfl, rfl, g6, by omega, ⟨l, i, h166j⟩⟩
      unfold fb_511_1584
      refine gT_v1 (A := fun w9 u9 => True ∧ J (-1, l, l, i, i) u9) (d_254 hp h164j t12 (show (0 : Int) ≤ 1 ∧ 1 ≤ 1 by constructor <;> omega)) (fun v160 s159 h167 => ?_)
      obtain ⟨h167r, h167j⟩ := h167
      exact gT_ret ⟨rfl, rfl, rfl, g6, by omega, ⟨l, i, h167j⟩⟩
    unfold fb_511_1557
    refine gT_v1 (A := fun w9 u9 => True ∧ J (-1, l, l, i, i) u9) (d_306 hp hJ t11 t231 (show (0 : Int) ≤ 1 ∧ 1 ≤ 1 by constructor <;> omega)) (fun v158 s157 h168 => ?_)
    obtain ⟨h168r, h168j⟩ := h168
    refine gT_chk (by omega) (by omega) ?_
    refine gT_chk (by omega) (by omega) ?_
    refine gT_ite (fun h169 => ?_) (fun h169n => ?_)
    · unfold fb_511_1584
      refine gT_v1 (A := fun w9 u9 => True ∧ J (-1, l, l, i, i) u9) (d_254 hp h168j t12 (show (0 : Int) ≤ 0 ∧ 0 ≤ 1 by constructor <;> omega)) (fun v160 s159 h170 => ?_)
      obtain ⟨h170r, h170j⟩ := h170
      exact gT_ret ⟨rfl, rfl, rfl, g6, by omega, ⟨l, i, h170j⟩⟩
    unfold fb_511_1584
    refine gT_v1 (A := fun w9 u9 => True ∧ J (-1, l, l, i, i) u9) (d_254 hp h168j t12 (show (0 : Int) ≤ 1 ∧ 1 ≤ 1 by constructor <;> omega)) (fun v160 s159 h171 => ?_)
    obtain ⟨h171r, h171j⟩ := h171
    exact gT_ret ⟨rfl, rfl, rfl, g6, by omega, ⟨l, i, h171j⟩⟩
  refine gT_ite (fun h172 => ?_) (fun h172n => ?_)
  · refine gT_chk (by omega) (by omega) ?_
    refine gT_chk (by omega) (by omega) ?_
    refine gT_ite (fun h173 => ?_) (fun h173n => ?_)
    · unfold fb_511_1613
      refine gT_v1 (A := fun w9 u9 => True ∧ J (-1, l, l, i, i) u9) (d_307 hp hJ t11 t231 (show (0 : Int) ≤ 0 ∧ 0 ≤ 1 by constructor <;> omega)) (fun v162 s161 h174 => ?_)
      obtain ⟨h174r, h174j⟩ := h174
      refine gT_chk (by omega) (by omega) ?_
      refine gT_chk (by omega) (by omega) ?_
      refine gT_ite (fun h175 => ?_) (fun h175n => ?_)
      · unfold fb_511_1640
        refine gT_v1 (A := fun w9 u9 => True ∧ J (-1, l, l, i, i) u9) (d_255 hp h174j t12 (show (0 : Int) ≤ 0 ∧ 0 ≤ 1 by constructor <;> omega)) (fun v164 s163 h176 => ?_)
        obtain ⟨h176r, h176j⟩ := h176
        exact gT_ret ⟨rfl, rfl, rfl, g6, by omega, ⟨l, i, h176j⟩⟩
      unfold fb_511_1640
      refine gT_v1 (A := fun w9 u9 => True ∧ J (-1, l, l, i, i) u9) (d_255 hp h174j t12 (show (0 : Int) ≤ 1 ∧ 1 ≤ 1 by constructor <;> omega)) (fun v164 s163 h177 => ?_)
      obtain ⟨h177r, h177j⟩ := h177
      exact gT_ret ⟨rfl, rfl, rfl, g6, by omega, ⟨l, i, h177j⟩⟩
    unfold fb_511_1613
    refine gT_v1 (A := fun w9 u9 => True ∧ J (-1, l, l, i, i) u9) (d_307 hp hJ t11 t231 (show (0 : Int) ≤ 1 ∧ 1 ≤ 1 by constructor <;> omega)) (fun v162 s161 h178 => ?_)
    obtain ⟨h178r, h178j⟩ := h178
    refine gT_chk (by omega) (by omega) ?_
    refine gT_chk (by omega) (by omega) ?_
    refine gT_ite (fun h179 => ?_) (fun h179n => ?_)
    · unfold fb_511_1640
      refine gT_v1 (A := fun w9 u9 => True ∧ J (-1, l, l, i, i) u9) (d_255 hp h178j t12 (show (0 : Int) ≤ 0 ∧ 0 ≤ 1 by constructor <;> omega)) (fun v164 s163 h180 => ?_)
      obtain ⟨h180r, h180j⟩ := h180
      exact gT_ret ⟨rfl, rfl, rfl, g6, by omega, ⟨l, i, h180j⟩⟩
    unfold fb_511_1640
    refine gT_v1 (A := fun w9 u9 => True ∧ J (-1, l, l, i, i) u9) (d_255 hp h178j t12 (show (0 : Int) ≤ 1 ∧ 1 ≤ 1 by constructor <;> omega)) (fun v164 s163 h181 => ?_)
    obtain ⟨h181r, h181j⟩ := h181
    exact gT_ret ⟨rfl, rfl, rfl, g6, by omega, ⟨l, i, h181j⟩⟩
  refine gT_ite (fun h182 => ?_) (fun h182n => ?_)
  · refine gT_chk (by omega) (by omega) ?_
    refine gT_chk (by omega) (by omega) ?_
    refine gT_ite (fun h183 => ?_) (fun h183n => ?_)
    · unfold fb_511_1669
      refine gT_v1 (A := fun w9 u9 => True ∧ J (-1, l, l, i, i) u9) (d_308 hp hJ t11 t231 (show (0 : Int) ≤ 0 ∧ 0 ≤ 1 by constructor <;> omega)) (fun v166 s165 h184 => ?_)
      obtain ⟨h184r, h184j⟩ := h184
      refine gT_chk (by omega) (by omega) ?_
      refine gT_chk (by omega) (by omega) ?_
      refine gT_ite (fun h185 => ?_) (fun h185n => ?_)
      · unfold fb_511_1696
        refine gT_v1 (A := fun w9 u9 => True ∧ J (-1, l, l, i, i) u9) (d_257 hp h184j t12 (show (0 : Int) ≤ 0 ∧ 0 ≤ 1 by constructor <;> omega)) (fun v168 s167 h186 => ?_)
        obtain ⟨h186r, h186j⟩ := h186
        exact gT_ret ⟨rfl, rfl, rfl, g6, by omega, ⟨l, i, h186j⟩⟩
      unfold fb_511_1696
      refine gT_v1 (A := fun w9 u9 => True ∧ J (-1, l, l, i, i) u9) (d_257 hp h184j t12 (show (0 : Int) ≤ 1 ∧ 1 ≤ 1 by constructor <;> omega)) (fun v168 s167 h187 => ?_)
      obtain ⟨h187r, h187j⟩ := h187
      exact gT_ret ⟨rfl, rfl, rfl, g6, by omega, ⟨l, i, h187j⟩⟩
    unfold fb_511_1669
    refine gT_v1 (A := fun w9 u9 => True ∧ J (-1, l, l, i, i) u9) (d_308 hp hJ t11 t231 (show (0 : Int) ≤ 1 ∧ 1 ≤ 1 by constructor <;> omega)) (fun v166 s165 h188 => ?_)
    obtain ⟨h188r, h188j⟩ := h188
    refine gT_chk (by omega) (by omega) ?_
    refine gT_chk (by omega) (by omega) ?_
    refine gT_ite (fun h189 => ?_) (fun h189n => ?_)
    · unfold fb_511_1696
      refine gT_v1 (A := fun w9 u9 => True ∧ J (-1, l, l, i, i) u9) (d_257 hp h188j t12 (show (0 : Int) ≤ 0 ∧ 0 ≤ 1 by constructor <;> omega)) (fun v168 s167 h190 => ?_)
      obtain ⟨h190r, h190j⟩ := h190
      exact gT_ret ⟨rfl, rfl, rfl, g6, by omega, ⟨l, i, h190j⟩⟩
    unfold fb_511_1696
    refine gT_v1 (A := fun w9 u9 => True ∧ J (-1, l, l, i, i) u9) (d_257 hp h188j t12 (show (0 : Int) ≤ 1 ∧ 1 ≤ 1 by constructor <;> omega)) (fun v168 s167 h191 => ?_)
    obtain ⟨h191r, h191j⟩ := h191
    exact gT_ret ⟨rfl, rfl, rfl, g6, by omega, ⟨l, i, h191j⟩⟩
  refine gT_ite (fun h192 => ?_) (fun h192n => ?_)
  · refine gT_chk (by omega) (by omega) ?_
    refine gT_chk (by omega) (by omega) ?_
    refine gT_v1 (A := fun w9 u9 => True ∧ J (-1, l, l, i, i) u9) (d_309 hp hJ t11 t231) (fun v170 s169 h193 => ?_)
    obtain ⟨h193r, h193j⟩ := h193
    refine gT_chk (by omega) (by omega) ?_
    refine gT_chk (by omega) (by omega) ?_
    refine gT_v1 (A := fun w9 u9 => True ∧ J (-1, l, l, i, i) u9) (d_258 hp h193j t12) (fun v172 s171 h194 => ?_)
    obtain ⟨h194r, h194j⟩ := h194
    exact gT_ret ⟨rfl, rfl, rfl, g6, by omega, ⟨l, i, h194j⟩⟩
  refine gT_ite (fun h195 => ?_) (fun h195n => ?_)
  · refine gT_chk (by omega) (by omega) ?_
    refine gT_v1 (A := fun w9 u9 => True ∧ J (-1, l, l, i, i) u9) (d_129 hp hJ t11) (fun v174 s173 h196 => ?_)
    obtain ⟨h196r, h196j⟩ := h196
    refine gT_chk (by omega) (by omega) ?_
    refine gT_v1 (A := fun w9 u9 => True ∧ J (-1, l, l, i, i) u9) (d_259 hp h196j t12) (fun v176 s175 h197 => ?_)
    obtain ⟨h197r, h197j⟩ := h197
    exact gT_ret ⟨rfl, rfl, rfl, g6, by omega, ⟨l, i, h197j⟩⟩
  refine gT_ite (fun h198 => ?_) (fun h198n => ?_)
  · refine gT_v1 (A := fun w9 u9 => (0 ≤ w9 ∧ w9 ≤ 1) ∧ J (-1, l, l, i, i) u9) (d_130 hp hJ t11) (fun v178 s177 h199 => ?_)
    obtain ⟨h199r, h199j⟩ := h199
    refine gT_v1 (A := fun w9 u9 => (0 ≤ w9 ∧ w9 ≤ 1) ∧ J (-1, l, l, i, i) u9) (d_260 hp h199j t12) (fun v181 s180 h200 => ?_)
    obtain ⟨h200r, h200j⟩ := h200
    exact gT_ret ⟨rfl, rfl, rfl, g6, by omega, ⟨l, i, h200j⟩⟩
  refine gT_ite (fun h201 => ?_) (fun h201n => ?_)
  · refine gT_v0 (A := fun u9 => J (-1, l, l, 1, i) u9) (d_131 hp hJ t11) (fun s183 h202 => ?_)
    have h202j := h202
    refine gT_v0 (A := fun u9 => J (-1, l, l, 1, 1) u9) (d_261 hp h202j t12) (fun s185 h203 => ?_)
    have h203j := h203
    exact gT_ret ⟨rfl, rfl, rfl, g6, by omega, ⟨l, 1, h203j⟩⟩
  refine gT_ite (fun h204 => ?_) (fun h204n => ?_)
  · refine gT_v1 (A := fun w9 u9 => (0 ≤ w9 ∧ w9 ≤ 1) ∧ J (-1, l, l, i, i) u9) (d_132 hp hJ t11) (fun v188 s187 h205 => ?_)
    obtain ⟨h205r, h205j⟩ := h205
    refine gT_v1 (A := fun w9 u9 => (0 ≤ w9 ∧ w9 ≤ 1) ∧ J (-1, l, l, i, i) u9) (d_262 hp h205j t12) (fun v191 s190 h206 => ?_)
    obtain ⟨h206r, h206j⟩ := h206
    exact gT_ret ⟨rfl, rfl, rfl, g6, by omega, ⟨l, i, h206j⟩⟩
  refine gT_ite (fun h207 => ?_) (fun h207n => ?_)
  · refine gT_chk (by omega) (by omega) ?_
    refine gT_v1 (A := fun w9 u9 => True ∧ J (-1, l, l, i, i) u9) (d_133 hp hJ t11) (fun v194 s193 h208 => ?_)
    obtain ⟨h208r, h208j⟩ := h208
    refine gT_chk (by omega) (by omega) ?_
    refine gT_v1 (A := fun w9 u9 => True ∧ J (-1, l, l, i, i) u9) (d_263 hp h208j t12) (fun v196 s195 h209 => ?_)
    obtain ⟨h209r, h209j⟩ := h209
    exact gT_ret ⟨rfl, rfl, rfl, g6, by omega, ⟨l, i, h209j⟩⟩
  exact gT_ret ⟨rfl, rfl, rfl, g6, by omega, ⟨l, i, hJ⟩⟩
