/-! days of the model: what they leave as it is -/
section Gs
variable {W : Nat → Nat → Bool} {g s t : gS}
theorem mnt_p : ∀ x, x < 6 → ∀ j, j < 6 → j ≠ 2 → mnt (40 + 6 * x + j) = true := by decide +kernel
theorem msd_8 {k : Nat} (h : mnt k = true) : msd 218 k = true := by
  unfold msd
  rw [h]
  cases mss 218 k <;> rfl
theorem om_157 {a0 : Nat} {a1 a2 a3 : Int} (hg : RF g) (hU : ∀ a k, msd a k = true → W a k = true) (e0 : a0 = 217) (hx : 0 ≤ a1 ∧ a1 < 6) (hj : (0 ≤ a2 ∧ a2 < 6) ∧ a2 ≠ 2) (h : Fw W g s) : gQ (f_157 a0 a1 a2 a3 s) (fun r => Fw W g r.2.2.2) := by
  subst e0
  have i0_l : g32 (g32 (40 + g32 (6 * a1)) + a2) = 40 + 6 * a1 + a2 := by
    rw [g32_eq (v := 6 * a1) (by omega) (by omega), g32_eq (v := 40 + 6 * a1) (by omega) (by omega), g32_eq (by omega) (by omega)]
  have n0_l : (40 + 6 * a1 + a2).toNat = 40 + 6 * a1.toNat + a2.toNat := by omega
  unfold f_157
  rw [i0_l, n0_l]
  refine gQ_chk (gQ_ret ?_)
  exact Fw_w h (fr_r h rfl (rr_217_1 hg)) (hU _ _ (msd_8 (mnt_p _ (by omega) _ (by omega) (by omega))))
theorem om_201 {a0 : Nat} {a1 : Int} (hg : RF g) (hU : ∀ a k, msd a k = true → W a k = true) (e0 : a0 = 217) (hx : 0 ≤ a1 ∧ a1 < 6) (h : Fw W g s) : gQ (f_201 a0 a1 s) (fun r => Fw W g r.2.2.2) := by
  subst e0
  have hb_l : ∀ (x2_l : Int) (u_l : gS), Fw W g u_l → gQ (fb_201_37 217 a1 x2_l u_l) (fun r => Fw W g r.2.2.2) := by
    intro x2_l u_l hu
    unfold fb_201_37
    refine gQ_v1 (A := Fw W g) (om_156 hg (mqd_o hU) rfl hu) (fun v10 s9 h9 => ?_)
    refine gQ_v0 (A := Fw W g) (om_157 hg hU rfl hx (by decide) h9) (fun s11 h11 => ?_)
    refine gQ_v1 (A := Fw W g) (om_156 hg (mqd_o hU) rfl h11) (fun v14 s13 h13 => ?_)
    refine gQ_v1 (A := Fw W g) (om_155 hg (mqd_o hU) rfl h13) (fun v16 s15 h15 => ?_)
    refine gQ_ite (gQ_ret h15) ?_
    refine gQ_v1 (A := Fw W g) (om_156 hg (mqd_o hU) rfl h15) (fun v18 s17 h17 => ?_)
    refine gQ_v1 (A := Fw W g) (om_155 hg (mqd_o hU) rfl h17) (fun v20 s19 h19 => ?_)
    refine gQ_v1 (A := Fw W g) (om_151 hg (mqd_o hU) h19) (fun v22 s21 h21 => ?_)
    refine gQ_v0 (A := Fw W g) (om_157 hg hU rfl hx (by decide) h21) (fun s23 h23 => ?_)
    refine gQ_v0 (A := Fw W g) (om_157 hg hU rfl hx (by decide) h23) (fun s25 h25 => ?_)
    refine gQ_v0 (A := Fw W g) (om_157 hg hU rfl hx (by decide) h25) (fun s27 h27 => ?_)
    exact gQ_ret h27
  unfold f_201
  refine gQ_v1 (A := Fw W g) (om_156 hg (mqd_o hU) rfl h) (fun v2 s1_l h1 => ?_)
  refine gQ_ite ?_ (gQ_ret h1)
  refine gQ_v1 (A := Fw W g) (om_156 hg (mqd_o hU) rfl h1) (fun v4_l s3_l h3 => ?_)
  refine gQ_ite ?_ (hb_l _ _ h3)
  refine gQ_v1 (A := Fw W g) (om_155 hg (mqd_o hU) rfl h3) (fun v6 s5 h5 => ?_)
  refine gQ_v0 (A := Fw W g) (om_200 hg hU rfl h5) (fun s7 h7 => ?_)
  exact hb_l _ _ h7
/-- goes -/
theorem om_202 {a0 : Nat} {a1 a2 : Int} (hg : RF g) (hU : ∀ a k, msd a k = true → W a k = true) (hm : gI g 218 4 ≤ 6) (h4 : W 218 4 = false) (e0 : a0 = 217) (h : Fw W g s) : gQ (f_202 a0 a1 a2 s) (fun r => Fw W g r.2.2.2) := by
  subst e0
  have hr : ∀ {u_l : gS}, Fw W g u_l → gR u_l 217 1 = 218 := fun hu => fr_r hu rfl (rr_217_1 hg)
  unfold f_202
  refine gQ_loop (fun y_l => y_l.1 = 217 ∧ Fw W g y_l.2.2.2.2.2) (fun y_l hy => ?_) ⟨rfl, h⟩
  obtain ⟨x0_l, x1_l, x2_l, x3, x4_l, y1⟩ := y_l
  obtain ⟨q0, h1⟩ := hy
  dsimp only at q0 h1
  subst q0
  show gQ (sb_202_5 217 x1_l x2_l x3 x4_l y1) _
  unfold sb_202_5
  refine gQ_ite ?_ (gQ_map (gQ_ret h1))
  have h164 : ∀ (z1 : Int) (u_l : gS), Fw W g u_l → gQ (fb_202_164 217 x1_l x2_l z1 x4_l u_l) (Sum.elim (fun y_l => y_l.1 = 217 ∧ Fw W g y_l.2.2.2.2.2) (fun r => Fw W g r.2.2.2)) := by
    intro z1 u_l hu
    unfold fb_202_164
    refine gQ_v1 (A := Fw W g) (om_151 hg (mqd_o hU) hu) (fun v21 s20 h20 => ?_)
    exact gQ_ret ⟨rfl, Fw_w h20 (hr hu) (hU 218 7 rfl)⟩
  refine gQ_loop (fun y_l => y_l.1 = 217 ∧ (y_l.2.1 = x1_l ∧ y_l.2.2.1 = x2_l ∧ y_l.2.2.2.2.1 = x4_l) ∧ 0 ≤ y_l.2.2.2.2.2.2.1 ∧ Fw W g y_l.2.2.2.2.2.2.2) (fun y_l hy => ?_) ⟨rfl, ⟨rfl, rfl, rfl⟩, Int.le_refl 0, h1⟩
  obtain ⟨z0, z1, z2, z3, z4, z5, z6, y2⟩ := y_l
  obtain ⟨q0, ⟨q1_l, q2_l, q4_l⟩, h6, h2⟩ := hy
  dsimp only at q0 q1_l q2_l q4_l h6 h2
  subst q0 q1_l q2_l q4_l
  show gQ (sb_202_17 217 z1 z2 z3 z4 z5 z6 y2) _
  unfold sb_202_17
  have hc_l : gI y2 218 4 ≤ 6 := by
    rw [h2.2.2 218 4 (Nat.lt_of_lt_of_le (by decide) h2.1.1) h4]
    exact hm
  by_cases c6 : z6 < gI y2 (gR y2 217 1) 4
  · rw [if_pos c6]
    rw [hr h2] at c6
    have hx : 0 ≤ z6 ∧ z6 < 6 := by omega
    have n6_l : 0 ≤ g32 (z6 + 1) := by
      rw [g32_eq (v := z6 + 1) (by omega) (by omega)]
      omega
    refine gQ_v1 (A := Fw W g) (om_165 hg (mqd_o hU) rfl h2) (fun v2 s1_l h3 => ?_)
    refine gQ_ite (gQ_ret ⟨rfl, ⟨rfl, rfl, rfl⟩, n6_l, h3⟩) ?_
    refine gQ_v0 (A := Fw W g) (om_201 hg hU rfl hx h3) (fun s4_l h5 => ?_)
    refine gQ_v1 (A := Fw W g) (om_156 hg (mqd_o hU) rfl h5) (fun v7 s6_l h7 => ?_)
    refine gQ_v1 (A := Fw W g) (om_198 hg (mqd_o hU) rfl h7) (fun v9 s8 h9 => ?_)
    refine gQ_v1 (A := Fw W g) (om_151 hg (mqd_o hU) h9) (fun v11 s10 h11 => ?_)
    refine gQ_v1 (A := Fw W g) (om_152 hg (mqd_o hU) h11) (fun v13 s12 h13 => ?_)
    refine gQ_v0 (A := Fw W g) (om_157 hg hU rfl hx (by decide) h13) (fun s14 h15 => ?_)
    refine gQ_v1 (A := Fw W g) (om_156 hg (mqd_o hU) rfl h15) (fun v17 s16 h17 => ?_)
    refine gQ_ite ?_ (gQ_ret ⟨rfl, ⟨rfl, rfl, rfl⟩, n6_l, h17⟩)
    refine gQ_v0 (A := Fw W g) (om_157 hg hU rfl hx (by decide) h17) (fun s18 h19 => ?_)
    exact gQ_ret ⟨rfl, ⟨rfl, rfl, rfl⟩, n6_l, h19⟩
  · rw [if_neg c6]
    refine gQ_map ?_
    refine gQ_ite (h164 _ _ h2) ?_
    refine gQ_v1 (A := Fw W g) (om_199 hg hU rfl h2) (fun v24 s23 h23 => ?_)
    refine gQ_ite (gQ_ite ?_ (h164 _ _ h23)) (h164 _ _ h23)
    refine gQ_v1 (A := Fw W g) (om_151 hg (mqd_o hU) h23) (fun v26 s25 h25 => ?_)
    exact h164 _ _ (Fw_w h25 (hr h23) (hU 218 8 rfl))
theorem RF_fw (hg : RF g) (h : Fw W g s) : RF s := fun a_l k_l ha_l hn => (h.2.1 a_l k_l (Nat.lt_of_lt_of_le ha_l h.1.1)).trans (hg a_l k_l ha_l hn)
theorem Fw_232 (h : Fw W g s) : 232 ≤ gn s := Nat.le_trans h.1.1 h.1.2.1
theorem Fw_tr {U : Nat → Nat → Bool} (h : Fw W g t) (h2 : Fw U t s) (hU : ∀ a k, U a k = true → W a k = true) : Fw W g s := by
  refine ⟨⟨h.1.1, Nat.le_trans h.1.2.1 h2.1.2.1, fun a ha_l => ?_⟩, fun a k ha_l => ?_, fun a k ha_l hf => ?_⟩
  · exact (h2.1.2.2 a (Nat.lt_of_lt_of_le ha_l h.1.2.1)).trans (h.1.2.2 a ha_l)
  · exact (h2.2.1 a k (Nat.lt_of_lt_of_le ha_l h.1.2.1)).trans (h.2.1 a k ha_l)
  · refine (h2.2.2 a k (Nat.lt_of_lt_of_le ha_l h.1.2.1) ?_).trans (h.2.2 a k ha_l hf)
    cases hc : U a k with
    | false => rfl
    | true => rw [hU a k hc] at hf; cases hf
/-- the row is put aside -/
def Asd (s : gS) : Prop := ∀ k, k < 340 → gI s 220 k = gI s 218 k
theorem x_185 (h1 : gR s 217 1 = 218) (h4 : gR s 217 4 = 220) : gQ (f_185 217 s) (fun r => Sm s r.2.2.2 ∧ Asd r.2.2.2 ∧ ∀ a k, a ≠ 220 → gI r.2.2.2 a k = gI s a k) := by
  unfold f_185
  refine gQ_loop (fun y_l => y_l.1 = 217 ∧ (0 ≤ y_l.2.1 ∧ y_l.2.1 ≤ 340) ∧ Sm s y_l.2.2 ∧ (∀ k : Nat, (k : Int) < y_l.2.1 → gI y_l.2.2 220 k = gI s 218 k) ∧ ∀ a k, a ≠ 220 → gI y_l.2.2 a k = gI s a k) (fun y_l hy => ?_) ⟨rfl, ⟨Int.le_refl 0, (by decide : (0 : Int) ≤ 340)⟩, ⟨rfl, rfl, rfl⟩, fun k hk => by dsimp only at hk; omega, fun _ _ _ => rfl⟩
  obtain ⟨x0_l, x1_l, y1⟩ := y_l
  obtain ⟨q0, hb_l, hs, h5, h6⟩ := hy
  dsimp only at q0 hb_l hs h5 h6
  subst q0
  have r1_l : gR y1 217 1 = 218 := by
    show y1.2.2.2 217 1 = 218
    rw [hs.2.2]
    exact h1
  have r4 : gR y1 217 4 = 220 := by
    show y1.2.2.2 217 4 = 220
    rw [hs.2.2]
    exact h4
  show gQ (sb_185_2 217 x1_l y1) _
  unfold sb_185_2
  by_cases c : x1_l < 340
  · rw [if_pos c, r1_l, r4]
    refine gQ_chk (gQ_chk (gQ_ret ⟨rfl, ?_, hs, fun k hk => ?_, fun a k ha_l => ?_⟩))
    · dsimp only
      rw [g32_eq (v := x1_l + 1) (by omega) (by omega)]
      omega
    · dsimp only at hk ⊢
      rw [g32_eq (v := x1_l + 1) (by omega) (by omega)] at hk
      show (if 220 = 220 ∧ k = x1_l.toNat then gI y1 218 x1_l.toNat else gI y1 220 k) = _
      by_cases ck : k = x1_l.toNat
      · rw [if_pos ⟨rfl, ck⟩, ck]
        exact h6 218 _ (by decide)
      · rw [if_neg (fun z_l => ck z_l.2)]
        exact h5 k (by omega)
    · dsimp only
      exact (rd_a rfl ha_l).trans (h6 a k ha_l)
  · rw [if_neg c]
    refine gQ_map (gQ_ret ⟨hs, fun k hk => ?_, h6⟩)
    dsimp only
    rw [h5 k (by omega), h6 218 k (by decide)]
theorem x_186 (h1 : gR s 217 1 = 218) (h4 : gR s 217 4 = 220) : gQ (f_186 217 s) (fun r => Sm s r.2.2.2 ∧ (∀ k, k < 340 → gI r.2.2.2 218 k = gI s 220 k) ∧ ∀ a k, ¬ (a = 218 ∧ k < 340) → gI r.2.2.2 a k = gI s a k) := by
  unfold f_186
  refine gQ_loop (fun y_l => y_l.1 = 217 ∧ (0 ≤ y_l.2.1 ∧ y_l.2.1 ≤ 340) ∧ Sm s y_l.2.2 ∧ (∀ k : Nat, (k : Int) < y_l.2.1 → gI y_l.2.2 218 k = gI s 220 k) ∧ ∀ a k, ¬ (a = 218 ∧ k < 340) → gI y_l.2.2 a k = gI s a k) (fun y_l hy => ?_) ⟨rfl, ⟨Int.le_refl 0, (by decide : (0 : Int) ≤ 340)⟩, ⟨rfl, rfl, rfl⟩, fun k hk => by dsimp only at hk; omega, fun _ _ _ => rfl⟩
  obtain ⟨x0_l, x1_l, y1⟩ := y_l
  obtain ⟨q0, hb_l, hs, h5, h6⟩ := hy
  dsimp only at q0 hb_l hs h5 h6
  subst q0
  have r1_l : gR y1 217 1 = 218 := by
    show y1.2.2.2 217 1 = 218
    rw [hs.2.2]
    exact h1
  have r4 : gR y1 217 4 = 220 := by
    show y1.2.2.2 217 4 = 220
    rw [hs.2.2]
    exact h4
  show gQ (sb_186_2 217 x1_l y1) _
  unfold sb_186_2
  by_cases c : x1_l < 340
  · rw [if_pos c, r1_l, r4]
    refine gQ_chk (gQ_chk (gQ_ret ⟨rfl, ?_, hs, fun k hk => ?_, fun a k ha_l => ?_⟩))
    · dsimp only
      rw [g32_eq (v := x1_l + 1) (by omega) (by omega)]
      omega
    · dsimp only at hk ⊢
      rw [g32_eq (v := x1_l + 1) (by omega) (by omega)] at hk
      show (if 218 = 218 ∧ k = x1_l.toNat then gI y1 220 x1_l.toNat else gI y1 218 k) = _
      by_cases ck : k = x1_l.toNat
      · rw [if_pos ⟨rfl, ck⟩, ck]
        exact h6 220 _ (by omega)
      · rw [if_neg (fun z_l => ck z_l.2)]
        exact h5 k (by omega)
    · dsimp only
      show (if a = 218 ∧ k = x1_l.toNat then gI y1 220 x1_l.toNat else gI y1 a k) = _
      rw [if_neg (fun z_l => ha_l ⟨z_l.1, by omega⟩)]
      exact h6 a k ha_l
  · rw [if_neg c]
    refine gQ_map (gQ_ret ⟨hs, fun k hk => h5 k (by omega), h6⟩)
theorem Fw_sm {u : gS} (h : Fw W g s) (hs : Sm s u) (hi : ∀ a k, a < gn g → W a k = false → gI u a k = gI s a k) : Fw W g u := by
  obtain ⟨q1_l, q2_l, q3_l⟩ := hs
  have hn : gn u = gn s := q1_l
  refine ⟨⟨h.1.1, by rw [hn]; exact h.1.2.1, fun a ha_l => ?_⟩, fun a k ha_l => ?_, fun a k ha_l hf => (hi a k ha_l hf).trans (h.2.2 a k ha_l hf)⟩
  · show u.2.1 a = _
    rw [q2_l]
    exact h.1.2.2 a ha_l
  · show u.2.2.2 a k = _
    rw [q3_l]
    exact h.2.1 a k ha_l
theorem pa_185 {a0 : Nat} (hg : RF g) (hU : ∀ k, W 220 k = true) (e0 : a0 = 217) (h : Fw W g s) : gQ (f_185 a0 s) (fun r => Fw W g r.2.2.2 ∧ Asd r.2.2.2) := by
  subst e0
  intro r hr
  obtain ⟨h1, h2, h3⟩ := x_185 (fr_r h rfl (rr_217_1 hg)) (fr_r h rfl (rr_217_4 hg)) r hr
  exact ⟨Fw_sm h h1 (fun a_l k _ hf => h3 a_l k (fun z_l => by rw [z_l, hU] at hf; cases hf)), h2⟩
theorem mss_no : (∀ k, mss 220 k = false) ∧ ∀ k, mss 218 k = false := ⟨fun _ => rfl, fun _ => rfl⟩
theorem mnt_4 {k : Nat} (h : mnt k = true) : k < 340 := by
  unfold mnt at h
  simp only [Bool.or_eq_true, Bool.and_eq_true, Nat.ble_eq] at h
  omega
theorem pa_186 {a0 : Nat} (hg : RF t) (hA : Asd t) (e0 : a0 = 217) (h : Fw msd t s) : gQ (f_186 a0 s) (fun r => Fw mss t r.2.2.2) := by
  subst e0
  intro r hr
  obtain ⟨⟨q1_l, q2_l, q3_l⟩, h2, h3⟩ := x_186 (fr_r h rfl (rr_217_1 hg)) (fr_r h rfl (rr_217_4 hg)) r hr
  have hn : gn r.2.2.2 = gn s := q1_l
  refine ⟨⟨h.1.1, by rw [hn]; exact h.1.2.1, fun a_l ha_l => ?_⟩, fun a_l k_l ha_l => ?_, fun a_l k_l ha_l hf => ?_⟩
  · show r.2.2.2.2.1 a_l = _
    rw [q2_l]
    exact h.1.2.2 a_l ha_l
  · show r.2.2.2.2.2.2 a_l k_l = _
    rw [q3_l]
    exact h.2.1 a_l k_l ha_l
  · by_cases c : a_l = 218 ∧ k_l < 340
    · obtain ⟨rfl, ck⟩ := c
      rw [h2 k_l ck, h.2.2 220 k_l (Nat.lt_of_lt_of_le (by decide) h.1.1) (by unfold msd; rw [mss_no.1]; rfl)]
      exact hA k_l ck
    · rw [h3 a_l k_l c]
      refine h.2.2 a_l k_l ha_l ?_
      unfold msd
      rw [hf]
      by_cases ca : a_l = 218
      · cases hm : mnt k_l with
        | false => cases Nat.beq a_l 218 <;> rfl
        | true => exact absurd ⟨ca, mnt_4 hm⟩ c
      · rw [es_beqf.mpr ca]
        rfl
end Gs
