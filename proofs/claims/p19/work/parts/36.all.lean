section
/-! days of the model: what they leave as it is -/
section Gs
variable {W : Nat → Nat → Bool} {g s t : gS}
theorem mnt_p : ∀ x, x < 6 → ∀ j, j < 6 → j ≠ 2 → mnt (40 + 6 * x + j) = true := by decide +kernel
theorem msd_8 {k : Nat} (h : mnt k = true) : msd 218 k = true := by
  unfold msd
  rw [h]
  cases mss 218 k <;> rfl
theorem om_157 {a0 : Nat} {a1 a2 a3 : Int} (hg : RF g) (hU : ∀ a k, msd a k = true → W a k = true) (e0 : a0 = 217) (hx : 0 ≤ a1 ∧ a1 < 6) (hj : (0 ≤ a2 ∧ a2 < 6) ∧ a2 ≠ 2) (h : Fw W g s) : gQ (f_157 a0 a1 a2 a3 s) (fun r => Fw W g r.2.2.2) := by
  subst e0
  have i0_l : g32 (g32 (40 + g32 (6 * a1)) + a2) = 40 + 6 * a1 + a2 := by
    rw [g32_eq (v := 6 * a1) (by omega) (by omega), g32_eq (v := 40 + 6 * a1) (by omega) (by omega), g32_eq (by omega) (by omega)]
  have n0_l : (40 + 6 * a1 + a2).toNat = 40 + 6 * a1.toNat + a2.toNat := by omega
  unfold f_157
  rw [i0_l, n0_l]
  refine gQ_chk (gQ_ret ?_)
  exact Fw_w h (fr_r h rfl (rr_217_1 hg)) (hU _ _ (msd_8 (mnt_p _ (by omega) _ (by omega) (by omega))))
theorem om_201 {a0 : Nat} {a1 : Int} (hg : RF g) (hU : ∀ a k, msd a k = true → W a k = true) (e0 : a0 = 217) (hx : 0 ≤ a1 ∧ a1 < 6) (h : Fw W g s) : gQ (f_201 a0 a1 s) (fun r => Fw W g r.2.2.2) := by
  subst e0
  have hb_l : ∀ (x2_l : Int) (u_l : gS), Fw W g u_l → gQ (fb_201_37 217 a1 x2_l u_l) (fun r => Fw W g r.2.2.2) := by
    intro x2_l u_l hu
    unfold fb_201_37
    refine gQ_v1 (A := Fw W g) (om_156 hg (mqd_o hU) rfl hu) (fun v10 s9 h9 => ?_)
    refine gQ_v0 (A := Fw W g) (om_157 hg hU rfl hx (by decide) h9) (fun s11 h11 => ?_)
    refine gQ_v1 (A := Fw W g) (om_156 hg (mqd_o hU) rfl h11) (fun v14 s13 h13 => ?_)
    refine gQ_v1 (A := Fw W g) (om_155 hg (mqd_o hU) rfl h13) (fun v16 s15 h15 => ?_)
    refine gQ_ite (gQ_ret h15) ?_
    refine gQ_v1 (A := Fw W g) (om_156 hg (mqd_o hU) rfl h15) (fun v18 s17 h17 => ?_)
    refine gQ_v1 (A := Fw W g) (om_155 hg (mqd_o hU) rfl h17) (fun v20 s19 h19 => ?_)
    refine gQ_v1 (A := Fw W g) (om_151 hg (mqd_o hU) h19) (fun v22 s21 h21 => ?_)
    refine gQ_v0 (A := Fw W g) (om_157 hg hU rfl hx (by decide) h21) (fun s23 h23 => ?_)
    refine gQ_v0 (A := Fw W g) (om_157 hg hU rfl hx (by decide) h23) (fun s25 h25 => ?_)
    refine gQ_v0 (A := Fw W g) (om_157 hg hU rfl hx (by decide) h25) (fun s27 h27 => ?_)
    exact gQ_ret h27
  unfold f_201
  refine gQ_v1 (A := Fw W g) (om_156 hg (mqd_o hU) rfl h) (fun v2 s1_l h1 => ?_)
  refine gQ_ite ?_ (gQ_ret h1)
  refine gQ_v1 (A := Fw W g) (om_156 hg (mqd_o hU) rfl h1) (fun v4_l s3_l h3 => ?_)
  refine gQ_ite ?_ (hb_l _ _ h3)
  refine gQ_v1 (A := Fw W g) (om_155 hg (mqd_o hU) rfl h3) (fun v6 s5 h5 => ?_)
  refine gQ_v0 (A := Fw W g) (om_200 hg hU rfl h5) (fun s7 h7 => ?_)
  exact hb_l _ _ h7
/-- goes -/
theorem om_202 {a0 : Nat} {a1 a2 : Int} (hg : RF g) (hU : ∀ a k, msd a k = true → W a k = true) (hm : gI g 218 4 ≤ 6) (h4 : W 218 4 = false) (e0 : a0 = 217) (h : Fw W g s) : gQ (f_202 a0 a1 a2 s) (fun r => Fw W g r.2.2.2) := by
  subst e0
  have hr : ∀ {u_l : gS}, Fw W g u_l → gR u_l 217 1 = 218 := fun hu => fr_r hu rfl (rr_217_1 hg)
  unfold f_202
  refine gQ_loop (fun y_l => y_l.1 = 217 ∧ Fw W g y_l.2.2.2.2.2) (fun y_l hy => ?_) ⟨rfl, h⟩
  obtain ⟨x0_l, x1_l, x2_l, x3, x4_l, y1⟩ := y_l
  obtain ⟨q0, h1⟩ := hy
  dsimp only at q0 h1
  subst q0
  show gQ (sb_202_5 217 x1_l x2_l x3 x4_l y1) _
  unfold sb_202_5
  refine gQ_ite ?_ (gQ_map (gQ_ret h1))
  have h164 : ∀ (z1 : Int) (u_l : gS), Fw W g u_l → gQ (fb_202_164 217 x1_l x2_l z1 x4_l u_l) (Sum.elim (fun y_l => y_l.1 = 217 ∧ Fw W g y_l.2.2.2.2.2) (fun r => Fw W g r.2.2.2)) := by
    intro z1 u_l hu
    unfold fb_202_164
    refine gQ_v1 (A := Fw W g) (om_151 hg (mqd_o hU) hu) (fun v21 s20 h20 => ?_)
    exact gQ_ret ⟨rfl, Fw_w h20 (hr hu) (hU 218 7 rfl)⟩
  refine gQ_loop (fun y_l => y_l.1 = 217 ∧ (y_l.2.1 = x1_l ∧ y_l.2.2.1 = x2_l ∧ y_l.2.2.2.2.1 = x4_l) ∧ 0 ≤ y_l.2.2.2.2.2.2.1 ∧ Fw W g y_l.2.2.2.2.2.2.2) (fun y_l hy => ?_) ⟨rfl, ⟨rfl, rfl, rfl⟩, Int.le_refl 0, h1⟩
  obtain ⟨z0, z1, z2, z3, z4, z5, z6, y2⟩ := y_l
  obtain ⟨q0, ⟨q1_l, q2_l, q4_l⟩, h6, h2⟩ := hy
  dsimp only at q0 q1_l q2_l q4_l h6 h2
  subst q0 q1_l q2_l q4_l
  show gQ (sb_202_17 217 z1 z2 z3 z4 z5 z6 y2) _
  unfold sb_202_17
  have hc_l : gI y2 218 4 ≤ 6 := by
    rw [h2.2.2 218 4 (Nat.lt_of_lt_of_le (by decide) h2.1.1) h4]
    exact hm
  by_cases c6 : z6 < gI y2 (gR y2 217 1) 4
  · rw [if_pos c6]
    rw [hr h2] at c6
    have hx : 0 ≤ z6 ∧ z6 < 6 := by omega
    have n6_l : 0 ≤ g32 (z6 + 1) := by
      rw [g32_eq (v := z6 + 1) (by omega) (by omega)]
      omega
    refine gQ_v1 (A := Fw W g) (om_165 hg (mqd_o hU) rfl h2) (fun v2 s1_l h3 => ?_)
    refine gQ_ite (gQ_ret ⟨rfl, ⟨rfl, rfl, rfl⟩, n6_l, h3⟩) ?_
    refine gQ_v0 (A := Fw W g) (om_201 hg hU rfl hx h3) (fun s4_l h5 => ?_)
    refine gQ_v1 (A := Fw W g) (om_156 hg (mqd_o hU) rfl h5) (fun v7 s6_l h7 => ?_)
    refine gQ_v1 (A := Fw W g) (om_198 hg (mqd_o hU) rfl h7) (fun v9 s8 h9 => ?_)
    refine gQ_v1 (A := Fw W g) (om_151 hg (mqd_o hU) h9) (fun v11 s10 h11 => ?_)
    refine gQ_v1 (A := Fw W g) (om_152 hg (mqd_o hU) h11) (fun v13 s12 h13 => ?_)
    refine gQ_v0 (A := Fw W g) (om_157 hg hU rfl hx (by decide) h13) (fun s14 h15 => ?_)
    refine gQ_v1 (A := Fw W g) (om_156 hg (mqd_o hU) rfl h15) (fun v17 s16 h17 => ?_)
    refine gQ_ite ?_ (gQ_ret ⟨rfl, ⟨rfl, rfl, rfl⟩, n6_l, h17⟩)
    refine gQ_v0 (A := Fw W g) (om_157 hg hU rfl hx (by decide) h17) (fun s18 h19 => ?_)
    exact gQ_ret ⟨rfl, ⟨rfl, rfl, rfl⟩, n6_l, h19⟩
  · rw [if_neg c6]
    refine gQ_map ?_
    refine gQ_ite (h164 _ _ h2) ?_
    refine gQ_v1 (A := Fw W g) (om_199 hg hU rfl h2) (fun v24 s23 h23 => ?_)
    refine gQ_ite (gQ_ite ?_ (h164 _ _ h23)) (h164 _ _ h23)
    refine gQ_v1 (A := Fw W g) (om_151 hg (mqd_o hU) h23) (fun v26 s25 h25 => ?_)
    exact h164 _ _ (Fw_w h25 (hr h23) (hU 218 8 rfl))
theorem RF_fw (hg : RF g) (h : Fw W g s) : RF s := fun a_l k_l ha_l hn => (h.2.1 a_l k_l (Nat.lt_of_lt_of_le ha_l h.1.1)).trans (hg a_l k_l ha_l hn)
theorem Fw_232 (h : Fw W g s) : 232 ≤ gn s := Nat.le_trans h.1.1 h.1.2.1
theorem Fw_tr {U : Nat → Nat → Bool} (h : Fw W g t) (h2 : Fw U t s) (hU : ∀ a k, U a k = true → W a k = true) : Fw W g s := by
  refine ⟨⟨h.1.1, Nat.le_trans h.1.2.1 h2.1.2.1, fun a ha_l => ?_⟩, fun a k ha_l => ?_, fun a k ha_l hf => ?_⟩
  · exact (h2.1.2.2 a (Nat.lt_of_lt_of_le ha_l h.1.2.1)).trans (h.1.2.2 a ha_l)
  · exact (h2.2.1 a k (Nat.lt_of_lt_of_le ha_l h.1.2.1)).trans (h.2.1 a k ha_l)
  · refine (h2.2.2 a k (Nat.lt_of_lt_of_le ha_l h.1.2.1) ?_).trans (h.2.2 a k ha_l hf)
    cases hc : U a k with
    | false => rfl
    | true => rw [hU a k hc] at hf; cases hf
/-- the row is put aside -/
noncomputable def Asd (s : gS) : Prop := ∀ k, k < 340 → gI s 220 k = gI s 218 k
theorem x_185 (h1 : gR s 217 1 = 218) (h4 : gR s 217 4 = 220) : gQ (f_185 217 s) (fun r => Sm s r.2.2.2 ∧ Asd r.2.2.2 ∧ ∀ a k, a ≠ 220 → gI r.2.2.2 a k = gI s a k) := by
  unfold f_185
  refine gQ_loop (fun y_l => y_l.1 = 217 ∧ (0 ≤ y_l.2.1 ∧ y_l.2.1 ≤ 340) ∧ Sm s y_l.2.2 ∧ (∀ k : Nat, (k : Int) < y_l.2.1 → gI y_l.2.2 220 k = gI s 218 k) ∧ ∀ a k, a ≠ 220 → gI y_l.2.2 a k = gI s a k) (fun y_l hy => ?_) ⟨rfl, ⟨Int.le_refl 0, (by decide : (0 : Int) ≤ 340)⟩, ⟨rfl, rfl, rfl⟩, fun k hk => by dsimp only at hk; omega, fun _ _ _ => rfl⟩
  obtain ⟨x0_l, x1_l, y1⟩ := y_l
  obtain ⟨q0, hb_l, hs, h5, h6⟩ := hy
  dsimp only at q0 hb_l hs h5 h6
  subst q0
  have r1_l : gR y1 217 1 = 218 := by
    show y1.2.2.2 217 1 = 218
    rw [hs.2.2]
    exact h1
  have r4 : gR y1 217 4 = 220 := by
    show y1.2.2.2 217 4 = 220
    rw [hs.2.2]
    exact h4
  show gQ (sb_185_2 217 x1_l y1) _
  unfold sb_185_2
  by_cases c : x1_l < 340
  · rw [if_pos c, r1_l, r4]
    refine gQ_chk (gQ_chk (gQ_ret ⟨rfl, ?_, hs, fun k hk => ?_, fun a k ha_l => ?_⟩))
    · dsimp only
      rw [g32_eq (v := x1_l + 1) (by omega) (by omega)]
      omega
    · dsimp only at hk ⊢
      rw [g32_eq (v := x1_l + 1) (by omega) (by omega)] at hk
      show (if 220 = 220 ∧ k = x1_l.toNat then gI y1 218 x1_l.toNat else gI y1 220 k) = _
      by_cases ck : k = x1_l.toNat
      · rw [if_pos ⟨rfl, ck⟩, ck]
        exact h6 218 _ (by decide)
      · rw [if_neg (fun z_l => ck z_l.2)]
        exact h5 k (by omega)
    · dsimp only
      exact (rd_a rfl ha_l).trans (h6 a k ha_l)
  · rw [if_neg c]
    refine gQ_map (gQ_ret ⟨hs, fun k hk => ?_, h6⟩)
    dsimp only
    rw [h5 k (by omega), h6 218 k (by decide)]
theorem x_186 (h1 : gR s 217 1 = 218) (h4 : gR s 217 4 = 220) : gQ (f_186 217 s) (fun r => Sm s r.2.2.2 ∧ (∀ k, k < 340 → gI r.2.2.2 218 k = gI s 220 k) ∧ ∀ a k, ¬ (a = 218 ∧ k < 340) → gI r.2.2.2 a k = gI s a k) := by
  unfold f_186
  refine gQ_loop (fun y_l => y_l.1 = 217 ∧ (0 ≤ y_l.2.1 ∧ y_l.2.1 ≤ 340) ∧ Sm s y_l.2.2 ∧ (∀ k : Nat, (k : Int) < y_l.2.1 → gI y_l.2.2 218 k = gI s 220 k) ∧ ∀ a k, ¬ (a = 218 ∧ k < 340) → gI y_l.2.2 a k = gI s a k) (fun y_l hy => ?_) ⟨rfl, ⟨Int.le_refl 0, (by decide : (0 : Int) ≤ 340)⟩, ⟨rfl, rfl, rfl⟩, fun k hk => by dsimp only at hk; omega, fun _ _ _ => rfl⟩
  obtain ⟨x0_l, x1_l, y1⟩ := y_l
  obtain ⟨q0, hb_l, hs, h5, h6⟩ := hy
  dsimp only at q0 hb_l hs h5 h6
  subst q0
  have r1_l : gR y1 217 1 = 218 := by
    show y1.2.2.2 217 1 = 218
    rw [hs.2.2]
    exact h1
  have r4 : gR y1 217 4 = 220 := by
    show y1.2.2.2 217 4 = 220
    rw [hs.2.2]
    exact h4
  show gQ (sb_186_2 217 x1_l y1) _
  unfold sb_186_2
  by_cases c : x1_l < 340
  · rw [if_pos c, r1_l, r4]
    refine gQ_chk (gQ_chk (gQ_ret ⟨rfl, ?_, hs, fun k hk => ?_, fun a k ha_l => ?_⟩))
    · dsimp only
      rw [g32_eq (v := x1_l + 1) (by omega) (by omega)]
      omega
    · dsimp only at hk ⊢
      rw [g32_eq (v := x1_l + 1) (by omega) (by omega)] at hk
      show (if 218 = 218 ∧ k = x1_l.toNat then gI y1 220 x1_l.toNat else gI y1 218 k) = _
      by_cases ck : k = x1_l.toNat
      · rw [if_pos ⟨rfl, ck⟩, ck]
        exact h6 220 _ (by omega)
      · rw [if_neg (fun z_l => ck z_l.2)]
        exact h5 k (by omega)
    · dsimp only
      show (if a = 218 ∧ k = x1_l.toNat then gI y1 220 x1_l.toNat else gI y1 a k) = _
      rw [if_neg (fun z_l => ha_l ⟨z_l.1, by omega⟩)]
      exact h6 a k ha_l
  · rw [if_neg c]
    refine gQ_map (gQ_ret ⟨hs, fun k hk => h5 k (by omega), h6⟩)
theorem Fw_sm {u : gS} (h : Fw W g s) (hs : Sm s u) (hi : ∀ a k, a < gn g → W a k = false → gI u a k = gI s a k) : Fw W g u := by
  obtain ⟨q1_l, q2_l, q3_l⟩ := hs
  have hn : gn u = gn s := q1_l
  refine ⟨⟨h.1.1, by rw [hn]; exact h.1.2.1, fun a ha_l => ?_⟩, fun a k ha_l => ?_, fun a k ha_l hf => (hi a k ha_l hf).trans (h.2.2 a k ha_l hf)⟩
  · show u.2.1 a = _
    rw [q2_l]
    exact h.1.2.2 a ha_l
  · show u.2.2.2 a k = _
    rw [q3_l]
    exact h.2.1 a k ha_l
theorem pa_185 {a0 : Nat} (hg : RF g) (hU : ∀ k, W 220 k = true) (e0 : a0 = 217) (h : Fw W g s) : gQ (f_185 a0 s) (fun r => Fw W g r.2.2.2 ∧ Asd r.2.2.2) := by
  subst e0
  intro r hr
  obtain ⟨h1, h2, h3⟩ := x_185 (fr_r h rfl (rr_217_1 hg)) (fr_r h rfl (rr_217_4 hg)) r hr
  exact ⟨Fw_sm h h1 (fun a_l k _ hf => h3 a_l k (fun z_l => by rw [z_l, hU] at hf; cases hf)), h2⟩
theorem mss_no : (∀ k, mss 220 k = false) ∧ ∀ k, mss 218 k = false := ⟨fun _ => rfl, fun _ => rfl⟩
theorem mnt_4 {k : Nat} (h : mnt k = true) : k < 340 := by
  unfold mnt at h
  simp only [Bool.or_eq_true, Bool.and_eq_true, Nat.ble_eq] at h
  omega
theorem pa_186 {a0 : Nat} (hg : RF t) (hA : Asd t) (e0 : a0 = 217) (h : Fw msd t s) : gQ (f_186 a0 s) (fun r => Fw mss t r.2.2.2) := by
  subst e0
  intro r hr
  obtain ⟨⟨q1_l, q2_l, q3_l⟩, h2, h3⟩ := x_186 (fr_r h rfl (rr_217_1 hg)) (fr_r h rfl (rr_217_4 hg)) r hr
  have hn : gn r.2.2.2 = gn s := q1_l
  refine ⟨⟨h.1.1, by rw [hn]; exact h.1.2.1, fun a_l ha_l => ?_⟩, fun a_l k_l ha_l => ?_, fun a_l k_l ha_l hf => ?_⟩
  · show r.2.2.2.2.1 a_l = _
    rw [q2_l]
    exact h.1.2.2 a_l ha_l
  · show r.2.2.2.2.2.2 a_l k_l = _
    rw [q3_l]
    exact h.2.1 a_l k_l ha_l
  · by_cases c : a_l = 218 ∧ k_l < 340
    · obtain ⟨rfl, ck⟩ := c
      rw [h2 k_l ck, h.2.2 220 k_l (Nat.lt_of_lt_of_le (by decide) h.1.1) (by unfold msd; rw [mss_no.1]; rfl)]
      exact hA k_l ck
    · rw [h3 a_l k_l c]
      refine h.2.2 a_l k_l ha_l ?_
      unfold msd
      rw [hf]
      by_cases ca : a_l = 218
      · cases hm : mnt k_l with
        | false => cases Nat.beq a_l 218 <;> rfl
        | true => exact absurd ⟨ca, mnt_4 hm⟩ c
      · rw [es_beqf.mpr ca]
        rfl
end Gs

end
section
theorem id_U : ∀ a k, msd a k = true → msd a k = true := fun _ _ h_l => h_l
theorem om_219 {W : Nat → Nat → Bool} {g s : gS} {a0 : Nat} {a1 : Int} {a2 : Int} {a3 : Int} (hg_o : RF g) (hU_o : ∀ a k, mss a k = true → W a k = true)  (hA_o : ∀ k, W 220 k = true) (hm_o : gI g 218 4 ≤ 6) (hw4_o : W 218 4 = false) (ea0_o : a0 = 217) (h_o : Fw W g s) : gQ (f_219 a0 a1 a2 a3 s) (fun r => Fw W g r.2.2.2) := by
  subst ea0_o
  unfold f_219
  refine gQ_v1 (A := Fw W g) (om_162 hg_o hU_o rfl h_o) (fun v2 s1_l h1763_o => ?_)
  refine gQ_ite ?_ ?_
  · unfold fb_219_42
    dsimp only
    refine gQ_ite ?_ ?_
    · exact gQ_ret (Fw_w h1763_o rfl (hU_o 217 _ rfl))
    · refine gQ_v0 (A := fun u_o => Fw W g u_o ∧ Asd u_o) (pa_185 hg_o hA_o rfl (Fw_w h1763_o rfl (hU_o 217 _ rfl))) (fun s5 hp1764_o => ?_)
      have hq1765_o : RF s5 := RF_fw hg_o hp1764_o.1
      have hm1766_o : gI s5 218 4 ≤ 6 := by rw [hp1764_o.1.2.2 218 4 (Nat.lt_of_lt_of_le (by decide) hp1764_o.1.1.1) hw4_o]; exact hm_o
      refine gQ_v1 (A := Fw msd s5) (om_202 hq1765_o id_U hm1766_o rfl rfl (Fw_rf (Fw_232 hp1764_o.1))) (fun v8 s7 h1767_o => ?_)
      refine gQ_ite ?_ ?_
      · refine gQ_v1 (A := Fw msd s5) (om_156 hq1765_o (mqd_o id_U) rfl h1767_o) (fun v10 s9 h1768_o => ?_)
        unfold fb_219_113
        refine gQ_v0 (A := Fw mss s5) (pa_186 hq1765_o hp1764_o.2 rfl h1768_o) (fun s11 h1769_o => ?_)
        exact gQ_ret (Fw_tr hp1764_o.1 h1769_o hU_o)
      · refine gQ_ite ?_ ?_
        · refine gQ_v1 (A := Fw msd s5) (om_156 hq1765_o (mqd_o id_U) rfl h1767_o) (fun v14 s13 h1770_o => ?_)
          unfold fb_219_113
          refine gQ_v0 (A := Fw mss s5) (pa_186 hq1765_o hp1764_o.2 rfl h1770_o) (fun s11 h1771_o => ?_)
          exact gQ_ret (Fw_tr hp1764_o.1 h1771_o hU_o)
        · refine gQ_ite ?_ ?_
          · refine gQ_v1 (A := Fw msd s5) (om_156 hq1765_o (mqd_o id_U) rfl h1767_o) (fun v16 s15 h1772_o => ?_)
            unfold fb_219_113
            refine gQ_v0 (A := Fw mss s5) (pa_186 hq1765_o hp1764_o.2 rfl h1772_o) (fun s11 h1773_o => ?_)
            exact gQ_ret (Fw_tr hp1764_o.1 h1773_o hU_o)
          · refine gQ_v1 (A := Fw msd s5) (om_156 hq1765_o (mqd_o id_U) rfl h1767_o) (fun v18 s17 h1774_o => ?_)
            unfold fb_219_113
            refine gQ_v0 (A := Fw mss s5) (pa_186 hq1765_o hp1764_o.2 rfl h1774_o) (fun s11 h1775_o => ?_)
            exact gQ_ret (Fw_tr hp1764_o.1 h1775_o hU_o)
  · refine gQ_v1 (A := Fw W g) (om_150 hg_o hU_o  h1763_o) (fun v20 s19 h1776_o => ?_)
    refine gQ_ite ?_ ?_
    · unfold fb_219_42
      dsimp only
      refine gQ_ite ?_ ?_
      · exact gQ_ret (Fw_w h1776_o rfl (hU_o 217 _ rfl))
      · refine gQ_v0 (A := fun u_o => Fw W g u_o ∧ Asd u_o) (pa_185 hg_o hA_o rfl (Fw_w h1776_o rfl (hU_o 217 _ rfl))) (fun s5 hp1777_o => ?_)
        have hq1778_o : RF s5 := RF_fw hg_o hp1777_o.1
        have hm1779_o : gI s5 218 4 ≤ 6 := by rw [hp1777_o.1.2.2 218 4 (Nat.lt_of_lt_of_le (by decide) hp1777_o.1.1.1) hw4_o]; exact hm_o
        refine gQ_v1 (A := Fw msd s5) (om_202 hq1778_o id_U hm1779_o rfl rfl (Fw_rf (Fw_232 hp1777_o.1))) (fun v8 s7 h1780_o => ?_)
        refine gQ_ite ?_ ?_
        · refine gQ_v1 (A := Fw msd s5) (om_156 hq1778_o (mqd_o id_U) rfl h1780_o) (fun v10 s9 h1781_o => ?_)
          unfold fb_219_113
          refine gQ_v0 (A := Fw mss s5) (pa_186 hq1778_o hp1777_o.2 rfl h1781_o) (fun s11 h1782_o => ?_)
          exact gQ_ret (Fw_tr hp1777_o.1 h1782_o hU_o)
        · refine gQ_ite ?_ ?_
          · refine gQ_v1 (A := Fw msd s5) (om_156 hq1778_o (mqd_o id_U) rfl h1780_o) (fun v14 s13 h1783_o => ?_)
            unfold fb_219_113
            refine gQ_v0 (A := Fw mss s5) (pa_186 hq1778_o hp1777_o.2 rfl h1783_o) (fun s11 h1784_o => ?_)
            exact gQ_ret (Fw_tr hp1777_o.1 h1784_o hU_o)
          · refine gQ_ite ?_ ?_
            · refine gQ_v1 (A := Fw msd s5) (om_156 hq1778_o (mqd_o id_U) rfl h1780_o) (fun v16 s15 h1785_o => ?_)
              unfold fb_219_113
              refine gQ_v0 (A := Fw mss s5) (pa_186 hq1778_o hp1777_o.2 rfl h1785_o) (fun s11 h1786_o => ?_)
              exact gQ_ret (Fw_tr hp1777_o.1 h1786_o hU_o)
            · refine gQ_v1 (A := Fw msd s5) (om_156 hq1778_o (mqd_o id_U) rfl h1780_o) (fun v18 s17 h1787_o => ?_)
              unfold fb_219_113
              refine gQ_v0 (A := Fw mss s5) (pa_186 hq1778_o hp1777_o.2 rfl h1787_o) (fun s11 h1788_o => ?_)
              exact gQ_ret (Fw_tr hp1777_o.1 h1788_o hU_o)
    · refine gQ_v1 (A := Fw W g) (om_150 hg_o hU_o  h1776_o) (fun v23 s22 h1789_o => ?_)
      refine gQ_ite ?_ ?_
      · unfold fb_219_42
        dsimp only
        refine gQ_ite ?_ ?_
        · exact gQ_ret (Fw_w h1789_o rfl (hU_o 217 _ rfl))
        · refine gQ_v0 (A := fun u_o => Fw W g u_o ∧ Asd u_o) (pa_185 hg_o hA_o rfl (Fw_w h1789_o rfl (hU_o 217 _ rfl))) (fun s5 hp1790_o => ?_)
          have hq1791_o : RF s5 := RF_fw hg_o hp1790_o.1
          have hm1792_o : gI s5 218 4 ≤ 6 := by rw [hp1790_o.1.2.2 218 4 (Nat.lt_of_lt_of_le (by decide) hp1790_o.1.1.1) hw4_o]; exact hm_o
          refine gQ_v1 (A := Fw msd s5) (om_202 hq1791_o id_U hm1792_o rfl rfl (Fw_rf (Fw_232 hp1790_o.1))) (fun v8 s7 h1793_o => ?_)
          refine gQ_ite ?_ ?_
          · refine gQ_v1 (A := Fw msd s5) (om_156 hq1791_o (mqd_o id_U) rfl h1793_o) (fun v10 s9 h1794_o => ?_)
            unfold fb_219_113
            refine gQ_v0 (A := Fw mss s5) (pa_186 hq1791_o hp1790_o.2 rfl h1794_o) (fun s11 h1795_o => ?_)
            exact gQ_ret (Fw_tr hp1790_o.1 h1795_o hU_o)
          · refine gQ_ite ?_ ?_
            · refine gQ_v1 (A := Fw msd s5) (om_156 hq1791_o (mqd_o id_U) rfl h1793_o) (fun v14 s13 h1796_o => ?_)
              unfold fb_219_113
              refine gQ_v0 (A := Fw mss s5) (pa_186 hq1791_o hp1790_o.2 rfl h1796_o) (fun s11 h1797_o => ?_)
              exact gQ_ret (Fw_tr hp1790_o.1 h1797_o hU_o)
            · refine gQ_ite ?_ ?_
              · refine gQ_v1 (A := Fw msd s5) (om_156 hq1791_o (mqd_o id_U) rfl h1793_o) (fun v16 s15 h1798_o => ?_)
                unfold fb_219_113
                refine gQ_v0 (A := Fw mss s5) (pa_186 hq1791_o hp1790_o.2 rfl h1798_o) (fun s11 h1799_o => ?_)
                exact gQ_ret (Fw_tr hp1790_o.1 h1799_o hU_o)
              · refine gQ_v1 (A := Fw msd s5) (om_156 hq1791_o (mqd_o id_U) rfl h1793_o) (fun v18 s17 h1800_o => ?_)
                unfold fb_219_113
                refine gQ_v0 (A := Fw mss s5) (pa_186 hq1791_o hp1790_o.2 rfl h1800_o) (fun s11 h1801_o => ?_)
                exact gQ_ret (Fw_tr hp1790_o.1 h1801_o hU_o)
      · unfold fb_219_42
        dsimp only
        refine gQ_ite ?_ ?_
        · exact gQ_ret (Fw_w h1789_o rfl (hU_o 217 _ rfl))
        · refine gQ_v0 (A := fun u_o => Fw W g u_o ∧ Asd u_o) (pa_185 hg_o hA_o rfl (Fw_w h1789_o rfl (hU_o 217 _ rfl))) (fun s5 hp1802_o => ?_)
          have hq1803_o : RF s5 := RF_fw hg_o hp1802_o.1
          have hm1804_o : gI s5 218 4 ≤ 6 := by rw [hp1802_o.1.2.2 218 4 (Nat.lt_of_lt_of_le (by decide) hp1802_o.1.1.1) hw4_o]; exact hm_o
          refine gQ_v1 (A := Fw msd s5) (om_202 hq1803_o id_U hm1804_o rfl rfl (Fw_rf (Fw_232 hp1802_o.1))) (fun v8 s7 h1805_o => ?_)
          refine gQ_ite ?_ ?_
          · refine gQ_v1 (A := Fw msd s5) (om_156 hq1803_o (mqd_o id_U) rfl h1805_o) (fun v10 s9 h1806_o => ?_)
            unfold fb_219_113
            refine gQ_v0 (A := Fw mss s5) (pa_186 hq1803_o hp1802_o.2 rfl h1806_o) (fun s11 h1807_o => ?_)
            exact gQ_ret (Fw_tr hp1802_o.1 h1807_o hU_o)
          · refine gQ_ite ?_ ?_
            · refine gQ_v1 (A := Fw msd s5) (om_156 hq1803_o (mqd_o id_U) rfl h1805_o) (fun v14 s13 h1808_o => ?_)
              unfold fb_219_113
              refine gQ_v0 (A := Fw mss s5) (pa_186 hq1803_o hp1802_o.2 rfl h1808_o) (fun s11 h1809_o => ?_)
              exact gQ_ret (Fw_tr hp1802_o.1 h1809_o hU_o)
            · refine gQ_ite ?_ ?_
              · refine gQ_v1 (A := Fw msd s5) (om_156 hq1803_o (mqd_o id_U) rfl h1805_o) (fun v16 s15 h1810_o => ?_)
                unfold fb_219_113
                refine gQ_v0 (A := Fw mss s5) (pa_186 hq1803_o hp1802_o.2 rfl h1810_o) (fun s11 h1811_o => ?_)
                exact gQ_ret (Fw_tr hp1802_o.1 h1811_o hU_o)
              · refine gQ_v1 (A := Fw msd s5) (om_156 hq1803_o (mqd_o id_U) rfl h1805_o) (fun v18 s17 h1812_o => ?_)
                unfold fb_219_113
                refine gQ_v0 (A := Fw mss s5) (pa_186 hq1803_o hp1802_o.2 rfl h1812_o) (fun s11 h1813_o => ?_)
                exact gQ_ret (Fw_tr hp1802_o.1 h1813_o hU_o)

theorem om_220 {W : Nat → Nat → Bool} {g s : gS} {a0 : Nat} {a1 : Int} (hg_o : RF g) (hU_o : ∀ a k, mss a k = true → W a k = true)  (hA_o : ∀ k, W 220 k = true) (hm_o : gI g 218 4 ≤ 6) (hw4_o : W 218 4 = false) (ea0_o : a0 = 217) (h_o : Fw W g s) : gQ (f_220 a0 a1 s) (fun r => Fw W g r.2.2.2) := by
  subst ea0_o
  unfold f_220
  refine gQ_v1 (A := Fw W g) (om_150 hg_o hU_o  h_o) (fun v2 s1_l h1814_o => ?_)
  refine gQ_ite ?_ ?_
  · unfold fb_220_17
    dsimp only
    refine gQ_ite ?_ ?_
    · exact gQ_ret (Fw_w h1814_o rfl (hU_o 217 _ rfl))
    · refine gQ_v0 (A := fun u_o => Fw W g u_o ∧ Asd u_o) (pa_185 hg_o hA_o rfl (Fw_w h1814_o rfl (hU_o 217 _ rfl))) (fun s5 hp1815_o => ?_)
      have hq1816_o : RF s5 := RF_fw hg_o hp1815_o.1
      have hm1817_o : gI s5 218 4 ≤ 6 := by rw [hp1815_o.1.2.2 218 4 (Nat.lt_of_lt_of_le (by decide) hp1815_o.1.1.1) hw4_o]; exact hm_o
      refine gQ_v1 (A := Fw msd s5) (om_202 hq1816_o id_U hm1817_o rfl rfl (Fw_rf (Fw_232 hp1815_o.1))) (fun v8 s7 h1818_o => ?_)
      refine gQ_v0 (A := Fw mss s5) (pa_186 hq1816_o hp1815_o.2 rfl h1818_o) (fun s10 h1819_o => ?_)
      exact gQ_ret (Fw_tr hp1815_o.1 h1819_o hU_o)
  · unfold fb_220_17
    dsimp only
    refine gQ_ite ?_ ?_
    · exact gQ_ret (Fw_w h1814_o rfl (hU_o 217 _ rfl))
    · refine gQ_v0 (A := fun u_o => Fw W g u_o ∧ Asd u_o) (pa_185 hg_o hA_o rfl (Fw_w h1814_o rfl (hU_o 217 _ rfl))) (fun s5 hp1820_o => ?_)
      have hq1821_o : RF s5 := RF_fw hg_o hp1820_o.1
      have hm1822_o : gI s5 218 4 ≤ 6 := by rw [hp1820_o.1.2.2 218 4 (Nat.lt_of_lt_of_le (by decide) hp1820_o.1.1.1) hw4_o]; exact hm_o
      refine gQ_v1 (A := Fw msd s5) (om_202 hq1821_o id_U hm1822_o rfl rfl (Fw_rf (Fw_232 hp1820_o.1))) (fun v8 s7 h1823_o => ?_)
      refine gQ_v0 (A := Fw mss s5) (pa_186 hq1821_o hp1820_o.2 rfl h1823_o) (fun s10 h1824_o => ?_)
      exact gQ_ret (Fw_tr hp1820_o.1 h1824_o hU_o)

theorem om_221 {W : Nat → Nat → Bool} {g s : gS} {a0 : Nat} {a1 : Int} (hg_o : RF g) (hU_o : ∀ a k, mss a k = true → W a k = true)  (hA_o : ∀ k, W 220 k = true) (hm_o : gI g 218 4 ≤ 6) (hw4_o : W 218 4 = false) (ea0_o : a0 = 217) (h_o : Fw W g s) : gQ (f_221 a0 a1 s) (fun r => Fw W g r.2.2.2) := by
  subst ea0_o
  unfold f_221
  refine gQ_v1 (A := Fw W g) (om_150 hg_o hU_o  h_o) (fun v2 s1_l h1825_o => ?_)
  refine gQ_ite ?_ ?_
  · unfold fb_221_17
    dsimp only
    refine gQ_ite ?_ ?_
    · exact gQ_ret (Fw_w h1825_o rfl (hU_o 217 _ rfl))
    · refine gQ_v0 (A := fun u_o => Fw W g u_o ∧ Asd u_o) (pa_185 hg_o hA_o rfl (Fw_w h1825_o rfl (hU_o 217 _ rfl))) (fun s5 hp1826_o => ?_)
      have hq1827_o : RF s5 := RF_fw hg_o hp1826_o.1
      have hm1828_o : gI s5 218 4 ≤ 6 := by rw [hp1826_o.1.2.2 218 4 (Nat.lt_of_lt_of_le (by decide) hp1826_o.1.1.1) hw4_o]; exact hm_o
      refine gQ_v1 (A := Fw msd s5) (om_202 hq1827_o id_U hm1828_o rfl rfl (Fw_rf (Fw_232 hp1826_o.1))) (fun v8 s7 h1829_o => ?_)
      refine gQ_v0 (A := Fw mss s5) (pa_186 hq1827_o hp1826_o.2 rfl h1829_o) (fun s10 h1830_o => ?_)
      exact gQ_ret (Fw_tr hp1826_o.1 h1830_o hU_o)
  · unfold fb_221_17
    dsimp only
    refine gQ_ite ?_ ?_
    · exact gQ_ret (Fw_w h1825_o rfl (hU_o 217 _ rfl))
    · refine gQ_v0 (A := fun u_o => Fw W g u_o ∧ Asd u_o) (pa_185 hg_o hA_o rfl (Fw_w h1825_o rfl (hU_o 217 _ rfl))) (fun s5 hp1831_o => ?_)
      have hq1832_o : RF s5 := RF_fw hg_o hp1831_o.1
      have hm1833_o : gI s5 218 4 ≤ 6 := by rw [hp1831_o.1.2.2 218 4 (Nat.lt_of_lt_of_le (by decide) hp1831_o.1.1.1) hw4_o]; exact hm_o
      refine gQ_v1 (A := Fw msd s5) (om_202 hq1832_o id_U hm1833_o rfl rfl (Fw_rf (Fw_232 hp1831_o.1))) (fun v8 s7 h1834_o => ?_)
      refine gQ_v0 (A := Fw mss s5) (pa_186 hq1832_o hp1831_o.2 rfl h1834_o) (fun s10 h1835_o => ?_)
      exact gQ_ret (Fw_tr hp1831_o.1 h1835_o hU_o)

theorem om_222 {W : Nat → Nat → Bool} {g s : gS} {a0 : Nat} {a1 : Int} {a2 : Int} (hg_o : RF g) (hU_o : ∀ a k, mss a k = true → W a k = true)  (hA_o : ∀ k, W 220 k = true) (hm_o : gI g 218 4 ≤ 6) (hw4_o : W 218 4 = false) (ea0_o : a0 = 217) (h_o : Fw W g s) : gQ (f_222 a0 a1 a2 s) (fun r => Fw W g r.2.2.2) := by
  subst ea0_o
  unfold f_222
  refine gQ_v1 (A := Fw W g) (om_165 hg_o hU_o rfl h_o) (fun v2 s1_l h1836_o => ?_)
  refine gQ_ite ?_ ?_
  · exact gQ_ret h1836_o
  · refine gQ_v0 (A := fun u_o => Fw W g u_o ∧ Asd u_o) (pa_185 hg_o hA_o rfl h1836_o) (fun s4_l hp1837_o => ?_)
    have hq1838_o : RF s4_l := RF_fw hg_o hp1837_o.1
    have hm1839_o : gI s4_l 218 4 ≤ 6 := by rw [hp1837_o.1.2.2 218 4 (Nat.lt_of_lt_of_le (by decide) hp1837_o.1.1.1) hw4_o]; exact hm_o
    refine gQ_loop (fun y_l => y_l.1 = 217 ∧ Fw msd s4_l (y_l.2.2.2.2.2)) (fun y_l hy_o => ?_) ⟨rfl, (Fw_rf (Fw_232 hp1837_o.1))⟩
    obtain ⟨x1840_o, x1841_o, x1842_o, x1843_o, x1844_o, x1845_o⟩ := y_l
    obtain ⟨e1847_o, h1846_o⟩ := hy_o
    dsimp only at e1847_o h1846_o
    subst e1847_o
    show gQ (sb_222_19 217 x1841_o x1842_o x1843_o x1844_o x1845_o) _
    unfold sb_222_19
    refine gQ_ite ?_ ?_
    · refine gQ_map ?_
      unfold fb_222_89
      refine gQ_v0 (A := Fw mss s4_l) (pa_186 hq1838_o hp1837_o.2 rfl h1846_o) (fun s6_l h1848_o => ?_)
      exact gQ_ret (Fw_tr hp1837_o.1 h1848_o hU_o)
    · refine gQ_ite ?_ ?_
      · refine gQ_ite ?_ ?_
        · refine gQ_v1 (A := Fw msd s4_l) (om_156 hq1838_o (mqd_o id_U) rfl h1846_o) (fun v9 s8 h1849_o => ?_)
          refine gQ_ite ?_ ?_
          · unfold fb_222_72
            unfold fb_222_75
            refine gQ_v1 (A := Fw msd s4_l) (om_202 hq1838_o id_U hm1839_o rfl rfl h1849_o) (fun v11 s10 h1850_o => ?_)
            exact gQ_ret ⟨rfl, h1850_o⟩
          · unfold fb_222_75
            refine gQ_v1 (A := Fw msd s4_l) (om_202 hq1838_o id_U hm1839_o rfl rfl h1849_o) (fun v11 s10 h1851_o => ?_)
            exact gQ_ret ⟨rfl, h1851_o⟩
        · refine gQ_v1 (A := Fw msd s4_l) (om_165 hq1838_o (mqd_o id_U) rfl h1846_o) (fun v13 s12 h1852_o => ?_)
          refine gQ_ite ?_ ?_
          · unfold fb_222_75
            refine gQ_v1 (A := Fw msd s4_l) (om_202 hq1838_o id_U hm1839_o rfl rfl h1852_o) (fun v11 s10 h1853_o => ?_)
            exact gQ_ret ⟨rfl, h1853_o⟩
          · refine gQ_v1 (A := Fw msd s4_l) (om_156 hq1838_o (mqd_o id_U) rfl h1852_o) (fun v16 s15 h1854_o => ?_)
            refine gQ_ite ?_ ?_
            · unfold fb_222_75
              refine gQ_v1 (A := Fw msd s4_l) (om_202 hq1838_o id_U hm1839_o rfl rfl h1854_o) (fun v11 s10 h1855_o => ?_)
              exact gQ_ret ⟨rfl, h1855_o⟩
            · unfold fb_222_72
              unfold fb_222_75
              refine gQ_v1 (A := Fw msd s4_l) (om_202 hq1838_o id_U hm1839_o rfl rfl h1854_o) (fun v11 s10 h1856_o => ?_)
              exact gQ_ret ⟨rfl, h1856_o⟩
      · refine gQ_map ?_
        unfold fb_222_89
        refine gQ_v0 (A := Fw mss s4_l) (pa_186 hq1838_o hp1837_o.2 rfl h1846_o) (fun s6_l h1857_o => ?_)
        exact gQ_ret (Fw_tr hp1837_o.1 h1857_o hU_o)

theorem om_223 {W : Nat → Nat → Bool} {g s : gS} {a0 : Nat} {a1 : Int} (hg_o : RF g) (hU_o : ∀ a k, mss a k = true → W a k = true)  (hA_o : ∀ k, W 220 k = true) (hm_o : gI g 218 4 ≤ 6) (hw4_o : W 218 4 = false) (ea0_o : a0 = 217) (h_o : Fw W g s) : gQ (f_223 a0 a1 s) (fun r => Fw W g r.2.2.2) := by
  subst ea0_o
  unfold f_223
  refine gQ_v1 (A := Fw W g) (om_162 hg_o hU_o rfl h_o) (fun v2 s1_l h1858_o => ?_)
  refine gQ_ite ?_ ?_
  · unfold fb_223_14
    dsimp only
    refine gQ_ite ?_ ?_
    · exact gQ_ret (Fw_w h1858_o rfl (hU_o 217 _ rfl))
    · refine gQ_v1 (A := Fw W g) (om_222 hg_o hU_o hA_o hm_o hw4_o rfl (Fw_w h1858_o rfl (hU_o 217 _ rfl))) (fun v6 s5 h1859_o => ?_)
      exact gQ_ret h1859_o
  · unfold fb_223_14
    dsimp only
    refine gQ_ite ?_ ?_
    · exact gQ_ret (Fw_w h1858_o rfl (hU_o 217 _ rfl))
    · refine gQ_v1 (A := Fw W g) (om_222 hg_o hU_o hA_o hm_o hw4_o rfl (Fw_w h1858_o rfl (hU_o 217 _ rfl))) (fun v6 s5 h1860_o => ?_)
      exact gQ_ret h1860_o

theorem om_224 {W : Nat → Nat → Bool} {g s : gS} {a0 : Nat} {a1 : Int} (hg_o : RF g) (hU_o : ∀ a k, mss a k = true → W a k = true)  (hA_o : ∀ k, W 220 k = true) (hm_o : gI g 218 4 ≤ 6) (hw4_o : W 218 4 = false) (ea0_o : a0 = 217) (h_o : Fw W g s) : gQ (f_224 a0 a1 s) (fun r => Fw W g r.2.2.2) := by
  subst ea0_o
  unfold f_224
  refine gQ_v1 (A := Fw W g) (om_162 hg_o hU_o rfl h_o) (fun v2 s1_l h1861_o => ?_)
  refine gQ_ite ?_ ?_
  · unfold fb_224_14
    dsimp only
    refine gQ_ite ?_ ?_
    · exact gQ_ret (Fw_w h1861_o rfl (hU_o 217 _ rfl))
    · refine gQ_v1 (A := Fw W g) (om_222 hg_o hU_o hA_o hm_o hw4_o rfl (Fw_w h1861_o rfl (hU_o 217 _ rfl))) (fun v6 s5 h1862_o => ?_)
      exact gQ_ret h1862_o
  · unfold fb_224_14
    dsimp only
    refine gQ_ite ?_ ?_
    · exact gQ_ret (Fw_w h1861_o rfl (hU_o 217 _ rfl))
    · refine gQ_v1 (A := Fw W g) (om_222 hg_o hU_o hA_o hm_o hw4_o rfl (Fw_w h1861_o rfl (hU_o 217 _ rfl))) (fun v6 s5 h1863_o => ?_)
      exact gQ_ret h1863_o

theorem om_225 {W : Nat → Nat → Bool} {g s : gS} {a0 : Nat} {a1 : Int} (hg_o : RF g) (hU_o : ∀ a k, mss a k = true → W a k = true)  (hA_o : ∀ k, W 220 k = true) (hm_o : gI g 218 4 ≤ 6) (hw4_o : W 218 4 = false) (ea0_o : a0 = 217) (h_o : Fw W g s) : gQ (f_225 a0 a1 s) (fun r => Fw W g r.2.2.2) := by
  subst ea0_o
  unfold f_225
  refine gQ_v0 (A := fun u_o => Fw W g u_o ∧ Asd u_o) (pa_185 hg_o hA_o rfl h_o) (fun s1_l hp1864_o => ?_)
  have hq1865_o : RF s1_l := RF_fw hg_o hp1864_o.1
  have hm1866_o : gI s1_l 218 4 ≤ 6 := by rw [hp1864_o.1.2.2 218 4 (Nat.lt_of_lt_of_le (by decide) hp1864_o.1.1.1) hw4_o]; exact hm_o
  refine gQ_loop (fun y_l => y_l.1 = 217 ∧ Fw msd s1_l (y_l.2.2.2)) (fun y_l hy_o => ?_) ⟨rfl, (Fw_rf (Fw_232 hp1864_o.1))⟩
  obtain ⟨x1867_o, x1868_o, x1869_o, x1870_o⟩ := y_l
  obtain ⟨e1872_o, h1871_o⟩ := hy_o
  dsimp only at e1872_o h1871_o
  subst e1872_o
  show gQ (sb_225_6 217 x1868_o x1869_o x1870_o) _
  unfold sb_225_6
  dsimp only
  refine gQ_ite ?_ ?_
  · refine gQ_chk2 (fun ha1873_o hb1874_o => ?_)
    refine gQ_v1 (A := Fw msd s1_l) (om_202 hq1865_o id_U hm1866_o rfl rfl (Fw_w h1871_o (fr_r h1871_o rfl (rr_217_18 hq1865_o)) (id_U 224 _ rfl))) (fun v5 s4_l h1875_o => ?_)
    exact gQ_ret ⟨rfl, h1875_o⟩
  · refine gQ_map ?_
    refine gQ_v0 (A := Fw mss s1_l) (pa_186 hq1865_o hp1864_o.2 rfl h1871_o) (fun s6_l h1876_o => ?_)
    refine gQ_v1 (A := Fw W g) (om_156 hg_o hU_o rfl (Fw_tr hp1864_o.1 h1876_o hU_o)) (fun v9 s8 h1877_o => ?_)
    refine gQ_v1 (A := Fw W g) (om_156 hg_o hU_o rfl h1877_o) (fun v11 s10 h1878_o => ?_)
    refine gQ_loop (fun y_l => y_l.1 = 217 ∧ Fw W g (y_l.2.2.2.2)) (fun y_l hy_o => ?_) ⟨rfl, h1878_o⟩
    obtain ⟨x1879_o, x1880_o, x1881_o, x1882_o, x1883_o⟩ := y_l
    obtain ⟨e1885_o, h1884_o⟩ := hy_o
    dsimp only at e1885_o h1884_o
    subst e1885_o
    show gQ (sb_225_59 217 x1880_o x1881_o x1882_o x1883_o) _
    unfold sb_225_59
    dsimp only
    refine gQ_ite ?_ ?_
    · refine gQ_chk2 (fun ha1886_o hb1887_o => ?_)
      refine gQ_ite ?_ ?_
      · unfold fb_225_90
        dsimp only
        refine gQ_ite ?_ ?_
        · refine gQ_v1 (A := Fw W g) (om_155 hg_o hU_o rfl (Fw_w h1884_o (fr_r h1884_o rfl (rr_217_21 hg_o)) (hU_o 227 _ rfl))) (fun v14 s13 h1888_o => ?_)
          refine gQ_ite ?_ ?_
          · unfold fb_225_130
            dsimp only
            refine gQ_chk2 (fun ha1889_o hb1890_o => ?_)
            refine gQ_chk2 (fun ha1891_o hb1892_o => ?_)
            exact gQ_ret ⟨rfl, (Fw_w (Fw_w h1888_o (fr_r h1888_o rfl (rr_217_19 hg_o)) (hU_o 225 _ rfl)) (fr_r (Fw_w h1888_o (fr_r h1888_o rfl (rr_217_19 hg_o)) (hU_o 225 _ rfl)) rfl (rr_217_20 hg_o)) (hU_o 226 _ rfl))⟩
          · refine gQ_v1 (A := Fw W g) (om_155 hg_o hU_o rfl h1888_o) (fun v18 s17 h1893_o => ?_)
            refine gQ_chk2 (fun ha1894_o hb1895_o => ?_)
            unfold fb_225_130
            dsimp only
            refine gQ_chk2 (fun ha1896_o hb1897_o => ?_)
            refine gQ_chk2 (fun ha1898_o hb1899_o => ?_)
            exact gQ_ret ⟨rfl, (Fw_w (Fw_w (Fw_w h1893_o (fr_r h1888_o rfl (rr_217_21 hg_o)) (hU_o 227 _ rfl)) (fr_r (Fw_w h1893_o (fr_r h1888_o rfl (rr_217_21 hg_o)) (hU_o 227 _ rfl)) rfl (rr_217_19 hg_o)) (hU_o 225 _ rfl)) (fr_r (Fw_w (Fw_w h1893_o (fr_r h1888_o rfl (rr_217_21 hg_o)) (hU_o 227 _ rfl)) (fr_r (Fw_w h1893_o (fr_r h1888_o rfl (rr_217_21 hg_o)) (hU_o 227 _ rfl)) rfl (rr_217_19 hg_o)) (hU_o 225 _ rfl)) rfl (rr_217_20 hg_o)) (hU_o 226 _ rfl))⟩
        · unfold fb_225_130
          dsimp only
          refine gQ_chk2 (fun ha1900_o hb1901_o => ?_)
          refine gQ_chk2 (fun ha1902_o hb1903_o => ?_)
          exact gQ_ret ⟨rfl, (Fw_w (Fw_w (Fw_w h1884_o (fr_r h1884_o rfl (rr_217_21 hg_o)) (hU_o 227 _ rfl)) (fr_r (Fw_w h1884_o (fr_r h1884_o rfl (rr_217_21 hg_o)) (hU_o 227 _ rfl)) rfl (rr_217_19 hg_o)) (hU_o 225 _ rfl)) (fr_r (Fw_w (Fw_w h1884_o (fr_r h1884_o rfl (rr_217_21 hg_o)) (hU_o 227 _ rfl)) (fr_r (Fw_w h1884_o (fr_r h1884_o rfl (rr_217_21 hg_o)) (hU_o 227 _ rfl)) rfl (rr_217_19 hg_o)) (hU_o 225 _ rfl)) rfl (rr_217_20 hg_o)) (hU_o 226 _ rfl))⟩
      · unfold fb_225_90
        dsimp only
        refine gQ_ite ?_ ?_
        · refine gQ_v1 (A := Fw W g) (om_155 hg_o hU_o rfl (Fw_w h1884_o (fr_r h1884_o rfl (rr_217_21 hg_o)) (hU_o 227 _ rfl))) (fun v14 s13 h1904_o => ?_)
          refine gQ_ite ?_ ?_
          · unfold fb_225_130
            dsimp only
            refine gQ_chk2 (fun ha1905_o hb1906_o => ?_)
            refine gQ_chk2 (fun ha1907_o hb1908_o => ?_)
            exact gQ_ret ⟨rfl, (Fw_w (Fw_w h1904_o (fr_r h1904_o rfl (rr_217_19 hg_o)) (hU_o 225 _ rfl)) (fr_r (Fw_w h1904_o (fr_r h1904_o rfl (rr_217_19 hg_o)) (hU_o 225 _ rfl)) rfl (rr_217_20 hg_o)) (hU_o 226 _ rfl))⟩
          · refine gQ_v1 (A := Fw W g) (om_155 hg_o hU_o rfl h1904_o) (fun v18 s17 h1909_o => ?_)
            refine gQ_chk2 (fun ha1910_o hb1911_o => ?_)
            unfold fb_225_130
            dsimp only
            refine gQ_chk2 (fun ha1912_o hb1913_o => ?_)
            refine gQ_chk2 (fun ha1914_o hb1915_o => ?_)
            exact gQ_ret ⟨rfl, (Fw_w (Fw_w (Fw_w h1909_o (fr_r h1904_o rfl (rr_217_21 hg_o)) (hU_o 227 _ rfl)) (fr_r (Fw_w h1909_o (fr_r h1904_o rfl (rr_217_21 hg_o)) (hU_o 227 _ rfl)) rfl (rr_217_19 hg_o)) (hU_o 225 _ rfl)) (fr_r (Fw_w (Fw_w h1909_o (fr_r h1904_o rfl (rr_217_21 hg_o)) (hU_o 227 _ rfl)) (fr_r (Fw_w h1909_o (fr_r h1904_o rfl (rr_217_21 hg_o)) (hU_o 227 _ rfl)) rfl (rr_217_19 hg_o)) (hU_o 225 _ rfl)) rfl (rr_217_20 hg_o)) (hU_o 226 _ rfl))⟩
        · unfold fb_225_130
          dsimp only
          refine gQ_chk2 (fun ha1916_o hb1917_o => ?_)
          refine gQ_chk2 (fun ha1918_o hb1919_o => ?_)
          exact gQ_ret ⟨rfl, (Fw_w (Fw_w (Fw_w h1884_o (fr_r h1884_o rfl (rr_217_21 hg_o)) (hU_o 227 _ rfl)) (fr_r (Fw_w h1884_o (fr_r h1884_o rfl (rr_217_21 hg_o)) (hU_o 227 _ rfl)) rfl (rr_217_19 hg_o)) (hU_o 225 _ rfl)) (fr_r (Fw_w (Fw_w h1884_o (fr_r h1884_o rfl (rr_217_21 hg_o)) (hU_o 227 _ rfl)) (fr_r (Fw_w h1884_o (fr_r h1884_o rfl (rr_217_21 hg_o)) (hU_o 227 _ rfl)) rfl (rr_217_19 hg_o)) (hU_o 225 _ rfl)) rfl (rr_217_20 hg_o)) (hU_o 226 _ rfl))⟩
    · refine gQ_map ?_
      refine gQ_loop (fun y_l => y_l.1 = 217 ∧ Fw W g (y_l.2.2)) (fun y_l hy_o => ?_) ⟨rfl, h1884_o⟩
      obtain ⟨x1920_o, x1921_o, x1922_o⟩ := y_l
      obtain ⟨e1924_o, h1923_o⟩ := hy_o
      dsimp only at e1924_o h1923_o
      subst e1924_o
      show gQ (sb_225_155 217 x1921_o x1922_o) _
      unfold sb_225_155
      dsimp only
      refine gQ_ite ?_ ?_
      · refine gQ_chk2 (fun ha1925_o hb1926_o => ?_)
        exact gQ_ret ⟨rfl, (Fw_w h1923_o (fr_r h1923_o rfl (rr_217_22 hg_o)) (hU_o 228 _ rfl))⟩
      · refine gQ_map ?_
        exact gQ_ret h1923_o

theorem om_254 {W : Nat → Nat → Bool} {g s : gS} {a0 : Nat} {a1 : Int} {a2 : Int} (hg_o : RF g) (hU_o : ∀ a k, mss a k = true → W a k = true)  (hA_o : ∀ k, W 220 k = true) (hm_o : gI g 218 4 ≤ 6) (hw4_o : W 218 4 = false) (ea0_o : a0 = 217) (h_o : Fw W g s) : gQ (f_254 a0 a1 a2 s) (fun r => Fw W g r.2.2.2) := by
  subst ea0_o
  unfold f_254
  refine gQ_v1 (A := Fw W g) (om_150 hg_o hU_o  h_o) (fun v2 s1_l h1927_o => ?_)
  refine gQ_ite ?_ ?_
  · unfold fb_254_17
    dsimp only
    refine gQ_ite ?_ ?_
    · exact gQ_ret (Fw_w h1927_o rfl (hU_o 217 _ rfl))
    · refine gQ_v0 (A := fun u_o => Fw W g u_o ∧ Asd u_o) (pa_185 hg_o hA_o rfl (Fw_w h1927_o rfl (hU_o 217 _ rfl))) (fun s5 hp1928_o => ?_)
      have hq1929_o : RF s5 := RF_fw hg_o hp1928_o.1
      have hm1930_o : gI s5 218 4 ≤ 6 := by rw [hp1928_o.1.2.2 218 4 (Nat.lt_of_lt_of_le (by decide) hp1928_o.1.1.1) hw4_o]; exact hm_o
      refine gQ_v1 (A := Fw msd s5) (om_202 hq1929_o id_U hm1930_o rfl rfl (Fw_rf (Fw_232 hp1928_o.1))) (fun v8 s7 h1931_o => ?_)
      refine gQ_ite ?_ ?_
      · unfold fb_254_62
        refine gQ_v0 (A := Fw mss s5) (pa_186 hq1929_o hp1928_o.2 rfl h1931_o) (fun s9 h1932_o => ?_)
        exact gQ_ret (Fw_tr hp1928_o.1 h1932_o hU_o)
      · refine gQ_v1 (A := Fw msd s5) (om_252 hq1929_o (mqd_o id_U) rfl h1931_o) (fun v12 s11 h1933_o => ?_)
        refine gQ_v1 (A := Fw msd s5) (om_154 hq1929_o (mqd_o id_U)  h1933_o) (fun v14 s13 h1934_o => ?_)
        unfold fb_254_62
        refine gQ_v0 (A := Fw mss s5) (pa_186 hq1929_o hp1928_o.2 rfl h1934_o) (fun s9 h1935_o => ?_)
        exact gQ_ret (Fw_tr hp1928_o.1 h1935_o hU_o)
  · unfold fb_254_17
    dsimp only
    refine gQ_ite ?_ ?_
    · exact gQ_ret (Fw_w h1927_o rfl (hU_o 217 _ rfl))
    · refine gQ_v0 (A := fun u_o => Fw W g u_o ∧ Asd u_o) (pa_185 hg_o hA_o rfl (Fw_w h1927_o rfl (hU_o 217 _ rfl))) (fun s5 hp1936_o => ?_)
      have hq1937_o : RF s5 := RF_fw hg_o hp1936_o.1
      have hm1938_o : gI s5 218 4 ≤ 6 := by rw [hp1936_o.1.2.2 218 4 (Nat.lt_of_lt_of_le (by decide) hp1936_o.1.1.1) hw4_o]; exact hm_o
      refine gQ_v1 (A := Fw msd s5) (om_202 hq1937_o id_U hm1938_o rfl rfl (Fw_rf (Fw_232 hp1936_o.1))) (fun v8 s7 h1939_o => ?_)
      refine gQ_ite ?_ ?_
      · unfold fb_254_62
        refine gQ_v0 (A := Fw mss s5) (pa_186 hq1937_o hp1936_o.2 rfl h1939_o) (fun s9 h1940_o => ?_)
        exact gQ_ret (Fw_tr hp1936_o.1 h1940_o hU_o)
      · refine gQ_v1 (A := Fw msd s5) (om_252 hq1937_o (mqd_o id_U) rfl h1939_o) (fun v12 s11 h1941_o => ?_)
        refine gQ_v1 (A := Fw msd s5) (om_154 hq1937_o (mqd_o id_U)  h1941_o) (fun v14 s13 h1942_o => ?_)
        unfold fb_254_62
        refine gQ_v0 (A := Fw mss s5) (pa_186 hq1937_o hp1936_o.2 rfl h1942_o) (fun s9 h1943_o => ?_)
        exact gQ_ret (Fw_tr hp1936_o.1 h1943_o hU_o)

theorem om_228 {W : Nat → Nat → Bool} {g s : gS} {a0 : Nat} {a1 : Int} {a2 : Int} {a3 : Int} {a4 : Int} (hg_o : RF g) (hU_o : ∀ a k, mss a k = true → W a k = true) (ea0_o : a0 = 217) (h_o : Fw W g s) : gQ (f_228 a0 a1 a2 a3 a4 s) (fun r => Fw W g r.2.2.2) := by
  subst ea0_o
  unfold f_228
  refine gQ_chk2 (fun ha1944_o hb1945_o => ?_)
  refine gQ_v1 (A := Fw W g) (om_151 hg_o hU_o  h_o) (fun v2 s1_l h1946_o => ?_)
  refine gQ_chk2 (fun ha1947_o hb1948_o => ?_)
  refine gQ_chk2 (fun ha1949_o hb1950_o => ?_)
  refine gQ_chk2 (fun ha1951_o hb1952_o => ?_)
  refine gQ_v1 (A := Fw W g) (om_151 hg_o hU_o  h1946_o) (fun v4_l s3_l h1953_o => ?_)
  refine gQ_v1 (A := Fw W g) (om_197 hg_o hU_o rfl h1953_o) (fun v6 s5 h1954_o => ?_)
  refine gQ_v1 (A := Fw W g) (om_151 hg_o hU_o  h1954_o) (fun v8 s7 h1955_o => ?_)
  refine gQ_v1 (A := Fw W g) (om_152 hg_o hU_o  h1955_o) (fun v10 s9 h1956_o => ?_)
  exact gQ_ret h1956_o

theorem om_227s {W : Nat → Nat → Bool} {g s : gS} {r_226 : Nat → Int → Int → Int → Int → gS → Option gO} {a0 : Nat} {a1 : Int} {a2 : Int} {a3 : Int} {a4 : Int} {a5 : Int} (hg_o : RF g) (hU_o : ∀ a k, mss a k = true → W a k = true) (ea0_o : a0 = 217) (hr_226 : ∀ {a1 a2 a3 a4 : Int} {s : gS}, Fw W g s → gQ (r_226 217 a1 a2 a3 a4 s) (fun r => Fw W g r.2.2.2)) (h_o : Fw W g s) : gQ (fo_227 r_226 a0 a1 a2 a3 a4 a5 s) (fun r => Fw W g r.2.2.2) := by
  subst ea0_o
  unfold fo_227
  refine gQ_v1 (A := Fw W g) (om_151 hg_o hU_o  h_o) (fun v2 s1_l h1957_o => ?_)
  refine gQ_v1 (A := Fw W g) (om_228 hg_o hU_o rfl h1957_o) (fun v4_l s3_l h1958_o => ?_)
  refine gQ_ite ?_ ?_
  · exact gQ_ret h1958_o
  · refine gQ_v1 (A := Fw W g) (hr_226 h1958_o) (fun v6 s5 h1959_o => ?_)
    exact gQ_ret h1959_o

theorem om_226s {W : Nat → Nat → Bool} {g s : gS} {r_227 : Nat → Int → Int → Int → Int → Int → gS → Option gO} {a0 : Nat} {a1 : Int} {a2 : Int} {a3 : Int} {a4 : Int} (hg_o : RF g) (hU_o : ∀ a k, mss a k = true → W a k = true) (ea0_o : a0 = 217) (hr_227 : ∀ {a1 a2 a3 a4 a5 : Int} {s : gS}, Fw W g s → gQ (r_227 217 a1 a2 a3 a4 a5 s) (fun r => Fw W g r.2.2.2)) (h_o : Fw W g s) : gQ (fo_226 r_227 a0 a1 a2 a3 a4 s) (fun r => Fw W g r.2.2.2) := by
  subst ea0_o
  unfold fo_226
  dsimp only
  refine gQ_ite ?_ ?_
  · exact gQ_ret h_o
  · refine gQ_chk2 (fun ha1960_o hb1961_o => ?_)
    refine gQ_ite ?_ ?_
    · refine gQ_loop (fun y_l => y_l.1 = 217 ∧ Fw W g (y_l.2.2.2.2.2.2.2.2)) (fun y_l hy_o => ?_) ⟨rfl, h_o⟩
      obtain ⟨x1962_o, x1963_o, x1964_o, x1965_o, x1966_o, x1967_o, x1968_o, x1969_o, x1970_o⟩ := y_l
      obtain ⟨e1972_o, h1971_o⟩ := hy_o
      dsimp only at e1972_o h1971_o
      subst e1972_o
      show gQ (sb_226_48 r_227 217 x1963_o x1964_o x1965_o x1966_o x1967_o x1968_o x1969_o x1970_o) _
      unfold sb_226_48
      dsimp only
      refine gQ_ite ?_ ?_
      · refine gQ_map ?_
        refine gQ_chk2 (fun ha1973_o hb1974_o => ?_)
        exact gQ_ret (Fw_w h1971_o (fr_r h1971_o rfl (rr_217_22 hg_o)) (hU_o 228 _ rfl))
      · refine gQ_v1 (A := Fw W g) (hr_227 h1971_o) (fun v4_l s3_l h1975_o => ?_)
        refine gQ_v1 (A := Fw W g) (om_152 hg_o hU_o  h1975_o) (fun v6 s5 h1976_o => ?_)
        exact gQ_ret ⟨rfl, h1976_o⟩
    · refine gQ_chk2 (fun ha1977_o hb1978_o => ?_)
      exact gQ_ret h_o

theorem om_226n {W : Nat → Nat → Bool} {g : gS} (hg_o : RF g) (hU_o : ∀ a k, mss a k = true → W a k = true) (n : Nat) : (∀ {a1 a2 a3 a4 : Int} {s : gS}, Fw W g s → gQ (fn_226 n 217 a1 a2 a3 a4 s) (fun r => Fw W g r.2.2.2)) ∧ (∀ {a1 a2 a3 a4 a5 : Int} {s : gS}, Fw W g s → gQ (fn_227 n 217 a1 a2 a3 a4 a5 s) (fun r => Fw W g r.2.2.2)) := by
  induction n with
  | zero => exact ⟨fun _ => gQ_none, fun _ => gQ_none⟩
  | succ n ih_l =>
    exact ⟨fun {a1 a2 a3 a4 s} hh_o => (om_226s hg_o hU_o rfl (fun h_l => ih_l.2 h_l) hh_o : gQ (fo_226 (rg_226 n).2 217 a1 a2 a3 a4 s) _), fun {a1 a2 a3 a4 a5 s} hh_o => (om_227s hg_o hU_o rfl (fun h_l => ih_l.1 h_l) hh_o : gQ (fo_227 (rg_226 n).1 217 a1 a2 a3 a4 a5 s) _)⟩
theorem om_226 {W : Nat → Nat → Bool} {g s : gS} {a0 : Nat} {a1 a2 a3 a4 : Int} (hg_o : RF g) (hU_o : ∀ a k, mss a k = true → W a k = true) (ea0_o : a0 = 217) (h_o : Fw W g s) : gQ (f_226 a0 a1 a2 a3 a4 s) (fun r => Fw W g r.2.2.2) := by
  subst ea0_o
  exact (om_226n hg_o hU_o 64).1 h_o
theorem om_227 {W : Nat → Nat → Bool} {g s : gS} {a0 : Nat} {a1 a2 a3 a4 a5 : Int} (hg_o : RF g) (hU_o : ∀ a k, mss a k = true → W a k = true) (ea0_o : a0 = 217) (h_o : Fw W g s) : gQ (f_227 a0 a1 a2 a3 a4 a5 s) (fun r => Fw W g r.2.2.2) := by
  subst ea0_o
  exact (om_226n hg_o hU_o 64).2 h_o

theorem om_229 {W : Nat → Nat → Bool} {g s : gS} {a0 : Nat} {a1 : Int} {a2 : Int} (hg_o : RF g) (hU_o : ∀ a k, mss a k = true → W a k = true)  (hA_o : ∀ k, W 220 k = true) (hm_o : gI g 218 4 ≤ 6) (hw4_o : W 218 4 = false) (ea0_o : a0 = 217) (h_o : Fw W g s) : gQ (f_229 a0 a1 a2 s) (fun r => Fw W g r.2.2.2) := by
  subst ea0_o
  unfold f_229
  refine gQ_v1 (A := Fw W g) (om_162 hg_o hU_o rfl h_o) (fun v2 s1_l h1979_o => ?_)
  refine gQ_ite ?_ ?_
  · unfold fb_229_33
    dsimp only
    refine gQ_ite ?_ ?_
    · exact gQ_ret (Fw_w h1979_o rfl (hU_o 217 _ rfl))
    · refine gQ_v1 (A := Fw W g) (om_165 hg_o hU_o rfl (Fw_w h1979_o rfl (hU_o 217 _ rfl))) (fun v6 s5 h1980_o => ?_)
      refine gQ_ite ?_ ?_
      · exact gQ_ret h1980_o
      · refine gQ_v0 (A := Fw W g) (om_225 hg_o hU_o hA_o hm_o hw4_o rfl h1980_o) (fun s8 h1981_o => ?_)
        refine gQ_v1 (A := Fw W g) (om_156 hg_o hU_o rfl h1981_o) (fun v11 s10 h1982_o => ?_)
        refine gQ_v1 (A := Fw W g) (om_156 hg_o hU_o rfl h1982_o) (fun v13 s12 h1983_o => ?_)
        refine gQ_ite ?_ ?_
        · refine gQ_v1 (A := Fw W g) (om_226 hg_o hU_o rfl h1983_o) (fun v15 s14 h1984_o => ?_)
          exact gQ_ret h1984_o
        · refine gQ_loop (fun y_l => y_l.1 = 217 ∧ Fw W g (y_l.2.2.2.2.2.2)) (fun y_l hy_o => ?_) ⟨rfl, h1983_o⟩
          obtain ⟨x1985_o, x1986_o, x1987_o, x1988_o, x1989_o, x1990_o, x1991_o⟩ := y_l
          obtain ⟨e1993_o, h1992_o⟩ := hy_o
          dsimp only at e1993_o h1992_o
          subst e1993_o
          show gQ (sb_229_93 217 x1986_o x1987_o x1988_o x1989_o x1990_o x1991_o) _
          unfold sb_229_93
          refine gQ_ite ?_ ?_
          · refine gQ_map ?_
            exact gQ_ret h1992_o
          · refine gQ_loop (fun y_l => y_l.1 = 217 ∧ Fw W g (y_l.2.2.2.2.2.2.2)) (fun y_l hy_o => ?_) ⟨rfl, h1992_o⟩
            obtain ⟨x1994_o, x1995_o, x1996_o, x1997_o, x1998_o, x1999_o, x2000_o, x2001_o⟩ := y_l
            obtain ⟨e2003_o, h2002_o⟩ := hy_o
            dsimp only at e2003_o h2002_o
            subst e2003_o
            show gQ (sb_229_102 217 x1995_o x1996_o x1997_o x1998_o x1999_o x2000_o x2001_o) _
            unfold sb_229_102
            refine gQ_v1 (A := Fw W g) (om_227 hg_o hU_o rfl h2002_o) (fun v17 s16 h2004_o => ?_)
            refine gQ_v1 (A := Fw W g) (om_226 hg_o hU_o rfl h2004_o) (fun v19 s18 h2005_o => ?_)
            refine gQ_ite ?_ ?_
            · refine gQ_map ?_
              refine gQ_ite ?_ ?_
              · refine gQ_map ?_
                exact gQ_ret h2005_o
              · refine gQ_v1 (A := Fw W g) (om_151 hg_o hU_o  h2005_o) (fun v21 s20 h2006_o => ?_)
                refine gQ_v1 (A := Fw W g) (om_228 hg_o hU_o rfl h2006_o) (fun v23 s22 h2007_o => ?_)
                refine gQ_ite ?_ ?_
                · refine gQ_map ?_
                  exact gQ_ret h2007_o
                · exact gQ_ret ⟨rfl, h2007_o⟩
            · exact gQ_ret ⟨rfl, h2005_o⟩
  · refine gQ_ite ?_ ?_
    · unfold fb_229_32
      unfold fb_229_33
      dsimp only
      refine gQ_ite ?_ ?_
      · exact gQ_ret (Fw_w h1979_o rfl (hU_o 217 _ rfl))
      · refine gQ_v1 (A := Fw W g) (om_165 hg_o hU_o rfl (Fw_w h1979_o rfl (hU_o 217 _ rfl))) (fun v6 s5 h2008_o => ?_)
        refine gQ_ite ?_ ?_
        · exact gQ_ret h2008_o
        · refine gQ_v0 (A := Fw W g) (om_225 hg_o hU_o hA_o hm_o hw4_o rfl h2008_o) (fun s8 h2009_o => ?_)
          refine gQ_v1 (A := Fw W g) (om_156 hg_o hU_o rfl h2009_o) (fun v11 s10 h2010_o => ?_)
          refine gQ_v1 (A := Fw W g) (om_156 hg_o hU_o rfl h2010_o) (fun v13 s12 h2011_o => ?_)
          refine gQ_ite ?_ ?_
          · refine gQ_v1 (A := Fw W g) (om_226 hg_o hU_o rfl h2011_o) (fun v15 s14 h2012_o => ?_)
            exact gQ_ret h2012_o
          · refine gQ_loop (fun y_l => y_l.1 = 217 ∧ Fw W g (y_l.2.2.2.2.2.2)) (fun y_l hy_o => ?_) ⟨rfl, h2011_o⟩
            obtain ⟨x2013_o, x2014_o, x2015_o, x2016_o, x2017_o, x2018_o, x2019_o⟩ := y_l
            obtain ⟨e2021_o, h2020_o⟩ := hy_o
            dsimp only at e2021_o h2020_o
            subst e2021_o
            show gQ (sb_229_93 217 x2014_o x2015_o x2016_o x2017_o x2018_o x2019_o) _
            unfold sb_229_93
            refine gQ_ite ?_ ?_
            · refine gQ_map ?_
              exact gQ_ret h2020_o
            · refine gQ_loop (fun y_l => y_l.1 = 217 ∧ Fw W g (y_l.2.2.2.2.2.2.2)) (fun y_l hy_o => ?_) ⟨rfl, h2020_o⟩
              obtain ⟨x2022_o, x2023_o, x2024_o, x2025_o, x2026_o, x2027_o, x2028_o, x2029_o⟩ := y_l
              obtain ⟨e2031_o, h2030_o⟩ := hy_o
              dsimp only at e2031_o h2030_o
              subst e2031_o
              show gQ (sb_229_102 217 x2023_o x2024_o x2025_o x2026_o x2027_o x2028_o x2029_o) _
              unfold sb_229_102
              refine gQ_v1 (A := Fw W g) (om_227 hg_o hU_o rfl h2030_o) (fun v17 s16 h2032_o => ?_)
              refine gQ_v1 (A := Fw W g) (om_226 hg_o hU_o rfl h2032_o) (fun v19 s18 h2033_o => ?_)
              refine gQ_ite ?_ ?_
              · refine gQ_map ?_
                refine gQ_ite ?_ ?_
                · refine gQ_map ?_
                  exact gQ_ret h2033_o
                · refine gQ_v1 (A := Fw W g) (om_151 hg_o hU_o  h2033_o) (fun v21 s20 h2034_o => ?_)
                  refine gQ_v1 (A := Fw W g) (om_228 hg_o hU_o rfl h2034_o) (fun v23 s22 h2035_o => ?_)
                  refine gQ_ite ?_ ?_
                  · refine gQ_map ?_
                    exact gQ_ret h2035_o
                  · exact gQ_ret ⟨rfl, h2035_o⟩
              · exact gQ_ret ⟨rfl, h2033_o⟩
    · refine gQ_v1 (A := Fw W g) (om_150 hg_o hU_o  h1979_o) (fun v25 s24 h2036_o => ?_)
      refine gQ_ite ?_ ?_
      · unfold fb_229_33
        dsimp only
        refine gQ_ite ?_ ?_
        · exact gQ_ret (Fw_w h2036_o rfl (hU_o 217 _ rfl))
        · refine gQ_v1 (A := Fw W g) (om_165 hg_o hU_o rfl (Fw_w h2036_o rfl (hU_o 217 _ rfl))) (fun v6 s5 h2037_o => ?_)
          refine gQ_ite ?_ ?_
          · exact gQ_ret h2037_o
          · refine gQ_v0 (A := Fw W g) (om_225 hg_o hU_o hA_o hm_o hw4_o rfl h2037_o) (fun s8 h2038_o => ?_)
            refine gQ_v1 (A := Fw W g) (om_156 hg_o hU_o rfl h2038_o) (fun v11 s10 h2039_o => ?_)
            refine gQ_v1 (A := Fw W g) (om_156 hg_o hU_o rfl h2039_o) (fun v13 s12 h2040_o => ?_)
            refine gQ_ite ?_ ?_
            · refine gQ_v1 (A := Fw W g) (om_226 hg_o hU_o rfl h2040_o) (fun v15 s14 h2041_o => ?_)
              exact gQ_ret h2041_o
            · refine gQ_loop (fun y_l => y_l.1 = 217 ∧ Fw W g (y_l.2.2.2.2.2.2)) (fun y_l hy_o => ?_) ⟨rfl, h2040_o⟩
              obtain ⟨x2042_o, x2043_o, x2044_o, x2045_o, x2046_o, x2047_o, x2048_o⟩ := y_l
              obtain ⟨e2050_o, h2049_o⟩ := hy_o
              dsimp only at e2050_o h2049_o
              subst e2050_o
              show gQ (sb_229_93 217 x2043_o x2044_o x2045_o x2046_o x2047_o x2048_o) _
              unfold sb_229_93
              refine gQ_ite ?_ ?_
              · refine gQ_map ?_
                exact gQ_ret h2049_o
              · refine gQ_loop (fun y_l => y_l.1 = 217 ∧ Fw W g (y_l.2.2.2.2.2.2.2)) (fun y_l hy_o => ?_) ⟨rfl, h2049_o⟩
                obtain ⟨x2051_o, x2052_o, x2053_o, x2054_o, x2055_o, x2056_o, x2057_o, x2058_o⟩ := y_l
                obtain ⟨e2060_o, h2059_o⟩ := hy_o
                dsimp only at e2060_o h2059_o
                subst e2060_o
                show gQ (sb_229_102 217 x2052_o x2053_o x2054_o x2055_o x2056_o x2057_o x2058_o) _
                unfold sb_229_102
                refine gQ_v1 (A := Fw W g) (om_227 hg_o hU_o rfl h2059_o) (fun v17 s16 h2061_o => ?_)
                refine gQ_v1 (A := Fw W g) (om_226 hg_o hU_o rfl h2061_o) (fun v19 s18 h2062_o => ?_)
                refine gQ_ite ?_ ?_
                · refine gQ_map ?_
                  refine gQ_ite ?_ ?_
                  · refine gQ_map ?_
                    exact gQ_ret h2062_o
                  · refine gQ_v1 (A := Fw W g) (om_151 hg_o hU_o  h2062_o) (fun v21 s20 h2063_o => ?_)
                    refine gQ_v1 (A := Fw W g) (om_228 hg_o hU_o rfl h2063_o) (fun v23 s22 h2064_o => ?_)
                    refine gQ_ite ?_ ?_
                    · refine gQ_map ?_
                      exact gQ_ret h2064_o
                    · exact gQ_ret ⟨rfl, h2064_o⟩
                · exact gQ_ret ⟨rfl, h2062_o⟩
      · unfold fb_229_32
        unfold fb_229_33
        dsimp only
        refine gQ_ite ?_ ?_
        · exact gQ_ret (Fw_w h2036_o rfl (hU_o 217 _ rfl))
        · refine gQ_v1 (A := Fw W g) (om_165 hg_o hU_o rfl (Fw_w h2036_o rfl (hU_o 217 _ rfl))) (fun v6 s5 h2065_o => ?_)
          refine gQ_ite ?_ ?_
          · exact gQ_ret h2065_o
          · refine gQ_v0 (A := Fw W g) (om_225 hg_o hU_o hA_o hm_o hw4_o rfl h2065_o) (fun s8 h2066_o => ?_)
            refine gQ_v1 (A := Fw W g) (om_156 hg_o hU_o rfl h2066_o) (fun v11 s10 h2067_o => ?_)
            refine gQ_v1 (A := Fw W g) (om_156 hg_o hU_o rfl h2067_o) (fun v13 s12 h2068_o => ?_)
            refine gQ_ite ?_ ?_
            · refine gQ_v1 (A := Fw W g) (om_226 hg_o hU_o rfl h2068_o) (fun v15 s14 h2069_o => ?_)
              exact gQ_ret h2069_o
            · refine gQ_loop (fun y_l => y_l.1 = 217 ∧ Fw W g (y_l.2.2.2.2.2.2)) (fun y_l hy_o => ?_) ⟨rfl, h2068_o⟩
              obtain ⟨x2070_o, x2071_o, x2072_o, x2073_o, x2074_o, x2075_o, x2076_o⟩ := y_l
              obtain ⟨e2078_o, h2077_o⟩ := hy_o
              dsimp only at e2078_o h2077_o
              subst e2078_o
              show gQ (sb_229_93 217 x2071_o x2072_o x2073_o x2074_o x2075_o x2076_o) _
              unfold sb_229_93
              refine gQ_ite ?_ ?_
              · refine gQ_map ?_
                exact gQ_ret h2077_o
              · refine gQ_loop (fun y_l => y_l.1 = 217 ∧ Fw W g (y_l.2.2.2.2.2.2.2)) (fun y_l hy_o => ?_) ⟨rfl, h2077_o⟩
                obtain ⟨x2079_o, x2080_o, x2081_o, x2082_o, x2083_o, x2084_o, x2085_o, x2086_o⟩ := y_l
                obtain ⟨e2088_o, h2087_o⟩ := hy_o
                dsimp only at e2088_o h2087_o
                subst e2088_o
                show gQ (sb_229_102 217 x2080_o x2081_o x2082_o x2083_o x2084_o x2085_o x2086_o) _
                unfold sb_229_102
                refine gQ_v1 (A := Fw W g) (om_227 hg_o hU_o rfl h2087_o) (fun v17 s16 h2089_o => ?_)
                refine gQ_v1 (A := Fw W g) (om_226 hg_o hU_o rfl h2089_o) (fun v19 s18 h2090_o => ?_)
                refine gQ_ite ?_ ?_
                · refine gQ_map ?_
                  refine gQ_ite ?_ ?_
                  · refine gQ_map ?_
                    exact gQ_ret h2090_o
                  · refine gQ_v1 (A := Fw W g) (om_151 hg_o hU_o  h2090_o) (fun v21 s20 h2091_o => ?_)
                    refine gQ_v1 (A := Fw W g) (om_228 hg_o hU_o rfl h2091_o) (fun v23 s22 h2092_o => ?_)
                    refine gQ_ite ?_ ?_
                    · refine gQ_map ?_
                      exact gQ_ret h2092_o
                    · exact gQ_ret ⟨rfl, h2092_o⟩
                · exact gQ_ret ⟨rfl, h2090_o⟩

theorem om_230 {W : Nat → Nat → Bool} {g s : gS} {a0 : Nat} {a1 : Int} {a2 : Int} (hg_o : RF g) (hU_o : ∀ a k, mss a k = true → W a k = true)  (hA_o : ∀ k, W 220 k = true) (hm_o : gI g 218 4 ≤ 6) (hw4_o : W 218 4 = false) (ea0_o : a0 = 217) (h_o : Fw W g s) : gQ (f_230 a0 a1 a2 s) (fun r => Fw W g r.2.2.2) := by
  subst ea0_o
  unfold f_230
  refine gQ_v1 (A := Fw W g) (om_162 hg_o hU_o rfl h_o) (fun v2 s1_l h2093_o => ?_)
  refine gQ_ite ?_ ?_
  · unfold fb_230_28
    dsimp only
    refine gQ_ite ?_ ?_
    · exact gQ_ret (Fw_w h2093_o rfl (hU_o 217 _ rfl))
    · refine gQ_v1 (A := Fw W g) (om_165 hg_o hU_o rfl (Fw_w h2093_o rfl (hU_o 217 _ rfl))) (fun v6 s5 h2094_o => ?_)
      refine gQ_ite ?_ ?_
      · exact gQ_ret h2094_o
      · refine gQ_v0 (A := Fw W g) (om_225 hg_o hU_o hA_o hm_o hw4_o rfl h2094_o) (fun s8 h2095_o => ?_)
        refine gQ_loop (fun y_l => y_l.1 = 217 ∧ Fw W g (y_l.2.2.2.2)) (fun y_l hy_o => ?_) ⟨rfl, h2095_o⟩
        obtain ⟨x2096_o, x2097_o, x2098_o, x2099_o, x2100_o⟩ := y_l
        obtain ⟨e2102_o, h2101_o⟩ := hy_o
        dsimp only at e2102_o h2101_o
        subst e2102_o
        show gQ (sb_230_57 217 x2097_o x2098_o x2099_o x2100_o) _
        unfold sb_230_57
        refine gQ_ite ?_ ?_
        · refine gQ_map ?_
          exact gQ_ret h2101_o
        · refine gQ_v1 (A := Fw W g) (om_156 hg_o hU_o rfl h2101_o) (fun v11 s10 h2103_o => ?_)
          refine gQ_v1 (A := Fw W g) (om_226 hg_o hU_o rfl h2103_o) (fun v13 s12 h2104_o => ?_)
          refine gQ_ite ?_ ?_
          · exact gQ_ret ⟨rfl, h2104_o⟩
          · refine gQ_map ?_
            exact gQ_ret h2104_o
  · refine gQ_v1 (A := Fw W g) (om_150 hg_o hU_o  h2093_o) (fun v15 s14 h2105_o => ?_)
    refine gQ_ite ?_ ?_
    · unfold fb_230_28
      dsimp only
      refine gQ_ite ?_ ?_
      · exact gQ_ret (Fw_w h2105_o rfl (hU_o 217 _ rfl))
      · refine gQ_v1 (A := Fw W g) (om_165 hg_o hU_o rfl (Fw_w h2105_o rfl (hU_o 217 _ rfl))) (fun v6 s5 h2106_o => ?_)
        refine gQ_ite ?_ ?_
        · exact gQ_ret h2106_o
        · refine gQ_v0 (A := Fw W g) (om_225 hg_o hU_o hA_o hm_o hw4_o rfl h2106_o) (fun s8 h2107_o => ?_)
          refine gQ_loop (fun y_l => y_l.1 = 217 ∧ Fw W g (y_l.2.2.2.2)) (fun y_l hy_o => ?_) ⟨rfl, h2107_o⟩
          obtain ⟨x2108_o, x2109_o, x2110_o, x2111_o, x2112_o⟩ := y_l
          obtain ⟨e2114_o, h2113_o⟩ := hy_o
          dsimp only at e2114_o h2113_o
          subst e2114_o
          show gQ (sb_230_57 217 x2109_o x2110_o x2111_o x2112_o) _
          unfold sb_230_57
          refine gQ_ite ?_ ?_
          · refine gQ_map ?_
            exact gQ_ret h2113_o
          · refine gQ_v1 (A := Fw W g) (om_156 hg_o hU_o rfl h2113_o) (fun v11 s10 h2115_o => ?_)
            refine gQ_v1 (A := Fw W g) (om_226 hg_o hU_o rfl h2115_o) (fun v13 s12 h2116_o => ?_)
            refine gQ_ite ?_ ?_
            · exact gQ_ret ⟨rfl, h2116_o⟩
            · refine gQ_map ?_
              exact gQ_ret h2116_o
    · unfold fb_230_28
      dsimp only
      refine gQ_ite ?_ ?_
      · exact gQ_ret (Fw_w h2105_o rfl (hU_o 217 _ rfl))
      · refine gQ_v1 (A := Fw W g) (om_165 hg_o hU_o rfl (Fw_w h2105_o rfl (hU_o 217 _ rfl))) (fun v6 s5 h2117_o => ?_)
        refine gQ_ite ?_ ?_
        · exact gQ_ret h2117_o
        · refine gQ_v0 (A := Fw W g) (om_225 hg_o hU_o hA_o hm_o hw4_o rfl h2117_o) (fun s8 h2118_o => ?_)
          refine gQ_loop (fun y_l => y_l.1 = 217 ∧ Fw W g (y_l.2.2.2.2)) (fun y_l hy_o => ?_) ⟨rfl, h2118_o⟩
          obtain ⟨x2119_o, x2120_o, x2121_o, x2122_o, x2123_o⟩ := y_l
          obtain ⟨e2125_o, h2124_o⟩ := hy_o
          dsimp only at e2125_o h2124_o
          subst e2125_o
          show gQ (sb_230_57 217 x2120_o x2121_o x2122_o x2123_o) _
          unfold sb_230_57
          refine gQ_ite ?_ ?_
          · refine gQ_map ?_
            exact gQ_ret h2124_o
          · refine gQ_v1 (A := Fw W g) (om_156 hg_o hU_o rfl h2124_o) (fun v11 s10 h2126_o => ?_)
            refine gQ_v1 (A := Fw W g) (om_226 hg_o hU_o rfl h2126_o) (fun v13 s12 h2127_o => ?_)
            refine gQ_ite ?_ ?_
            · exact gQ_ret ⟨rfl, h2127_o⟩
            · refine gQ_map ?_
              exact gQ_ret h2127_o

end
