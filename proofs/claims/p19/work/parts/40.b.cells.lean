/-! cells of the texts on both sides -/
section Ce
variable {s t : gS} {p : gP} {i : Nat} {a1 a2 : Int}
theorem ce (h : Rt s) {k a j : Nat} (hk : (KK k ∧ mnt k = false) ∧ pa 9 15 k = a ∧ pj k = j) : gI s a j = gI s 218 k := by
  have h1 := (h.1 k hk.1).1
  rw [h1]
  show _ = gI s (pa 9 15 k) (pj k)
  rw [hk.2.1, hk.2.2]
theorem ce_n (h : Rt s) : gI s 9 5 = gI s 218 3 ∧ gI s 15 4 = gI s 218 4 ∧ gI s 9 6 = gI s 218 5 ∧ gI s 15 5 = gI s 218 6 ∧ gI s 9 8 = gI s 218 11 := ⟨ce h (k := 3) (by unfold KK; decide), ce h (k := 4) (by unfold KK; decide), ce h (k := 5) (by unfold KK; decide), ce h (k := 6) (by unfold KK; decide), ce h (k := 11) (by unfold KK; decide)⟩
theorem Jv (hJ : J p s) : (0 ≤ gI s 218 3 ∧ gI s 218 3 ≤ 8) ∧ (0 ≤ gI s 218 4 ∧ gI s 218 4 ≤ 6) ∧ (0 ≤ gI s 218 5 ∧ gI s 218 5 ≤ 6) ∧ (0 ≤ gI s 218 6 ∧ gI s 218 6 ≤ 6) := by
  have m_l : ∀ k_l x_l y_l, arn 218 k_l = some (x_l, y_l) → x_l ≤ gI s 218 k_l ∧ gI s 218 k_l ≤ y_l := fun k_l x_l y_l hk => J_ra hJ (a := 218) (k := k_l) (by decide) (by rw [k0_sp.2.2.2.1]; decide) hk
  exact ⟨m_l 3 0 8 rfl, m_l 4 0 6 rfl, m_l 5 0 6 rfl, m_l 6 0 6 rfl⟩
theorem rr_9 (hg : RF s) : gR s 9 0 = 10 ∧ gR s 9 1 = 11 ∧ gR s 9 2 = 12 ∧ gR s 9 3 = 13 ∧ gR s 9 4 = 14 := by
  have q_l : ∀ k_l y_l, ¬ (k0 9 = 0 ∧ k_l = 11) → r0 9 k_l = y_l → gR s 9 k_l = y_l := fun k_l y_l h2 h3 => (hg 9 k_l (by decide) h2).trans h3
  exact ⟨q_l 0 10 (by decide +kernel) (by decide +kernel), q_l 1 11 (by decide +kernel) (by decide +kernel), q_l 2 12 (by decide +kernel) (by decide +kernel), q_l 3 13 (by decide +kernel) (by decide +kernel), q_l 4 14 (by decide +kernel) (by decide +kernel)⟩
theorem rr_16 (hg : RF s) (hi : i < 6) : gR s 16 i = 21 + i := (hg 16 i (by decide) (fun z_l => by rw [k0_m43.2] at z_l; omega)).trans (r0_m43 i hi).2
/-- rows below alike -/
noncomputable def E8 (s u : gS) : Prop := ∀ k, gI u 218 k = gI s 218 k
noncomputable def Cd (F : gS → Option gO) (s : gS) (r : gO) : Prop := ∀ u p, E8 s u → J p u → Rt u → gQ (F u) (fun q => q.2.1 = r.2.1)
theorem cid : ∀ a k, csq a k = true → csq a k = true := fun _ _ h_l => h_l
/-- the model's number of the throw is set -/
theorem m0 {w0 : Int} : gI (gw s 217 0 w0) 217 0 = w0 := rd_same rfl
theorem m8 {w0 : Int} : E8 s (gw s 217 0 w0) := fun k_l => rd_a rfl (by decide)
/-- the model's getters -/
theorem m_150 {x y z : Int} : gQ (f_150 x y z s) (fun r => r.2.1 = (if y ≤ x ∧ x ≤ z then 1 else 0) ∧ r.2.2.2 = s) := by
  unfold f_150 fb_150_14
  by_cases c1 : x < y
  · rw [if_pos c1, if_neg (by omega)]
    exact gQ_ret ⟨rfl, rfl⟩
  rw [if_neg c1]
  by_cases c2 : z < x
  · rw [if_pos c2, if_neg (by omega)]
    exact gQ_ret ⟨rfl, rfl⟩
  rw [if_neg c2, if_pos (by omega)]
  exact gQ_ret ⟨rfl, rfl⟩
theorem m_n {x c : Int} (hc : 0 ≤ c ∧ c ≤ 8) {F : Int → gS → Option gO} {P : gO → Prop} (k1 : (0 ≤ x ∧ x < c) → gQ (F 1 s) P) (k0 : ¬ (0 ≤ x ∧ x < c) → gQ (F 0 s) P) : gQ (((f_150 x 0 (g32 (c - 1)) s).bind (gv1 (fun v2 s1 => some ((1, v2, 0, s1) : gO)))).bind (gv1 F)) P := by
  rw [g32_eq (v := c - 1) (by omega) (by omega)]
  refine gQ_w1 (A := fun v_l z_l => v_l = (if 0 ≤ x ∧ x ≤ c - 1 then 1 else 0) ∧ z_l = s) (gQ_w1 (A := fun v_l z_l => v_l = (if 0 ≤ x ∧ x ≤ c - 1 then 1 else 0) ∧ z_l = s) m_150 (fun v_l z_l hz => gQ_ret hz)) (fun v_l z_l hz => ?_)
  obtain ⟨z1, z2⟩ := hz
  rw [z1, z2]
  by_cases c1 : 0 ≤ x ∧ x ≤ c - 1
  · rw [if_pos c1]
    exact k1 (by omega)
  · rw [if_neg c1]
    exact k0 (by omega)
theorem m_156 {x j : Int} (hr : gR s 217 1 = 218) (hx : 0 ≤ x ∧ x < 6) (hj : 0 ≤ j ∧ j < 6) : gQ (f_156 217 x j s) (fun r => r.2.1 = gI s 218 (40 + 6 * x.toNat + j.toNat) ∧ r.2.2.2 = s) := by
  have e_l : g32 (g32 (40 + g32 (6 * x)) + j) = 40 + 6 * x + j := by
    rw [g32_eq (v := 6 * x) (by omega) (by omega), g32_eq (v := 40 + 6 * x) (by omega) (by omega), g32_eq (by omega) (by omega)]
  unfold f_156
  rw [e_l, hr, show (40 + 6 * x + j).toNat = 40 + 6 * x.toNat + j.toNat by omega]
  exact gQ_chk (gQ_ret ⟨rfl, rfl⟩)
theorem m_155 {x j : Int} (hr : gR s 217 1 = 218) (hx : 0 ≤ x ∧ x < 8) (hj : 0 ≤ j ∧ j < 3) : gQ (f_155 217 x j s) (fun r => r.2.1 = gI s 218 (16 + 3 * x.toNat + j.toNat) ∧ r.2.2.2 = s) := by
  have e_l : g32 (g32 (16 + g32 (3 * x)) + j) = 16 + 3 * x + j := by
    rw [g32_eq (v := 3 * x) (by omega) (by omega), g32_eq (v := 16 + 3 * x) (by omega) (by omega), g32_eq (by omega) (by omega)]
  unfold f_155
  rw [e_l, hr, show (16 + 3 * x + j).toNat = 16 + 3 * x.toNat + j.toNat by omega]
  exact gQ_chk (gQ_ret ⟨rfl, rfl⟩)
theorem m_158 {x : Int} (hr : gR s 217 1 = 218) (hx : 0 ≤ x ∧ x < 6) : gQ (f_158 217 x s) (fun r => r.2.1 = gI s 218 (76 + 2 * x.toNat) ∧ r.2.2.2 = s) := by
  have e_l : g32 (76 + g32 (2 * x)) = 76 + 2 * x := by
    rw [g32_eq (v := 2 * x) (by omega) (by omega), g32_eq (v := 76 + 2 * x) (by omega) (by omega)]
  unfold f_158
  rw [e_l, hr, show (76 + 2 * x).toNat = 76 + 2 * x.toNat by omega]
  exact gQ_chk (gQ_ret ⟨rfl, rfl⟩)
theorem m_159 {x : Int} (hr : gR s 217 1 = 218) (hx : 0 ≤ x ∧ x < 6) : gQ (f_159 217 x s) (fun r => r.2.1 = gI s 218 (76 + 2 * x.toNat + 1) ∧ r.2.2.2 = s) := by
  have e_l : g32 (g32 (76 + g32 (2 * x)) + 1) = 76 + 2 * x + 1 := by
    rw [g32_eq (v := 2 * x) (by omega) (by omega), g32_eq (v := 76 + 2 * x) (by omega) (by omega), g32_eq (by omega) (by omega)]
  unfold f_159
  rw [e_l, hr, show (76 + 2 * x + 1).toNat = 76 + 2 * x.toNat + 1 by omega]
  exact gQ_chk (gQ_ret ⟨rfl, rfl⟩)
theorem m_153 {x y : Int} : gQ (f_153 x y s) (fun r => r.2.1 = (if gand (gshr x y) 1 = 1 then 1 else 0) ∧ r.2.2.2 = s) := by
  unfold f_153
  by_cases c : gand (gshr x y) 1 = 1
  · rw [if_pos c, if_pos c]
    exact gQ_ret ⟨rfl, rfl⟩
  · rw [if_neg c, if_neg c]
    exact gQ_ret ⟨rfl, rfl⟩
/-- the class's tests of numbers: behind one the state is as it was, or it throws -/
theorem n_gt {z : Option gO} {c : Prop} [Decidable c] {k : Nat} (hk : 2 ≤ k) (hz : z = if c then some (0, 0, 0, s) else some (k, 0, 0, t)) {E : gS → Option gO} {P : gO → Prop} (k1 : c → gQ (E s) P) (k0 : ¬ c → P (k, 0, 0, t)) : gQ (z.bind (gt0 (fun r => r) E)) P := by
  rw [hz]
  by_cases h : c
  · rw [if_pos h]
    show gQ (gt0 (fun r => r) E (0, 0, 0, s)) P
    unfold gt0
    rw [if_pos rfl]
    exact k1 h
  · rw [if_neg h]
    show gQ (gt0 (fun r => r) E (k, 0, 0, t)) P
    unfold gt0
    rw [if_neg (by dsimp only; omega), if_pos hk]
    exact gQ_ret (k0 h)
theorem n_134 (hg : RF s) (h : Rt s) : f_134 0 a1 s = if 0 ≤ a1 ∧ a1 < gI s 218 3 then some (0, 0, 0, s) else some (5, 0, 0, gnw s 99) := by
  unfold f_134 fb_134_15
  rw [(rr_0_4 hg).2, (ce_n h).1]
  by_cases c1 : a1 < 0
  · rw [if_pos c1, if_neg (by omega)]
  · rw [if_neg c1]
    by_cases c2 : a1 < gI s 218 3
    · rw [if_pos c2, if_pos (by omega)]
    · rw [if_neg c2, if_neg (by omega)]
theorem n_135 (hg : RF s) (h : Rt s) : f_135 0 a1 s = if 0 ≤ a1 ∧ a1 < gI s 218 4 then some (0, 0, 0, s) else some (5, 0, 0, gnw s 99) := by
  unfold f_135 fb_135_15
  rw [(rr_0_5 hg).2, (ce_n h).2.1]
  by_cases c1 : a1 < 0
  · rw [if_pos c1, if_neg (by omega)]
  · rw [if_neg c1]
    by_cases c2 : a1 < gI s 218 4
    · rw [if_pos c2, if_pos (by omega)]
    · rw [if_neg c2, if_neg (by omega)]
theorem n_136 (hg : RF s) (h : Rt s) : f_136 0 a1 s = if 0 ≤ a1 ∧ a1 < gI s 218 5 then some (0, 0, 0, s) else some (5, 0, 0, gnw s 99) := by
  unfold f_136 fb_136_15
  rw [(rr_0_4 hg).2, (ce_n h).2.2.1]
  by_cases c1 : a1 < 0
  · rw [if_pos c1, if_neg (by omega)]
  · rw [if_neg c1]
    by_cases c2 : a1 < gI s 218 5
    · rw [if_pos c2, if_pos (by omega)]
    · rw [if_neg c2, if_neg (by omega)]
theorem n_138 {a2 a3 : Int} : f_138 0 a1 a2 a3 s = if a2 ≤ a1 ∧ a1 ≤ a3 then some (0, 0, 0, s) else some (2, 0, 0, gnw s 99) := by
  unfold f_138 fb_138_10
  by_cases c1 : a1 < a2
  · rw [if_pos c1, if_neg (by omega)]
  · rw [if_neg c1]
    by_cases c2 : a3 < a1
    · rw [if_pos c2, if_neg (by omega)]
    · rw [if_neg c2, if_pos (by omega)]
end Ce
