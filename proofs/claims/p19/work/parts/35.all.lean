section
/-! what each call leaves as it is -/
noncomputable def Fw (W : Nat → Nat → Bool) (g s : gS) : Prop := (232 ≤ gn g ∧ gn g ≤ gn s ∧ ∀ a, a < gn g → gK s a = gK g a) ∧ (∀ a k, a < gn g → gR s a k = gR g a k) ∧ ∀ a k, a < gn g → W a k = false → gI s a k = gI g a k
/-- all fields but the third; all fields -/
noncomputable def Wm (W : Nat → Nat → Bool) (a : Nat) : Prop := ∀ k, k ≠ 2 → W a k = true
noncomputable def Wa (W : Nat → Nat → Bool) (a : Nat) : Prop := ∀ k, W a k = true
/-- the class's own drafts; and what days and acts change of the court -/
noncomputable def csa (a : Nat) : Bool := Nat.beq a 1 || (Nat.beq a 3 || (Nat.beq a 4 || (Nat.beq a 5 || (Nat.beq a 7 || (Nat.beq a 8 || ((Nat.ble 27 a && Nat.ble a 35) || (Nat.ble 42 a && Nat.ble a 53)))))))
noncomputable def csq (a _k : Nat) : Bool := csa a
noncomputable def csd (a k : Nat) : Bool := csa a || ((Nat.ble 17 a && Nat.ble a 20) || ((Nat.beq a 15 && Nat.ble 6 k) || (Nat.ble 21 a && (Nat.ble a 26 && !Nat.beq k 2))))
section Fw
variable {W : Nat → Nat → Bool} {g s : gS} {Q : Type} {P : Q → Prop} {x : Option Q}
theorem qd_o (h : ∀ a k, csd a k = true → W a k = true) : ∀ a k, csq a k = true → W a k = true := fun a k hq => h a k (by
  unfold csd
  unfold csq at hq
  rw [hq]
  rfl)
theorem Fw_rf (h : 232 ≤ gn s) : Fw W s s := ⟨⟨h, Nat.le_refl _, fun _ _ => rfl⟩, fun _ _ _ => rfl, fun _ _ _ _ => rfl⟩
theorem Fw_wv {A k : Nat} {v : Int} (h : Fw W g s) (hw : W A k = true) : Fw W g (gw s A k v) := by
  refine ⟨h.1, h.2.1, fun b_l j_l hb_l hf => ?_⟩
  show (if b_l = A ∧ j_l = k then v else gI s b_l j_l) = _
  rw [if_neg (fun e_l => by rw [e_l.1, e_l.2, hw] at hf; cases hf)]
  exact h.2.2 b_l j_l hb_l hf
theorem Fw_w {A a k : Nat} {v : Int} (h : Fw W g s) (e : A = a) (hw : W a k = true) : Fw W g (gw s A k v) := by
  subst e
  exact Fw_wv h hw
theorem Fw_c {A B b sp dp n : Nat} (h : Fw W g s) (e : B = b) (hw : ∀ k, W b k = true) : Fw W g (gcpy s A sp B dp n) := by
  subst e
  refine ⟨h.1, h.2.1, fun c_l j_l hc_l hf => ?_⟩
  show (if c_l = B ∧ dp ≤ j_l ∧ j_l < dp + n then gI s A (sp + (j_l - dp)) else gI s c_l j_l) = _
  rw [if_neg (fun e => by rw [e.1, hw] at hf; cases hf)]
  exact h.2.2 c_l j_l hc_l hf
theorem Fw_n {kd : Nat} (h : Fw W g s) : Fw W g (gnw s kd) := by
  have hl : gn g ≤ s.1 := h.1.2.1
  refine ⟨⟨h.1.1, Nat.le_succ_of_le h.1.2.1, fun a_l ha_l => ?_⟩, fun a_l k_l ha_l => ?_, fun a_l k_l ha_l hf => ?_⟩
  · show (if a_l = s.1 then kd else s.2.1 a_l) = _
    rw [if_neg (by omega)]
    exact h.1.2.2 a_l ha_l
  · show (if a_l = s.1 then 0 else s.2.2.2 a_l k_l) = _
    rw [if_neg (by omega)]
    exact h.2.1 a_l k_l ha_l
  · show (if a_l = s.1 then 0 else s.2.2.1 a_l k_l) = _
    rw [if_neg (by omega)]
    exact h.2.2 a_l k_l ha_l hf
theorem fr_r {X a k y : Nat} (h : Fw W g s) (e : X = a) (r : a < 232 ∧ gR g a k = y) : gR s X k = y := by
  subst e
  exact (h.2.1 X k (Nat.lt_of_lt_of_le r.1 h.1.1)).trans r.2
theorem r0_m43 : ∀ i, i < 6 → r0 43 i = 48 + i ∧ r0 16 i = 21 + i := by decide +kernel
theorem k0_m43 : k0 43 = 152 ∧ k0 16 = 152 := by decide +kernel
theorem fr_m43 {X : Nat} {i : Int} (h : Fw W g s) (hg : RF g) (hU : ∀ a k, csq a k = true → W a k = true) (e : X = 43) (h0 : 0 ≤ i) (h6 : i < 6) : Wa W (gR s X i.toNat) := by
  subst e
  intro k
  rw [h.2.1 43 i.toNat (Nat.lt_of_lt_of_le (by decide) h.1.1), hg 43 i.toNat (by decide) (fun z_l => by rw [k0_m43.1] at z_l; omega), (r0_m43 i.toNat (by omega)).1]
  refine hU _ k ?_
  unfold csq csa
  simp only [Bool.or_eq_true, Bool.and_eq_true, Nat.ble_eq]
  omega
theorem fr_m16 {X : Nat} {i : Int} (h : Fw W g s) (hg : RF g) (hU : ∀ a k, csd a k = true → W a k = true) (e : X = 16) (h0 : 0 ≤ i) (h6 : i < 6) : Wm W (gR s X i.toNat) := by
  subst e
  intro k hk
  rw [h.2.1 16 i.toNat (Nat.lt_of_lt_of_le (by decide) h.1.1), hg 16 i.toNat (by decide) (fun z_l => by rw [k0_m43.2] at z_l; omega), (r0_m43 i.toNat (by omega)).2]
  refine hU _ k ?_
  unfold csd
  simp only [Bool.or_eq_true, Bool.and_eq_true, Nat.ble_eq, Bool.not_eq_true', es_beqf]
  omega
theorem gQ_chk2 {j n : Int} (k : 0 ≤ j → j < n → gQ x P) : gQ (gchk j n x) P := by
  unfold gchk
  by_cases c : 0 ≤ j ∧ j < n
  · rw [if_pos c]; exact k c.1 c.2
  · rw [if_neg c]; exact gQ_none
theorem gQ_t0 {z : Option gO} {A : gS → Prop} {Z : gO → Q} {E : gS → Option Q} (h : gQ z (fun r => A r.2.2.2)) (k : ∀ s, A s → gQ (E s) P) (kz : ∀ (t : Nat) (s : gS), A s → P (Z (t, 0, 0, s))) : gQ (z.bind (gt0 Z E)) P := by
  cases z with
  | none => exact gQ_none
  | some r =>
    have hA := h r rfl
    show gQ (gt0 Z E r) P
    unfold gt0
    exact gQ_ite (k _ hA) (gQ_ite (gQ_ret (kz _ _ hA)) gQ_none)
theorem gQ_t1 {z : Option gO} {A : gS → Prop} {Z : gO → Q} {E : Int → gS → Option Q} (h : gQ z (fun r => A r.2.2.2)) (k : ∀ v s, A s → gQ (E v s) P) (kz : ∀ (t : Nat) (s : gS), A s → P (Z (t, 0, 0, s))) : gQ (z.bind (gt1 Z E)) P := by
  cases z with
  | none => exact gQ_none
  | some r =>
    have hA := h r rfl
    show gQ (gt1 Z E r) P
    unfold gt1
    exact gQ_ite (k _ _ hA) (gQ_ite (gQ_ret (kz _ _ hA)) gQ_none)
end Fw
theorem rr_0_0 {g : gS} (hg : RF g) : 0 < 232 ∧ gR g 0 0 = 1 := ⟨by decide, (hg 0 0 (by decide) (by decide +kernel)).trans (by decide +kernel)⟩
theorem rr_0_1 {g : gS} (hg : RF g) : 0 < 232 ∧ gR g 0 1 = 3 := ⟨by decide, (hg 0 1 (by decide) (by decide +kernel)).trans (by decide +kernel)⟩
theorem rr_0_2 {g : gS} (hg : RF g) : 0 < 232 ∧ gR g 0 2 = 6 := ⟨by decide, (hg 0 2 (by decide) (by decide +kernel)).trans (by decide +kernel)⟩
theorem rr_0_4 {g : gS} (hg : RF g) : 0 < 232 ∧ gR g 0 4 = 9 := ⟨by decide, (hg 0 4 (by decide) (by decide +kernel)).trans (by decide +kernel)⟩
theorem rr_0_5 {g : gS} (hg : RF g) : 0 < 232 ∧ gR g 0 5 = 15 := ⟨by decide, (hg 0 5 (by decide) (by decide +kernel)).trans (by decide +kernel)⟩
theorem rr_0_6 {g : gS} (hg : RF g) : 0 < 232 ∧ gR g 0 6 = 27 := ⟨by decide, (hg 0 6 (by decide) (by decide +kernel)).trans (by decide +kernel)⟩
theorem rr_0_7 {g : gS} (hg : RF g) : 0 < 232 ∧ gR g 0 7 = 34 := ⟨by decide, (hg 0 7 (by decide) (by decide +kernel)).trans (by decide +kernel)⟩
theorem rr_0_8 {g : gS} (hg : RF g) : 0 < 232 ∧ gR g 0 8 = 36 := ⟨by decide, (hg 0 8 (by decide) (by decide +kernel)).trans (by decide +kernel)⟩
theorem rr_0_9 {g : gS} (hg : RF g) : 0 < 232 ∧ gR g 0 9 = 42 := ⟨by decide, (hg 0 9 (by decide) (by decide +kernel)).trans (by decide +kernel)⟩
theorem rr_0_10 {g : gS} (hg : RF g) : 0 < 232 ∧ gR g 0 10 = 54 := ⟨by decide, (hg 0 10 (by decide) (by decide +kernel)).trans (by decide +kernel)⟩
theorem rr_0_11 {g : gS} (hg : RF g) : 0 < 232 ∧ gR g 0 11 = 60 := ⟨by decide, (hg 0 11 (by decide) (by decide +kernel)).trans (by decide +kernel)⟩
theorem rr_0_12 {g : gS} (hg : RF g) : 0 < 232 ∧ gR g 0 12 = 72 := ⟨by decide, (hg 0 12 (by decide) (by decide +kernel)).trans (by decide +kernel)⟩
theorem rr_3_0 {g : gS} (hg : RF g) : 3 < 232 ∧ gR g 3 0 = 4 := ⟨by decide, (hg 3 0 (by decide) (by decide +kernel)).trans (by decide +kernel)⟩
theorem rr_3_1 {g : gS} (hg : RF g) : 3 < 232 ∧ gR g 3 1 = 5 := ⟨by decide, (hg 3 1 (by decide) (by decide +kernel)).trans (by decide +kernel)⟩
theorem rr_15_0 {g : gS} (hg : RF g) : 15 < 232 ∧ gR g 15 0 = 16 := ⟨by decide, (hg 15 0 (by decide) (by decide +kernel)).trans (by decide +kernel)⟩
theorem rr_15_1 {g : gS} (hg : RF g) : 15 < 232 ∧ gR g 15 1 = 17 := ⟨by decide, (hg 15 1 (by decide) (by decide +kernel)).trans (by decide +kernel)⟩
theorem rr_15_2 {g : gS} (hg : RF g) : 15 < 232 ∧ gR g 15 2 = 18 := ⟨by decide, (hg 15 2 (by decide) (by decide +kernel)).trans (by decide +kernel)⟩
theorem rr_15_3 {g : gS} (hg : RF g) : 15 < 232 ∧ gR g 15 3 = 19 := ⟨by decide, (hg 15 3 (by decide) (by decide +kernel)).trans (by decide +kernel)⟩
theorem rr_19_0 {g : gS} (hg : RF g) : 19 < 232 ∧ gR g 19 0 = 20 := ⟨by decide, (hg 19 0 (by decide) (by decide +kernel)).trans (by decide +kernel)⟩
theorem rr_27_0 {g : gS} (hg : RF g) : 27 < 232 ∧ gR g 27 0 = 3 := ⟨by decide, (hg 27 0 (by decide) (by decide +kernel)).trans (by decide +kernel)⟩
theorem rr_27_1 {g : gS} (hg : RF g) : 27 < 232 ∧ gR g 27 1 = 9 := ⟨by decide, (hg 27 1 (by decide) (by decide +kernel)).trans (by decide +kernel)⟩
theorem rr_27_2 {g : gS} (hg : RF g) : 27 < 232 ∧ gR g 27 2 = 28 := ⟨by decide, (hg 27 2 (by decide) (by decide +kernel)).trans (by decide +kernel)⟩
theorem rr_27_3 {g : gS} (hg : RF g) : 27 < 232 ∧ gR g 27 3 = 29 := ⟨by decide, (hg 27 3 (by decide) (by decide +kernel)).trans (by decide +kernel)⟩
theorem rr_27_4 {g : gS} (hg : RF g) : 27 < 232 ∧ gR g 27 4 = 30 := ⟨by decide, (hg 27 4 (by decide) (by decide +kernel)).trans (by decide +kernel)⟩
theorem rr_27_5 {g : gS} (hg : RF g) : 27 < 232 ∧ gR g 27 5 = 31 := ⟨by decide, (hg 27 5 (by decide) (by decide +kernel)).trans (by decide +kernel)⟩
theorem rr_27_6 {g : gS} (hg : RF g) : 27 < 232 ∧ gR g 27 6 = 32 := ⟨by decide, (hg 27 6 (by decide) (by decide +kernel)).trans (by decide +kernel)⟩
theorem rr_27_7 {g : gS} (hg : RF g) : 27 < 232 ∧ gR g 27 7 = 33 := ⟨by decide, (hg 27 7 (by decide) (by decide +kernel)).trans (by decide +kernel)⟩
theorem rr_34_1 {g : gS} (hg : RF g) : 34 < 232 ∧ gR g 34 1 = 35 := ⟨by decide, (hg 34 1 (by decide) (by decide +kernel)).trans (by decide +kernel)⟩
theorem rr_42_0 {g : gS} (hg : RF g) : 42 < 232 ∧ gR g 42 0 = 43 := ⟨by decide, (hg 42 0 (by decide) (by decide +kernel)).trans (by decide +kernel)⟩
theorem rr_42_1 {g : gS} (hg : RF g) : 42 < 232 ∧ gR g 42 1 = 44 := ⟨by decide, (hg 42 1 (by decide) (by decide +kernel)).trans (by decide +kernel)⟩
theorem rr_42_2 {g : gS} (hg : RF g) : 42 < 232 ∧ gR g 42 2 = 45 := ⟨by decide, (hg 42 2 (by decide) (by decide +kernel)).trans (by decide +kernel)⟩
theorem rr_217_1 {g : gS} (hg : RF g) : 217 < 232 ∧ gR g 217 1 = 218 := ⟨by decide, (hg 217 1 (by decide) (by decide +kernel)).trans (by decide +kernel)⟩
theorem rr_217_2 {g : gS} (hg : RF g) : 217 < 232 ∧ gR g 217 2 = 219 := ⟨by decide, (hg 217 2 (by decide) (by decide +kernel)).trans (by decide +kernel)⟩
theorem rr_217_4 {g : gS} (hg : RF g) : 217 < 232 ∧ gR g 217 4 = 220 := ⟨by decide, (hg 217 4 (by decide) (by decide +kernel)).trans (by decide +kernel)⟩
theorem rr_217_5 {g : gS} (hg : RF g) : 217 < 232 ∧ gR g 217 5 = 221 := ⟨by decide, (hg 217 5 (by decide) (by decide +kernel)).trans (by decide +kernel)⟩
theorem rr_217_7 {g : gS} (hg : RF g) : 217 < 232 ∧ gR g 217 7 = 222 := ⟨by decide, (hg 217 7 (by decide) (by decide +kernel)).trans (by decide +kernel)⟩
theorem rr_217_14 {g : gS} (hg : RF g) : 217 < 232 ∧ gR g 217 14 = 223 := ⟨by decide, (hg 217 14 (by decide) (by decide +kernel)).trans (by decide +kernel)⟩
theorem rr_217_18 {g : gS} (hg : RF g) : 217 < 232 ∧ gR g 217 18 = 224 := ⟨by decide, (hg 217 18 (by decide) (by decide +kernel)).trans (by decide +kernel)⟩
theorem rr_217_19 {g : gS} (hg : RF g) : 217 < 232 ∧ gR g 217 19 = 225 := ⟨by decide, (hg 217 19 (by decide) (by decide +kernel)).trans (by decide +kernel)⟩
theorem rr_217_20 {g : gS} (hg : RF g) : 217 < 232 ∧ gR g 217 20 = 226 := ⟨by decide, (hg 217 20 (by decide) (by decide +kernel)).trans (by decide +kernel)⟩
theorem rr_217_21 {g : gS} (hg : RF g) : 217 < 232 ∧ gR g 217 21 = 227 := ⟨by decide, (hg 217 21 (by decide) (by decide +kernel)).trans (by decide +kernel)⟩
theorem rr_217_22 {g : gS} (hg : RF g) : 217 < 232 ∧ gR g 217 22 = 228 := ⟨by decide, (hg 217 22 (by decide) (by decide +kernel)).trans (by decide +kernel)⟩
theorem rr_217_23 {g : gS} (hg : RF g) : 217 < 232 ∧ gR g 217 23 = 229 := ⟨by decide, (hg 217 23 (by decide) (by decide +kernel)).trans (by decide +kernel)⟩
theorem rr_217_24 {g : gS} (hg : RF g) : 217 < 232 ∧ gR g 217 24 = 230 := ⟨by decide, (hg 217 24 (by decide) (by decide +kernel)).trans (by decide +kernel)⟩

end
section
theorem o_4 {W : Nat → Nat → Bool} {g s : gS} {a0 : Nat} {a1 : Int} {a2 : Int} (hg_o : RF g) (hU_o : ∀ a k, csq a k = true → W a k = true)  (h_o : Fw W g s) : gQ (f_4 a0 a1 a2 s) (fun r => Fw W g r.2.2.2) := by
  unfold f_4
  refine gQ_chk2 (fun ha1_o hb2_o => ?_)
  refine gQ_ite ?_ ?_
  · exact gQ_ret h_o
  · exact gQ_ret h_o

theorem o_5 {W : Nat → Nat → Bool} {g s : gS} {a0 : Nat} {a1 : Int} {a2 : Int} (hg_o : RF g) (hU_o : ∀ a k, csq a k = true → W a k = true)  (h_o : Fw W g s) : gQ (f_5 a0 a1 a2 s) (fun r => Fw W g r.2.2.2) := by
  unfold f_5
  refine gQ_loop (fun y_l => Fw W g (y_l.2.2.2.2)) (fun y_l hy_o => ?_) h_o
  obtain ⟨x3_o, x4_o, x5_o, x6_o, x7_o⟩ := y_l
  have h8_o := hy_o
  dsimp only at h8_o
  show gQ (sb_5_5 x3_o x4_o x5_o x6_o x7_o) _
  unfold sb_5_5
  dsimp only
  refine gQ_ite ?_ ?_
  · refine gQ_ite ?_ ?_
    · exact gQ_ret h8_o
    · refine gQ_chk2 (fun ha9_o hb10_o => ?_)
      exact gQ_ret h8_o
  · refine gQ_map ?_
    refine gQ_ite ?_ ?_
    · exact gQ_ret h8_o
    · exact gQ_ret h8_o

theorem o_6 {W : Nat → Nat → Bool} {g s : gS} {a0 : Nat} {a1 : Int} (hg_o : RF g) (hU_o : ∀ a k, csq a k = true → W a k = true)  (h_o : Fw W g s) : gQ (f_6 a0 a1 s) (fun r => Fw W g r.2.2.2) := by
  unfold f_6
  refine gQ_loop (fun y_l => Fw W g (y_l.2.2.2.2)) (fun y_l hy_o => ?_) h_o
  obtain ⟨x11_o, x12_o, x13_o, x14_o, x15_o⟩ := y_l
  have h16_o := hy_o
  dsimp only at h16_o
  show gQ (sb_6_4 x11_o x12_o x13_o x14_o x15_o) _
  unfold sb_6_4
  dsimp only
  refine gQ_ite ?_ ?_
  · refine gQ_ite ?_ ?_
    · exact gQ_ret h16_o
    · refine gQ_chk2 (fun ha17_o hb18_o => ?_)
      exact gQ_ret h16_o
  · refine gQ_map ?_
    exact gQ_ret h16_o

theorem o_7 {W : Nat → Nat → Bool} {g s : gS} {a0 : Nat} {a1 : Nat} (hg_o : RF g) (hU_o : ∀ a k, csq a k = true → W a k = true)  (h_o : Fw W g s) : gQ (f_7 a0 a1 s) (fun r => Fw W g r.2.2.2) := by
  unfold f_7
  refine gQ_ite ?_ ?_
  · unfold fb_7_22
    refine gQ_loop (fun y_l => Fw W g (y_l.2.2.2)) (fun y_l hy_o => ?_) h_o
    obtain ⟨x19_o, x20_o, x21_o, x22_o⟩ := y_l
    have h23_o := hy_o
    dsimp only at h23_o
    show gQ (sb_7_23 x19_o x20_o x21_o x22_o) _
    unfold sb_7_23
    dsimp only
    refine gQ_ite ?_ ?_
    · refine gQ_chk2 (fun ha24_o hb25_o => ?_)
      exact gQ_ret h23_o
    · refine gQ_map ?_
      exact gQ_ret h23_o
  · unfold fb_7_22
    refine gQ_loop (fun y_l => Fw W g (y_l.2.2.2)) (fun y_l hy_o => ?_) h_o
    obtain ⟨x26_o, x27_o, x28_o, x29_o⟩ := y_l
    have h30_o := hy_o
    dsimp only at h30_o
    show gQ (sb_7_23 x26_o x27_o x28_o x29_o) _
    unfold sb_7_23
    dsimp only
    refine gQ_ite ?_ ?_
    · refine gQ_chk2 (fun ha31_o hb32_o => ?_)
      exact gQ_ret h30_o
    · refine gQ_map ?_
      exact gQ_ret h30_o

theorem o_8 {W : Nat → Nat → Bool} {g s : gS} {a0 : Nat} {a1 : Nat} (hg_o : RF g) (hU_o : ∀ a k, csq a k = true → W a k = true)  (h_o : Fw W g s) : gQ (f_8 a0 a1 s) (fun r => Fw W g r.2.2.2) := by
  unfold f_8
  dsimp only
  refine gQ_loop (fun y_l => Fw W g (y_l.2.2.2)) (fun y_l hy_o => ?_) h_o
  obtain ⟨x33_o, x34_o, x35_o, x36_o⟩ := y_l
  have h37_o := hy_o
  dsimp only at h37_o
  show gQ (sb_8_11 x33_o x34_o x35_o x36_o) _
  unfold sb_8_11
  dsimp only
  refine gQ_ite ?_ ?_
  · refine gQ_chk2 (fun ha38_o hb39_o => ?_)
    exact gQ_ret h37_o
  · refine gQ_map ?_
    exact gQ_ret h37_o

theorem o_9 {W : Nat → Nat → Bool} {g s : gS} {a0 : Nat} {a1 : Nat} (hg_o : RF g) (hU_o : ∀ a k, csq a k = true → W a k = true)  (h_o : Fw W g s) : gQ (f_9 a0 a1 s) (fun r => Fw W g r.2.2.2) := by
  unfold f_9
  refine gQ_loop (fun y_l => Fw W g (y_l.2.2.2)) (fun y_l hy_o => ?_) h_o
  obtain ⟨x40_o, x41_o, x42_o, x43_o⟩ := y_l
  have h44_o := hy_o
  dsimp only at h44_o
  show gQ (sb_9_7 x40_o x41_o x42_o x43_o) _
  unfold sb_9_7
  dsimp only
  refine gQ_ite ?_ ?_
  · refine gQ_chk2 (fun ha45_o hb46_o => ?_)
    exact gQ_ret h44_o
  · refine gQ_map ?_
    exact gQ_ret h44_o

theorem o_26 {W : Nat → Nat → Bool} {g s : gS} {a0 : Nat} {a1 : Int} (hg_o : RF g) (hU_o : ∀ a k, csq a k = true → W a k = true) (ea0_o : a0 = 42) (h_o : Fw W g s) : gQ (f_26 a0 a1 s) (fun r => Fw W g r.2.2.2) := by
  subst ea0_o
  unfold f_26
  dsimp only
  exact gQ_ret (Fw_w (Fw_w h_o rfl (hU_o 42 _ rfl)) rfl (hU_o 42 _ rfl))

theorem o_26d {W : Nat → Nat → Bool} {g s : gS} {a0 : Nat} {a1 : Int} (hg_o : RF g) (hU_o : ∀ a k, csd a k = true → W a k = true) (ea0_o : a0 = 15) (h_o : Fw W g s) : gQ (f_26 a0 a1 s) (fun r => Fw W g r.2.2.2) := by
  subst ea0_o
  unfold f_26
  dsimp only
  exact gQ_ret (Fw_w (Fw_w h_o rfl (hU_o 15 _ rfl)) rfl (hU_o 15 _ rfl))

theorem o_29 {W : Nat → Nat → Bool} {g s : gS} {a0 : Nat} {a1 : Int} (hg_o : RF g) (hU_o : ∀ a k, csq a k = true → W a k = true)  (h_o : Fw W g s) : gQ (f_29 a0 a1 s) (fun r => Fw W g r.2.2.2) := by
  unfold f_29
  refine gQ_loop (fun y_l => Fw W g (y_l.2.2.2.2)) (fun y_l hy_o => ?_) h_o
  obtain ⟨x47_o, x48_o, x49_o, x50_o, x51_o⟩ := y_l
  have h52_o := hy_o
  dsimp only at h52_o
  show gQ (sb_29_4 x47_o x48_o x49_o x50_o x51_o) _
  unfold sb_29_4
  dsimp only
  refine gQ_ite ?_ ?_
  · refine gQ_chk2 (fun ha53_o hb54_o => ?_)
    refine gQ_ite ?_ ?_
    · exact gQ_ret h52_o
    · exact gQ_ret h52_o
  · refine gQ_map ?_
    exact gQ_ret h52_o

theorem o_30 {W : Nat → Nat → Bool} {g s : gS} {a0 : Nat} (hg_o : RF g) (hU_o : ∀ a k, csq a k = true → W a k = true)  (h_o : Fw W g s) : gQ (f_30 a0 s) (fun r => Fw W g r.2.2.2) := by
  unfold f_30
  refine gQ_loop (fun y_l => Fw W g (y_l.2.2.2)) (fun y_l hy_o => ?_) h_o
  obtain ⟨x55_o, x56_o, x57_o, x58_o⟩ := y_l
  have h59_o := hy_o
  dsimp only at h59_o
  show gQ (sb_30_4 x55_o x56_o x57_o x58_o) _
  unfold sb_30_4
  dsimp only
  refine gQ_ite ?_ ?_
  · refine gQ_chk2 (fun ha60_o hb61_o => ?_)
    refine gQ_ite ?_ ?_
    · refine gQ_chk2 (fun ha62_o hb63_o => ?_)
      exact gQ_ret h59_o
    · exact gQ_ret h59_o
  · refine gQ_map ?_
    exact gQ_ret h59_o

theorem o_31 {W : Nat → Nat → Bool} {g s : gS} {a0 : Nat} {a1 : Int} (hg_o : RF g) (hU_o : ∀ a k, csq a k = true → W a k = true)  (h_o : Fw W g s) : gQ (f_31 a0 a1 s) (fun r => Fw W g r.2.2.2) := by
  unfold f_31
  refine gQ_loop (fun y_l => Fw W g (y_l.2.2.2.2)) (fun y_l hy_o => ?_) h_o
  obtain ⟨x64_o, x65_o, x66_o, x67_o, x68_o⟩ := y_l
  have h69_o := hy_o
  dsimp only at h69_o
  show gQ (sb_31_4 x64_o x65_o x66_o x67_o x68_o) _
  unfold sb_31_4
  dsimp only
  refine gQ_ite ?_ ?_
  · refine gQ_chk2 (fun ha70_o hb71_o => ?_)
    exact gQ_ret h69_o
  · refine gQ_map ?_
    exact gQ_ret h69_o

theorem o_32 {W : Nat → Nat → Bool} {g s : gS} {a0 : Nat} {a1 : Int} (hg_o : RF g) (hU_o : ∀ a k, csq a k = true → W a k = true)  (h_o : Fw W g s) : gQ (f_32 a0 a1 s) (fun r => Fw W g r.2.2.2) := by
  unfold f_32
  refine gQ_loop (fun y_l => Fw W g (y_l.2.2.2.2)) (fun y_l hy_o => ?_) h_o
  obtain ⟨x72_o, x73_o, x74_o, x75_o, x76_o⟩ := y_l
  have h77_o := hy_o
  dsimp only at h77_o
  show gQ (sb_32_4 x72_o x73_o x74_o x75_o x76_o) _
  unfold sb_32_4
  dsimp only
  refine gQ_ite ?_ ?_
  · refine gQ_ite ?_ ?_
    · exact gQ_ret h77_o
    · refine gQ_chk2 (fun ha78_o hb79_o => ?_)
      exact gQ_ret h77_o
  · refine gQ_map ?_
    exact gQ_ret h77_o

theorem o_39 {W : Nat → Nat → Bool} {g s : gS} {a0 : Nat} {a1 : Int} (hg_o : RF g) (hU_o : ∀ a k, csq a k = true → W a k = true)  (h_o : Fw W g s) : gQ (f_39 a0 a1 s) (fun r => Fw W g r.2.2.2) := by
  unfold f_39
  refine gQ_ite ?_ ?_
  · unfold fb_39_19
    exact gQ_ret h_o
  · refine gQ_ite ?_ ?_
    · refine gQ_chk2 (fun ha80_o hb81_o => ?_)
      exact gQ_ret h_o
    · unfold fb_39_19
      exact gQ_ret h_o

theorem o_41 {W : Nat → Nat → Bool} {g s : gS} {a0 : Nat} (hg_o : RF g) (hU_o : ∀ a k, csq a k = true → W a k = true) (ea0_o : a0 = 3) (h_o : Fw W g s) : gQ (f_41 a0 s) (fun r => Fw W g r.2.2.2) := by
  subst ea0_o
  unfold f_41
  dsimp only
  refine gQ_ite ?_ ?_
  · exact gQ_ret h_o
  · refine gQ_chk2 (fun ha82_o hb83_o => ?_)
    exact gQ_ret (Fw_w h_o rfl (hU_o 3 _ rfl))

theorem o_40 {W : Nat → Nat → Bool} {g s : gS} {a0 : Nat} {a1 : Int} (hg_o : RF g) (hU_o : ∀ a k, csq a k = true → W a k = true) (ea0_o : a0 = 3) (h_o : Fw W g s) : gQ (f_40 a0 a1 s) (fun r => Fw W g r.2.2.2) := by
  subst ea0_o
  unfold f_40
  dsimp only
  refine gQ_ite ?_ ?_
  · refine gQ_chk2 (fun ha84_o hb85_o => ?_)
    exact gQ_ret (Fw_w (Fw_w h_o (fr_r h_o rfl (rr_3_1 hg_o)) (hU_o 5 _ rfl)) rfl (hU_o 3 _ rfl))
  · exact gQ_ret h_o

theorem o_38 {W : Nat → Nat → Bool} {g s : gS} {a0 : Nat} {a1 : Int} (hg_o : RF g) (hU_o : ∀ a k, csq a k = true → W a k = true) (ea0_o : a0 = 3) (h_o : Fw W g s) : gQ (f_38 a0 a1 s) (fun r => Fw W g r.2.2.2) := by
  subst ea0_o
  unfold f_38
  refine gQ_v1 (A := Fw W g) (o_41 hg_o hU_o rfl h_o) (fun v2 s1_l h86_o => ?_)
  refine gQ_ite ?_ ?_
  · refine gQ_v0 (A := Fw W g) (o_40 hg_o hU_o rfl h86_o) (fun s3_l h87_o => ?_)
    exact gQ_ret h87_o
  · refine gQ_v1 (A := Fw W g) (o_41 hg_o hU_o rfl h86_o) (fun v6 s5 h88_o => ?_)
    refine gQ_ite ?_ ?_
    · unfold fb_38_114
      refine gQ_v0 (A := Fw W g) (o_40 hg_o hU_o rfl h88_o) (fun s7 h89_o => ?_)
      exact gQ_ret h89_o
    · refine gQ_ite ?_ ?_
      · refine gQ_v0 (A := Fw W g) (o_40 hg_o hU_o rfl h88_o) (fun s9 h90_o => ?_)
        exact gQ_ret h90_o
      · refine gQ_ite ?_ ?_
        · refine gQ_ite ?_ ?_
          · unfold fb_38_81
            refine gQ_v0 (A := Fw W g) (o_40 hg_o hU_o rfl h88_o) (fun s11 h91_o => ?_)
            exact gQ_ret h91_o
          · unfold fb_38_81
            refine gQ_v0 (A := Fw W g) (o_40 hg_o hU_o rfl h88_o) (fun s11 h92_o => ?_)
            exact gQ_ret h92_o
        · refine gQ_ite ?_ ?_
          · refine gQ_ite ?_ ?_
            · unfold fb_38_98
              refine gQ_v0 (A := Fw W g) (o_40 hg_o hU_o rfl h88_o) (fun s13 h93_o => ?_)
              exact gQ_ret h93_o
            · unfold fb_38_98
              refine gQ_v0 (A := Fw W g) (o_40 hg_o hU_o rfl h88_o) (fun s13 h94_o => ?_)
              exact gQ_ret h94_o
          · refine gQ_ite ?_ ?_
            · unfold fb_38_114
              refine gQ_v0 (A := Fw W g) (o_40 hg_o hU_o rfl h88_o) (fun s7 h95_o => ?_)
              exact gQ_ret h95_o
            · refine gQ_ite ?_ ?_
              · refine gQ_v0 (A := Fw W g) (o_40 hg_o hU_o rfl h88_o) (fun s15 h96_o => ?_)
                exact gQ_ret h96_o
              · unfold fb_38_114
                refine gQ_v0 (A := Fw W g) (o_40 hg_o hU_o rfl h88_o) (fun s7 h97_o => ?_)
                exact gQ_ret h97_o

theorem o_35 {W : Nat → Nat → Bool} {g s : gS} {a0 : Nat} {a1 : Int} {a2 : Nat} {a3 : Int} (hg_o : RF g) (hU_o : ∀ a k, csq a k = true → W a k = true) (ea0_o : a0 = 3) (h_o : Fw W g s) : gQ (f_35 a0 a1 a2 a3 s) (fun r => Fw W g r.2.2.2) := by
  subst ea0_o
  unfold f_35
  dsimp only
  refine gQ_ite ?_ ?_
  · unfold fb_35_65
    dsimp only
    refine gQ_chk2 (fun ha98_o hb99_o => ?_)
    refine gQ_ite ?_ ?_
    · exact gQ_ret (Fw_w (Fw_w (Fw_w (Fw_w (Fw_w (Fw_w (Fw_w h_o (fr_r h_o rfl (rr_3_0 hg_o)) (hU_o 4 _ rfl)) (fr_r (Fw_w h_o (fr_r h_o rfl (rr_3_0 hg_o)) (hU_o 4 _ rfl)) rfl (rr_3_0 hg_o)) (hU_o 4 _ rfl)) (fr_r (Fw_w (Fw_w h_o (fr_r h_o rfl (rr_3_0 hg_o)) (hU_o 4 _ rfl)) (fr_r (Fw_w h_o (fr_r h_o rfl (rr_3_0 hg_o)) (hU_o 4 _ rfl)) rfl (rr_3_0 hg_o)) (hU_o 4 _ rfl)) rfl (rr_3_0 hg_o)) (hU_o 4 _ rfl)) (fr_r (Fw_w (Fw_w (Fw_w h_o (fr_r h_o rfl (rr_3_0 hg_o)) (hU_o 4 _ rfl)) (fr_r (Fw_w h_o (fr_r h_o rfl (rr_3_0 hg_o)) (hU_o 4 _ rfl)) rfl (rr_3_0 hg_o)) (hU_o 4 _ rfl)) (fr_r (Fw_w (Fw_w h_o (fr_r h_o rfl (rr_3_0 hg_o)) (hU_o 4 _ rfl)) (fr_r (Fw_w h_o (fr_r h_o rfl (rr_3_0 hg_o)) (hU_o 4 _ rfl)) rfl (rr_3_0 hg_o)) (hU_o 4 _ rfl)) rfl (rr_3_0 hg_o)) (hU_o 4 _ rfl)) rfl (rr_3_0 hg_o)) (hU_o 4 _ rfl)) (fr_r (Fw_w (Fw_w (Fw_w (Fw_w h_o (fr_r h_o rfl (rr_3_0 hg_o)) (hU_o 4 _ rfl)) (fr_r (Fw_w h_o (fr_r h_o rfl (rr_3_0 hg_o)) (hU_o 4 _ rfl)) rfl (rr_3_0 hg_o)) (hU_o 4 _ rfl)) (fr_r (Fw_w (Fw_w h_o (fr_r h_o rfl (rr_3_0 hg_o)) (hU_o 4 _ rfl)) (fr_r (Fw_w h_o (fr_r h_o rfl (rr_3_0 hg_o)) (hU_o 4 _ rfl)) rfl (rr_3_0 hg_o)) (hU_o 4 _ rfl)) rfl (rr_3_0 hg_o)) (hU_o 4 _ rfl)) (fr_r (Fw_w (Fw_w (Fw_w h_o (fr_r h_o rfl (rr_3_0 hg_o)) (hU_o 4 _ rfl)) (fr_r (Fw_w h_o (fr_r h_o rfl (rr_3_0 hg_o)) (hU_o 4 _ rfl)) rfl (rr_3_0 hg_o)) (hU_o 4 _ rfl)) (fr_r (Fw_w (Fw_w h_o (fr_r h_o rfl (rr_3_0 hg_o)) (hU_o 4 _ rfl)) (fr_r (Fw_w h_o (fr_r h_o rfl (rr_3_0 hg_o)) (hU_o 4 _ rfl)) rfl (rr_3_0 hg_o)) (hU_o 4 _ rfl)) rfl (rr_3_0 hg_o)) (hU_o 4 _ rfl)) rfl (rr_3_0 hg_o)) (hU_o 4 _ rfl)) rfl (rr_3_0 hg_o)) (hU_o 4 _ rfl)) (fr_r (Fw_w (Fw_w (Fw_w (Fw_w (Fw_w h_o (fr_r h_o rfl (rr_3_0 hg_o)) (hU_o 4 _ rfl)) (fr_r (Fw_w h_o (fr_r h_o rfl (rr_3_0 hg_o)) (hU_o 4 _ rfl)) rfl (rr_3_0 hg_o)) (hU_o 4 _ rfl)) (fr_r (Fw_w (Fw_w h_o (fr_r h_o rfl (rr_3_0 hg_o)) (hU_o 4 _ rfl)) (fr_r (Fw_w h_o (fr_r h_o rfl (rr_3_0 hg_o)) (hU_o 4 _ rfl)) rfl (rr_3_0 hg_o)) (hU_o 4 _ rfl)) rfl (rr_3_0 hg_o)) (hU_o 4 _ rfl)) (fr_r (Fw_w (Fw_w (Fw_w h_o (fr_r h_o rfl (rr_3_0 hg_o)) (hU_o 4 _ rfl)) (fr_r (Fw_w h_o (fr_r h_o rfl (rr_3_0 hg_o)) (hU_o 4 _ rfl)) rfl (rr_3_0 hg_o)) (hU_o 4 _ rfl)) (fr_r (Fw_w (Fw_w h_o (fr_r h_o rfl (rr_3_0 hg_o)) (hU_o 4 _ rfl)) (fr_r (Fw_w h_o (fr_r h_o rfl (rr_3_0 hg_o)) (hU_o 4 _ rfl)) rfl (rr_3_0 hg_o)) (hU_o 4 _ rfl)) rfl (rr_3_0 hg_o)) (hU_o 4 _ rfl)) rfl (rr_3_0 hg_o)) (hU_o 4 _ rfl)) (fr_r (Fw_w (Fw_w (Fw_w (Fw_w h_o (fr_r h_o rfl (rr_3_0 hg_o)) (hU_o 4 _ rfl)) (fr_r (Fw_w h_o (fr_r h_o rfl (rr_3_0 hg_o)) (hU_o 4 _ rfl)) rfl (rr_3_0 hg_o)) (hU_o 4 _ rfl)) (fr_r (Fw_w (Fw_w h_o (fr_r h_o rfl (rr_3_0 hg_o)) (hU_o 4 _ rfl)) (fr_r (Fw_w h_o (fr_r h_o rfl (rr_3_0 hg_o)) (hU_o 4 _ rfl)) rfl (rr_3_0 hg_o)) (hU_o 4 _ rfl)) rfl (rr_3_0 hg_o)) (hU_o 4 _ rfl)) (fr_r (Fw_w (Fw_w (Fw_w h_o (fr_r h_o rfl (rr_3_0 hg_o)) (hU_o 4 _ rfl)) (fr_r (Fw_w h_o (fr_r h_o rfl (rr_3_0 hg_o)) (hU_o 4 _ rfl)) rfl (rr_3_0 hg_o)) (hU_o 4 _ rfl)) (fr_r (Fw_w (Fw_w h_o (fr_r h_o rfl (rr_3_0 hg_o)) (hU_o 4 _ rfl)) (fr_r (Fw_w h_o (fr_r h_o rfl (rr_3_0 hg_o)) (hU_o 4 _ rfl)) rfl (rr_3_0 hg_o)) (hU_o 4 _ rfl)) rfl (rr_3_0 hg_o)) (hU_o 4 _ rfl)) rfl (rr_3_0 hg_o)) (hU_o 4 _ rfl)) rfl (rr_3_0 hg_o)) (hU_o 4 _ rfl)) rfl (rr_3_0 hg_o)) (hU_o 4 _ rfl)) (fr_r (Fw_w (Fw_w (Fw_w (Fw_w (Fw_w (Fw_w h_o (fr_r h_o rfl (rr_3_0 hg_o)) (hU_o 4 _ rfl)) (fr_r (Fw_w h_o (fr_r h_o rfl (rr_3_0 hg_o)) (hU_o 4 _ rfl)) rfl (rr_3_0 hg_o)) (hU_o 4 _ rfl)) (fr_r (Fw_w (Fw_w h_o (fr_r h_o rfl (rr_3_0 hg_o)) (hU_o 4 _ rfl)) (fr_r (Fw_w h_o (fr_r h_o rfl (rr_3_0 hg_o)) (hU_o 4 _ rfl)) rfl (rr_3_0 hg_o)) (hU_o 4 _ rfl)) rfl (rr_3_0 hg_o)) (hU_o 4 _ rfl)) (fr_r (Fw_w (Fw_w (Fw_w h_o (fr_r h_o rfl (rr_3_0 hg_o)) (hU_o 4 _ rfl)) (fr_r (Fw_w h_o (fr_r h_o rfl (rr_3_0 hg_o)) (hU_o 4 _ rfl)) rfl (rr_3_0 hg_o)) (hU_o 4 _ rfl)) (fr_r (Fw_w (Fw_w h_o (fr_r h_o rfl (rr_3_0 hg_o)) (hU_o 4 _ rfl)) (fr_r (Fw_w h_o (fr_r h_o rfl (rr_3_0 hg_o)) (hU_o 4 _ rfl)) rfl (rr_3_0 hg_o)) (hU_o 4 _ rfl)) rfl (rr_3_0 hg_o)) (hU_o 4 _ rfl)) rfl (rr_3_0 hg_o)) (hU_o 4 _ rfl)) (fr_r (Fw_w (Fw_w (Fw_w (Fw_w h_o (fr_r h_o rfl (rr_3_0 hg_o)) (hU_o 4 _ rfl)) (fr_r (Fw_w h_o (fr_r h_o rfl (rr_3_0 hg_o)) (hU_o 4 _ rfl)) rfl (rr_3_0 hg_o)) (hU_o 4 _ rfl)) (fr_r (Fw_w (Fw_w h_o (fr_r h_o rfl (rr_3_0 hg_o)) (hU_o 4 _ rfl)) (fr_r (Fw_w h_o (fr_r h_o rfl (rr_3_0 hg_o)) (hU_o 4 _ rfl)) rfl (rr_3_0 hg_o)) (hU_o 4 _ rfl)) rfl (rr_3_0 hg_o)) (hU_o 4 _ rfl)) (fr_r (Fw_w (Fw_w (Fw_w h_o (fr_r h_o rfl (rr_3_0 hg_o)) (hU_o 4 _ rfl)) (fr_r (Fw_w h_o (fr_r h_o rfl (rr_3_0 hg_o)) (hU_o 4 _ rfl)) rfl (rr_3_0 hg_o)) (hU_o 4 _ rfl)) (fr_r (Fw_w (Fw_w h_o (fr_r h_o rfl (rr_3_0 hg_o)) (hU_o 4 _ rfl)) (fr_r (Fw_w h_o (fr_r h_o rfl (rr_3_0 hg_o)) (hU_o 4 _ rfl)) rfl (rr_3_0 hg_o)) (hU_o 4 _ rfl)) rfl (rr_3_0 hg_o)) (hU_o 4 _ rfl)) rfl (rr_3_0 hg_o)) (hU_o 4 _ rfl)) rfl (rr_3_0 hg_o)) (hU_o 4 _ rfl)) (fr_r (Fw_w (Fw_w (Fw_w (Fw_w (Fw_w h_o (fr_r h_o rfl (rr_3_0 hg_o)) (hU_o 4 _ rfl)) (fr_r (Fw_w h_o (fr_r h_o rfl (rr_3_0 hg_o)) (hU_o 4 _ rfl)) rfl (rr_3_0 hg_o)) (hU_o 4 _ rfl)) (fr_r (Fw_w (Fw_w h_o (fr_r h_o rfl (rr_3_0 hg_o)) (hU_o 4 _ rfl)) (fr_r (Fw_w h_o (fr_r h_o rfl (rr_3_0 hg_o)) (hU_o 4 _ rfl)) rfl (rr_3_0 hg_o)) (hU_o 4 _ rfl)) rfl (rr_3_0 hg_o)) (hU_o 4 _ rfl)) (fr_r (Fw_w (Fw_w (Fw_w h_o (fr_r h_o rfl (rr_3_0 hg_o)) (hU_o 4 _ rfl)) (fr_r (Fw_w h_o (fr_r h_o rfl (rr_3_0 hg_o)) (hU_o 4 _ rfl)) rfl (rr_3_0 hg_o)) (hU_o 4 _ rfl)) (fr_r (Fw_w (Fw_w h_o (fr_r h_o rfl (rr_3_0 hg_o)) (hU_o 4 _ rfl)) (fr_r (Fw_w h_o (fr_r h_o rfl (rr_3_0 hg_o)) (hU_o 4 _ rfl)) rfl (rr_3_0 hg_o)) (hU_o 4 _ rfl)) rfl (rr_3_0 hg_o)) (hU_o 4 _ rfl)) rfl (rr_3_0 hg_o)) (hU_o 4 _ rfl)) (fr_r (Fw_w (Fw_w (Fw_w (Fw_w h_o (fr_r h_o rfl (rr_3_0 hg_o)) (hU_o 4 _ rfl)) (fr_r (Fw_w h_o (fr_r h_o rfl (rr_3_0 hg_o)) (hU_o 4 _ rfl)) rfl (rr_3_0 hg_o)) (hU_o 4 _ rfl)) (fr_r (Fw_w (Fw_w h_o (fr_r h_o rfl (rr_3_0 hg_o)) (hU_o 4 _ rfl)) (fr_r (Fw_w h_o (fr_r h_o rfl (rr_3_0 hg_o)) (hU_o 4 _ rfl)) rfl (rr_3_0 hg_o)) (hU_o 4 _ rfl)) rfl (rr_3_0 hg_o)) (hU_o 4 _ rfl)) (fr_r (Fw_w (Fw_w (Fw_w h_o (fr_r h_o rfl (rr_3_0 hg_o)) (hU_o 4 _ rfl)) (fr_r (Fw_w h_o (fr_r h_o rfl (rr_3_0 hg_o)) (hU_o 4 _ rfl)) rfl (rr_3_0 hg_o)) (hU_o 4 _ rfl)) (fr_r (Fw_w (Fw_w h_o (fr_r h_o rfl (rr_3_0 hg_o)) (hU_o 4 _ rfl)) (fr_r (Fw_w h_o (fr_r h_o rfl (rr_3_0 hg_o)) (hU_o 4 _ rfl)) rfl (rr_3_0 hg_o)) (hU_o 4 _ rfl)) rfl (rr_3_0 hg_o)) (hU_o 4 _ rfl)) rfl (rr_3_0 hg_o)) (hU_o 4 _ rfl)) rfl (rr_3_0 hg_o)) (hU_o 4 _ rfl)) rfl (rr_3_0 hg_o)) (hU_o 4 _ rfl)) rfl (rr_3_0 hg_o)) (hU_o 4 _ rfl))
    · exact gQ_ret (Fw_w (Fw_w (Fw_w (Fw_w (Fw_w (Fw_w (Fw_w h_o (fr_r h_o rfl (rr_3_0 hg_o)) (hU_o 4 _ rfl)) (fr_r (Fw_w h_o (fr_r h_o rfl (rr_3_0 hg_o)) (hU_o 4 _ rfl)) rfl (rr_3_0 hg_o)) (hU_o 4 _ rfl)) (fr_r (Fw_w (Fw_w h_o (fr_r h_o rfl (rr_3_0 hg_o)) (hU_o 4 _ rfl)) (fr_r (Fw_w h_o (fr_r h_o rfl (rr_3_0 hg_o)) (hU_o 4 _ rfl)) rfl (rr_3_0 hg_o)) (hU_o 4 _ rfl)) rfl (rr_3_0 hg_o)) (hU_o 4 _ rfl)) (fr_r (Fw_w (Fw_w (Fw_w h_o (fr_r h_o rfl (rr_3_0 hg_o)) (hU_o 4 _ rfl)) (fr_r (Fw_w h_o (fr_r h_o rfl (rr_3_0 hg_o)) (hU_o 4 _ rfl)) rfl (rr_3_0 hg_o)) (hU_o 4 _ rfl)) (fr_r (Fw_w (Fw_w h_o (fr_r h_o rfl (rr_3_0 hg_o)) (hU_o 4 _ rfl)) (fr_r (Fw_w h_o (fr_r h_o rfl (rr_3_0 hg_o)) (hU_o 4 _ rfl)) rfl (rr_3_0 hg_o)) (hU_o 4 _ rfl)) rfl (rr_3_0 hg_o)) (hU_o 4 _ rfl)) rfl (rr_3_0 hg_o)) (hU_o 4 _ rfl)) (fr_r (Fw_w (Fw_w (Fw_w (Fw_w h_o (fr_r h_o rfl (rr_3_0 hg_o)) (hU_o 4 _ rfl)) (fr_r (Fw_w h_o (fr_r h_o rfl (rr_3_0 hg_o)) (hU_o 4 _ rfl)) rfl (rr_3_0 hg_o)) (hU_o 4 _ rfl)) (fr_r (Fw_w (Fw_w h_o (fr_r h_o rfl (rr_3_0 hg_o)) (hU_o 4 _ rfl)) (fr_r (Fw_w h_o (fr_r h_o rfl (rr_3_0 hg_o)) (hU_o 4 _ rfl)) rfl (rr_3_0 hg_o)) (hU_o 4 _ rfl)) rfl (rr_3_0 hg_o)) (hU_o 4 _ rfl)) (fr_r (Fw_w (Fw_w (Fw_w h_o (fr_r h_o rfl (rr_3_0 hg_o)) (hU_o 4 _ rfl)) (fr_r (Fw_w h_o (fr_r h_o rfl (rr_3_0 hg_o)) (hU_o 4 _ rfl)) rfl (rr_3_0 hg_o)) (hU_o 4 _ rfl)) (fr_r (Fw_w (Fw_w h_o (fr_r h_o rfl (rr_3_0 hg_o)) (hU_o 4 _ rfl)) (fr_r (Fw_w h_o (fr_r h_o rfl (rr_3_0 hg_o)) (hU_o 4 _ rfl)) rfl (rr_3_0 hg_o)) (hU_o 4 _ rfl)) rfl (rr_3_0 hg_o)) (hU_o 4 _ rfl)) rfl (rr_3_0 hg_o)) (hU_o 4 _ rfl)) rfl (rr_3_0 hg_o)) (hU_o 4 _ rfl)) (fr_r (Fw_w (Fw_w (Fw_w (Fw_w (Fw_w h_o (fr_r h_o rfl (rr_3_0 hg_o)) (hU_o 4 _ rfl)) (fr_r (Fw_w h_o (fr_r h_o rfl (rr_3_0 hg_o)) (hU_o 4 _ rfl)) rfl (rr_3_0 hg_o)) (hU_o 4 _ rfl)) (fr_r (Fw_w (Fw_w h_o (fr_r h_o rfl (rr_3_0 hg_o)) (hU_o 4 _ rfl)) (fr_r (Fw_w h_o (fr_r h_o rfl (rr_3_0 hg_o)) (hU_o 4 _ rfl)) rfl (rr_3_0 hg_o)) (hU_o 4 _ rfl)) rfl (rr_3_0 hg_o)) (hU_o 4 _ rfl)) (fr_r (Fw_w (Fw_w (Fw_w h_o (fr_r h_o rfl (rr_3_0 hg_o)) (hU_o 4 _ rfl)) (fr_r (Fw_w h_o (fr_r h_o rfl (rr_3_0 hg_o)) (hU_o 4 _ rfl)) rfl (rr_3_0 hg_o)) (hU_o 4 _ rfl)) (fr_r (Fw_w (Fw_w h_o (fr_r h_o rfl (rr_3_0 hg_o)) (hU_o 4 _ rfl)) (fr_r (Fw_w h_o (fr_r h_o rfl (rr_3_0 hg_o)) (hU_o 4 _ rfl)) rfl (rr_3_0 hg_o)) (hU_o 4 _ rfl)) rfl (rr_3_0 hg_o)) (hU_o 4 _ rfl)) rfl (rr_3_0 hg_o)) (hU_o 4 _ rfl)) (fr_r (Fw_w (Fw_w (Fw_w (Fw_w h_o (fr_r h_o rfl (rr_3_0 hg_o)) (hU_o 4 _ rfl)) (fr_r (Fw_w h_o (fr_r h_o rfl (rr_3_0 hg_o)) (hU_o 4 _ rfl)) rfl (rr_3_0 hg_o)) (hU_o 4 _ rfl)) (fr_r (Fw_w (Fw_w h_o (fr_r h_o rfl (rr_3_0 hg_o)) (hU_o 4 _ rfl)) (fr_r (Fw_w h_o (fr_r h_o rfl (rr_3_0 hg_o)) (hU_o 4 _ rfl)) rfl (rr_3_0 hg_o)) (hU_o 4 _ rfl)) rfl (rr_3_0 hg_o)) (hU_o 4 _ rfl)) (fr_r (Fw_w (Fw_w (Fw_w h_o (fr_r h_o rfl (rr_3_0 hg_o)) (hU_o 4 _ rfl)) (fr_r (Fw_w h_o (fr_r h_o rfl (rr_3_0 hg_o)) (hU_o 4 _ rfl)) rfl (rr_3_0 hg_o)) (hU_o 4 _ rfl)) (fr_r (Fw_w (Fw_w h_o (fr_r h_o rfl (rr_3_0 hg_o)) (hU_o 4 _ rfl)) (fr_r (Fw_w h_o (fr_r h_o rfl (rr_3_0 hg_o)) (hU_o 4 _ rfl)) rfl (rr_3_0 hg_o)) (hU_o 4 _ rfl)) rfl (rr_3_0 hg_o)) (hU_o 4 _ rfl)) rfl (rr_3_0 hg_o)) (hU_o 4 _ rfl)) rfl (rr_3_0 hg_o)) (hU_o 4 _ rfl)) rfl (rr_3_0 hg_o)) (hU_o 4 _ rfl)) (fr_r (Fw_w (Fw_w (Fw_w (Fw_w (Fw_w (Fw_w h_o (fr_r h_o rfl (rr_3_0 hg_o)) (hU_o 4 _ rfl)) (fr_r (Fw_w h_o (fr_r h_o rfl (rr_3_0 hg_o)) (hU_o 4 _ rfl)) rfl (rr_3_0 hg_o)) (hU_o 4 _ rfl)) (fr_r (Fw_w (Fw_w h_o (fr_r h_o rfl (rr_3_0 hg_o)) (hU_o 4 _ rfl)) (fr_r (Fw_w h_o (fr_r h_o rfl (rr_3_0 hg_o)) (hU_o 4 _ rfl)) rfl (rr_3_0 hg_o)) (hU_o 4 _ rfl)) rfl (rr_3_0 hg_o)) (hU_o 4 _ rfl)) (fr_r (Fw_w (Fw_w (Fw_w h_o (fr_r h_o rfl (rr_3_0 hg_o)) (hU_o 4 _ rfl)) (fr_r (Fw_w h_o (fr_r h_o rfl (rr_3_0 hg_o)) (hU_o 4 _ rfl)) rfl (rr_3_0 hg_o)) (hU_o 4 _ rfl)) (fr_r (Fw_w (Fw_w h_o (fr_r h_o rfl (rr_3_0 hg_o)) (hU_o 4 _ rfl)) (fr_r (Fw_w h_o (fr_r h_o rfl (rr_3_0 hg_o)) (hU_o 4 _ rfl)) rfl (rr_3_0 hg_o)) (hU_o 4 _ rfl)) rfl (rr_3_0 hg_o)) (hU_o 4 _ rfl)) rfl (rr_3_0 hg_o)) (hU_o 4 _ rfl)) (fr_r (Fw_w (Fw_w (Fw_w (Fw_w h_o (fr_r h_o rfl (rr_3_0 hg_o)) (hU_o 4 _ rfl)) (fr_r (Fw_w h_o (fr_r h_o rfl (rr_3_0 hg_o)) (hU_o 4 _ rfl)) rfl (rr_3_0 hg_o)) (hU_o 4 _ rfl)) (fr_r (Fw_w (Fw_w h_o (fr_r h_o rfl (rr_3_0 hg_o)) (hU_o 4 _ rfl)) (fr_r (Fw_w h_o (fr_r h_o rfl (rr_3_0 hg_o)) (hU_o 4 _ rfl)) rfl (rr_3_0 hg_o)) (hU_o 4 _ rfl)) rfl (rr_3_0 hg_o)) (hU_o 4 _ rfl)) (fr_r (Fw_w (Fw_w (Fw_w h_o (fr_r h_o rfl (rr_3_0 hg_o)) (hU_o 4 _ rfl)) (fr_r (Fw_w h_o (fr_r h_o rfl (rr_3_0 hg_o)) (hU_o 4 _ rfl)) rfl (rr_3_0 hg_o)) (hU_o 4 _ rfl)) (fr_r (Fw_w (Fw_w h_o (fr_r h_o rfl (rr_3_0 hg_o)) (hU_o 4 _ rfl)) (fr_r (Fw_w h_o (fr_r h_o rfl (rr_3_0 hg_o)) (hU_o 4 _ rfl)) rfl (rr_3_0 hg_o)) (hU_o 4 _ rfl)) rfl (rr_3_0 hg_o)) (hU_o 4 _ rfl)) rfl (rr_3_0 hg_o)) (hU_o 4 _ rfl)) rfl (rr_3_0 hg_o)) (hU_o 4 _ rfl)) (fr_r (Fw_w (Fw_w (Fw_w (Fw_w (Fw_w h_o (fr_r h_o rfl (rr_3_0 hg_o)) (hU_o 4 _ rfl)) (fr_r (Fw_w h_o (fr_r h_o rfl (rr_3_0 hg_o)) (hU_o 4 _ rfl)) rfl (rr_3_0 hg_o)) (hU_o 4 _ rfl)) (fr_r (Fw_w (Fw_w h_o (fr_r h_o rfl (rr_3_0 hg_o)) (hU_o 4 _ rfl)) (fr_r (Fw_w h_o (fr_r h_o rfl (rr_3_0 hg_o)) (hU_o 4 _ rfl)) rfl (rr_3_0 hg_o)) (hU_o 4 _ rfl)) rfl (rr_3_0 hg_o)) (hU_o 4 _ rfl)) (fr_r (Fw_w (Fw_w (Fw_w h_o (fr_r h_o rfl (rr_3_0 hg_o)) (hU_o 4 _ rfl)) (fr_r (Fw_w h_o (fr_r h_o rfl (rr_3_0 hg_o)) (hU_o 4 _ rfl)) rfl (rr_3_0 hg_o)) (hU_o 4 _ rfl)) (fr_r (Fw_w (Fw_w h_o (fr_r h_o rfl (rr_3_0 hg_o)) (hU_o 4 _ rfl)) (fr_r (Fw_w h_o (fr_r h_o rfl (rr_3_0 hg_o)) (hU_o 4 _ rfl)) rfl (rr_3_0 hg_o)) (hU_o 4 _ rfl)) rfl (rr_3_0 hg_o)) (hU_o 4 _ rfl)) rfl (rr_3_0 hg_o)) (hU_o 4 _ rfl)) (fr_r (Fw_w (Fw_w (Fw_w (Fw_w h_o (fr_r h_o rfl (rr_3_0 hg_o)) (hU_o 4 _ rfl)) (fr_r (Fw_w h_o (fr_r h_o rfl (rr_3_0 hg_o)) (hU_o 4 _ rfl)) rfl (rr_3_0 hg_o)) (hU_o 4 _ rfl)) (fr_r (Fw_w (Fw_w h_o (fr_r h_o rfl (rr_3_0 hg_o)) (hU_o 4 _ rfl)) (fr_r (Fw_w h_o (fr_r h_o rfl (rr_3_0 hg_o)) (hU_o 4 _ rfl)) rfl (rr_3_0 hg_o)) (hU_o 4 _ rfl)) rfl (rr_3_0 hg_o)) (hU_o 4 _ rfl)) (fr_r (Fw_w (Fw_w (Fw_w h_o (fr_r h_o rfl (rr_3_0 hg_o)) (hU_o 4 _ rfl)) (fr_r (Fw_w h_o (fr_r h_o rfl (rr_3_0 hg_o)) (hU_o 4 _ rfl)) rfl (rr_3_0 hg_o)) (hU_o 4 _ rfl)) (fr_r (Fw_w (Fw_w h_o (fr_r h_o rfl (rr_3_0 hg_o)) (hU_o 4 _ rfl)) (fr_r (Fw_w h_o (fr_r h_o rfl (rr_3_0 hg_o)) (hU_o 4 _ rfl)) rfl (rr_3_0 hg_o)) (hU_o 4 _ rfl)) rfl (rr_3_0 hg_o)) (hU_o 4 _ rfl)) rfl (rr_3_0 hg_o)) (hU_o 4 _ rfl)) rfl (rr_3_0 hg_o)) (hU_o 4 _ rfl)) rfl (rr_3_0 hg_o)) (hU_o 4 _ rfl)) rfl (rr_3_0 hg_o)) (hU_o 4 _ rfl))
  · unfold fb_35_65
    dsimp only
    refine gQ_chk2 (fun ha100_o hb101_o => ?_)
    refine gQ_ite ?_ ?_
    · exact gQ_ret (Fw_w (Fw_w (Fw_w (Fw_w (Fw_w (Fw_w (Fw_w h_o (fr_r h_o rfl (rr_3_0 hg_o)) (hU_o 4 _ rfl)) (fr_r (Fw_w h_o (fr_r h_o rfl (rr_3_0 hg_o)) (hU_o 4 _ rfl)) rfl (rr_3_0 hg_o)) (hU_o 4 _ rfl)) (fr_r (Fw_w (Fw_w h_o (fr_r h_o rfl (rr_3_0 hg_o)) (hU_o 4 _ rfl)) (fr_r (Fw_w h_o (fr_r h_o rfl (rr_3_0 hg_o)) (hU_o 4 _ rfl)) rfl (rr_3_0 hg_o)) (hU_o 4 _ rfl)) rfl (rr_3_0 hg_o)) (hU_o 4 _ rfl)) (fr_r (Fw_w (Fw_w (Fw_w h_o (fr_r h_o rfl (rr_3_0 hg_o)) (hU_o 4 _ rfl)) (fr_r (Fw_w h_o (fr_r h_o rfl (rr_3_0 hg_o)) (hU_o 4 _ rfl)) rfl (rr_3_0 hg_o)) (hU_o 4 _ rfl)) (fr_r (Fw_w (Fw_w h_o (fr_r h_o rfl (rr_3_0 hg_o)) (hU_o 4 _ rfl)) (fr_r (Fw_w h_o (fr_r h_o rfl (rr_3_0 hg_o)) (hU_o 4 _ rfl)) rfl (rr_3_0 hg_o)) (hU_o 4 _ rfl)) rfl (rr_3_0 hg_o)) (hU_o 4 _ rfl)) rfl (rr_3_0 hg_o)) (hU_o 4 _ rfl)) (fr_r (Fw_w (Fw_w (Fw_w (Fw_w h_o (fr_r h_o rfl (rr_3_0 hg_o)) (hU_o 4 _ rfl)) (fr_r (Fw_w h_o (fr_r h_o rfl (rr_3_0 hg_o)) (hU_o 4 _ rfl)) rfl (rr_3_0 hg_o)) (hU_o 4 _ rfl)) (fr_r (Fw_w (Fw_w h_o (fr_r h_o rfl (rr_3_0 hg_o)) (hU_o 4 _ rfl)) (fr_r (Fw_w h_o (fr_r h_o rfl (rr_3_0 hg_o)) (hU_o 4 _ rfl)) rfl (rr_3_0 hg_o)) (hU_o 4 _ rfl)) rfl (rr_3_0 hg_o)) (hU_o 4 _ rfl)) (fr_r (Fw_w (Fw_w (Fw_w h_o (fr_r h_o rfl (rr_3_0 hg_o)) (hU_o 4 _ rfl)) (fr_r (Fw_w h_o (fr_r h_o rfl (rr_3_0 hg_o)) (hU_o 4 _ rfl)) rfl (rr_3_0 hg_o)) (hU_o 4 _ rfl)) (fr_r (Fw_w (Fw_w h_o (fr_r h_o rfl (rr_3_0 hg_o)) (hU_o 4 _ rfl)) (fr_r (Fw_w h_o (fr_r h_o rfl (rr_3_0 hg_o)) (hU_o 4 _ rfl)) rfl (rr_3_0 hg_o)) (hU_o 4 _ rfl)) rfl (rr_3_0 hg_o)) (hU_o 4 _ rfl)) rfl (rr_3_0 hg_o)) (hU_o 4 _ rfl)) rfl (rr_3_0 hg_o)) (hU_o 4 _ rfl)) (fr_r (Fw_w (Fw_w (Fw_w (Fw_w (Fw_w h_o (fr_r h_o rfl (rr_3_0 hg_o)) (hU_o 4 _ rfl)) (fr_r (Fw_w h_o (fr_r h_o rfl (rr_3_0 hg_o)) (hU_o 4 _ rfl)) rfl (rr_3_0 hg_o)) (hU_o 4 _ rfl)) (fr_r (Fw_w (Fw_w h_o (fr_r h_o rfl (rr_3_0 hg_o)) (hU_o 4 _ rfl)) (fr_r (Fw_w h_o (fr_r h_o rfl (rr_3_0 hg_o)) (hU_o 4 _ rfl)) rfl (rr_3_0 hg_o)) (hU_o 4 _ rfl)) rfl (rr_3_0 hg_o)) (hU_o 4 _ rfl)) (fr_r (Fw_w (Fw_w (Fw_w h_o (fr_r h_o rfl (rr_3_0 hg_o)) (hU_o 4 _ rfl)) (fr_r (Fw_w h_o (fr_r h_o rfl (rr_3_0 hg_o)) (hU_o 4 _ rfl)) rfl (rr_3_0 hg_o)) (hU_o 4 _ rfl)) (fr_r (Fw_w (Fw_w h_o (fr_r h_o rfl (rr_3_0 hg_o)) (hU_o 4 _ rfl)) (fr_r (Fw_w h_o (fr_r h_o rfl (rr_3_0 hg_o)) (hU_o 4 _ rfl)) rfl (rr_3_0 hg_o)) (hU_o 4 _ rfl)) rfl (rr_3_0 hg_o)) (hU_o 4 _ rfl)) rfl (rr_3_0 hg_o)) (hU_o 4 _ rfl)) (fr_r (Fw_w (Fw_w (Fw_w (Fw_w h_o (fr_r h_o rfl (rr_3_0 hg_o)) (hU_o 4 _ rfl)) (fr_r (Fw_w h_o (fr_r h_o rfl (rr_3_0 hg_o)) (hU_o 4 _ rfl)) rfl (rr_3_0 hg_o)) (hU_o 4 _ rfl)) (fr_r (Fw_w (Fw_w h_o (fr_r h_o rfl (rr_3_0 hg_o)) (hU_o 4 _ rfl)) (fr_r (Fw_w h_o (fr_r h_o rfl (rr_3_0 hg_o)) (hU_o 4 _ rfl)) rfl (rr_3_0 hg_o)) (hU_o 4 _ rfl)) rfl (rr_3_0 hg_o)) (hU_o 4 _ rfl)) (fr_r (Fw_w (Fw_w (Fw_w h_o (fr_r h_o rfl (rr_3_0 hg_o)) (hU_o 4 _ rfl)) (fr_r (Fw_w h_o (fr_r h_o rfl (rr_3_0 hg_o)) (hU_o 4 _ rfl)) rfl (rr_3_0 hg_o)) (hU_o 4 _ rfl)) (fr_r (Fw_w (Fw_w h_o (fr_r h_o rfl (rr_3_0 hg_o)) (hU_o 4 _ rfl)) (fr_r (Fw_w h_o (fr_r h_o rfl (rr_3_0 hg_o)) (hU_o 4 _ rfl)) rfl (rr_3_0 hg_o)) (hU_o 4 _ rfl)) rfl (rr_3_0 hg_o)) (hU_o 4 _ rfl)) rfl (rr_3_0 hg_o)) (hU_o 4 _ rfl)) rfl (rr_3_0 hg_o)) (hU_o 4 _ rfl)) rfl (rr_3_0 hg_o)) (hU_o 4 _ rfl)) (fr_r (Fw_w (Fw_w (Fw_w (Fw_w (Fw_w (Fw_w h_o (fr_r h_o rfl (rr_3_0 hg_o)) (hU_o 4 _ rfl)) (fr_r (Fw_w h_o (fr_r h_o rfl (rr_3_0 hg_o)) (hU_o 4 _ rfl)) rfl (rr_3_0 hg_o)) (hU_o 4 _ rfl)) (fr_r (Fw_w (Fw_w h_o (fr_r h_o rfl (rr_3_0 hg_o)) (hU_o 4 _ rfl)) (fr_r (Fw_w h_o (fr_r h_o rfl (rr_3_0 hg_o)) (hU_o 4 _ rfl)) rfl (rr_3_0 hg_o)) (hU_o 4 _ rfl)) rfl (rr_3_0 hg_o)) (hU_o 4 _ rfl)) (fr_r (Fw_w (Fw_w (Fw_w h_o (fr_r h_o rfl (rr_3_0 hg_o)) (hU_o 4 _ rfl)) (fr_r (Fw_w h_o (fr_r h_o rfl (rr_3_0 hg_o)) (hU_o 4 _ rfl)) rfl (rr_3_0 hg_o)) (hU_o 4 _ rfl)) (fr_r (Fw_w (Fw_w h_o (fr_r h_o rfl (rr_3_0 hg_o)) (hU_o 4 _ rfl)) (fr_r (Fw_w h_o (fr_r h_o rfl (rr_3_0 hg_o)) (hU_o 4 _ rfl)) rfl (rr_3_0 hg_o)) (hU_o 4 _ rfl)) rfl (rr_3_0 hg_o)) (hU_o 4 _ rfl)) rfl (rr_3_0 hg_o)) (hU_o 4 _ rfl)) (fr_r (Fw_w (Fw_w (Fw_w (Fw_w h_o (fr_r h_o rfl (rr_3_0 hg_o)) (hU_o 4 _ rfl)) (fr_r (Fw_w h_o (fr_r h_o rfl (rr_3_0 hg_o)) (hU_o 4 _ rfl)) rfl (rr_3_0 hg_o)) (hU_o 4 _ rfl)) (fr_r (Fw_w (Fw_w h_o (fr_r h_o rfl (rr_3_0 hg_o)) (hU_o 4 _ rfl)) (fr_r (Fw_w h_o (fr_r h_o rfl (rr_3_0 hg_o)) (hU_o 4 _ rfl)) rfl (rr_3_0 hg_o)) (hU_o 4 _ rfl)) rfl (rr_3_0 hg_o)) (hU_o 4 _ rfl)) (fr_r (Fw_w (Fw_w (Fw_w h_o (fr_r h_o rfl (rr_3_0 hg_o)) (hU_o 4 _ rfl)) (fr_r (Fw_w h_o (fr_r h_o rfl (rr_3_0 hg_o)) (hU_o 4 _ rfl)) rfl (rr_3_0 hg_o)) (hU_o 4 _ rfl)) (fr_r (Fw_w (Fw_w h_o (fr_r h_o rfl (rr_3_0 hg_o)) (hU_o 4 _ rfl)) (fr_r (Fw_w h_o (fr_r h_o rfl (rr_3_0 hg_o)) (hU_o 4 _ rfl)) rfl (rr_3_0 hg_o)) (hU_o 4 _ rfl)) rfl (rr_3_0 hg_o)) (hU_o 4 _ rfl)) rfl (rr_3_0 hg_o)) (hU_o 4 _ rfl)) rfl (rr_3_0 hg_o)) (hU_o 4 _ rfl)) (fr_r (Fw_w (Fw_w (Fw_w (Fw_w (Fw_w h_o (fr_r h_o rfl (rr_3_0 hg_o)) (hU_o 4 _ rfl)) (fr_r (Fw_w h_o (fr_r h_o rfl (rr_3_0 hg_o)) (hU_o 4 _ rfl)) rfl (rr_3_0 hg_o)) (hU_o 4 _ rfl)) (fr_r (Fw_w (Fw_w h_o (fr_r h_o rfl (rr_3_0 hg_o)) (hU_o 4 _ rfl)) (fr_r (Fw_w h_o (fr_r h_o rfl (rr_3_0 hg_o)) (hU_o 4 _ rfl)) rfl (rr_3_0 hg_o)) (hU_o 4 _ rfl)) rfl (rr_3_0 hg_o)) (hU_o 4 _ rfl)) (fr_r (Fw_w (Fw_w (Fw_w h_o (fr_r h_o rfl (rr_3_0 hg_o)) (hU_o 4 _ rfl)) (fr_r (Fw_w h_o (fr_r h_o rfl (rr_3_0 hg_o)) (hU_o 4 _ rfl)) rfl (rr_3_0 hg_o)) (hU_o 4 _ rfl)) (fr_r (Fw_w (Fw_w h_o (fr_r h_o rfl (rr_3_0 hg_o)) (hU_o 4 _ rfl)) (fr_r (Fw_w h_o (fr_r h_o rfl (rr_3_0 hg_o)) (hU_o 4 _ rfl)) rfl (rr_3_0 hg_o)) (hU_o 4 _ rfl)) rfl (rr_3_0 hg_o)) (hU_o 4 _ rfl)) rfl (rr_3_0 hg_o)) (hU_o 4 _ rfl)) (fr_r (Fw_w (Fw_w (Fw_w (Fw_w h_o (fr_r h_o rfl (rr_3_0 hg_o)) (hU_o 4 _ rfl)) (fr_r (Fw_w h_o (fr_r h_o rfl (rr_3_0 hg_o)) (hU_o 4 _ rfl)) rfl (rr_3_0 hg_o)) (hU_o 4 _ rfl)) (fr_r (Fw_w (Fw_w h_o (fr_r h_o rfl (rr_3_0 hg_o)) (hU_o 4 _ rfl)) (fr_r (Fw_w h_o (fr_r h_o rfl (rr_3_0 hg_o)) (hU_o 4 _ rfl)) rfl (rr_3_0 hg_o)) (hU_o 4 _ rfl)) rfl (rr_3_0 hg_o)) (hU_o 4 _ rfl)) (fr_r (Fw_w (Fw_w (Fw_w h_o (fr_r h_o rfl (rr_3_0 hg_o)) (hU_o 4 _ rfl)) (fr_r (Fw_w h_o (fr_r h_o rfl (rr_3_0 hg_o)) (hU_o 4 _ rfl)) rfl (rr_3_0 hg_o)) (hU_o 4 _ rfl)) (fr_r (Fw_w (Fw_w h_o (fr_r h_o rfl (rr_3_0 hg_o)) (hU_o 4 _ rfl)) (fr_r (Fw_w h_o (fr_r h_o rfl (rr_3_0 hg_o)) (hU_o 4 _ rfl)) rfl (rr_3_0 hg_o)) (hU_o 4 _ rfl)) rfl (rr_3_0 hg_o)) (hU_o 4 _ rfl)) rfl (rr_3_0 hg_o)) (hU_o 4 _ rfl)) rfl (rr_3_0 hg_o)) (hU_o 4 _ rfl)) rfl (rr_3_0 hg_o)) (hU_o 4 _ rfl)) rfl (rr_3_0 hg_o)) (hU_o 4 _ rfl))
    · exact gQ_ret (Fw_w (Fw_w (Fw_w (Fw_w (Fw_w (Fw_w (Fw_w h_o (fr_r h_o rfl (rr_3_0 hg_o)) (hU_o 4 _ rfl)) (fr_r (Fw_w h_o (fr_r h_o rfl (rr_3_0 hg_o)) (hU_o 4 _ rfl)) rfl (rr_3_0 hg_o)) (hU_o 4 _ rfl)) (fr_r (Fw_w (Fw_w h_o (fr_r h_o rfl (rr_3_0 hg_o)) (hU_o 4 _ rfl)) (fr_r (Fw_w h_o (fr_r h_o rfl (rr_3_0 hg_o)) (hU_o 4 _ rfl)) rfl (rr_3_0 hg_o)) (hU_o 4 _ rfl)) rfl (rr_3_0 hg_o)) (hU_o 4 _ rfl)) (fr_r (Fw_w (Fw_w (Fw_w h_o (fr_r h_o rfl (rr_3_0 hg_o)) (hU_o 4 _ rfl)) (fr_r (Fw_w h_o (fr_r h_o rfl (rr_3_0 hg_o)) (hU_o 4 _ rfl)) rfl (rr_3_0 hg_o)) (hU_o 4 _ rfl)) (fr_r (Fw_w (Fw_w h_o (fr_r h_o rfl (rr_3_0 hg_o)) (hU_o 4 _ rfl)) (fr_r (Fw_w h_o (fr_r h_o rfl (rr_3_0 hg_o)) (hU_o 4 _ rfl)) rfl (rr_3_0 hg_o)) (hU_o 4 _ rfl)) rfl (rr_3_0 hg_o)) (hU_o 4 _ rfl)) rfl (rr_3_0 hg_o)) (hU_o 4 _ rfl)) (fr_r (Fw_w (Fw_w (Fw_w (Fw_w h_o (fr_r h_o rfl (rr_3_0 hg_o)) (hU_o 4 _ rfl)) (fr_r (Fw_w h_o (fr_r h_o rfl (rr_3_0 hg_o)) (hU_o 4 _ rfl)) rfl (rr_3_0 hg_o)) (hU_o 4 _ rfl)) (fr_r (Fw_w (Fw_w h_o (fr_r h_o rfl (rr_3_0 hg_o)) (hU_o 4 _ rfl)) (fr_r (Fw_w h_o (fr_r h_o rfl (rr_3_0 hg_o)) (hU_o 4 _ rfl)) rfl (rr_3_0 hg_o)) (hU_o 4 _ rfl)) rfl (rr_3_0 hg_o)) (hU_o 4 _ rfl)) (fr_r (Fw_w (Fw_w (Fw_w h_o (fr_r h_o rfl (rr_3_0 hg_o)) (hU_o 4 _ rfl)) (fr_r (Fw_w h_o (fr_r h_o rfl (rr_3_0 hg_o)) (hU_o 4 _ rfl)) rfl (rr_3_0 hg_o)) (hU_o 4 _ rfl)) (fr_r (Fw_w (Fw_w h_o (fr_r h_o rfl (rr_3_0 hg_o)) (hU_o 4 _ rfl)) (fr_r (Fw_w h_o (fr_r h_o rfl (rr_3_0 hg_o)) (hU_o 4 _ rfl)) rfl (rr_3_0 hg_o)) (hU_o 4 _ rfl)) rfl (rr_3_0 hg_o)) (hU_o 4 _ rfl)) rfl (rr_3_0 hg_o)) (hU_o 4 _ rfl)) rfl (rr_3_0 hg_o)) (hU_o 4 _ rfl)) (fr_r (Fw_w (Fw_w (Fw_w (Fw_w (Fw_w h_o (fr_r h_o rfl (rr_3_0 hg_o)) (hU_o 4 _ rfl)) (fr_r (Fw_w h_o (fr_r h_o rfl (rr_3_0 hg_o)) (hU_o 4 _ rfl)) rfl (rr_3_0 hg_o)) (hU_o 4 _ rfl)) (fr_r (Fw_w (Fw_w h_o (fr_r h_o rfl (rr_3_0 hg_o)) (hU_o 4 _ rfl)) (fr_r (Fw_w h_o (fr_r h_o rfl (rr_3_0 hg_o)) (hU_o 4 _ rfl)) rfl (rr_3_0 hg_o)) (hU_o 4 _ rfl)) rfl (rr_3_0 hg_o)) (hU_o 4 _ rfl)) (fr_r (Fw_w (Fw_w (Fw_w h_o (fr_r h_o rfl (rr_3_0 hg_o)) (hU_o 4 _ rfl)) (fr_r (Fw_w h_o (fr_r h_o rfl (rr_3_0 hg_o)) (hU_o 4 _ rfl)) rfl (rr_3_0 hg_o)) (hU_o 4 _ rfl)) (fr_r (Fw_w (Fw_w h_o (fr_r h_o rfl (rr_3_0 hg_o)) (hU_o 4 _ rfl)) (fr_r (Fw_w h_o (fr_r h_o rfl (rr_3_0 hg_o)) (hU_o 4 _ rfl)) rfl (rr_3_0 hg_o)) (hU_o 4 _ rfl)) rfl (rr_3_0 hg_o)) (hU_o 4 _ rfl)) rfl (rr_3_0 hg_o)) (hU_o 4 _ rfl)) (fr_r (Fw_w (Fw_w (Fw_w (Fw_w h_o (fr_r h_o rfl (rr_3_0 hg_o)) (hU_o 4 _ rfl)) (fr_r (Fw_w h_o (fr_r h_o rfl (rr_3_0 hg_o)) (hU_o 4 _ rfl)) rfl (rr_3_0 hg_o)) (hU_o 4 _ rfl)) (fr_r (Fw_w (Fw_w h_o (fr_r h_o rfl (rr_3_0 hg_o)) (hU_o 4 _ rfl)) (fr_r (Fw_w h_o (fr_r h_o rfl (rr_3_0 hg_o)) (hU_o 4 _ rfl)) rfl (rr_3_0 hg_o)) (hU_o 4 _ rfl)) rfl (rr_3_0 hg_o)) (hU_o 4 _ rfl)) (fr_r (Fw_w (Fw_w (Fw_w h_o (fr_r h_o rfl (rr_3_0 hg_o)) (hU_o 4 _ rfl)) (fr_r (Fw_w h_o (fr_r h_o rfl (rr_3_0 hg_o)) (hU_o 4 _ rfl)) rfl (rr_3_0 hg_o)) (hU_o 4 _ rfl)) (fr_r (Fw_w (Fw_w h_o (fr_r h_o rfl (rr_3_0 hg_o)) (hU_o 4 _ rfl)) (fr_r (Fw_w h_o (fr_r h_o rfl (rr_3_0 hg_o)) (hU_o 4 _ rfl)) rfl (rr_3_0 hg_o)) (hU_o 4 _ rfl)) rfl (rr_3_0 hg_o)) (hU_o 4 _ rfl)) rfl (rr_3_0 hg_o)) (hU_o 4 _ rfl)) rfl (rr_3_0 hg_o)) (hU_o 4 _ rfl)) rfl (rr_3_0 hg_o)) (hU_o 4 _ rfl)) (fr_r (Fw_w (Fw_w (Fw_w (Fw_w (Fw_w (Fw_w h_o (fr_r h_o rfl (rr_3_0 hg_o)) (hU_o 4 _ rfl)) (fr_r (Fw_w h_o (fr_r h_o rfl (rr_3_0 hg_o)) (hU_o 4 _ rfl)) rfl (rr_3_0 hg_o)) (hU_o 4 _ rfl)) (fr_r (Fw_w (Fw_w h_o (fr_r h_o rfl (rr_3_0 hg_o)) (hU_o 4 _ rfl)) (fr_r (Fw_w h_o (fr_r h_o rfl (rr_3_0 hg_o)) (hU_o 4 _ rfl)) rfl (rr_3_0 hg_o)) (hU_o 4 _ rfl)) rfl (rr_3_0 hg_o)) (hU_o 4 _ rfl)) (fr_r (Fw_w (Fw_w (Fw_w h_o (fr_r h_o rfl (rr_3_0 hg_o)) (hU_o 4 _ rfl)) (fr_r (Fw_w h_o (fr_r h_o rfl (rr_3_0 hg_o)) (hU_o 4 _ rfl)) rfl (rr_3_0 hg_o)) (hU_o 4 _ rfl)) (fr_r (Fw_w (Fw_w h_o (fr_r h_o rfl (rr_3_0 hg_o)) (hU_o 4 _ rfl)) (fr_r (Fw_w h_o (fr_r h_o rfl (rr_3_0 hg_o)) (hU_o 4 _ rfl)) rfl (rr_3_0 hg_o)) (hU_o 4 _ rfl)) rfl (rr_3_0 hg_o)) (hU_o 4 _ rfl)) rfl (rr_3_0 hg_o)) (hU_o 4 _ rfl)) (fr_r (Fw_w (Fw_w (Fw_w (Fw_w h_o (fr_r h_o rfl (rr_3_0 hg_o)) (hU_o 4 _ rfl)) (fr_r (Fw_w h_o (fr_r h_o rfl (rr_3_0 hg_o)) (hU_o 4 _ rfl)) rfl (rr_3_0 hg_o)) (hU_o 4 _ rfl)) (fr_r (Fw_w (Fw_w h_o (fr_r h_o rfl (rr_3_0 hg_o)) (hU_o 4 _ rfl)) (fr_r (Fw_w h_o (fr_r h_o rfl (rr_3_0 hg_o)) (hU_o 4 _ rfl)) rfl (rr_3_0 hg_o)) (hU_o 4 _ rfl)) rfl (rr_3_0 hg_o)) (hU_o 4 _ rfl)) (fr_r (Fw_w (Fw_w (Fw_w h_o (fr_r h_o rfl (rr_3_0 hg_o)) (hU_o 4 _ rfl)) (fr_r (Fw_w h_o (fr_r h_o rfl (rr_3_0 hg_o)) (hU_o 4 _ rfl)) rfl (rr_3_0 hg_o)) (hU_o 4 _ rfl)) (fr_r (Fw_w (Fw_w h_o (fr_r h_o rfl (rr_3_0 hg_o)) (hU_o 4 _ rfl)) (fr_r (Fw_w h_o (fr_r h_o rfl (rr_3_0 hg_o)) (hU_o 4 _ rfl)) rfl (rr_3_0 hg_o)) (hU_o 4 _ rfl)) rfl (rr_3_0 hg_o)) (hU_o 4 _ rfl)) rfl (rr_3_0 hg_o)) (hU_o 4 _ rfl)) rfl (rr_3_0 hg_o)) (hU_o 4 _ rfl)) (fr_r (Fw_w (Fw_w (Fw_w (Fw_w (Fw_w h_o (fr_r h_o rfl (rr_3_0 hg_o)) (hU_o 4 _ rfl)) (fr_r (Fw_w h_o (fr_r h_o rfl (rr_3_0 hg_o)) (hU_o 4 _ rfl)) rfl (rr_3_0 hg_o)) (hU_o 4 _ rfl)) (fr_r (Fw_w (Fw_w h_o (fr_r h_o rfl (rr_3_0 hg_o)) (hU_o 4 _ rfl)) (fr_r (Fw_w h_o (fr_r h_o rfl (rr_3_0 hg_o)) (hU_o 4 _ rfl)) rfl (rr_3_0 hg_o)) (hU_o 4 _ rfl)) rfl (rr_3_0 hg_o)) (hU_o 4 _ rfl)) (fr_r (Fw_w (Fw_w (Fw_w h_o (fr_r h_o rfl (rr_3_0 hg_o)) (hU_o 4 _ rfl)) (fr_r (Fw_w h_o (fr_r h_o rfl (rr_3_0 hg_o)) (hU_o 4 _ rfl)) rfl (rr_3_0 hg_o)) (hU_o 4 _ rfl)) (fr_r (Fw_w (Fw_w h_o (fr_r h_o rfl (rr_3_0 hg_o)) (hU_o 4 _ rfl)) (fr_r (Fw_w h_o (fr_r h_o rfl (rr_3_0 hg_o)) (hU_o 4 _ rfl)) rfl (rr_3_0 hg_o)) (hU_o 4 _ rfl)) rfl (rr_3_0 hg_o)) (hU_o 4 _ rfl)) rfl (rr_3_0 hg_o)) (hU_o 4 _ rfl)) (fr_r (Fw_w (Fw_w (Fw_w (Fw_w h_o (fr_r h_o rfl (rr_3_0 hg_o)) (hU_o 4 _ rfl)) (fr_r (Fw_w h_o (fr_r h_o rfl (rr_3_0 hg_o)) (hU_o 4 _ rfl)) rfl (rr_3_0 hg_o)) (hU_o 4 _ rfl)) (fr_r (Fw_w (Fw_w h_o (fr_r h_o rfl (rr_3_0 hg_o)) (hU_o 4 _ rfl)) (fr_r (Fw_w h_o (fr_r h_o rfl (rr_3_0 hg_o)) (hU_o 4 _ rfl)) rfl (rr_3_0 hg_o)) (hU_o 4 _ rfl)) rfl (rr_3_0 hg_o)) (hU_o 4 _ rfl)) (fr_r (Fw_w (Fw_w (Fw_w h_o (fr_r h_o rfl (rr_3_0 hg_o)) (hU_o 4 _ rfl)) (fr_r (Fw_w h_o (fr_r h_o rfl (rr_3_0 hg_o)) (hU_o 4 _ rfl)) rfl (rr_3_0 hg_o)) (hU_o 4 _ rfl)) (fr_r (Fw_w (Fw_w h_o (fr_r h_o rfl (rr_3_0 hg_o)) (hU_o 4 _ rfl)) (fr_r (Fw_w h_o (fr_r h_o rfl (rr_3_0 hg_o)) (hU_o 4 _ rfl)) rfl (rr_3_0 hg_o)) (hU_o 4 _ rfl)) rfl (rr_3_0 hg_o)) (hU_o 4 _ rfl)) rfl (rr_3_0 hg_o)) (hU_o 4 _ rfl)) rfl (rr_3_0 hg_o)) (hU_o 4 _ rfl)) rfl (rr_3_0 hg_o)) (hU_o 4 _ rfl)) rfl (rr_3_0 hg_o)) (hU_o 4 _ rfl))

theorem o_36 {W : Nat → Nat → Bool} {g s : gS} {a0 : Nat} {a1 : Int} {a2 : Int} (hg_o : RF g) (hU_o : ∀ a k, csq a k = true → W a k = true) (ea0_o : a0 = 3) (h_o : Fw W g s) : gQ (f_36 a0 a1 a2 s) (fun r => Fw W g r.2.2.2) := by
  subst ea0_o
  unfold f_36
  dsimp only
  exact gQ_ret (Fw_w (Fw_w h_o (fr_r h_o rfl (rr_3_0 hg_o)) (hU_o 4 _ rfl)) (fr_r (Fw_w h_o (fr_r h_o rfl (rr_3_0 hg_o)) (hU_o 4 _ rfl)) rfl (rr_3_0 hg_o)) (hU_o 4 _ rfl))

theorem o_37 {W : Nat → Nat → Bool} {g s : gS} {a0 : Nat} {a1 : Nat} (hg_o : RF g) (hU_o : ∀ a k, csq a k = true → W a k = true) (ea0_o : a0 = 3) (h_o : Fw W g s) : gQ (f_37 a0 a1 s) (fun r => Fw W g r.2.2.2) := by
  subst ea0_o
  unfold f_37
  dsimp only
  refine gQ_ite ?_ ?_
  · exact gQ_ret h_o
  · refine gQ_loop (fun y_l => y_l.1 = 3 ∧ Fw W g (y_l.2.2.2.2)) (fun y_l hy_o => ?_) ⟨rfl, (Fw_w h_o rfl (hU_o 3 _ rfl))⟩
    obtain ⟨x102_o, x103_o, x104_o, x105_o, x106_o⟩ := y_l
    obtain ⟨e108_o, h107_o⟩ := hy_o
    dsimp only at e108_o h107_o
    subst e108_o
    show gQ (sb_37_15 3 x103_o x104_o x105_o x106_o) _
    unfold sb_37_15
    dsimp only
    refine gQ_ite ?_ ?_
    · exact gQ_none
    · refine gQ_ite ?_ ?_
      · exact gQ_none
      · refine gQ_ite ?_ ?_
        · refine gQ_ite ?_ ?_
          · exact gQ_none
          · refine gQ_ite ?_ ?_
            · exact gQ_none
            · refine gQ_chk2 (fun ha109_o hb110_o => ?_)
              refine gQ_ite ?_ ?_
              · refine gQ_ite ?_ ?_
                · refine gQ_ite ?_ ?_
                  · refine gQ_ite ?_ ?_
                    · refine gQ_v0 (A := Fw W g) (o_40 hg_o hU_o rfl h107_o) (fun s3_l h111_o => ?_)
                      exact gQ_ret ⟨rfl, h111_o⟩
                    · refine gQ_v1 (A := Fw W g) (o_39 hg_o hU_o  h107_o) (fun v6 s5 h112_o => ?_)
                      refine gQ_v0 (A := Fw W g) (o_40 hg_o hU_o rfl h112_o) (fun s7 h113_o => ?_)
                      exact gQ_ret ⟨rfl, h113_o⟩
                  · refine gQ_v0 (A := Fw W g) (o_38 hg_o hU_o rfl h107_o) (fun s9 h114_o => ?_)
                    exact gQ_ret ⟨rfl, h114_o⟩
                · refine gQ_v1 (A := Fw W g) (o_41 hg_o hU_o rfl h107_o) (fun v12 s11 h115_o => ?_)
                  exact gQ_ret ⟨rfl, h115_o⟩
              · refine gQ_v1 (A := Fw W g) (o_41 hg_o hU_o rfl h107_o) (fun v15 s14 h116_o => ?_)
                exact gQ_ret ⟨rfl, h116_o⟩
        · refine gQ_map ?_
          exact gQ_ret h107_o

theorem o_34 {W : Nat → Nat → Bool} {g s : gS} {a0 : Nat} {a1 : Int} {a2 : Nat} {a3 : Nat} (hg_o : RF g) (hU_o : ∀ a k, csq a k = true → W a k = true) (ea0_o : a0 = 3) (h_o : Fw W g s) : gQ (f_34 a0 a1 a2 a3 s) (fun r => Fw W g r.2.2.2) := by
  subst ea0_o
  unfold f_34
  refine gQ_chk2 (fun ha117_o hb118_o => ?_)
  refine gQ_v0 (A := Fw W g) (o_35 hg_o hU_o rfl h_o) (fun s1_l h119_o => ?_)
  refine gQ_v0 (A := Fw W g) (o_36 hg_o hU_o rfl h119_o) (fun s3_l h120_o => ?_)
  refine gQ_v1 (A := Fw W g) (o_37 hg_o hU_o rfl h120_o) (fun v6 s5 h121_o => ?_)
  exact gQ_ret h121_o

theorem o_60 {W : Nat → Nat → Bool} {g s : gS} {a0 : Nat} {a1 : Int} (hg_o : RF g) (hU_o : ∀ a k, csq a k = true → W a k = true) (ea0_o : Wm W a0) (h_o : Fw W g s) : gQ (f_60 a0 a1 s) (fun r => Fw W g r.2.2.2) := by
  unfold f_60
  dsimp only
  exact gQ_ret (Fw_wv h_o (ea0_o _ (by decide)))

theorem o_61 {W : Nat → Nat → Bool} {g s : gS} {a0 : Nat} {a1 : Nat} (hg_o : RF g) (hU_o : ∀ a k, csq a k = true → W a k = true) (ea0_o : Wm W a0) (h_o : Fw W g s) : gQ (f_61 a0 a1 s) (fun r => Fw W g r.2.2.2) := by
  unfold f_61
  dsimp only
  refine gQ_ite ?_ ?_
  · refine gQ_chk2 (fun ha122_o hb123_o => ?_)
    refine gQ_ite ?_ ?_
    · exact gQ_ret (Fw_wv h_o (ea0_o _ (by decide)))
    · refine gQ_chk2 (fun ha124_o hb125_o => ?_)
      exact gQ_ret (Fw_wv (Fw_wv (Fw_wv h_o (ea0_o _ (by decide))) (ea0_o _ (by decide))) (ea0_o _ (by decide)))
  · exact gQ_ret h_o

theorem o_28 {W : Nat → Nat → Bool} {g s : gS} {a0 : Nat} {a1 : Int} {a2 : Nat} {a3 : Nat} (hg_o : RF g) (hU_o : ∀ a k, csq a k = true → W a k = true) (ea0_o : a0 = 42) (ea2_o : a2 = 9) (ea3_o : a3 = 3) (h_o : Fw W g s) : gQ (f_28 a0 a1 a2 a3 s) (fun r => Fw W g r.2.2.2) := by
  subst ea0_o ea2_o ea3_o
  unfold f_28
  dsimp only
  refine gQ_chk2 (fun ha126_o hb127_o => ?_)
  refine gQ_ite ?_ ?_
  · refine gQ_ite ?_ ?_
    · refine gQ_chk2 (fun ha128_o hb129_o => ?_)
      refine gQ_v0 (A := Fw W g) (o_26 hg_o hU_o rfl h_o) (fun s2_l h130_o => ?_)
      unfold fb_28_42
      dsimp only
      refine gQ_v1 (A := Fw W g) (o_61 hg_o hU_o (fun k_o _ => (fr_m43 h_o hg_o hU_o (fr_r h_o rfl (rr_42_0 hg_o)) ha126_o hb127_o) k_o) h130_o) (fun v5 s4_l h131_o => ?_)
      refine gQ_v0 (A := Fw W g) (o_60 hg_o hU_o (fun k_o _ => (fr_m43 h_o hg_o hU_o (fr_r h_o rfl (rr_42_0 hg_o)) ha126_o hb127_o) k_o) h131_o) (fun s6_l h132_o => ?_)
      refine gQ_v1 (A := Fw W g) (o_34 hg_o hU_o rfl h132_o) (fun v9 s8 h133_o => ?_)
      refine gQ_v0 (A := Fw W g) (o_60 hg_o hU_o (fun k_o _ => (fr_m43 h_o hg_o hU_o (fr_r h_o rfl (rr_42_0 hg_o)) ha126_o hb127_o) k_o) h133_o) (fun s10 h134_o => ?_)
      refine gQ_ite ?_ ?_
      · exact gQ_ret (Fw_wv h134_o ((fr_m43 h_o hg_o hU_o (fr_r h_o rfl (rr_42_0 hg_o)) ha126_o hb127_o) _))
      · exact gQ_ret h134_o
    · unfold fb_28_42
      dsimp only
      refine gQ_v1 (A := Fw W g) (o_61 hg_o hU_o (fun k_o _ => (fr_m43 h_o hg_o hU_o (fr_r h_o rfl (rr_42_0 hg_o)) ha126_o hb127_o) k_o) h_o) (fun v5 s4_l h135_o => ?_)
      refine gQ_v0 (A := Fw W g) (o_60 hg_o hU_o (fun k_o _ => (fr_m43 h_o hg_o hU_o (fr_r h_o rfl (rr_42_0 hg_o)) ha126_o hb127_o) k_o) h135_o) (fun s6_l h136_o => ?_)
      refine gQ_v1 (A := Fw W g) (o_34 hg_o hU_o rfl h136_o) (fun v9 s8 h137_o => ?_)
      refine gQ_v0 (A := Fw W g) (o_60 hg_o hU_o (fun k_o _ => (fr_m43 h_o hg_o hU_o (fr_r h_o rfl (rr_42_0 hg_o)) ha126_o hb127_o) k_o) h137_o) (fun s10 h138_o => ?_)
      refine gQ_ite ?_ ?_
      · exact gQ_ret (Fw_wv h138_o ((fr_m43 h_o hg_o hU_o (fr_r h_o rfl (rr_42_0 hg_o)) ha126_o hb127_o) _))
      · exact gQ_ret h138_o
  · unfold fb_28_42
    dsimp only
    refine gQ_v1 (A := Fw W g) (o_61 hg_o hU_o (fun k_o _ => (fr_m43 h_o hg_o hU_o (fr_r h_o rfl (rr_42_0 hg_o)) ha126_o hb127_o) k_o) h_o) (fun v5 s4_l h139_o => ?_)
    refine gQ_v0 (A := Fw W g) (o_60 hg_o hU_o (fun k_o _ => (fr_m43 h_o hg_o hU_o (fr_r h_o rfl (rr_42_0 hg_o)) ha126_o hb127_o) k_o) h139_o) (fun s6_l h140_o => ?_)
    refine gQ_v1 (A := Fw W g) (o_34 hg_o hU_o rfl h140_o) (fun v9 s8 h141_o => ?_)
    refine gQ_v0 (A := Fw W g) (o_60 hg_o hU_o (fun k_o _ => (fr_m43 h_o hg_o hU_o (fr_r h_o rfl (rr_42_0 hg_o)) ha126_o hb127_o) k_o) h141_o) (fun s10 h142_o => ?_)
    refine gQ_ite ?_ ?_
    · exact gQ_ret (Fw_wv h142_o ((fr_m43 h_o hg_o hU_o (fr_r h_o rfl (rr_42_0 hg_o)) ha126_o hb127_o) _))
    · exact gQ_ret h142_o

theorem o_28d {W : Nat → Nat → Bool} {g s : gS} {a0 : Nat} {a1 : Int} {a2 : Nat} {a3 : Nat} (hg_o : RF g) (hU_o : ∀ a k, csd a k = true → W a k = true) (ea0_o : a0 = 15) (ea2_o : a2 = 9) (ea3_o : a3 = 3) (h_o : Fw W g s) : gQ (f_28 a0 a1 a2 a3 s) (fun r => Fw W g r.2.2.2) := by
  subst ea0_o ea2_o ea3_o
  unfold f_28
  dsimp only
  refine gQ_chk2 (fun ha143_o hb144_o => ?_)
  refine gQ_ite ?_ ?_
  · refine gQ_ite ?_ ?_
    · refine gQ_chk2 (fun ha145_o hb146_o => ?_)
      refine gQ_v0 (A := Fw W g) (o_26d hg_o hU_o rfl h_o) (fun s2_l h147_o => ?_)
      unfold fb_28_42
      dsimp only
      refine gQ_v1 (A := Fw W g) (o_61 hg_o (qd_o hU_o) (fr_m16 h_o hg_o hU_o (fr_r h_o rfl (rr_15_0 hg_o)) ha143_o hb144_o) h147_o) (fun v5 s4_l h148_o => ?_)
      refine gQ_v0 (A := Fw W g) (o_60 hg_o (qd_o hU_o) (fr_m16 h_o hg_o hU_o (fr_r h_o rfl (rr_15_0 hg_o)) ha143_o hb144_o) h148_o) (fun s6_l h149_o => ?_)
      refine gQ_v1 (A := Fw W g) (o_34 hg_o (qd_o hU_o) rfl h149_o) (fun v9 s8 h150_o => ?_)
      refine gQ_v0 (A := Fw W g) (o_60 hg_o (qd_o hU_o) (fr_m16 h_o hg_o hU_o (fr_r h_o rfl (rr_15_0 hg_o)) ha143_o hb144_o) h150_o) (fun s10 h151_o => ?_)
      refine gQ_ite ?_ ?_
      · exact gQ_ret (Fw_wv h151_o ((fr_m16 h_o hg_o hU_o (fr_r h_o rfl (rr_15_0 hg_o)) ha143_o hb144_o) _ (by decide)))
      · exact gQ_ret h151_o
    · unfold fb_28_42
      dsimp only
      refine gQ_v1 (A := Fw W g) (o_61 hg_o (qd_o hU_o) (fr_m16 h_o hg_o hU_o (fr_r h_o rfl (rr_15_0 hg_o)) ha143_o hb144_o) h_o) (fun v5 s4_l h152_o => ?_)
      refine gQ_v0 (A := Fw W g) (o_60 hg_o (qd_o hU_o) (fr_m16 h_o hg_o hU_o (fr_r h_o rfl (rr_15_0 hg_o)) ha143_o hb144_o) h152_o) (fun s6_l h153_o => ?_)
      refine gQ_v1 (A := Fw W g) (o_34 hg_o (qd_o hU_o) rfl h153_o) (fun v9 s8 h154_o => ?_)
      refine gQ_v0 (A := Fw W g) (o_60 hg_o (qd_o hU_o) (fr_m16 h_o hg_o hU_o (fr_r h_o rfl (rr_15_0 hg_o)) ha143_o hb144_o) h154_o) (fun s10 h155_o => ?_)
      refine gQ_ite ?_ ?_
      · exact gQ_ret (Fw_wv h155_o ((fr_m16 h_o hg_o hU_o (fr_r h_o rfl (rr_15_0 hg_o)) ha143_o hb144_o) _ (by decide)))
      · exact gQ_ret h155_o
  · unfold fb_28_42
    dsimp only
    refine gQ_v1 (A := Fw W g) (o_61 hg_o (qd_o hU_o) (fr_m16 h_o hg_o hU_o (fr_r h_o rfl (rr_15_0 hg_o)) ha143_o hb144_o) h_o) (fun v5 s4_l h156_o => ?_)
    refine gQ_v0 (A := Fw W g) (o_60 hg_o (qd_o hU_o) (fr_m16 h_o hg_o hU_o (fr_r h_o rfl (rr_15_0 hg_o)) ha143_o hb144_o) h156_o) (fun s6_l h157_o => ?_)
    refine gQ_v1 (A := Fw W g) (o_34 hg_o (qd_o hU_o) rfl h157_o) (fun v9 s8 h158_o => ?_)
    refine gQ_v0 (A := Fw W g) (o_60 hg_o (qd_o hU_o) (fr_m16 h_o hg_o hU_o (fr_r h_o rfl (rr_15_0 hg_o)) ha143_o hb144_o) h158_o) (fun s10 h159_o => ?_)
    refine gQ_ite ?_ ?_
    · exact gQ_ret (Fw_wv h159_o ((fr_m16 h_o hg_o hU_o (fr_r h_o rfl (rr_15_0 hg_o)) ha143_o hb144_o) _ (by decide)))
    · exact gQ_ret h159_o

theorem o_27 {W : Nat → Nat → Bool} {g s : gS} {a0 : Nat} {a1 : Nat} {a2 : Nat} {a3 : Int} (hg_o : RF g) (hU_o : ∀ a k, csq a k = true → W a k = true) (ea0_o : a0 = 42) (ea1_o : a1 = 9) (ea2_o : a2 = 3) (h_o : Fw W g s) : gQ (f_27 a0 a1 a2 a3 s) (fun r => Fw W g r.2.2.2) := by
  subst ea0_o ea1_o ea2_o
  unfold f_27
  refine gQ_loop (fun y_l => y_l.1 = 42 ∧ y_l.2.1 = 9 ∧ y_l.2.2.1 = 3 ∧ Fw W g (y_l.2.2.2.2.2.2)) (fun y_l hy_o => ?_) ⟨rfl, rfl, rfl, h_o⟩
  obtain ⟨x160_o, x161_o, x162_o, x163_o, x164_o, x165_o, x166_o⟩ := y_l
  obtain ⟨e168_o, e169_o, e170_o, h167_o⟩ := hy_o
  dsimp only at e168_o e169_o e170_o h167_o
  subst e168_o e169_o e170_o
  show gQ (sb_27_6 42 9 3 x163_o x164_o x165_o x166_o) _
  unfold sb_27_6
  dsimp only
  refine gQ_ite ?_ ?_
  · refine gQ_chk2 (fun ha171_o hb172_o => ?_)
    refine gQ_ite ?_ ?_
    · refine gQ_v0 (A := Fw W g) (o_28 hg_o hU_o rfl rfl rfl h167_o) (fun s1_l h173_o => ?_)
      refine gQ_chk2 (fun ha174_o hb175_o => ?_)
      refine gQ_ite ?_ ?_
      · unfold fb_27_57
        exact gQ_ret ⟨rfl, rfl, rfl, h173_o⟩
      · unfold fb_27_57
        exact gQ_ret ⟨rfl, rfl, rfl, h173_o⟩
    · exact gQ_ret ⟨rfl, rfl, rfl, h167_o⟩
  · refine gQ_map ?_
    refine gQ_ite ?_ ?_
    · refine gQ_v1 (A := Fw W g) (o_29 hg_o hU_o  (Fw_w h167_o rfl (hU_o 42 _ rfl))) (fun v6 s5 h176_o => ?_)
      refine gQ_ite ?_ ?_
      · unfold fb_27_128
        dsimp only
        exact gQ_ret (Fw_w h176_o rfl (hU_o 42 _ rfl))
      · unfold fb_27_128
        dsimp only
        exact gQ_ret (Fw_w (Fw_w h176_o rfl (hU_o 42 _ rfl)) rfl (hU_o 42 _ rfl))
    · unfold fb_27_128
      dsimp only
      exact gQ_ret (Fw_w (Fw_w h167_o rfl (hU_o 42 _ rfl)) rfl (hU_o 42 _ rfl))

theorem o_27d {W : Nat → Nat → Bool} {g s : gS} {a0 : Nat} {a1 : Nat} {a2 : Nat} {a3 : Int} (hg_o : RF g) (hU_o : ∀ a k, csd a k = true → W a k = true) (ea0_o : a0 = 15) (ea1_o : a1 = 9) (ea2_o : a2 = 3) (h_o : Fw W g s) : gQ (f_27 a0 a1 a2 a3 s) (fun r => Fw W g r.2.2.2) := by
  subst ea0_o ea1_o ea2_o
  unfold f_27
  refine gQ_loop (fun y_l => y_l.1 = 15 ∧ y_l.2.1 = 9 ∧ y_l.2.2.1 = 3 ∧ Fw W g (y_l.2.2.2.2.2.2)) (fun y_l hy_o => ?_) ⟨rfl, rfl, rfl, h_o⟩
  obtain ⟨x177_o, x178_o, x179_o, x180_o, x181_o, x182_o, x183_o⟩ := y_l
  obtain ⟨e185_o, e186_o, e187_o, h184_o⟩ := hy_o
  dsimp only at e185_o e186_o e187_o h184_o
  subst e185_o e186_o e187_o
  show gQ (sb_27_6 15 9 3 x180_o x181_o x182_o x183_o) _
  unfold sb_27_6
  dsimp only
  refine gQ_ite ?_ ?_
  · refine gQ_chk2 (fun ha188_o hb189_o => ?_)
    refine gQ_ite ?_ ?_
    · refine gQ_v0 (A := Fw W g) (o_28d hg_o hU_o rfl rfl rfl h184_o) (fun s1_l h190_o => ?_)
      refine gQ_chk2 (fun ha191_o hb192_o => ?_)
      refine gQ_ite ?_ ?_
      · unfold fb_27_57
        exact gQ_ret ⟨rfl, rfl, rfl, h190_o⟩
      · unfold fb_27_57
        exact gQ_ret ⟨rfl, rfl, rfl, h190_o⟩
    · exact gQ_ret ⟨rfl, rfl, rfl, h184_o⟩
  · refine gQ_map ?_
    refine gQ_ite ?_ ?_
    · refine gQ_v1 (A := Fw W g) (o_29 hg_o (qd_o hU_o)  (Fw_w h184_o rfl (hU_o 15 _ rfl))) (fun v6 s5 h193_o => ?_)
      refine gQ_ite ?_ ?_
      · unfold fb_27_128
        dsimp only
        exact gQ_ret (Fw_w h193_o rfl (hU_o 15 _ rfl))
      · unfold fb_27_128
        dsimp only
        exact gQ_ret (Fw_w (Fw_w h193_o rfl (hU_o 15 _ rfl)) rfl (hU_o 15 _ rfl))
    · unfold fb_27_128
      dsimp only
      exact gQ_ret (Fw_w (Fw_w h184_o rfl (hU_o 15 _ rfl)) rfl (hU_o 15 _ rfl))

theorem o_59 {W : Nat → Nat → Bool} {g s : gS} {a0 : Nat} {a1 : Nat} (hg_o : RF g) (hU_o : ∀ a k, csq a k = true → W a k = true) (ea0_o : Wa W a0) (h_o : Fw W g s) : gQ (f_59 a0 a1 s) (fun r => Fw W g r.2.2.2) := by
  unfold f_59
  dsimp only
  exact gQ_ret (Fw_wv (Fw_wv (Fw_wv (Fw_wv (Fw_wv (Fw_wv h_o (ea0_o _)) (ea0_o _)) (ea0_o _)) (ea0_o _)) (ea0_o _)) (ea0_o _))

theorem o_23 {W : Nat → Nat → Bool} {g s : gS} {a0 : Nat} {a1 : Nat} (hg_o : RF g) (hU_o : ∀ a k, csq a k = true → W a k = true) (ea0_o : a0 = 42) (ea1_o : a1 = 15) (h_o : Fw W g s) : gQ (f_23 a0 a1 s) (fun r => Fw W g r.2.2.2) := by
  subst ea0_o ea1_o
  unfold f_23
  refine gQ_loop (fun y_l => y_l.1 = 42 ∧ y_l.2.1 = 15 ∧ Fw W g (y_l.2.2.2)) (fun y_l hy_o => ?_) ⟨rfl, rfl, h_o⟩
  obtain ⟨x194_o, x195_o, x196_o, x197_o⟩ := y_l
  obtain ⟨e199_o, e200_o, h198_o⟩ := hy_o
  dsimp only at e199_o e200_o h198_o
  subst e199_o e200_o
  show gQ (sb_23_2 42 15 x196_o x197_o) _
  unfold sb_23_2
  dsimp only
  refine gQ_ite ?_ ?_
  · refine gQ_chk2 (fun ha201_o hb202_o => ?_)
    refine gQ_chk2 (fun ha203_o hb204_o => ?_)
    refine gQ_v0 (A := Fw W g) (o_59 hg_o hU_o (fr_m43 h198_o hg_o hU_o (fr_r h198_o rfl (rr_42_0 hg_o)) ha203_o hb204_o) h198_o) (fun s1_l h205_o => ?_)
    exact gQ_ret ⟨rfl, rfl, h205_o⟩
  · refine gQ_map ?_
    exact gQ_ret (Fw_w (Fw_w (Fw_w (Fw_w (Fw_w (Fw_w (Fw_c (Fw_c h198_o (fr_r h198_o rfl (rr_42_1 hg_o)) (fun k_o => hU_o 44 k_o rfl)) (fr_r (Fw_c h198_o (fr_r h198_o rfl (rr_42_1 hg_o)) (fun k_o => hU_o 44 k_o rfl)) rfl (rr_42_2 hg_o)) (fun k_o => hU_o 45 k_o rfl)) rfl (hU_o 42 _ rfl)) rfl (hU_o 42 _ rfl)) rfl (hU_o 42 _ rfl)) rfl (hU_o 42 _ rfl)) rfl (hU_o 42 _ rfl)) rfl (hU_o 42 _ rfl))

theorem o_72 {W : Nat → Nat → Bool} {g s : gS} {a0 : Nat} {a1 : Int} (hg_o : RF g) (hU_o : ∀ a k, csq a k = true → W a k = true) (ea0_o : a0 = 27) (h_o : Fw W g s) : gQ (f_72 a0 a1 s) (fun r => Fw W g r.2.2.2) := by
  subst ea0_o
  unfold f_72
  exact gQ_ret h_o

theorem o_73 {W : Nat → Nat → Bool} {g s : gS} {a0 : Nat} {a1 : Int} {a2 : Int} {a3 : Int} (hg_o : RF g) (hU_o : ∀ a k, csq a k = true → W a k = true) (ea0_o : a0 = 27) (h_o : Fw W g s) : gQ (f_73 a0 a1 a2 a3 s) (fun r => Fw W g r.2.2.2) := by
  subst ea0_o
  unfold f_73
  dsimp only
  refine gQ_chk2 (fun ha206_o hb207_o => ?_)
  refine gQ_chk2 (fun ha208_o hb209_o => ?_)
  refine gQ_chk2 (fun ha210_o hb211_o => ?_)
  refine gQ_v0 (A := Fw W g) (o_60 hg_o hU_o (fun k_o _ => (fun k_o => (congrArg (fun b_o => W b_o k_o) (fr_r (Fw_w (Fw_w (Fw_w (Fw_w h_o (fr_r h_o rfl (rr_27_2 hg_o)) (hU_o 28 _ rfl)) (fr_r (Fw_w h_o (fr_r h_o rfl (rr_27_2 hg_o)) (hU_o 28 _ rfl)) rfl (rr_27_2 hg_o)) (hU_o 28 _ rfl)) (fr_r (Fw_w (Fw_w h_o (fr_r h_o rfl (rr_27_2 hg_o)) (hU_o 28 _ rfl)) (fr_r (Fw_w h_o (fr_r h_o rfl (rr_27_2 hg_o)) (hU_o 28 _ rfl)) rfl (rr_27_2 hg_o)) (hU_o 28 _ rfl)) rfl (rr_27_2 hg_o)) (hU_o 28 _ rfl)) (fr_r (Fw_w (Fw_w (Fw_w h_o (fr_r h_o rfl (rr_27_2 hg_o)) (hU_o 28 _ rfl)) (fr_r (Fw_w h_o (fr_r h_o rfl (rr_27_2 hg_o)) (hU_o 28 _ rfl)) rfl (rr_27_2 hg_o)) (hU_o 28 _ rfl)) (fr_r (Fw_w (Fw_w h_o (fr_r h_o rfl (rr_27_2 hg_o)) (hU_o 28 _ rfl)) (fr_r (Fw_w h_o (fr_r h_o rfl (rr_27_2 hg_o)) (hU_o 28 _ rfl)) rfl (rr_27_2 hg_o)) (hU_o 28 _ rfl)) rfl (rr_27_2 hg_o)) (hU_o 28 _ rfl)) rfl (rr_27_2 hg_o)) (hU_o 28 _ rfl)) rfl (rr_27_2 hg_o))).trans (hU_o 28 k_o rfl)) k_o) (Fw_w (Fw_w (Fw_w (Fw_w h_o (fr_r h_o rfl (rr_27_2 hg_o)) (hU_o 28 _ rfl)) (fr_r (Fw_w h_o (fr_r h_o rfl (rr_27_2 hg_o)) (hU_o 28 _ rfl)) rfl (rr_27_2 hg_o)) (hU_o 28 _ rfl)) (fr_r (Fw_w (Fw_w h_o (fr_r h_o rfl (rr_27_2 hg_o)) (hU_o 28 _ rfl)) (fr_r (Fw_w h_o (fr_r h_o rfl (rr_27_2 hg_o)) (hU_o 28 _ rfl)) rfl (rr_27_2 hg_o)) (hU_o 28 _ rfl)) rfl (rr_27_2 hg_o)) (hU_o 28 _ rfl)) (fr_r (Fw_w (Fw_w (Fw_w h_o (fr_r h_o rfl (rr_27_2 hg_o)) (hU_o 28 _ rfl)) (fr_r (Fw_w h_o (fr_r h_o rfl (rr_27_2 hg_o)) (hU_o 28 _ rfl)) rfl (rr_27_2 hg_o)) (hU_o 28 _ rfl)) (fr_r (Fw_w (Fw_w h_o (fr_r h_o rfl (rr_27_2 hg_o)) (hU_o 28 _ rfl)) (fr_r (Fw_w h_o (fr_r h_o rfl (rr_27_2 hg_o)) (hU_o 28 _ rfl)) rfl (rr_27_2 hg_o)) (hU_o 28 _ rfl)) rfl (rr_27_2 hg_o)) (hU_o 28 _ rfl)) rfl (rr_27_2 hg_o)) (hU_o 28 _ rfl))) (fun s5 h212_o => ?_)
  refine gQ_v0 (A := Fw W g) (o_35 hg_o hU_o (fr_r h212_o rfl (rr_27_0 hg_o)) h212_o) (fun s7 h213_o => ?_)
  refine gQ_chk2 (fun ha214_o hb215_o => ?_)
  refine gQ_v0 (A := Fw W g) (o_36 hg_o hU_o (fr_r h213_o rfl (rr_27_0 hg_o)) h213_o) (fun s9 h216_o => ?_)
  refine gQ_v1 (A := Fw W g) (o_37 hg_o hU_o (fr_r h216_o rfl (rr_27_0 hg_o)) h216_o) (fun v12 s11 h217_o => ?_)
  refine gQ_v0 (A := Fw W g) (o_60 hg_o hU_o (fun k_o _ => (fun k_o => (congrArg (fun b_o => W b_o k_o) (fr_r h216_o rfl (rr_27_2 hg_o))).trans (hU_o 28 k_o rfl)) k_o) h217_o) (fun s13 h218_o => ?_)
  exact gQ_ret h218_o

theorem o_71s {W : Nat → Nat → Bool} {g s : gS} {r_70 : Nat → Int → Int → Int → gS → Option gO} {a0 : Nat} {a1 : Int} {a2 : Int} {a3 : Int} (hg_o : RF g) (hU_o : ∀ a k, csq a k = true → W a k = true) (ea0_o : a0 = 27) (hr_70 : ∀ {a1 a2 a3 : Int} {s : gS}, Fw W g s → gQ (r_70 27 a1 a2 a3 s) (fun r => Fw W g r.2.2.2)) (h_o : Fw W g s) : gQ (fo_71 r_70 a0 a1 a2 a3 s) (fun r => Fw W g r.2.2.2) := by
  subst ea0_o
  unfold fo_71
  refine gQ_v1 (A := Fw W g) (o_73 hg_o hU_o rfl h_o) (fun v2 s1_l h219_o => ?_)
  refine gQ_ite ?_ ?_
  · exact gQ_ret h219_o
  · refine gQ_v1 (A := Fw W g) (hr_70 h219_o) (fun v4_l s3_l h220_o => ?_)
    exact gQ_ret h220_o

theorem o_70s {W : Nat → Nat → Bool} {g s : gS} {r_70 : Nat → Int → Int → Int → gS → Option gO} {r_71 : Nat → Int → Int → Int → gS → Option gO} {a0 : Nat} {a1 : Int} {a2 : Int} {a3 : Int} (hg_o : RF g) (hU_o : ∀ a k, csq a k = true → W a k = true) (ea0_o : a0 = 27) (hr_70 : ∀ {a1 a2 a3 : Int} {s : gS}, Fw W g s → gQ (r_70 27 a1 a2 a3 s) (fun r => Fw W g r.2.2.2)) (hr_71 : ∀ {a1 a2 a3 : Int} {s : gS}, Fw W g s → gQ (r_71 27 a1 a2 a3 s) (fun r => Fw W g r.2.2.2)) (h_o : Fw W g s) : gQ (fo_70 r_70 r_71 a0 a1 a2 a3 s) (fun r => Fw W g r.2.2.2) := by
  subst ea0_o
  unfold fo_70
  dsimp only
  refine gQ_ite ?_ ?_
  · refine gQ_ite ?_ ?_
    · refine gQ_ite ?_ ?_
      · refine gQ_chk2 (fun ha221_o hb222_o => ?_)
        refine gQ_ite ?_ ?_
        · exact gQ_ret h_o
        · refine gQ_v1 (A := Fw W g) (hr_71 h_o) (fun v5 s4_l h223_o => ?_)
          refine gQ_ite ?_ ?_
          · refine gQ_ite ?_ ?_
            · refine gQ_v1 (A := Fw W g) (o_72 hg_o hU_o rfl h223_o) (fun v7 s6_l h224_o => ?_)
              refine gQ_v1 (A := Fw W g) (hr_70 h224_o) (fun v9 s8 h225_o => ?_)
              unfold fb_70_117
              dsimp only
              refine gQ_chk2 (fun ha226_o hb227_o => ?_)
              refine gQ_chk2 (fun ha228_o hb229_o => ?_)
              exact gQ_ret (Fw_w h225_o (fr_r h225_o rfl (rr_27_7 hg_o)) (hU_o 33 _ rfl))
            · unfold fb_70_117
              dsimp only
              refine gQ_chk2 (fun ha230_o hb231_o => ?_)
              refine gQ_chk2 (fun ha232_o hb233_o => ?_)
              exact gQ_ret (Fw_w h223_o (fr_r h223_o rfl (rr_27_7 hg_o)) (hU_o 33 _ rfl))
          · unfold fb_70_117
            dsimp only
            refine gQ_chk2 (fun ha234_o hb235_o => ?_)
            refine gQ_chk2 (fun ha236_o hb237_o => ?_)
            exact gQ_ret (Fw_w h223_o (fr_r h223_o rfl (rr_27_7 hg_o)) (hU_o 33 _ rfl))
      · exact gQ_ret h_o
    · exact gQ_ret h_o
  · exact gQ_ret h_o

theorem o_70n {W : Nat → Nat → Bool} {g : gS} (hg_o : RF g) (hU_o : ∀ a k, csq a k = true → W a k = true) (n : Nat) : (∀ {a1 a2 a3 : Int} {s : gS}, Fw W g s → gQ (fn_70 n 27 a1 a2 a3 s) (fun r => Fw W g r.2.2.2)) ∧ (∀ {a1 a2 a3 : Int} {s : gS}, Fw W g s → gQ (fn_71 n 27 a1 a2 a3 s) (fun r => Fw W g r.2.2.2)) := by
  induction n with
  | zero => exact ⟨fun _ => gQ_none, fun _ => gQ_none⟩
  | succ n ih_l =>
    exact ⟨fun {a1 a2 a3 s} hh_o => (o_70s hg_o hU_o rfl (fun h_l => ih_l.1 h_l) (fun h_l => ih_l.2 h_l) hh_o : gQ (fo_70 (rg_70 n).1 (rg_70 n).2 27 a1 a2 a3 s) _), fun {a1 a2 a3 s} hh_o => (o_71s hg_o hU_o rfl (fun h_l => ih_l.1 h_l) hh_o : gQ (fo_71 (rg_70 n).1 27 a1 a2 a3 s) _)⟩
theorem o_70 {W : Nat → Nat → Bool} {g s : gS} {a0 : Nat} {a1 a2 a3 : Int} (hg_o : RF g) (hU_o : ∀ a k, csq a k = true → W a k = true) (ea0_o : a0 = 27) (h_o : Fw W g s) : gQ (f_70 a0 a1 a2 a3 s) (fun r => Fw W g r.2.2.2) := by
  subst ea0_o
  exact (o_70n hg_o hU_o 80).1 h_o
theorem o_71 {W : Nat → Nat → Bool} {g s : gS} {a0 : Nat} {a1 a2 a3 : Int} (hg_o : RF g) (hU_o : ∀ a k, csq a k = true → W a k = true) (ea0_o : a0 = 27) (h_o : Fw W g s) : gQ (f_71 a0 a1 a2 a3 s) (fun r => Fw W g r.2.2.2) := by
  subst ea0_o
  exact (o_70n hg_o hU_o 80).2 h_o

theorem o_69 {W : Nat → Nat → Bool} {g s : gS} {a0 : Nat} {a1 : Int} {a2 : Int} (hg_o : RF g) (hU_o : ∀ a k, csq a k = true → W a k = true) (ea0_o : a0 = 27) (h_o : Fw W g s) : gQ (f_69 a0 a1 a2 s) (fun r => Fw W g r.2.2.2) := by
  subst ea0_o
  unfold f_69
  refine gQ_v1 (A := Fw W g) (o_70 hg_o hU_o rfl h_o) (fun v2 s1_l h238_o => ?_)
  exact gQ_ret h238_o

theorem o_74 {W : Nat → Nat → Bool} {g s : gS} {a0 : Nat} {a1 : Int} {a2 : Int} {a3 : Int} (hg_o : RF g) (hU_o : ∀ a k, csq a k = true → W a k = true) (ea0_o : a0 = 27) (h_o : Fw W g s) : gQ (f_74 a0 a1 a2 a3 s) (fun r => Fw W g r.2.2.2) := by
  subst ea0_o
  unfold f_74
  refine gQ_loop (fun y_l => y_l.1 = 27 ∧ Fw W g (y_l.2.2.2.2.2)) (fun y_l hy_o => ?_) ⟨rfl, h_o⟩
  obtain ⟨x239_o, x240_o, x241_o, x242_o, x243_o, x244_o⟩ := y_l
  obtain ⟨e246_o, h245_o⟩ := hy_o
  dsimp only at e246_o h245_o
  subst e246_o
  show gQ (sb_74_9 27 x240_o x241_o x242_o x243_o x244_o) _
  unfold sb_74_9
  refine gQ_ite ?_ ?_
  · refine gQ_map ?_
    exact gQ_ret h245_o
  · refine gQ_loop (fun y_l => y_l.1 = 27 ∧ Fw W g (y_l.2.2.2.2.2.2)) (fun y_l hy_o => ?_) ⟨rfl, h245_o⟩
    obtain ⟨x247_o, x248_o, x249_o, x250_o, x251_o, x252_o, x253_o⟩ := y_l
    obtain ⟨e255_o, h254_o⟩ := hy_o
    dsimp only at e255_o h254_o
    subst e255_o
    show gQ (sb_74_18 27 x248_o x249_o x250_o x251_o x252_o x253_o) _
    unfold sb_74_18
    refine gQ_ite ?_ ?_
    · refine gQ_v1 (A := Fw W g) (o_71 hg_o hU_o rfl h254_o) (fun v2 s1_l h256_o => ?_)
      refine gQ_v1 (A := Fw W g) (o_70 hg_o hU_o rfl h256_o) (fun v4_l s3_l h257_o => ?_)
      refine gQ_ite ?_ ?_
      · refine gQ_v1 (A := Fw W g) (o_72 hg_o hU_o rfl h257_o) (fun v6 s5 h258_o => ?_)
        exact gQ_ret ⟨rfl, h258_o⟩
      · refine gQ_map ?_
        unfold fb_74_63
        refine gQ_ite ?_ ?_
        · refine gQ_map ?_
          exact gQ_ret h257_o
        · refine gQ_v1 (A := Fw W g) (o_73 hg_o hU_o rfl h257_o) (fun v8 s7 h259_o => ?_)
          refine gQ_ite ?_ ?_
          · refine gQ_map ?_
            exact gQ_ret h259_o
          · exact gQ_ret ⟨rfl, h259_o⟩
    · refine gQ_map ?_
      unfold fb_74_63
      refine gQ_ite ?_ ?_
      · refine gQ_map ?_
        exact gQ_ret h254_o
      · refine gQ_v1 (A := Fw W g) (o_73 hg_o hU_o rfl h254_o) (fun v8 s7 h260_o => ?_)
        refine gQ_ite ?_ ?_
        · refine gQ_map ?_
          exact gQ_ret h260_o
        · exact gQ_ret ⟨rfl, h260_o⟩

theorem o_272 {W : Nat → Nat → Bool} {g s : gS} {a0 : Nat} {a1 : Int} (hg_o : RF g) (hU_o : ∀ a k, csq a k = true → W a k = true) (ea0_o : a0 = 33) (h_o : Fw W g s) : gQ (f_272 a0 a1 s) (fun r => Fw W g r.2.2.2) := by
  subst ea0_o
  unfold f_272
  refine gQ_loop (fun y_l => y_l.1 = 33 ∧ Fw W g (y_l.2.2.2.2)) (fun y_l hy_o => ?_) ⟨rfl, h_o⟩
  obtain ⟨x261_o, x262_o, x263_o, x264_o, x265_o⟩ := y_l
  obtain ⟨e267_o, h266_o⟩ := hy_o
  dsimp only at e267_o h266_o
  subst e267_o
  show gQ (sb_272_6 33 x262_o x263_o x264_o x265_o) _
  unfold sb_272_6
  dsimp only
  refine gQ_ite ?_ ?_
  · refine gQ_chk2 (fun ha268_o hb269_o => ?_)
    exact gQ_ret ⟨rfl, (Fw_w h266_o rfl (hU_o 33 _ rfl))⟩
  · refine gQ_map ?_
    exact gQ_ret h266_o

theorem o_68 {W : Nat → Nat → Bool} {g s : gS} {a0 : Nat} {a1 : Int} {a2 : Nat} {a3 : Int} (hg_o : RF g) (hU_o : ∀ a k, csq a k = true → W a k = true) (ea0_o : a0 = 27) (ea2_o : a2 = 42) (h_o : Fw W g s) : gQ (f_68 a0 a1 a2 a3 s) (fun r => Fw W g r.2.2.2) := by
  subst ea0_o ea2_o
  unfold f_68
  dsimp only
  refine gQ_v0 (A := Fw W g) (o_272 hg_o hU_o (fr_r (Fw_w (Fw_w (Fw_w h_o rfl (hU_o 27 _ rfl)) rfl (hU_o 27 _ rfl)) rfl (hU_o 27 _ rfl)) rfl (rr_27_7 hg_o)) (Fw_w (Fw_w (Fw_w h_o rfl (hU_o 27 _ rfl)) rfl (hU_o 27 _ rfl)) rfl (hU_o 27 _ rfl))) (fun s4_l h270_o => ?_)
  refine gQ_chk2 (fun ha271_o hb272_o => ?_)
  refine gQ_v0 (A := Fw W g) (o_59 hg_o hU_o (fun k_o => (congrArg (fun b_o => W b_o k_o) (fr_r h270_o rfl (rr_27_2 hg_o))).trans (hU_o 28 k_o rfl)) h270_o) (fun s6_l h273_o => ?_)
  refine gQ_loop (fun y_l => y_l.1 = 27 ∧ y_l.2.1 = 42 ∧ Fw W g (y_l.2.2.2)) (fun y_l hy_o => ?_) ⟨rfl, rfl, h273_o⟩
  obtain ⟨x274_o, x275_o, x276_o, x277_o⟩ := y_l
  obtain ⟨e279_o, e280_o, h278_o⟩ := hy_o
  dsimp only at e279_o e280_o h278_o
  subst e279_o e280_o
  show gQ (sb_68_47 27 42 x276_o x277_o) _
  unfold sb_68_47
  dsimp only
  refine gQ_ite ?_ ?_
  · refine gQ_chk2 (fun ha281_o hb282_o => ?_)
    refine gQ_v1 (A := Fw W g) (o_27 hg_o hU_o rfl (fr_r (Fw_w h278_o (fr_r h278_o rfl (rr_27_3 hg_o)) (hU_o 29 _ rfl)) rfl (rr_27_1 hg_o)) (fr_r (Fw_w h278_o (fr_r h278_o rfl (rr_27_3 hg_o)) (hU_o 29 _ rfl)) rfl (rr_27_0 hg_o)) (Fw_w h278_o (fr_r h278_o rfl (rr_27_3 hg_o)) (hU_o 29 _ rfl))) (fun v10 s9 h283_o => ?_)
    refine gQ_v1 (A := Fw W g) (o_61 hg_o hU_o (fun k_o _ => (fun k_o => (congrArg (fun b_o => W b_o k_o) (fr_r h283_o rfl (rr_27_2 hg_o))).trans (hU_o 28 k_o rfl)) k_o) h283_o) (fun v12 s11 h284_o => ?_)
    refine gQ_chk2 (fun ha285_o hb286_o => ?_)
    refine gQ_chk2 (fun ha287_o hb288_o => ?_)
    refine gQ_chk2 (fun ha289_o hb290_o => ?_)
    exact gQ_ret ⟨rfl, rfl, (Fw_w (Fw_w (Fw_w h284_o (fr_r h283_o rfl (rr_27_6 hg_o)) (hU_o 32 _ rfl)) (fr_r (Fw_w h284_o (fr_r h283_o rfl (rr_27_6 hg_o)) (hU_o 32 _ rfl)) rfl (rr_27_4 hg_o)) (hU_o 30 _ rfl)) (fr_r (Fw_w (Fw_w h284_o (fr_r h283_o rfl (rr_27_6 hg_o)) (hU_o 32 _ rfl)) (fr_r (Fw_w h284_o (fr_r h283_o rfl (rr_27_6 hg_o)) (hU_o 32 _ rfl)) rfl (rr_27_4 hg_o)) (hU_o 30 _ rfl)) rfl (rr_27_5 hg_o)) (hU_o 31 _ rfl))⟩
  · refine gQ_map ?_
    exact gQ_ret h278_o

theorem o_273 {W : Nat → Nat → Bool} {g s : gS} {a0 : Nat} {a1 : Int} (hg_o : RF g) (hU_o : ∀ a k, csq a k = true → W a k = true) (ea0_o : a0 = 35) (h_o : Fw W g s) : gQ (f_273 a0 a1 s) (fun r => Fw W g r.2.2.2) := by
  subst ea0_o
  unfold f_273
  refine gQ_loop (fun y_l => y_l.1 = 35 ∧ Fw W g (y_l.2.2.2.2)) (fun y_l hy_o => ?_) ⟨rfl, h_o⟩
  obtain ⟨x291_o, x292_o, x293_o, x294_o, x295_o⟩ := y_l
  obtain ⟨e297_o, h296_o⟩ := hy_o
  dsimp only at e297_o h296_o
  subst e297_o
  show gQ (sb_273_5 35 x292_o x293_o x294_o x295_o) _
  unfold sb_273_5
  dsimp only
  refine gQ_ite ?_ ?_
  · refine gQ_chk2 (fun ha298_o hb299_o => ?_)
    exact gQ_ret ⟨rfl, (Fw_w h296_o rfl (hU_o 35 _ rfl))⟩
  · refine gQ_map ?_
    exact gQ_ret h296_o

theorem o_64 {W : Nat → Nat → Bool} {g s : gS} {a0 : Nat} {a1 : Int} {a2 : Int} {a3 : Int} (hg_o : RF g) (hU_o : ∀ a k, csq a k = true → W a k = true) (ea0_o : a0 = 34) (h_o : Fw W g s) : gQ (f_64 a0 a1 a2 a3 s) (fun r => Fw W g r.2.2.2) := by
  subst ea0_o
  unfold f_64
  dsimp only
  refine gQ_ite ?_ ?_
  · refine gQ_chk2 (fun ha300_o hb301_o => ?_)
    exact gQ_ret h_o
  · refine gQ_chk2 (fun ha302_o hb303_o => ?_)
    refine gQ_ite ?_ ?_
    · refine gQ_ite ?_ ?_
      · refine gQ_chk2 (fun ha304_o hb305_o => ?_)
        refine gQ_chk2 (fun ha306_o hb307_o => ?_)
        exact gQ_ret h_o
      · exact gQ_ret h_o
    · exact gQ_ret h_o

theorem o_65 {W : Nat → Nat → Bool} {g s : gS} {a0 : Nat} (hg_o : RF g) (hU_o : ∀ a k, csq a k = true → W a k = true) (ea0_o : a0 = 34) (h_o : Fw W g s) : gQ (f_65 a0 s) (fun r => Fw W g r.2.2.2) := by
  subst ea0_o
  unfold f_65
  exact gQ_ret h_o

theorem o_66 {W : Nat → Nat → Bool} {g s : gS} {a0 : Nat} {a1 : Int} (hg_o : RF g) (hU_o : ∀ a k, csq a k = true → W a k = true) (ea0_o : a0 = 34) (h_o : Fw W g s) : gQ (f_66 a0 a1 s) (fun r => Fw W g r.2.2.2) := by
  subst ea0_o
  unfold f_66
  refine gQ_loop (fun y_l => y_l.1 = 34 ∧ Fw W g (y_l.2.2.2.2.2)) (fun y_l hy_o => ?_) ⟨rfl, h_o⟩
  obtain ⟨x308_o, x309_o, x310_o, x311_o, x312_o, x313_o⟩ := y_l
  obtain ⟨e315_o, h314_o⟩ := hy_o
  dsimp only at e315_o h314_o
  subst e315_o
  show gQ (sb_66_7 34 x309_o x310_o x311_o x312_o x313_o) _
  unfold sb_66_7
  refine gQ_ite ?_ ?_
  · refine gQ_map ?_
    exact gQ_ret h314_o
  · refine gQ_loop (fun y_l => y_l.1 = 34 ∧ Fw W g (y_l.2.2.2.2.2)) (fun y_l hy_o => ?_) ⟨rfl, h314_o⟩
    obtain ⟨x316_o, x317_o, x318_o, x319_o, x320_o, x321_o⟩ := y_l
    obtain ⟨e323_o, h322_o⟩ := hy_o
    dsimp only at e323_o h322_o
    subst e323_o
    show gQ (sb_66_15 34 x317_o x318_o x319_o x320_o x321_o) _
    unfold sb_66_15
    refine gQ_ite ?_ ?_
    · refine gQ_v1 (A := Fw W g) (o_64 hg_o hU_o rfl h322_o) (fun v2 s1_l h324_o => ?_)
      refine gQ_chk2 (fun ha325_o hb326_o => ?_)
      refine gQ_ite ?_ ?_
      · exact gQ_ret ⟨rfl, h324_o⟩
      · refine gQ_map ?_
        unfold fb_66_57
        dsimp only
        refine gQ_ite ?_ ?_
        · exact gQ_ret ⟨rfl, h324_o⟩
        · exact gQ_ret ⟨rfl, h324_o⟩
    · refine gQ_map ?_
      unfold fb_66_57
      dsimp only
      refine gQ_ite ?_ ?_
      · exact gQ_ret ⟨rfl, h322_o⟩
      · exact gQ_ret ⟨rfl, h322_o⟩

theorem o_63 {W : Nat → Nat → Bool} {g s : gS} {a0 : Nat} (hg_o : RF g) (hU_o : ∀ a k, csq a k = true → W a k = true) (ea0_o : a0 = 34) (h_o : Fw W g s) : gQ (f_63 a0 s) (fun r => Fw W g r.2.2.2) := by
  subst ea0_o
  unfold f_63
  dsimp only
  refine gQ_v0 (A := Fw W g) (o_273 hg_o hU_o (fr_r h_o rfl (rr_34_1 hg_o)) h_o) (fun s1_l h327_o => ?_)
  refine gQ_loop (fun y_l => y_l.1 = 34 ∧ Fw W g (y_l.2.2)) (fun y_l hy_o => ?_) ⟨rfl, h327_o⟩
  obtain ⟨x328_o, x329_o, x330_o⟩ := y_l
  obtain ⟨e332_o, h331_o⟩ := hy_o
  dsimp only at e332_o h331_o
  subst e332_o
  show gQ (sb_63_18 34 x329_o x330_o) _
  unfold sb_63_18
  refine gQ_ite ?_ ?_
  · refine gQ_map ?_
    exact gQ_ret h331_o
  · refine gQ_loop (fun y_l => y_l.1 = 34 ∧ Fw W g (y_l.2.2.2)) (fun y_l hy_o => ?_) ⟨rfl, h331_o⟩
    obtain ⟨x333_o, x334_o, x335_o, x336_o⟩ := y_l
    obtain ⟨e338_o, h337_o⟩ := hy_o
    dsimp only at e338_o h337_o
    subst e338_o
    show gQ (sb_63_24 34 x334_o x335_o x336_o) _
    unfold sb_63_24
    refine gQ_ite ?_ ?_
    · refine gQ_v1 (A := Fw W g) (o_64 hg_o hU_o rfl h337_o) (fun v5 s4_l h339_o => ?_)
      refine gQ_loop (fun y_l => y_l.1 = 34 ∧ Fw W g (y_l.2.2.2.2.2)) (fun y_l hy_o => ?_) ⟨rfl, h339_o⟩
      obtain ⟨x340_o, x341_o, x342_o, x343_o, x344_o, x345_o⟩ := y_l
      obtain ⟨e347_o, h346_o⟩ := hy_o
      dsimp only at e347_o h346_o
      subst e347_o
      show gQ (sb_63_48 34 x341_o x342_o x343_o x344_o x345_o) _
      unfold sb_63_48
      dsimp only
      refine gQ_ite ?_ ?_
      · refine gQ_v1 (A := Fw W g) (o_64 hg_o hU_o rfl h346_o) (fun v7 s6_l h348_o => ?_)
        exact gQ_ret ⟨rfl, h348_o⟩
      · refine gQ_map ?_
        refine gQ_chk2 (fun ha349_o hb350_o => ?_)
        exact gQ_ret ⟨rfl, (Fw_w h346_o (fr_r h346_o rfl (rr_34_1 hg_o)) (hU_o 35 _ rfl))⟩
    · refine gQ_map ?_
      exact gQ_ret ⟨rfl, h337_o⟩

theorem o_264 {W : Nat → Nat → Bool} {g s : gS} {a0 : Int} (hg_o : RF g) (hU_o : ∀ a k, csq a k = true → W a k = true)  (h_o : Fw W g s) : gQ (f_264 a0 s) (fun r => Fw W g r.2.2.2) := by
  unfold f_264
  dsimp only
  exact gQ_ret h_o

theorem o_265 {W : Nat → Nat → Bool} {g s : gS} {a0 : Int} (hg_o : RF g) (hU_o : ∀ a k, csq a k = true → W a k = true)  (h_o : Fw W g s) : gQ (f_265 a0 s) (fun r => Fw W g r.2.2.2) := by
  unfold f_265
  dsimp only
  exact gQ_ret h_o

theorem o_134 {W : Nat → Nat → Bool} {g s : gS} {a0 : Nat} {a1 : Int} (hg_o : RF g) (hU_o : ∀ a k, csq a k = true → W a k = true) (ea0_o : a0 = 0) (h_o : Fw W g s) : gQ (f_134 a0 a1 s) (fun r => Fw W g r.2.2.2) := by
  subst ea0_o
  unfold f_134
  refine gQ_ite ?_ ?_
  · unfold fb_134_15
    exact gQ_ret (Fw_n h_o)
  · refine gQ_ite ?_ ?_
    · exact gQ_ret h_o
    · unfold fb_134_15
      exact gQ_ret (Fw_n h_o)

theorem o_135 {W : Nat → Nat → Bool} {g s : gS} {a0 : Nat} {a1 : Int} (hg_o : RF g) (hU_o : ∀ a k, csq a k = true → W a k = true) (ea0_o : a0 = 0) (h_o : Fw W g s) : gQ (f_135 a0 a1 s) (fun r => Fw W g r.2.2.2) := by
  subst ea0_o
  unfold f_135
  refine gQ_ite ?_ ?_
  · unfold fb_135_15
    exact gQ_ret (Fw_n h_o)
  · refine gQ_ite ?_ ?_
    · exact gQ_ret h_o
    · unfold fb_135_15
      exact gQ_ret (Fw_n h_o)

theorem o_136 {W : Nat → Nat → Bool} {g s : gS} {a0 : Nat} {a1 : Int} (hg_o : RF g) (hU_o : ∀ a k, csq a k = true → W a k = true) (ea0_o : a0 = 0) (h_o : Fw W g s) : gQ (f_136 a0 a1 s) (fun r => Fw W g r.2.2.2) := by
  subst ea0_o
  unfold f_136
  refine gQ_ite ?_ ?_
  · unfold fb_136_15
    exact gQ_ret (Fw_n h_o)
  · refine gQ_ite ?_ ?_
    · exact gQ_ret h_o
    · unfold fb_136_15
      exact gQ_ret (Fw_n h_o)

theorem o_137 {W : Nat → Nat → Bool} {g s : gS} {a0 : Nat} {a1 : Int} (hg_o : RF g) (hU_o : ∀ a k, csq a k = true → W a k = true) (ea0_o : a0 = 0) (h_o : Fw W g s) : gQ (f_137 a0 a1 s) (fun r => Fw W g r.2.2.2) := by
  subst ea0_o
  unfold f_137
  refine gQ_ite ?_ ?_
  · unfold fb_137_15
    exact gQ_ret (Fw_n h_o)
  · refine gQ_ite ?_ ?_
    · exact gQ_ret h_o
    · unfold fb_137_15
      exact gQ_ret (Fw_n h_o)

theorem o_138 {W : Nat → Nat → Bool} {g s : gS} {a0 : Nat} {a1 : Int} {a2 : Int} {a3 : Int} (hg_o : RF g) (hU_o : ∀ a k, csq a k = true → W a k = true) (ea0_o : a0 = 0) (h_o : Fw W g s) : gQ (f_138 a0 a1 a2 a3 s) (fun r => Fw W g r.2.2.2) := by
  subst ea0_o
  unfold f_138
  refine gQ_ite ?_ ?_
  · unfold fb_138_10
    exact gQ_ret (Fw_n h_o)
  · refine gQ_ite ?_ ?_
    · unfold fb_138_10
      exact gQ_ret (Fw_n h_o)
    · exact gQ_ret h_o

theorem o_139 {W : Nat → Nat → Bool} {g s : gS} {a0 : Nat} {a1 : Int} (hg_o : RF g) (hU_o : ∀ a k, csq a k = true → W a k = true) (ea0_o : a0 = 0) (h_o : Fw W g s) : gQ (f_139 a0 a1 s) (fun r => Fw W g r.2.2.2) := by
  subst ea0_o
  unfold f_139
  refine gQ_chk2 (fun ha351_o hb352_o => ?_)
  refine gQ_ite ?_ ?_
  · exact gQ_ret h_o
  · exact gQ_ret (Fw_n h_o)

theorem o_141 {W : Nat → Nat → Bool} {g s : gS} {a0 : Nat} {a1 : Int} {a2 : Int} {a3 : Int} (hg_o : RF g) (hU_o : ∀ a k, csq a k = true → W a k = true) (ea0_o : a0 = 0) (h_o : Fw W g s) : gQ (f_141 a0 a1 a2 a3 s) (fun r => Fw W g r.2.2.2) := by
  subst ea0_o
  unfold f_141
  dsimp only
  refine gQ_v0 (A := Fw W g) (o_23 hg_o hU_o (fr_r h_o rfl (rr_0_9 hg_o)) (fr_r h_o rfl (rr_0_5 hg_o)) h_o) (fun s1_l h353_o => ?_)
  refine gQ_loop (fun y_l => y_l.1 = 0 ∧ Fw W g (y_l.2.2.2.2)) (fun y_l hy_o => ?_) ⟨rfl, (Fw_w h353_o (fr_r h353_o rfl (rr_0_9 hg_o)) (hU_o 42 _ rfl))⟩
  obtain ⟨x354_o, x355_o, x356_o, x357_o, x358_o⟩ := y_l
  obtain ⟨e360_o, h359_o⟩ := hy_o
  dsimp only at e360_o h359_o
  subst e360_o
  show gQ (sb_141_22 0 x355_o x356_o x357_o x358_o) _
  unfold sb_141_22
  refine gQ_ite ?_ ?_
  · refine gQ_v1 (A := Fw W g) (o_27 hg_o hU_o (fr_r h359_o rfl (rr_0_9 hg_o)) (fr_r h359_o rfl (rr_0_4 hg_o)) (fr_r h359_o rfl (rr_0_1 hg_o)) h359_o) (fun v5 s4_l h361_o => ?_)
    exact gQ_ret ⟨rfl, h361_o⟩
  · refine gQ_map ?_
    exact gQ_ret h359_o

theorem o_144 {W : Nat → Nat → Bool} {g s : gS} {a0 : Nat} {a1 : Int} {a2 : Int} (hg_o : RF g) (hU_o : ∀ a k, csq a k = true → W a k = true) (ea0_o : a0 = 0) (h_o : Fw W g s) : gQ (f_144 a0 a1 a2 s) (fun r => Fw W g r.2.2.2) := by
  subst ea0_o
  unfold f_144
  refine gQ_loop (fun y_l => y_l.1 = 0 ∧ Fw W g (y_l.2.2.2.2)) (fun y_l hy_o => ?_) ⟨rfl, h_o⟩
  obtain ⟨x362_o, x363_o, x364_o, x365_o, x366_o⟩ := y_l
  obtain ⟨e368_o, h367_o⟩ := hy_o
  dsimp only at e368_o h367_o
  subst e368_o
  show gQ (sb_144_2 0 x363_o x364_o x365_o x366_o) _
  unfold sb_144_2
  refine gQ_ite ?_ ?_
  · refine gQ_chk2 (fun ha369_o hb370_o => ?_)
    refine gQ_v1 (A := Fw W g) (o_4 hg_o hU_o  h367_o) (fun v2 s1_l h371_o => ?_)
    refine gQ_chk2 (fun ha372_o hb373_o => ?_)
    refine gQ_ite ?_ ?_
    · unfold fb_144_46
      refine gQ_ite ?_ ?_
      · exact gQ_ret ⟨rfl, h371_o⟩
      · refine gQ_map ?_
        exact gQ_ret h371_o
    · unfold fb_144_46
      refine gQ_ite ?_ ?_
      · exact gQ_ret ⟨rfl, h371_o⟩
      · refine gQ_map ?_
        exact gQ_ret h371_o
  · refine gQ_map ?_
    exact gQ_ret h367_o

theorem o_145 {W : Nat → Nat → Bool} {g s : gS} {a0 : Nat} {a1 : Int} {a3 : Int} (hg_o : RF g) (hU_o : ∀ a k, csq a k = true → W a k = true) (ea0_o : a0 = 0) (h_o : Fw W g s) : gQ (f_145 a0 a1 a3 s) (fun r => Fw W g r.2.2.2) := by
  subst ea0_o
  unfold f_145
  refine gQ_loop (fun y_l => y_l.1 = 0 ∧ Fw W g (y_l.2.2.2.2.2)) (fun y_l hy_o => ?_) ⟨rfl, h_o⟩
  obtain ⟨x374_o, x375_o, x376_o, x377_o, x378_o, x379_o⟩ := y_l
  obtain ⟨e381_o, h380_o⟩ := hy_o
  dsimp only at e381_o h380_o
  subst e381_o
  show gQ (sb_145_6 0 x375_o x376_o x377_o x378_o x379_o) _
  unfold sb_145_6
  refine gQ_ite ?_ ?_
  · refine gQ_ite ?_ ?_
    · exact gQ_ret ⟨rfl, h380_o⟩
    · refine gQ_v1 (A := Fw W g) (o_4 hg_o hU_o  h380_o) (fun v2 s1_l h382_o => ?_)
      refine gQ_ite ?_ ?_
      · exact gQ_ret ⟨rfl, h382_o⟩
      · exact gQ_ret ⟨rfl, h382_o⟩
  · refine gQ_map ?_
    exact gQ_ret h380_o

theorem o_146 {W : Nat → Nat → Bool} {g s : gS} {a0 : Nat} {a1 : Int} {a2 : Int} {a3 : Int} {a4 : Int} (hg_o : RF g) (hU_o : ∀ a k, csq a k = true → W a k = true) (ea0_o : a0 = 0) (h_o : Fw W g s) : gQ (f_146 a0 a1 a2 a3 a4 s) (fun r => Fw W g r.2.2.2) := by
  subst ea0_o
  unfold f_146
  refine gQ_ite ?_ ?_
  · refine gQ_chk2 (fun ha383_o hb384_o => ?_)
    unfold fb_146_17
    refine gQ_ite ?_ ?_
    · refine gQ_ite ?_ ?_
      · unfold fb_146_38
        refine gQ_ite ?_ ?_
        · exact gQ_ret h_o
        · exact gQ_ret h_o
      · refine gQ_ite ?_ ?_
        · unfold fb_146_38
          refine gQ_ite ?_ ?_
          · exact gQ_ret h_o
          · exact gQ_ret h_o
        · unfold fb_146_37
          unfold fb_146_38
          refine gQ_ite ?_ ?_
          · exact gQ_ret h_o
          · exact gQ_ret h_o
    · unfold fb_146_37
      unfold fb_146_38
      refine gQ_ite ?_ ?_
      · exact gQ_ret h_o
      · exact gQ_ret h_o
  · unfold fb_146_17
    refine gQ_ite ?_ ?_
    · refine gQ_ite ?_ ?_
      · unfold fb_146_38
        refine gQ_ite ?_ ?_
        · exact gQ_ret h_o
        · exact gQ_ret h_o
      · refine gQ_ite ?_ ?_
        · unfold fb_146_38
          refine gQ_ite ?_ ?_
          · exact gQ_ret h_o
          · exact gQ_ret h_o
        · unfold fb_146_37
          unfold fb_146_38
          refine gQ_ite ?_ ?_
          · exact gQ_ret h_o
          · exact gQ_ret h_o
    · unfold fb_146_37
      unfold fb_146_38
      refine gQ_ite ?_ ?_
      · exact gQ_ret h_o
      · exact gQ_ret h_o

theorem o_148 {W : Nat → Nat → Bool} {g s : gS} {a0 : Nat} {a1 : Int} {a2 : Int} (hg_o : RF g) (hU_o : ∀ a k, csq a k = true → W a k = true) (ea0_o : a0 = 0) (h_o : Fw W g s) : gQ (f_148 a0 a1 a2 s) (fun r => Fw W g r.2.2.2) := by
  subst ea0_o
  unfold f_148
  refine gQ_loop (fun y_l => y_l.1 = 0 ∧ Fw W g (y_l.2.2.2.2.2)) (fun y_l hy_o => ?_) ⟨rfl, h_o⟩
  obtain ⟨x385_o, x386_o, x387_o, x388_o, x389_o, x390_o⟩ := y_l
  obtain ⟨e392_o, h391_o⟩ := hy_o
  dsimp only at e392_o h391_o
  subst e392_o
  show gQ (sb_148_5 0 x386_o x387_o x388_o x389_o x390_o) _
  unfold sb_148_5
  dsimp only
  refine gQ_ite ?_ ?_
  · refine gQ_ite ?_ ?_
    · exact gQ_none
    · exact gQ_ret ⟨rfl, h391_o⟩
  · refine gQ_map ?_
    refine gQ_loop (fun y_l => y_l.1 = 0 ∧ Fw W g (y_l.2.2.2.2.2)) (fun y_l hy_o => ?_) ⟨rfl, h391_o⟩
    obtain ⟨x393_o, x394_o, x395_o, x396_o, x397_o, x398_o⟩ := y_l
    obtain ⟨e400_o, h399_o⟩ := hy_o
    dsimp only at e400_o h399_o
    subst e400_o
    show gQ (sb_148_34 0 x394_o x395_o x396_o x397_o x398_o) _
    unfold sb_148_34
    dsimp only
    refine gQ_ite ?_ ?_
    · refine gQ_ite ?_ ?_
      · exact gQ_ret ⟨rfl, h399_o⟩
      · exact gQ_ret ⟨rfl, h399_o⟩
    · refine gQ_map ?_
      exact gQ_ret h399_o

theorem o_143 {W : Nat → Nat → Bool} {g s : gS} {a0 : Nat} {a1 : Int} (hg_o : RF g) (hU_o : ∀ a k, csq a k = true → W a k = true) (ea0_o : a0 = 0) (h_o : Fw W g s) : gQ (f_143 a0 a1 s) (fun r => Fw W g r.2.2.2) := by
  subst ea0_o
  unfold f_143
  refine gQ_ite ?_ ?_
  · exact gQ_ret h_o
  · refine gQ_ite ?_ ?_
    · refine gQ_loop (fun y_l => y_l.1 = 0 ∧ Fw W g (y_l.2.2.2)) (fun y_l hy_o => ?_) ⟨rfl, h_o⟩
      obtain ⟨x401_o, x402_o, x403_o, x404_o⟩ := y_l
      obtain ⟨e406_o, h405_o⟩ := hy_o
      dsimp only at e406_o h405_o
      subst e406_o
      show gQ (sb_143_16 0 x402_o x403_o x404_o) _
      unfold sb_143_16
      refine gQ_ite ?_ ?_
      · refine gQ_chk2 (fun ha407_o hb408_o => ?_)
        refine gQ_ite ?_ ?_
        · refine gQ_chk2 (fun ha409_o hb410_o => ?_)
          refine gQ_ite ?_ ?_
          · refine gQ_map ?_
            exact gQ_ret h405_o
          · exact gQ_ret ⟨rfl, h405_o⟩
        · refine gQ_map ?_
          exact gQ_ret h405_o
      · refine gQ_map ?_
        exact gQ_ret h405_o
    · exact gQ_ret h_o

theorem o_147 {W : Nat → Nat → Bool} {g s : gS} {a0 : Int} {a1 : Int} {a2 : Int} {a3 : Int} (hg_o : RF g) (hU_o : ∀ a k, csq a k = true → W a k = true)  (h_o : Fw W g s) : gQ (f_147 a0 a1 a2 a3 s) (fun r => Fw W g r.2.2.2) := by
  unfold f_147
  refine gQ_ite ?_ ?_
  · exact gQ_ret h_o
  · refine gQ_ite ?_ ?_
    · refine gQ_ite ?_ ?_
      · unfold fb_147_21
        exact gQ_ret h_o
      · exact gQ_ret h_o
    · unfold fb_147_21
      exact gQ_ret h_o

theorem o_142 {W : Nat → Nat → Bool} {g s : gS} {a0 : Nat} (hg_o : RF g) (hU_o : ∀ a k, csq a k = true → W a k = true) (ea0_o : a0 = 0) (h_o : Fw W g s) : gQ (f_142 a0 s) (fun r => Fw W g r.2.2.2) := by
  subst ea0_o
  unfold f_142
  dsimp only
  refine gQ_v1 (A := Fw W g) (o_143 hg_o hU_o rfl (Fw_w h_o (fr_r h_o rfl (rr_0_0 hg_o)) (hU_o 1 _ rfl))) (fun v4_l s3_l h411_o => ?_)
  refine gQ_ite ?_ ?_
  · exact gQ_ret (Fw_n h411_o)
  · refine gQ_loop (fun y_l => y_l.1 = 0 ∧ Fw W g (y_l.2.2.2.2)) (fun y_l hy_o => ?_) ⟨rfl, h411_o⟩
    obtain ⟨x412_o, x413_o, x414_o, x415_o, x416_o⟩ := y_l
    obtain ⟨e418_o, h417_o⟩ := hy_o
    dsimp only at e418_o h417_o
    subst e418_o
    show gQ (sb_142_40 0 x413_o x414_o x415_o x416_o) _
    unfold sb_142_40
    dsimp only
    refine gQ_ite ?_ ?_
    · refine gQ_v1 (A := Fw W g) (o_144 hg_o hU_o rfl h417_o) (fun v7 s6_l h419_o => ?_)
      refine gQ_ite ?_ ?_
      · exact gQ_ret ⟨rfl, h419_o⟩
      · exact gQ_ret ⟨rfl, h419_o⟩
    · refine gQ_map ?_
      exact gQ_ret h417_o

theorem o_56 {W : Nat → Nat → Bool} {g s : gS} {a0 : Nat} {a1 : Int} {a2 : Int} (hg_o : RF g) (hU_o : ∀ a k, csq a k = true → W a k = true)  (h_o : Fw W g s) : gQ (f_56 a0 a1 a2 s) (fun r => Fw W g r.2.2.2) := by
  unfold f_56
  refine gQ_ite ?_ ?_
  · exact gQ_ret h_o
  · refine gQ_ite ?_ ?_
    · refine gQ_ite ?_ ?_
      · exact gQ_ret h_o
      · refine gQ_ite ?_ ?_
        · refine gQ_chk2 (fun ha420_o hb421_o => ?_)
          exact gQ_ret h_o
        · exact gQ_ret h_o
    · exact gQ_ret h_o

theorem o_57 {W : Nat → Nat → Bool} {g s : gS} {a0 : Nat} {a1 : Int} {a2 : Int} (hg_o : RF g) (hU_o : ∀ a k, csq a k = true → W a k = true)  (h_o : Fw W g s) : gQ (f_57 a0 a1 a2 s) (fun r => Fw W g r.2.2.2) := by
  unfold f_57
  refine gQ_loop (fun y_l => Fw W g (y_l.2.2.2.2.2)) (fun y_l hy_o => ?_) h_o
  obtain ⟨x422_o, x423_o, x424_o, x425_o, x426_o, x427_o⟩ := y_l
  have h428_o := hy_o
  dsimp only at h428_o
  show gQ (sb_57_5 x422_o x423_o x424_o x425_o x426_o x427_o) _
  unfold sb_57_5
  refine gQ_ite ?_ ?_
  · refine gQ_chk2 (fun ha429_o hb430_o => ?_)
    refine gQ_ite ?_ ?_
    · unfold fb_57_34
      refine gQ_ite ?_ ?_
      · exact gQ_ret h428_o
      · refine gQ_ite ?_ ?_
        · unfold fb_57_60
          exact gQ_ret h428_o
        · refine gQ_chk2 (fun ha431_o hb432_o => ?_)
          refine gQ_ite ?_ ?_
          · unfold fb_57_60
            exact gQ_ret h428_o
          · exact gQ_ret h428_o
    · unfold fb_57_34
      refine gQ_ite ?_ ?_
      · exact gQ_ret h428_o
      · refine gQ_ite ?_ ?_
        · unfold fb_57_60
          exact gQ_ret h428_o
        · refine gQ_chk2 (fun ha433_o hb434_o => ?_)
          refine gQ_ite ?_ ?_
          · unfold fb_57_60
            exact gQ_ret h428_o
          · exact gQ_ret h428_o
  · refine gQ_map ?_
    exact gQ_ret h428_o

theorem o_55 {W : Nat → Nat → Bool} {g s : gS} {a0 : Nat} {a1 : Int} {a2 : Int} {a3 : Int} {a4 : Int} (hg_o : RF g) (hU_o : ∀ a k, csd a k = true → W a k = true) (ea0_o : a0 = 19) (h_o : Fw W g s) : gQ (f_55 a0 a1 a2 a3 a4 s) (fun r => Fw W g r.2.2.2) := by
  subst ea0_o
  unfold f_55
  dsimp only
  refine gQ_ite ?_ ?_
  · unfold fb_55_31
    dsimp only
    refine gQ_chk2 (fun ha435_o hb436_o => ?_)
    refine gQ_chk2 (fun ha437_o hb438_o => ?_)
    refine gQ_chk2 (fun ha439_o hb440_o => ?_)
    refine gQ_chk2 (fun ha441_o hb442_o => ?_)
    exact gQ_ret (Fw_w (Fw_w (Fw_w (Fw_w (Fw_w h_o (fr_r h_o rfl (rr_19_0 hg_o)) (hU_o 20 _ rfl)) (fr_r (Fw_w h_o (fr_r h_o rfl (rr_19_0 hg_o)) (hU_o 20 _ rfl)) rfl (rr_19_0 hg_o)) (hU_o 20 _ rfl)) (fr_r (Fw_w (Fw_w h_o (fr_r h_o rfl (rr_19_0 hg_o)) (hU_o 20 _ rfl)) (fr_r (Fw_w h_o (fr_r h_o rfl (rr_19_0 hg_o)) (hU_o 20 _ rfl)) rfl (rr_19_0 hg_o)) (hU_o 20 _ rfl)) rfl (rr_19_0 hg_o)) (hU_o 20 _ rfl)) (fr_r (Fw_w (Fw_w (Fw_w h_o (fr_r h_o rfl (rr_19_0 hg_o)) (hU_o 20 _ rfl)) (fr_r (Fw_w h_o (fr_r h_o rfl (rr_19_0 hg_o)) (hU_o 20 _ rfl)) rfl (rr_19_0 hg_o)) (hU_o 20 _ rfl)) (fr_r (Fw_w (Fw_w h_o (fr_r h_o rfl (rr_19_0 hg_o)) (hU_o 20 _ rfl)) (fr_r (Fw_w h_o (fr_r h_o rfl (rr_19_0 hg_o)) (hU_o 20 _ rfl)) rfl (rr_19_0 hg_o)) (hU_o 20 _ rfl)) rfl (rr_19_0 hg_o)) (hU_o 20 _ rfl)) rfl (rr_19_0 hg_o)) (hU_o 20 _ rfl)) rfl (hU_o 19 _ rfl))
  · unfold fb_55_31
    dsimp only
    refine gQ_chk2 (fun ha443_o hb444_o => ?_)
    refine gQ_chk2 (fun ha445_o hb446_o => ?_)
    refine gQ_chk2 (fun ha447_o hb448_o => ?_)
    refine gQ_chk2 (fun ha449_o hb450_o => ?_)
    exact gQ_ret (Fw_w (Fw_w (Fw_w (Fw_w (Fw_w (Fw_w (Fw_c h_o (fr_r h_o rfl (rr_19_0 hg_o)) (fun k_o => hU_o 20 k_o rfl)) rfl (hU_o 19 _ rfl)) (fr_r (Fw_w (Fw_c h_o (fr_r h_o rfl (rr_19_0 hg_o)) (fun k_o => hU_o 20 k_o rfl)) rfl (hU_o 19 _ rfl)) rfl (rr_19_0 hg_o)) (hU_o 20 _ rfl)) (fr_r (Fw_w (Fw_w (Fw_c h_o (fr_r h_o rfl (rr_19_0 hg_o)) (fun k_o => hU_o 20 k_o rfl)) rfl (hU_o 19 _ rfl)) (fr_r (Fw_w (Fw_c h_o (fr_r h_o rfl (rr_19_0 hg_o)) (fun k_o => hU_o 20 k_o rfl)) rfl (hU_o 19 _ rfl)) rfl (rr_19_0 hg_o)) (hU_o 20 _ rfl)) rfl (rr_19_0 hg_o)) (hU_o 20 _ rfl)) (fr_r (Fw_w (Fw_w (Fw_w (Fw_c h_o (fr_r h_o rfl (rr_19_0 hg_o)) (fun k_o => hU_o 20 k_o rfl)) rfl (hU_o 19 _ rfl)) (fr_r (Fw_w (Fw_c h_o (fr_r h_o rfl (rr_19_0 hg_o)) (fun k_o => hU_o 20 k_o rfl)) rfl (hU_o 19 _ rfl)) rfl (rr_19_0 hg_o)) (hU_o 20 _ rfl)) (fr_r (Fw_w (Fw_w (Fw_c h_o (fr_r h_o rfl (rr_19_0 hg_o)) (fun k_o => hU_o 20 k_o rfl)) rfl (hU_o 19 _ rfl)) (fr_r (Fw_w (Fw_c h_o (fr_r h_o rfl (rr_19_0 hg_o)) (fun k_o => hU_o 20 k_o rfl)) rfl (hU_o 19 _ rfl)) rfl (rr_19_0 hg_o)) (hU_o 20 _ rfl)) rfl (rr_19_0 hg_o)) (hU_o 20 _ rfl)) rfl (rr_19_0 hg_o)) (hU_o 20 _ rfl)) (fr_r (Fw_w (Fw_w (Fw_w (Fw_w (Fw_c h_o (fr_r h_o rfl (rr_19_0 hg_o)) (fun k_o => hU_o 20 k_o rfl)) rfl (hU_o 19 _ rfl)) (fr_r (Fw_w (Fw_c h_o (fr_r h_o rfl (rr_19_0 hg_o)) (fun k_o => hU_o 20 k_o rfl)) rfl (hU_o 19 _ rfl)) rfl (rr_19_0 hg_o)) (hU_o 20 _ rfl)) (fr_r (Fw_w (Fw_w (Fw_c h_o (fr_r h_o rfl (rr_19_0 hg_o)) (fun k_o => hU_o 20 k_o rfl)) rfl (hU_o 19 _ rfl)) (fr_r (Fw_w (Fw_c h_o (fr_r h_o rfl (rr_19_0 hg_o)) (fun k_o => hU_o 20 k_o rfl)) rfl (hU_o 19 _ rfl)) rfl (rr_19_0 hg_o)) (hU_o 20 _ rfl)) rfl (rr_19_0 hg_o)) (hU_o 20 _ rfl)) (fr_r (Fw_w (Fw_w (Fw_w (Fw_c h_o (fr_r h_o rfl (rr_19_0 hg_o)) (fun k_o => hU_o 20 k_o rfl)) rfl (hU_o 19 _ rfl)) (fr_r (Fw_w (Fw_c h_o (fr_r h_o rfl (rr_19_0 hg_o)) (fun k_o => hU_o 20 k_o rfl)) rfl (hU_o 19 _ rfl)) rfl (rr_19_0 hg_o)) (hU_o 20 _ rfl)) (fr_r (Fw_w (Fw_w (Fw_c h_o (fr_r h_o rfl (rr_19_0 hg_o)) (fun k_o => hU_o 20 k_o rfl)) rfl (hU_o 19 _ rfl)) (fr_r (Fw_w (Fw_c h_o (fr_r h_o rfl (rr_19_0 hg_o)) (fun k_o => hU_o 20 k_o rfl)) rfl (hU_o 19 _ rfl)) rfl (rr_19_0 hg_o)) (hU_o 20 _ rfl)) rfl (rr_19_0 hg_o)) (hU_o 20 _ rfl)) rfl (rr_19_0 hg_o)) (hU_o 20 _ rfl)) rfl (rr_19_0 hg_o)) (hU_o 20 _ rfl)) rfl (hU_o 19 _ rfl))

theorem o_91 {W : Nat → Nat → Bool} {g s : gS} {a0 : Nat} (hg_o : RF g) (hU_o : ∀ a k, csq a k = true → W a k = true) (ea0_o : a0 = 0) (h_o : Fw W g s) : gQ (f_91 a0 s) (fun r => Fw W g r.2.2.2) := by
  subst ea0_o
  unfold f_91
  exact gQ_ret h_o

theorem o_92 {W : Nat → Nat → Bool} {g s : gS} {a0 : Nat} {a1 : Int} {a2 : Int} (hg_o : RF g) (hU_o : ∀ a k, csq a k = true → W a k = true) (ea0_o : a0 = 0) (h_o : Fw W g s) : gQ (f_92 a0 a1 a2 s) (fun r => Fw W g r.2.2.2) := by
  subst ea0_o
  unfold f_92
  refine gQ_t0 (A := Fw W g) (o_134 hg_o hU_o rfl h_o) (fun s1_l h451_o => ?_) (fun _ _ hz_o => hz_o)
  refine gQ_ite ?_ ?_
  · exact gQ_ret (Fw_n h451_o)
  · refine gQ_ite ?_ ?_
    · refine gQ_chk2 (fun ha452_o hb453_o => ?_)
      exact gQ_ret h451_o
    · refine gQ_ite ?_ ?_
      · refine gQ_chk2 (fun ha454_o hb455_o => ?_)
        exact gQ_ret h451_o
      · refine gQ_ite ?_ ?_
        · refine gQ_chk2 (fun ha456_o hb457_o => ?_)
          exact gQ_ret h451_o
        · refine gQ_ite ?_ ?_
          · refine gQ_v1 (A := Fw W g) (o_31 hg_o hU_o  h451_o) (fun v4_l s3_l h458_o => ?_)
            exact gQ_ret h458_o
          · exact gQ_ret (Fw_n h451_o)

theorem o_93 {W : Nat → Nat → Bool} {g s : gS} {a0 : Nat} {a1 : Int} {a2 : Int} (hg_o : RF g) (hU_o : ∀ a k, csq a k = true → W a k = true) (ea0_o : a0 = 0) (h_o : Fw W g s) : gQ (f_93 a0 a1 a2 s) (fun r => Fw W g r.2.2.2) := by
  subst ea0_o
  unfold f_93
  dsimp only
  refine gQ_t0 (A := Fw W g) (o_135 hg_o hU_o rfl h_o) (fun s1_l h459_o => ?_) (fun _ _ hz_o => hz_o)
  refine gQ_chk2 (fun ha460_o hb461_o => ?_)
  refine gQ_ite ?_ ?_
  · exact gQ_ret (Fw_n h459_o)
  · refine gQ_ite ?_ ?_
    · exact gQ_ret h459_o
    · refine gQ_ite ?_ ?_
      · exact gQ_ret h459_o
      · refine gQ_ite ?_ ?_
        · exact gQ_ret h459_o
        · refine gQ_ite ?_ ?_
          · exact gQ_ret h459_o
          · refine gQ_ite ?_ ?_
            · exact gQ_ret h459_o
            · refine gQ_ite ?_ ?_
              · exact gQ_ret h459_o
              · refine gQ_ite ?_ ?_
                · refine gQ_v1 (A := Fw W g) (o_34 hg_o hU_o (fr_r h459_o rfl (rr_0_1 hg_o)) h459_o) (fun v5 s4_l h462_o => ?_)
                  exact gQ_ret h462_o
                · refine gQ_ite ?_ ?_
                  · refine gQ_v1 (A := Fw W g) (o_7 hg_o hU_o  h459_o) (fun v7 s6_l h463_o => ?_)
                    exact gQ_ret h463_o
                  · refine gQ_ite ?_ ?_
                    · refine gQ_v1 (A := Fw W g) (o_8 hg_o hU_o  h459_o) (fun v9 s8 h464_o => ?_)
                      exact gQ_ret h464_o
                    · refine gQ_ite ?_ ?_
                      · refine gQ_v1 (A := Fw W g) (o_9 hg_o hU_o  h459_o) (fun v11 s10 h465_o => ?_)
                        refine gQ_v1 (A := Fw W g) (o_7 hg_o hU_o  h465_o) (fun v13 s12 h466_o => ?_)
                        exact gQ_ret h466_o
                      · exact gQ_ret (Fw_n h459_o)

theorem o_94 {W : Nat → Nat → Bool} {g s : gS} {a0 : Nat} {a1 : Int} {a2 : Int} (hg_o : RF g) (hU_o : ∀ a k, csq a k = true → W a k = true) (ea0_o : a0 = 0) (h_o : Fw W g s) : gQ (f_94 a0 a1 a2 s) (fun r => Fw W g r.2.2.2) := by
  subst ea0_o
  unfold f_94
  refine gQ_t0 (A := Fw W g) (o_136 hg_o hU_o rfl h_o) (fun s1_l h467_o => ?_) (fun _ _ hz_o => hz_o)
  refine gQ_ite ?_ ?_
  · refine gQ_chk2 (fun ha468_o hb469_o => ?_)
    exact gQ_ret h467_o
  · refine gQ_chk2 (fun ha470_o hb471_o => ?_)
    exact gQ_ret h467_o

theorem o_95 {W : Nat → Nat → Bool} {g s : gS} {a0 : Nat} {a1 : Int} {a2 : Int} (hg_o : RF g) (hU_o : ∀ a k, csq a k = true → W a k = true) (ea0_o : a0 = 0) (h_o : Fw W g s) : gQ (f_95 a0 a1 a2 s) (fun r => Fw W g r.2.2.2) := by
  subst ea0_o
  unfold f_95
  refine gQ_t0 (A := Fw W g) (o_137 hg_o hU_o rfl h_o) (fun s1_l h472_o => ?_) (fun _ _ hz_o => hz_o)
  refine gQ_ite ?_ ?_
  · refine gQ_chk2 (fun ha473_o hb474_o => ?_)
    exact gQ_ret h472_o
  · refine gQ_chk2 (fun ha475_o hb476_o => ?_)
    exact gQ_ret h472_o

theorem o_103 {W : Nat → Nat → Bool} {g s : gS} {a0 : Nat} {a1 : Int} {a2 : Int} {a3 : Int} (hg_o : RF g) (hU_o : ∀ a k, csq a k = true → W a k = true) (ea0_o : a0 = 0) (h_o : Fw W g s) : gQ (f_103 a0 a1 a2 a3 s) (fun r => Fw W g r.2.2.2) := by
  subst ea0_o
  unfold f_103
  dsimp only
  refine gQ_t0 (A := Fw W g) (o_135 hg_o hU_o rfl h_o) (fun s1_l h477_o => ?_) (fun _ _ hz_o => hz_o)
  refine gQ_t0 (A := Fw W g) (o_138 hg_o hU_o rfl h477_o) (fun s3_l h478_o => ?_) (fun _ _ hz_o => hz_o)
  refine gQ_ite ?_ ?_
  · unfold fb_103_23
    exact gQ_ret (Fw_n h478_o)
  · refine gQ_ite ?_ ?_
    · unfold fb_103_23
      exact gQ_ret (Fw_n h478_o)
    · refine gQ_v0 (A := Fw W g) (o_141 hg_o hU_o rfl h478_o) (fun s5 h479_o => ?_)
      refine gQ_chk2 (fun ha480_o hb481_o => ?_)
      refine gQ_ite ?_ ?_
      · exact gQ_ret h479_o
      · refine gQ_ite ?_ ?_
        · exact gQ_ret h479_o
        · refine gQ_ite ?_ ?_
          · exact gQ_ret h479_o
          · refine gQ_ite ?_ ?_
            · exact gQ_ret h479_o
            · exact gQ_ret h479_o

theorem o_104 {W : Nat → Nat → Bool} {g s : gS} {a0 : Nat} {a1 : Int} (hg_o : RF g) (hU_o : ∀ a k, csq a k = true → W a k = true) (ea0_o : a0 = 0) (h_o : Fw W g s) : gQ (f_104 a0 a1 s) (fun r => Fw W g r.2.2.2) := by
  subst ea0_o
  unfold f_104
  refine gQ_t0 (A := Fw W g) (o_138 hg_o hU_o rfl h_o) (fun s1_l h482_o => ?_) (fun _ _ hz_o => hz_o)
  refine gQ_v0 (A := Fw W g) (o_141 hg_o hU_o rfl h482_o) (fun s3_l h483_o => ?_)
  exact gQ_ret h483_o

theorem o_105 {W : Nat → Nat → Bool} {g s : gS} {a0 : Nat} {a1 : Int} (hg_o : RF g) (hU_o : ∀ a k, csq a k = true → W a k = true) (ea0_o : a0 = 0) (h_o : Fw W g s) : gQ (f_105 a0 a1 s) (fun r => Fw W g r.2.2.2) := by
  subst ea0_o
  unfold f_105
  refine gQ_t0 (A := Fw W g) (o_138 hg_o hU_o rfl h_o) (fun s1_l h484_o => ?_) (fun _ _ hz_o => hz_o)
  refine gQ_v0 (A := Fw W g) (o_141 hg_o hU_o rfl h484_o) (fun s3_l h485_o => ?_)
  exact gQ_ret h485_o

theorem o_106 {W : Nat → Nat → Bool} {g s : gS} {a0 : Nat} {a1 : Int} (hg_o : RF g) (hU_o : ∀ a k, csq a k = true → W a k = true) (ea0_o : a0 = 0) (h_o : Fw W g s) : gQ (f_106 a0 a1 s) (fun r => Fw W g r.2.2.2) := by
  subst ea0_o
  unfold f_106
  dsimp only
  refine gQ_t0 (A := Fw W g) (o_135 hg_o hU_o rfl h_o) (fun s1_l h486_o => ?_) (fun _ _ hz_o => hz_o)
  refine gQ_v0 (A := Fw W g) (o_23 hg_o hU_o (fr_r h486_o rfl (rr_0_9 hg_o)) (fr_r h486_o rfl (rr_0_5 hg_o)) h486_o) (fun s3_l h487_o => ?_)
  refine gQ_chk2 (fun ha488_o hb489_o => ?_)
  refine gQ_loop (fun y_l => y_l.1 = 0 ∧ Wa W (y_l.2.1) ∧ Fw W g (y_l.2.2.2)) (fun y_l hy_o => ?_) ⟨rfl, (fr_m43 h487_o hg_o hU_o (fr_r h487_o (fr_r h487_o rfl (rr_0_9 hg_o)) (rr_42_0 hg_o)) ha488_o hb489_o), h487_o⟩
  obtain ⟨x490_o, x491_o, x492_o, x493_o⟩ := y_l
  obtain ⟨e495_o, e496_o, h494_o⟩ := hy_o
  dsimp only at e495_o e496_o h494_o
  subst e495_o
  show gQ (sb_106_28 0 x491_o x492_o x493_o) _
  unfold sb_106_28
  refine gQ_ite ?_ ?_
  · refine gQ_map ?_
    exact gQ_ret h494_o
  · refine gQ_ite ?_ ?_
    · refine gQ_v1 (A := Fw W g) (o_27 hg_o hU_o (fr_r h494_o rfl (rr_0_9 hg_o)) (fr_r h494_o rfl (rr_0_4 hg_o)) (fr_r h494_o rfl (rr_0_1 hg_o)) h494_o) (fun v7 s6_l h497_o => ?_)
      refine gQ_ite ?_ ?_
      · refine gQ_map ?_
        exact gQ_ret h497_o
      · exact gQ_ret ⟨rfl, e496_o, h497_o⟩
    · refine gQ_map ?_
      exact gQ_ret h494_o

theorem o_107 {W : Nat → Nat → Bool} {g s : gS} {a0 : Nat} {a1 : Int} (hg_o : RF g) (hU_o : ∀ a k, csq a k = true → W a k = true) (ea0_o : a0 = 0) (h_o : Fw W g s) : gQ (f_107 a0 a1 s) (fun r => Fw W g r.2.2.2) := by
  subst ea0_o
  unfold f_107
  dsimp only
  refine gQ_t0 (A := Fw W g) (o_135 hg_o hU_o rfl h_o) (fun s1_l h498_o => ?_) (fun _ _ hz_o => hz_o)
  refine gQ_v0 (A := Fw W g) (o_23 hg_o hU_o (fr_r h498_o rfl (rr_0_9 hg_o)) (fr_r h498_o rfl (rr_0_5 hg_o)) h498_o) (fun s3_l h499_o => ?_)
  refine gQ_chk2 (fun ha500_o hb501_o => ?_)
  refine gQ_loop (fun y_l => y_l.1 = 0 ∧ Wa W (y_l.2.1) ∧ Fw W g (y_l.2.2.2)) (fun y_l hy_o => ?_) ⟨rfl, (fr_m43 h499_o hg_o hU_o (fr_r h499_o (fr_r h499_o rfl (rr_0_9 hg_o)) (rr_42_0 hg_o)) ha500_o hb501_o), h499_o⟩
  obtain ⟨x502_o, x503_o, x504_o, x505_o⟩ := y_l
  obtain ⟨e507_o, e508_o, h506_o⟩ := hy_o
  dsimp only at e507_o e508_o h506_o
  subst e507_o
  show gQ (sb_107_28 0 x503_o x504_o x505_o) _
  unfold sb_107_28
  refine gQ_ite ?_ ?_
  · refine gQ_map ?_
    exact gQ_ret h506_o
  · refine gQ_ite ?_ ?_
    · refine gQ_ite ?_ ?_
      · refine gQ_v1 (A := Fw W g) (o_27 hg_o hU_o (fr_r h506_o rfl (rr_0_9 hg_o)) (fr_r h506_o rfl (rr_0_4 hg_o)) (fr_r h506_o rfl (rr_0_1 hg_o)) h506_o) (fun v7 s6_l h509_o => ?_)
        exact gQ_ret ⟨rfl, e508_o, h509_o⟩
      · refine gQ_map ?_
        exact gQ_ret h506_o
    · refine gQ_map ?_
      exact gQ_ret h506_o

theorem o_108 {W : Nat → Nat → Bool} {g s : gS} {a0 : Nat} {a1 : Int} {a2 : Int} (hg_o : RF g) (hU_o : ∀ a k, csq a k = true → W a k = true) (ea0_o : a0 = 0) (h_o : Fw W g s) : gQ (f_108 a0 a1 a2 s) (fun r => Fw W g r.2.2.2) := by
  subst ea0_o
  unfold f_108
  dsimp only
  refine gQ_t0 (A := Fw W g) (o_135 hg_o hU_o rfl h_o) (fun s1_l h510_o => ?_) (fun _ _ hz_o => hz_o)
  refine gQ_t0 (A := Fw W g) (o_138 hg_o hU_o rfl h510_o) (fun s3_l h511_o => ?_) (fun _ _ hz_o => hz_o)
  refine gQ_chk2 (fun ha512_o hb513_o => ?_)
  refine gQ_ite ?_ ?_
  · refine gQ_v0 (A := Fw W g) (o_23 hg_o hU_o (fr_r h511_o rfl (rr_0_9 hg_o)) (fr_r h511_o rfl (rr_0_5 hg_o)) h511_o) (fun s6_l h514_o => ?_)
    refine gQ_v0 (A := Fw W g) (o_68 hg_o hU_o (fr_r h514_o rfl (rr_0_6 hg_o)) (fr_r h514_o rfl (rr_0_9 hg_o)) h514_o) (fun s8 h515_o => ?_)
    refine gQ_ite ?_ ?_
    · refine gQ_v1 (A := Fw W g) (o_69 hg_o hU_o (fr_r h515_o rfl (rr_0_6 hg_o)) h515_o) (fun v11 s10 h516_o => ?_)
      exact gQ_ret h516_o
    · refine gQ_v1 (A := Fw W g) (o_74 hg_o hU_o (fr_r h515_o rfl (rr_0_6 hg_o)) h515_o) (fun v13 s12 h517_o => ?_)
      exact gQ_ret h517_o
  · exact gQ_ret h511_o

theorem o_109 {W : Nat → Nat → Bool} {g s : gS} {a0 : Nat} {a1 : Int} {a2 : Int} (hg_o : RF g) (hU_o : ∀ a k, csq a k = true → W a k = true) (ea0_o : a0 = 0) (h_o : Fw W g s) : gQ (f_109 a0 a1 a2 s) (fun r => Fw W g r.2.2.2) := by
  subst ea0_o
  unfold f_109
  dsimp only
  refine gQ_t0 (A := Fw W g) (o_135 hg_o hU_o rfl h_o) (fun s1_l h518_o => ?_) (fun _ _ hz_o => hz_o)
  refine gQ_t0 (A := Fw W g) (o_138 hg_o hU_o rfl h518_o) (fun s3_l h519_o => ?_) (fun _ _ hz_o => hz_o)
  refine gQ_chk2 (fun ha520_o hb521_o => ?_)
  refine gQ_ite ?_ ?_
  · refine gQ_loop (fun y_l => y_l.1 = 0 ∧ Fw W g (y_l.2.2.2.2.2)) (fun y_l hy_o => ?_) ⟨rfl, h519_o⟩
    obtain ⟨x522_o, x523_o, x524_o, x525_o, x526_o, x527_o⟩ := y_l
    obtain ⟨e529_o, h528_o⟩ := hy_o
    dsimp only at e529_o h528_o
    subst e529_o
    show gQ (sb_109_35 0 x523_o x524_o x525_o x526_o x527_o) _
    unfold sb_109_35
    dsimp only
    refine gQ_ite ?_ ?_
    · refine gQ_v0 (A := Fw W g) (o_23 hg_o hU_o (fr_r h528_o rfl (rr_0_9 hg_o)) (fr_r h528_o rfl (rr_0_5 hg_o)) h528_o) (fun s6_l h530_o => ?_)
      refine gQ_chk2 (fun ha531_o hb532_o => ?_)
      refine gQ_v0 (A := Fw W g) (o_68 hg_o hU_o (fr_r (Fw_wv h530_o ((fr_m43 h530_o hg_o hU_o (fr_r h530_o (fr_r h530_o rfl (rr_0_9 hg_o)) (rr_42_0 hg_o)) ha531_o hb532_o) _)) rfl (rr_0_6 hg_o)) (fr_r (Fw_wv h530_o ((fr_m43 h530_o hg_o hU_o (fr_r h530_o (fr_r h530_o rfl (rr_0_9 hg_o)) (rr_42_0 hg_o)) ha531_o hb532_o) _)) rfl (rr_0_9 hg_o)) (Fw_wv h530_o ((fr_m43 h530_o hg_o hU_o (fr_r h530_o (fr_r h530_o rfl (rr_0_9 hg_o)) (rr_42_0 hg_o)) ha531_o hb532_o) _))) (fun s9 h533_o => ?_)
      refine gQ_v1 (A := Fw W g) (o_69 hg_o hU_o (fr_r h533_o rfl (rr_0_6 hg_o)) h533_o) (fun v12 s11 h534_o => ?_)
      refine gQ_ite ?_ ?_
      · exact gQ_ret ⟨rfl, h534_o⟩
      · refine gQ_map ?_
        exact gQ_ret h534_o
    · refine gQ_map ?_
      exact gQ_ret h528_o
  · exact gQ_ret h519_o

theorem o_110 {W : Nat → Nat → Bool} {g s : gS} {a0 : Nat} {a1 : Int} {a2 : Int} (hg_o : RF g) (hU_o : ∀ a k, csq a k = true → W a k = true) (ea0_o : a0 = 0) (h_o : Fw W g s) : gQ (f_110 a0 a1 a2 s) (fun r => Fw W g r.2.2.2) := by
  subst ea0_o
  unfold f_110
  refine gQ_t0 (A := Fw W g) (o_135 hg_o hU_o rfl h_o) (fun s1_l h535_o => ?_) (fun _ _ hz_o => hz_o)
  refine gQ_chk2 (fun ha536_o hb537_o => ?_)
  refine gQ_v1 (A := Fw W g) (o_5 hg_o hU_o  h535_o) (fun v4_l s3_l h538_o => ?_)
  exact gQ_ret h538_o

theorem o_111 {W : Nat → Nat → Bool} {g s : gS} {a0 : Nat} {a1 : Int} (hg_o : RF g) (hU_o : ∀ a k, csq a k = true → W a k = true) (ea0_o : a0 = 0) (h_o : Fw W g s) : gQ (f_111 a0 a1 s) (fun r => Fw W g r.2.2.2) := by
  subst ea0_o
  unfold f_111
  refine gQ_t0 (A := Fw W g) (o_135 hg_o hU_o rfl h_o) (fun s1_l h539_o => ?_) (fun _ _ hz_o => hz_o)
  refine gQ_loop (fun y_l => y_l.1 = 0 ∧ Fw W g (y_l.2.2.2.2)) (fun y_l hy_o => ?_) ⟨rfl, h539_o⟩
  obtain ⟨x540_o, x541_o, x542_o, x543_o, x544_o⟩ := y_l
  obtain ⟨e546_o, h545_o⟩ := hy_o
  dsimp only at e546_o h545_o
  subst e546_o
  show gQ (sb_111_9 0 x541_o x542_o x543_o x544_o) _
  unfold sb_111_9
  refine gQ_ite ?_ ?_
  · refine gQ_chk2 (fun ha547_o hb548_o => ?_)
    refine gQ_v1 (A := Fw W g) (o_5 hg_o hU_o  h545_o) (fun v4_l s3_l h549_o => ?_)
    refine gQ_ite ?_ ?_
    · exact gQ_ret ⟨rfl, h549_o⟩
    · refine gQ_ite ?_ ?_
      · unfold fb_111_61
        exact gQ_ret ⟨rfl, h549_o⟩
      · refine gQ_v1 (A := Fw W g) (o_264 hg_o hU_o  h549_o) (fun v7 s6_l h550_o => ?_)
        refine gQ_v1 (A := Fw W g) (o_264 hg_o hU_o  h550_o) (fun v9 s8 h551_o => ?_)
        refine gQ_ite ?_ ?_
        · unfold fb_111_61
          exact gQ_ret ⟨rfl, h551_o⟩
        · exact gQ_ret ⟨rfl, h551_o⟩
  · refine gQ_map ?_
    exact gQ_ret h545_o

theorem o_112 {W : Nat → Nat → Bool} {g s : gS} {a0 : Nat} {a1 : Int} {a2 : Int} (hg_o : RF g) (hU_o : ∀ a k, csq a k = true → W a k = true) (ea0_o : a0 = 0) (h_o : Fw W g s) : gQ (f_112 a0 a1 a2 s) (fun r => Fw W g r.2.2.2) := by
  subst ea0_o
  unfold f_112
  refine gQ_t0 (A := Fw W g) (o_135 hg_o hU_o rfl h_o) (fun s1_l h552_o => ?_) (fun _ _ hz_o => hz_o)
  refine gQ_loop (fun y_l => y_l.1 = 0 ∧ Fw W g (y_l.2.2.2.2.2.2)) (fun y_l hy_o => ?_) ⟨rfl, h552_o⟩
  obtain ⟨x553_o, x554_o, x555_o, x556_o, x557_o, x558_o, x559_o⟩ := y_l
  obtain ⟨e561_o, h560_o⟩ := hy_o
  dsimp only at e561_o h560_o
  subst e561_o
  show gQ (sb_112_13 0 x554_o x555_o x556_o x557_o x558_o x559_o) _
  unfold sb_112_13
  refine gQ_ite ?_ ?_
  · refine gQ_chk2 (fun ha562_o hb563_o => ?_)
    refine gQ_v1 (A := Fw W g) (o_5 hg_o hU_o  h560_o) (fun v4_l s3_l h564_o => ?_)
    refine gQ_ite ?_ ?_
    · exact gQ_ret ⟨rfl, h564_o⟩
    · refine gQ_v1 (A := Fw W g) (o_6 hg_o hU_o  h564_o) (fun v7 s6_l h565_o => ?_)
      refine gQ_ite ?_ ?_
      · unfold fb_112_74
        exact gQ_ret ⟨rfl, h565_o⟩
      · refine gQ_ite ?_ ?_
        · unfold fb_112_74
          exact gQ_ret ⟨rfl, h565_o⟩
        · exact gQ_ret ⟨rfl, h565_o⟩
  · refine gQ_map ?_
    refine gQ_ite ?_ ?_
    · exact gQ_ret h560_o
    · exact gQ_ret h560_o

theorem o_113 {W : Nat → Nat → Bool} {g s : gS} {a0 : Nat} {a1 : Int} (hg_o : RF g) (hU_o : ∀ a k, csq a k = true → W a k = true) (ea0_o : a0 = 0) (h_o : Fw W g s) : gQ (f_113 a0 a1 s) (fun r => Fw W g r.2.2.2) := by
  subst ea0_o
  unfold f_113
  refine gQ_t0 (A := Fw W g) (o_135 hg_o hU_o rfl h_o) (fun s1_l h566_o => ?_) (fun _ _ hz_o => hz_o)
  refine gQ_loop (fun y_l => y_l.1 = 0 ∧ Fw W g (y_l.2.2.2.2)) (fun y_l hy_o => ?_) ⟨rfl, h566_o⟩
  obtain ⟨x567_o, x568_o, x569_o, x570_o, x571_o⟩ := y_l
  obtain ⟨e573_o, h572_o⟩ := hy_o
  dsimp only at e573_o h572_o
  subst e573_o
  show gQ (sb_113_9 0 x568_o x569_o x570_o x571_o) _
  unfold sb_113_9
  dsimp only
  refine gQ_ite ?_ ?_
  · refine gQ_chk2 (fun ha574_o hb575_o => ?_)
    refine gQ_v1 (A := Fw W g) (o_4 hg_o hU_o  h572_o) (fun v4_l s3_l h576_o => ?_)
    refine gQ_ite ?_ ?_
    · exact gQ_ret ⟨rfl, h576_o⟩
    · exact gQ_ret ⟨rfl, h576_o⟩
  · refine gQ_map ?_
    exact gQ_ret h572_o

theorem o_114 {W : Nat → Nat → Bool} {g s : gS} {a0 : Nat} {a1 : Int} (hg_o : RF g) (hU_o : ∀ a k, csq a k = true → W a k = true) (ea0_o : a0 = 0) (h_o : Fw W g s) : gQ (f_114 a0 a1 s) (fun r => Fw W g r.2.2.2) := by
  subst ea0_o
  unfold f_114
  refine gQ_t1 (A := Fw W g) (o_142 hg_o hU_o rfl h_o) (fun v2 s1_l h577_o => ?_) (fun _ _ hz_o => hz_o)
  refine gQ_ite ?_ ?_
  · refine gQ_v1 (A := Fw W g) (o_265 hg_o hU_o  h577_o) (fun v4_l s3_l h578_o => ?_)
    exact gQ_ret h578_o
  · refine gQ_ite ?_ ?_
    · exact gQ_ret h577_o
    · refine gQ_loop (fun y_l => Fw W g (y_l.2.2.2)) (fun y_l hy_o => ?_) h577_o
      obtain ⟨x579_o, x580_o, x581_o, x582_o⟩ := y_l
      have h583_o := hy_o
      dsimp only at h583_o
      show gQ (sb_114_29 x579_o x580_o x581_o x582_o) _
      unfold sb_114_29
      refine gQ_ite ?_ ?_
      · refine gQ_ite ?_ ?_
        · exact gQ_ret h583_o
        · exact gQ_ret h583_o
      · refine gQ_map ?_
        exact gQ_ret h583_o

theorem o_115 {W : Nat → Nat → Bool} {g s : gS} {a0 : Nat} (hg_o : RF g) (hU_o : ∀ a k, csq a k = true → W a k = true) (ea0_o : a0 = 0) (h_o : Fw W g s) : gQ (f_115 a0 s) (fun r => Fw W g r.2.2.2) := by
  subst ea0_o
  unfold f_115
  refine gQ_t1 (A := Fw W g) (o_142 hg_o hU_o rfl h_o) (fun v2 s1_l h584_o => ?_) (fun _ _ hz_o => hz_o)
  refine gQ_v1 (A := Fw W g) (o_265 hg_o hU_o  h584_o) (fun v4_l s3_l h585_o => ?_)
  refine gQ_loop (fun y_l => y_l.1 = 0 ∧ Fw W g (y_l.2.2.2.2.2.2)) (fun y_l hy_o => ?_) ⟨rfl, h585_o⟩
  obtain ⟨x586_o, x587_o, x588_o, x589_o, x590_o, x591_o, x592_o⟩ := y_l
  obtain ⟨e594_o, h593_o⟩ := hy_o
  dsimp only at e594_o h593_o
  subst e594_o
  show gQ (sb_115_19 0 x587_o x588_o x589_o x590_o x591_o x592_o) _
  unfold sb_115_19
  dsimp only
  refine gQ_ite ?_ ?_
  · refine gQ_ite ?_ ?_
    · refine gQ_map ?_
      exact gQ_ret h593_o
    · refine gQ_v1 (A := Fw W g) (o_145 hg_o hU_o rfl h593_o) (fun v6 s5 h595_o => ?_)
      refine gQ_ite ?_ ?_
      · unfold fb_115_69
        exact gQ_ret ⟨rfl, h595_o⟩
      · refine gQ_ite ?_ ?_
        · unfold fb_115_69
          exact gQ_ret ⟨rfl, h595_o⟩
        · exact gQ_ret ⟨rfl, h595_o⟩
  · refine gQ_map ?_
    exact gQ_ret h593_o

theorem o_116 {W : Nat → Nat → Bool} {g s : gS} {a0 : Nat} {a1 : Int} {a2 : Int} (hg_o : RF g) (hU_o : ∀ a k, csq a k = true → W a k = true) (ea0_o : a0 = 0) (h_o : Fw W g s) : gQ (f_116 a0 a1 a2 s) (fun r => Fw W g r.2.2.2) := by
  subst ea0_o
  unfold f_116
  dsimp only
  refine gQ_t0 (A := Fw W g) (o_135 hg_o hU_o rfl h_o) (fun s1_l h596_o => ?_) (fun _ _ hz_o => hz_o)
  refine gQ_t0 (A := Fw W g) (o_136 hg_o hU_o rfl h596_o) (fun s3_l h597_o => ?_) (fun _ _ hz_o => hz_o)
  refine gQ_chk2 (fun ha598_o hb599_o => ?_)
  refine gQ_v1 (A := Fw W g) (o_4 hg_o hU_o  h597_o) (fun v7 s6_l h600_o => ?_)
  refine gQ_loop (fun y_l => y_l.1 = 0 ∧ Fw W g (y_l.2.2.2.2.2.2)) (fun y_l hy_o => ?_) ⟨rfl, h600_o⟩
  obtain ⟨x601_o, x602_o, x603_o, x604_o, x605_o, x606_o, x607_o⟩ := y_l
  obtain ⟨e609_o, h608_o⟩ := hy_o
  dsimp only at e609_o h608_o
  subst e609_o
  show gQ (sb_116_40 0 x602_o x603_o x604_o x605_o x606_o x607_o) _
  unfold sb_116_40
  refine gQ_ite ?_ ?_
  · refine gQ_v1 (A := Fw W g) (o_146 hg_o hU_o rfl h608_o) (fun v10 s9 h610_o => ?_)
    refine gQ_v1 (A := Fw W g) (o_146 hg_o hU_o rfl h610_o) (fun v12 s11 h611_o => ?_)
    refine gQ_ite ?_ ?_
    · unfold fb_116_90
      refine gQ_v1 (A := Fw W g) (o_147 hg_o hU_o  h611_o) (fun v14 s13 h612_o => ?_)
      refine gQ_v1 (A := Fw W g) (o_147 hg_o hU_o  h612_o) (fun v16 s15 h613_o => ?_)
      refine gQ_ite ?_ ?_
      · unfold fb_116_128
        dsimp only
        refine gQ_ite ?_ ?_
        · exact gQ_ret ⟨rfl, h613_o⟩
        · refine gQ_ite ?_ ?_
          · exact gQ_ret ⟨rfl, h613_o⟩
          · exact gQ_ret ⟨rfl, h613_o⟩
      · unfold fb_116_128
        dsimp only
        refine gQ_ite ?_ ?_
        · exact gQ_ret ⟨rfl, h613_o⟩
        · refine gQ_ite ?_ ?_
          · exact gQ_ret ⟨rfl, h613_o⟩
          · exact gQ_ret ⟨rfl, h613_o⟩
    · unfold fb_116_90
      refine gQ_v1 (A := Fw W g) (o_147 hg_o hU_o  h611_o) (fun v14 s13 h614_o => ?_)
      refine gQ_v1 (A := Fw W g) (o_147 hg_o hU_o  h614_o) (fun v16 s15 h615_o => ?_)
      refine gQ_ite ?_ ?_
      · unfold fb_116_128
        dsimp only
        refine gQ_ite ?_ ?_
        · exact gQ_ret ⟨rfl, h615_o⟩
        · refine gQ_ite ?_ ?_
          · exact gQ_ret ⟨rfl, h615_o⟩
          · exact gQ_ret ⟨rfl, h615_o⟩
      · unfold fb_116_128
        dsimp only
        refine gQ_ite ?_ ?_
        · exact gQ_ret ⟨rfl, h615_o⟩
        · refine gQ_ite ?_ ?_
          · exact gQ_ret ⟨rfl, h615_o⟩
          · exact gQ_ret ⟨rfl, h615_o⟩
  · refine gQ_map ?_
    exact gQ_ret h608_o

theorem o_117 {W : Nat → Nat → Bool} {g s : gS} {a0 : Nat} {a1 : Int} {a2 : Int} (hg_o : RF g) (hU_o : ∀ a k, csq a k = true → W a k = true) (ea0_o : a0 = 0) (h_o : Fw W g s) : gQ (f_117 a0 a1 a2 s) (fun r => Fw W g r.2.2.2) := by
  subst ea0_o
  unfold f_117
  refine gQ_t0 (A := Fw W g) (o_138 hg_o hU_o rfl h_o) (fun s1_l h616_o => ?_) (fun _ _ hz_o => hz_o)
  refine gQ_t0 (A := Fw W g) (o_138 hg_o hU_o rfl h616_o) (fun s3_l h617_o => ?_) (fun _ _ hz_o => hz_o)
  refine gQ_loop (fun y_l => y_l.1 = 0 ∧ Fw W g (y_l.2.2.2.2.2.2)) (fun y_l hy_o => ?_) ⟨rfl, h617_o⟩
  obtain ⟨x618_o, x619_o, x620_o, x621_o, x622_o, x623_o, x624_o⟩ := y_l
  obtain ⟨e626_o, h625_o⟩ := hy_o
  dsimp only at e626_o h625_o
  subst e626_o
  show gQ (sb_117_22 0 x619_o x620_o x621_o x622_o x623_o x624_o) _
  unfold sb_117_22
  refine gQ_ite ?_ ?_
  · exact gQ_ret ⟨rfl, h625_o⟩
  · refine gQ_map ?_
    refine gQ_loop (fun y_l => y_l.1 = 0 ∧ Fw W g (y_l.2.2.2.2.2)) (fun y_l hy_o => ?_) ⟨rfl, h625_o⟩
    obtain ⟨x627_o, x628_o, x629_o, x630_o, x631_o, x632_o⟩ := y_l
    obtain ⟨e634_o, h633_o⟩ := hy_o
    dsimp only at e634_o h633_o
    subst e634_o
    show gQ (sb_117_45 0 x628_o x629_o x630_o x631_o x632_o) _
    unfold sb_117_45
    refine gQ_ite ?_ ?_
    · refine gQ_map ?_
      refine gQ_ite ?_ ?_
      · exact gQ_none
      · exact gQ_ret h633_o
    · refine gQ_v1 (A := Fw W g) (o_148 hg_o hU_o rfl h633_o) (fun v6 s5 h635_o => ?_)
      exact gQ_ret ⟨rfl, h635_o⟩

theorem o_118 {W : Nat → Nat → Bool} {g s : gS} {a0 : Nat} {a1 : Int} (hg_o : RF g) (hU_o : ∀ a k, csq a k = true → W a k = true) (ea0_o : a0 = 0) (h_o : Fw W g s) : gQ (f_118 a0 a1 s) (fun r => Fw W g r.2.2.2) := by
  subst ea0_o
  unfold f_118
  refine gQ_loop (fun y_l => y_l.1 = 0 ∧ Fw W g (y_l.2.2.2.2.2)) (fun y_l hy_o => ?_) ⟨rfl, h_o⟩
  obtain ⟨x636_o, x637_o, x638_o, x639_o, x640_o, x641_o⟩ := y_l
  obtain ⟨e643_o, h642_o⟩ := hy_o
  dsimp only at e643_o h642_o
  subst e643_o
  show gQ (sb_118_7 0 x637_o x638_o x639_o x640_o x641_o) _
  unfold sb_118_7
  dsimp only
  refine gQ_ite ?_ ?_
  · refine gQ_chk2 (fun ha644_o hb645_o => ?_)
    refine gQ_ite ?_ ?_
    · exact gQ_ret ⟨rfl, h642_o⟩
    · refine gQ_chk2 (fun ha646_o hb647_o => ?_)
      refine gQ_ite ?_ ?_
      · refine gQ_chk2 (fun ha648_o hb649_o => ?_)
        exact gQ_ret ⟨rfl, h642_o⟩
      · exact gQ_ret ⟨rfl, h642_o⟩
  · refine gQ_map ?_
    refine gQ_ite ?_ ?_
    · exact gQ_ret h642_o
    · exact gQ_ret h642_o

theorem o_119 {W : Nat → Nat → Bool} {g s : gS} {a0 : Nat} {a1 : Int} (hg_o : RF g) (hU_o : ∀ a k, csq a k = true → W a k = true) (ea0_o : a0 = 0) (h_o : Fw W g s) : gQ (f_119 a0 a1 s) (fun r => Fw W g r.2.2.2) := by
  subst ea0_o
  unfold f_119
  refine gQ_ite ?_ ?_
  · unfold fb_119_10
    refine gQ_v0 (A := Fw W g) (o_63 hg_o hU_o (fr_r h_o rfl (rr_0_7 hg_o)) h_o) (fun s1_l h650_o => ?_)
    refine gQ_ite ?_ ?_
    · refine gQ_v1 (A := Fw W g) (o_65 hg_o hU_o (fr_r h650_o rfl (rr_0_7 hg_o)) h650_o) (fun v4_l s3_l h651_o => ?_)
      exact gQ_ret h651_o
    · refine gQ_v1 (A := Fw W g) (o_66 hg_o hU_o (fr_r h650_o rfl (rr_0_7 hg_o)) h650_o) (fun v6 s5 h652_o => ?_)
      exact gQ_ret h652_o
  · refine gQ_t0 (A := Fw W g) (o_137 hg_o hU_o rfl h_o) (fun s7 h653_o => ?_) (fun _ _ hz_o => hz_o)
    unfold fb_119_10
    refine gQ_v0 (A := Fw W g) (o_63 hg_o hU_o (fr_r h653_o rfl (rr_0_7 hg_o)) h653_o) (fun s1_l h654_o => ?_)
    refine gQ_ite ?_ ?_
    · refine gQ_v1 (A := Fw W g) (o_65 hg_o hU_o (fr_r h654_o rfl (rr_0_7 hg_o)) h654_o) (fun v4_l s3_l h655_o => ?_)
      exact gQ_ret h655_o
    · refine gQ_v1 (A := Fw W g) (o_66 hg_o hU_o (fr_r h654_o rfl (rr_0_7 hg_o)) h654_o) (fun v6 s5 h656_o => ?_)
      exact gQ_ret h656_o

theorem o_120 {W : Nat → Nat → Bool} {g s : gS} {a0 : Nat} (hg_o : RF g) (hU_o : ∀ a k, csq a k = true → W a k = true) (ea0_o : a0 = 0) (h_o : Fw W g s) : gQ (f_120 a0 s) (fun r => Fw W g r.2.2.2) := by
  subst ea0_o
  unfold f_120
  dsimp only
  refine gQ_loop (fun y_l => y_l.1 = 0 ∧ Fw W g (y_l.2.2.2.2)) (fun y_l hy_o => ?_) ⟨rfl, h_o⟩
  obtain ⟨x657_o, x658_o, x659_o, x660_o, x661_o⟩ := y_l
  obtain ⟨e663_o, h662_o⟩ := hy_o
  dsimp only at e663_o h662_o
  subst e663_o
  show gQ (sb_120_16 0 x658_o x659_o x660_o x661_o) _
  unfold sb_120_16
  refine gQ_ite ?_ ?_
  · refine gQ_v1 (A := Fw W g) (o_32 hg_o hU_o  h662_o) (fun v3 s2_l h664_o => ?_)
    refine gQ_ite ?_ ?_
    · refine gQ_ite ?_ ?_
      · unfold fb_120_57
        exact gQ_ret ⟨rfl, h664_o⟩
      · refine gQ_v1 (A := Fw W g) (o_264 hg_o hU_o  h664_o) (fun v5 s4_l h665_o => ?_)
        refine gQ_v1 (A := Fw W g) (o_264 hg_o hU_o  h665_o) (fun v7 s6_l h666_o => ?_)
        refine gQ_ite ?_ ?_
        · unfold fb_120_57
          exact gQ_ret ⟨rfl, h666_o⟩
        · exact gQ_ret ⟨rfl, h666_o⟩
    · exact gQ_ret ⟨rfl, h664_o⟩
  · refine gQ_map ?_
    exact gQ_ret h662_o

theorem o_121 {W : Nat → Nat → Bool} {g s : gS} {a0 : Nat} (hg_o : RF g) (hU_o : ∀ a k, csq a k = true → W a k = true) (ea0_o : a0 = 0) (h_o : Fw W g s) : gQ (f_121 a0 s) (fun r => Fw W g r.2.2.2) := by
  subst ea0_o
  unfold f_121
  refine gQ_loop (fun y_l => y_l.1 = 0 ∧ Fw W g (y_l.2.2.2)) (fun y_l hy_o => ?_) ⟨rfl, h_o⟩
  obtain ⟨x667_o, x668_o, x669_o, x670_o⟩ := y_l
  obtain ⟨e672_o, h671_o⟩ := hy_o
  dsimp only at e672_o h671_o
  subst e672_o
  show gQ (sb_121_4 0 x668_o x669_o x670_o) _
  unfold sb_121_4
  refine gQ_ite ?_ ?_
  · refine gQ_loop (fun y_l => y_l.1 = 0 ∧ Fw W g (y_l.2.2.2.2)) (fun y_l hy_o => ?_) ⟨rfl, h671_o⟩
    obtain ⟨x673_o, x674_o, x675_o, x676_o, x677_o⟩ := y_l
    obtain ⟨e679_o, h678_o⟩ := hy_o
    dsimp only at e679_o h678_o
    subst e679_o
    show gQ (sb_121_19 0 x674_o x675_o x676_o x677_o) _
    unfold sb_121_19
    refine gQ_ite ?_ ?_
    · refine gQ_chk2 (fun ha680_o hb681_o => ?_)
      refine gQ_chk2 (fun ha682_o hb683_o => ?_)
      refine gQ_ite ?_ ?_
      · exact gQ_ret ⟨rfl, h678_o⟩
      · exact gQ_ret ⟨rfl, h678_o⟩
    · refine gQ_map ?_
      exact gQ_ret ⟨rfl, h678_o⟩
  · refine gQ_map ?_
    exact gQ_ret h671_o

theorem o_122 {W : Nat → Nat → Bool} {g s : gS} {a0 : Nat} {a1 : Int} (hg_o : RF g) (hU_o : ∀ a k, csq a k = true → W a k = true) (ea0_o : a0 = 0) (h_o : Fw W g s) : gQ (f_122 a0 a1 s) (fun r => Fw W g r.2.2.2) := by
  subst ea0_o
  unfold f_122
  refine gQ_t0 (A := Fw W g) (o_138 hg_o hU_o rfl h_o) (fun s1_l h684_o => ?_) (fun _ _ hz_o => hz_o)
  refine gQ_loop (fun y_l => y_l.1 = 0 ∧ Fw W g (y_l.2.2.2.2)) (fun y_l hy_o => ?_) ⟨rfl, h684_o⟩
  obtain ⟨x685_o, x686_o, x687_o, x688_o, x689_o⟩ := y_l
  obtain ⟨e691_o, h690_o⟩ := hy_o
  dsimp only at e691_o h690_o
  subst e691_o
  show gQ (sb_122_11 0 x686_o x687_o x688_o x689_o) _
  unfold sb_122_11
  dsimp only
  refine gQ_ite ?_ ?_
  · refine gQ_chk2 (fun ha692_o hb693_o => ?_)
    exact gQ_ret ⟨rfl, h690_o⟩
  · refine gQ_map ?_
    exact gQ_ret h690_o

theorem o_123 {W : Nat → Nat → Bool} {g s : gS} {a0 : Nat} (hg_o : RF g) (hU_o : ∀ a k, csq a k = true → W a k = true) (ea0_o : a0 = 0) (h_o : Fw W g s) : gQ (f_123 a0 s) (fun r => Fw W g r.2.2.2) := by
  subst ea0_o
  unfold f_123
  refine gQ_loop (fun y_l => y_l.1 = 0 ∧ Fw W g (y_l.2.2.2)) (fun y_l hy_o => ?_) ⟨rfl, h_o⟩
  obtain ⟨x694_o, x695_o, x696_o, x697_o⟩ := y_l
  obtain ⟨e699_o, h698_o⟩ := hy_o
  dsimp only at e699_o h698_o
  subst e699_o
  show gQ (sb_123_4 0 x695_o x696_o x697_o) _
  unfold sb_123_4
  refine gQ_ite ?_ ?_
  · refine gQ_ite ?_ ?_
    · unfold fb_123_41
      exact gQ_ret ⟨rfl, h698_o⟩
    · refine gQ_chk2 (fun ha700_o hb701_o => ?_)
      refine gQ_chk2 (fun ha702_o hb703_o => ?_)
      refine gQ_ite ?_ ?_
      · unfold fb_123_41
        exact gQ_ret ⟨rfl, h698_o⟩
      · exact gQ_ret ⟨rfl, h698_o⟩
  · refine gQ_map ?_
    exact gQ_ret h698_o

theorem o_124 {W : Nat → Nat → Bool} {g s : gS} {a0 : Nat} {a1 : Int} (hg_o : RF g) (hU_o : ∀ a k, csq a k = true → W a k = true) (ea0_o : a0 = 0) (h_o : Fw W g s) : gQ (f_124 a0 a1 s) (fun r => Fw W g r.2.2.2) := by
  subst ea0_o
  unfold f_124
  refine gQ_ite ?_ ?_
  · unfold fb_124_13
    refine gQ_v1 (A := Fw W g) (o_29 hg_o hU_o  h_o) (fun v2 s1_l h704_o => ?_)
    exact gQ_ret h704_o
  · unfold fb_124_13
    refine gQ_v1 (A := Fw W g) (o_29 hg_o hU_o  h_o) (fun v2 s1_l h705_o => ?_)
    exact gQ_ret h705_o

theorem o_125 {W : Nat → Nat → Bool} {g s : gS} {a0 : Nat} {a1 : Int} {a2 : Int} (hg_o : RF g) (hU_o : ∀ a k, csq a k = true → W a k = true) (ea0_o : a0 = 0) (h_o : Fw W g s) : gQ (f_125 a0 a1 a2 s) (fun r => Fw W g r.2.2.2) := by
  subst ea0_o
  unfold f_125
  refine gQ_t0 (A := Fw W g) (o_138 hg_o hU_o rfl h_o) (fun s1_l h706_o => ?_) (fun _ _ hz_o => hz_o)
  refine gQ_v0 (A := Fw W g) (o_141 hg_o hU_o rfl h706_o) (fun s3_l h707_o => ?_)
  refine gQ_ite ?_ ?_
  · exact gQ_ret h707_o
  · refine gQ_v1 (A := Fw W g) (o_29 hg_o hU_o  h707_o) (fun v6 s5 h708_o => ?_)
    refine gQ_v1 (A := Fw W g) (o_264 hg_o hU_o  h708_o) (fun v8 s7 h709_o => ?_)
    exact gQ_ret h709_o

theorem o_126 {W : Nat → Nat → Bool} {g s : gS} {a0 : Nat} {a1 : Int} {a2 : Int} (hg_o : RF g) (hU_o : ∀ a k, csq a k = true → W a k = true) (ea0_o : a0 = 0) (h_o : Fw W g s) : gQ (f_126 a0 a1 a2 s) (fun r => Fw W g r.2.2.2) := by
  subst ea0_o
  unfold f_126
  refine gQ_t0 (A := Fw W g) (o_138 hg_o hU_o rfl h_o) (fun s1_l h710_o => ?_) (fun _ _ hz_o => hz_o)
  refine gQ_loop (fun y_l => y_l.1 = 0 ∧ Fw W g (y_l.2.2.2.2.2)) (fun y_l hy_o => ?_) ⟨rfl, h710_o⟩
  obtain ⟨x711_o, x712_o, x713_o, x714_o, x715_o, x716_o⟩ := y_l
  obtain ⟨e718_o, h717_o⟩ := hy_o
  dsimp only at e718_o h717_o
  subst e718_o
  show gQ (sb_126_14 0 x712_o x713_o x714_o x715_o x716_o) _
  unfold sb_126_14
  dsimp only
  refine gQ_ite ?_ ?_
  · refine gQ_map ?_
    exact gQ_ret h717_o
  · refine gQ_v0 (A := Fw W g) (o_141 hg_o hU_o rfl h717_o) (fun s3_l h719_o => ?_)
    refine gQ_ite ?_ ?_
    · unfold fb_126_48
      dsimp only
      refine gQ_ite ?_ ?_
      · exact gQ_ret ⟨rfl, h719_o⟩
      · exact gQ_ret ⟨rfl, h719_o⟩
    · unfold fb_126_48
      dsimp only
      refine gQ_ite ?_ ?_
      · exact gQ_ret ⟨rfl, h719_o⟩
      · exact gQ_ret ⟨rfl, h719_o⟩

theorem o_127 {W : Nat → Nat → Bool} {g s : gS} {a0 : Nat} {a1 : Int} {a2 : Int} (hg_o : RF g) (hU_o : ∀ a k, csq a k = true → W a k = true) (ea0_o : a0 = 0) (h_o : Fw W g s) : gQ (f_127 a0 a1 a2 s) (fun r => Fw W g r.2.2.2) := by
  subst ea0_o
  unfold f_127
  refine gQ_t0 (A := Fw W g) (o_135 hg_o hU_o rfl h_o) (fun s1_l h720_o => ?_) (fun _ _ hz_o => hz_o)
  refine gQ_v1 (A := Fw W g) (o_57 hg_o hU_o  h720_o) (fun v4_l s3_l h721_o => ?_)
  exact gQ_ret h721_o

theorem o_128 {W : Nat → Nat → Bool} {g s : gS} {a0 : Nat} {a1 : Int} {a2 : Int} (hg_o : RF g) (hU_o : ∀ a k, csq a k = true → W a k = true) (ea0_o : a0 = 0) (h_o : Fw W g s) : gQ (f_128 a0 a1 a2 s) (fun r => Fw W g r.2.2.2) := by
  subst ea0_o
  unfold f_128
  refine gQ_ite ?_ ?_
  · unfold fb_128_9
    exact gQ_ret (Fw_n h_o)
  · refine gQ_ite ?_ ?_
    · refine gQ_v1 (A := Fw W g) (o_56 hg_o hU_o  h_o) (fun v2 s1_l h722_o => ?_)
      exact gQ_ret h722_o
    · unfold fb_128_9
      exact gQ_ret (Fw_n h_o)

theorem o_133 {W : Nat → Nat → Bool} {g s : gS} {a0 : Nat} {a1 : Int} (hg_o : RF g) (hU_o : ∀ a k, csq a k = true → W a k = true) (ea0_o : a0 = 0) (h_o : Fw W g s) : gQ (f_133 a0 a1 s) (fun r => Fw W g r.2.2.2) := by
  subst ea0_o
  unfold f_133
  refine gQ_ite ?_ ?_
  · exact gQ_ret h_o
  · refine gQ_ite ?_ ?_
    · exact gQ_ret h_o
    · refine gQ_ite ?_ ?_
      · exact gQ_ret h_o
      · refine gQ_ite ?_ ?_
        · exact gQ_ret h_o
        · refine gQ_ite ?_ ?_
          · exact gQ_ret h_o
          · refine gQ_ite ?_ ?_
            · exact gQ_ret h_o
            · refine gQ_ite ?_ ?_
              · refine gQ_ite ?_ ?_
                · exact gQ_ret h_o
                · refine gQ_ite ?_ ?_
                  · exact gQ_none
                  · exact gQ_ret h_o
              · refine gQ_ite ?_ ?_
                · exact gQ_ret h_o
                · refine gQ_ite ?_ ?_
                  · exact gQ_ret h_o
                  · refine gQ_ite ?_ ?_
                    · exact gQ_ret h_o
                    · refine gQ_ite ?_ ?_
                      · exact gQ_ret h_o
                      · refine gQ_ite ?_ ?_
                        · exact gQ_ret h_o
                        · refine gQ_ite ?_ ?_
                          · exact gQ_ret h_o
                          · refine gQ_ite ?_ ?_
                            · refine gQ_v1 (A := Fw W g) (o_30 hg_o hU_o  h_o) (fun v2 s1_l h723_o => ?_)
                              exact gQ_ret h723_o
                            · refine gQ_ite ?_ ?_
                              · exact gQ_ret h_o
                              · refine gQ_ite ?_ ?_
                                · exact gQ_ret h_o
                                · exact gQ_ret h_o

end
section
/-- the model's own drafts; and what days and acts change of its row -/
noncomputable def mss (a k : Nat) : Bool := (Nat.ble 223 a && Nat.ble a 230) || (Nat.beq a 217 && !(Nat.beq k 3 || Nat.beq k 6))
noncomputable def mnt (k : Nat) : Bool := (Nat.ble 7 k && Nat.ble k 9) || ((Nat.ble 13 k && Nat.ble k 14) || ((Nat.ble 40 k && (Nat.ble k 75 && !Nat.beq (k % 6) 0)) || (Nat.ble 88 k && Nat.ble k 339)))
noncomputable def msd (a k : Nat) : Bool := mss a k || (Nat.beq a 218 && mnt k)
theorem mqd_o {W : Nat → Nat → Bool} (h : ∀ a k, msd a k = true → W a k = true) : ∀ a k, mss a k = true → W a k = true := fun a k hq => h a k (by
  unfold msd
  rw [hq]
  rfl)
section Mq
variable {W : Nat → Nat → Bool} {g s : gS}
theorem om_266 {a : Nat} (h : Fw W g s) : gQ (f_266 a s) (fun r => Fw W g r.2.2.2) := gQ_ret h
theorem om_267 {a : Nat} {j : Int} (h : Fw W g s) : gQ (f_267 a j s) (fun r => Fw W g r.2.2.2) := gQ_chk (gQ_ret h)
/-- the law's reading -/
theorem om_184 {a0 : Nat} {a1 : Int} (hg : RF g) (hU : ∀ a k, mss a k = true → W a k = true) (e0 : a0 = 217) (e1 : a1 = 1) (h : Fw W g s) : gQ (f_184 a0 a1 s) (fun r => Fw W g r.2.2.2) := by
  subst e0 e1
  intro r hr
  have hE : Eg s s := ⟨⟨rfl, rfl, rfl⟩, ⟨fr_r h rfl (rr_217_1 hg), fr_r h rfl (rr_217_7 hg), fr_r h rfl (rr_217_14 hg), fr_r h rfl (rr_217_22 hg)⟩, fun _ _ _ => rfl⟩
  have hq := o_184 hE r hr
  obtain ⟨⟨q1_l, q2_l, q3_l⟩, -, q4_l⟩ := hq
  have hn : gn r.2.2.2 = gn s := q1_l
  refine ⟨⟨h.1.1, by rw [hn]; exact h.1.2.1, fun a ha_l => ?_⟩, fun a k ha_l => ?_, fun a k ha_l hf => ?_⟩
  · show r.2.2.2.2.1 a = _
    rw [q2_l]
    exact h.1.2.2 a ha_l
  · show r.2.2.2.2.2.2 a k = _
    rw [q3_l]
    exact h.2.1 a k ha_l
  · refine (q4_l a k ?_).trans (h.2.2 a k ha_l hf)
    cases hc : scb a k with
    | false => rfl
    | true =>
      have hm_l : mss a k = true := by
        unfold scb at hc
        unfold mss
        simp only [Bool.or_eq_true, Bool.and_eq_true, es_beq, es_blt, Nat.ble_eq, Bool.not_eq_true', Bool.or_eq_false_iff, es_beqf] at hc ⊢
        omega
      rw [hU a k hm_l] at hf
      cases hf
end Mq
theorem om_150 {W : Nat → Nat → Bool} {g s : gS} {a0 : Int} {a1 : Int} {a2 : Int} (hg_o : RF g) (hU_o : ∀ a k, mss a k = true → W a k = true)  (h_o : Fw W g s) : gQ (f_150 a0 a1 a2 s) (fun r => Fw W g r.2.2.2) := by
  unfold f_150
  refine gQ_ite ?_ ?_
  · unfold fb_150_14
    exact gQ_ret h_o
  · refine gQ_ite ?_ ?_
    · unfold fb_150_14
      exact gQ_ret h_o
    · exact gQ_ret h_o

theorem om_151 {W : Nat → Nat → Bool} {g s : gS} {a0 : Int} {a1 : Int} (hg_o : RF g) (hU_o : ∀ a k, mss a k = true → W a k = true)  (h_o : Fw W g s) : gQ (f_151 a0 a1 s) (fun r => Fw W g r.2.2.2) := by
  unfold f_151
  refine gQ_ite ?_ ?_
  · exact gQ_ret h_o
  · exact gQ_ret h_o

theorem om_152 {W : Nat → Nat → Bool} {g s : gS} {a0 : Int} {a1 : Int} (hg_o : RF g) (hU_o : ∀ a k, mss a k = true → W a k = true)  (h_o : Fw W g s) : gQ (f_152 a0 a1 s) (fun r => Fw W g r.2.2.2) := by
  unfold f_152
  refine gQ_ite ?_ ?_
  · exact gQ_ret h_o
  · exact gQ_ret h_o

theorem om_153 {W : Nat → Nat → Bool} {g s : gS} {a0 : Int} {a1 : Int} (hg_o : RF g) (hU_o : ∀ a k, mss a k = true → W a k = true)  (h_o : Fw W g s) : gQ (f_153 a0 a1 s) (fun r => Fw W g r.2.2.2) := by
  unfold f_153
  refine gQ_ite ?_ ?_
  · exact gQ_ret h_o
  · exact gQ_ret h_o

theorem om_154 {W : Nat → Nat → Bool} {g s : gS} {a0 : Int} (hg_o : RF g) (hU_o : ∀ a k, mss a k = true → W a k = true)  (h_o : Fw W g s) : gQ (f_154 a0 s) (fun r => Fw W g r.2.2.2) := by
  unfold f_154
  refine gQ_loop (fun y_l => Fw W g (y_l.2.2.2)) (fun y_l hy_o => ?_) h_o
  obtain ⟨x724_o, x725_o, x726_o, x727_o⟩ := y_l
  have h728_o := hy_o
  dsimp only at h728_o
  show gQ (sb_154_4 x724_o x725_o x726_o x727_o) _
  unfold sb_154_4
  dsimp only
  refine gQ_ite ?_ ?_
  · exact gQ_ret h728_o
  · refine gQ_map ?_
    exact gQ_ret h728_o

theorem om_155 {W : Nat → Nat → Bool} {g s : gS} {a0 : Nat} {a1 : Int} {a2 : Int} (hg_o : RF g) (hU_o : ∀ a k, mss a k = true → W a k = true) (ea0_o : a0 = 217) (h_o : Fw W g s) : gQ (f_155 a0 a1 a2 s) (fun r => Fw W g r.2.2.2) := by
  subst ea0_o
  unfold f_155
  refine gQ_chk2 (fun ha729_o hb730_o => ?_)
  exact gQ_ret h_o

theorem om_156 {W : Nat → Nat → Bool} {g s : gS} {a0 : Nat} {a1 : Int} {a2 : Int} (hg_o : RF g) (hU_o : ∀ a k, mss a k = true → W a k = true) (ea0_o : a0 = 217) (h_o : Fw W g s) : gQ (f_156 a0 a1 a2 s) (fun r => Fw W g r.2.2.2) := by
  subst ea0_o
  unfold f_156
  refine gQ_chk2 (fun ha731_o hb732_o => ?_)
  exact gQ_ret h_o

theorem om_158 {W : Nat → Nat → Bool} {g s : gS} {a0 : Nat} {a1 : Int} (hg_o : RF g) (hU_o : ∀ a k, mss a k = true → W a k = true) (ea0_o : a0 = 217) (h_o : Fw W g s) : gQ (f_158 a0 a1 s) (fun r => Fw W g r.2.2.2) := by
  subst ea0_o
  unfold f_158
  refine gQ_chk2 (fun ha733_o hb734_o => ?_)
  exact gQ_ret h_o

theorem om_159 {W : Nat → Nat → Bool} {g s : gS} {a0 : Nat} {a1 : Int} (hg_o : RF g) (hU_o : ∀ a k, mss a k = true → W a k = true) (ea0_o : a0 = 217) (h_o : Fw W g s) : gQ (f_159 a0 a1 s) (fun r => Fw W g r.2.2.2) := by
  subst ea0_o
  unfold f_159
  refine gQ_chk2 (fun ha735_o hb736_o => ?_)
  exact gQ_ret h_o

theorem om_160 {W : Nat → Nat → Bool} {g s : gS} {a0 : Nat} {a1 : Int} {a2 : Int} (hg_o : RF g) (hU_o : ∀ a k, mss a k = true → W a k = true) (ea0_o : a0 = 217) (h_o : Fw W g s) : gQ (f_160 a0 a1 a2 s) (fun r => Fw W g r.2.2.2) := by
  subst ea0_o
  unfold f_160
  refine gQ_chk2 (fun ha737_o hb738_o => ?_)
  exact gQ_ret h_o

theorem om_161 {W : Nat → Nat → Bool} {g s : gS} {a0 : Nat} {a1 : Int} (hg_o : RF g) (hU_o : ∀ a k, mss a k = true → W a k = true) (ea0_o : a0 = 217) (h_o : Fw W g s) : gQ (f_161 a0 a1 s) (fun r => Fw W g r.2.2.2) := by
  subst ea0_o
  unfold f_161
  refine gQ_v1 (A := Fw W g) (om_150 hg_o hU_o  h_o) (fun v2 s1_l h739_o => ?_)
  exact gQ_ret h739_o

theorem om_162 {W : Nat → Nat → Bool} {g s : gS} {a0 : Nat} {a1 : Int} (hg_o : RF g) (hU_o : ∀ a k, mss a k = true → W a k = true) (ea0_o : a0 = 217) (h_o : Fw W g s) : gQ (f_162 a0 a1 s) (fun r => Fw W g r.2.2.2) := by
  subst ea0_o
  unfold f_162
  refine gQ_v1 (A := Fw W g) (om_150 hg_o hU_o  h_o) (fun v2 s1_l h740_o => ?_)
  exact gQ_ret h740_o

theorem om_163 {W : Nat → Nat → Bool} {g s : gS} {a0 : Nat} {a1 : Int} (hg_o : RF g) (hU_o : ∀ a k, mss a k = true → W a k = true) (ea0_o : a0 = 217) (h_o : Fw W g s) : gQ (f_163 a0 a1 s) (fun r => Fw W g r.2.2.2) := by
  subst ea0_o
  unfold f_163
  refine gQ_v1 (A := Fw W g) (om_150 hg_o hU_o  h_o) (fun v2 s1_l h741_o => ?_)
  exact gQ_ret h741_o

theorem om_164 {W : Nat → Nat → Bool} {g s : gS} {a0 : Nat} {a1 : Int} (hg_o : RF g) (hU_o : ∀ a k, mss a k = true → W a k = true) (ea0_o : a0 = 217) (h_o : Fw W g s) : gQ (f_164 a0 a1 s) (fun r => Fw W g r.2.2.2) := by
  subst ea0_o
  unfold f_164
  refine gQ_v1 (A := Fw W g) (om_150 hg_o hU_o  h_o) (fun v2 s1_l h742_o => ?_)
  exact gQ_ret h742_o

theorem om_165 {W : Nat → Nat → Bool} {g s : gS} {a0 : Nat} {a1 : Int} (hg_o : RF g) (hU_o : ∀ a k, mss a k = true → W a k = true) (ea0_o : a0 = 217) (h_o : Fw W g s) : gQ (f_165 a0 a1 s) (fun r => Fw W g r.2.2.2) := by
  subst ea0_o
  unfold f_165
  refine gQ_v1 (A := Fw W g) (om_156 hg_o hU_o rfl h_o) (fun v2 s1_l h743_o => ?_)
  refine gQ_ite ?_ ?_
  · exact gQ_ret h743_o
  · exact gQ_ret h743_o

theorem om_197 {W : Nat → Nat → Bool} {g s : gS} {a0 : Nat} {a1 : Int} {a2 : Int} {a3 : Int} {a4 : Int} {a5 : Int} {a6 : Int} {a7 : Int} (hg_o : RF g) (hU_o : ∀ a k, mss a k = true → W a k = true) (ea0_o : a0 = 217) (h_o : Fw W g s) : gQ (f_197 a0 a1 a2 a3 a4 a5 a6 a7 s) (fun r => Fw W g r.2.2.2) := by
  subst ea0_o
  unfold f_197
  dsimp only
  refine gQ_ite ?_ ?_
  · exact gQ_ret h_o
  · refine gQ_ite ?_ ?_
    · unfold fb_197_80
      dsimp only
      refine gQ_bool ?_
      refine gQ_ite ?_ ?_
      · unfold fb_197_100
        dsimp only
        refine gQ_bool ?_
        refine gQ_v1 (A := Fw W g) (om_184 hg_o hU_o rfl rfl (Fw_w (Fw_w (Fw_w (Fw_w (Fw_w (Fw_w (Fw_w (Fw_w (Fw_w (Fw_w (Fw_w (Fw_w (Fw_w (Fw_w (Fw_w h_o (fr_r h_o rfl (rr_217_14 hg_o)) (hU_o 223 _ rfl)) (fr_r (Fw_w h_o (fr_r h_o rfl (rr_217_14 hg_o)) (hU_o 223 _ rfl)) rfl (rr_217_14 hg_o)) (hU_o 223 _ rfl)) (fr_r (Fw_w (Fw_w h_o (fr_r h_o rfl (rr_217_14 hg_o)) (hU_o 223 _ rfl)) (fr_r (Fw_w h_o (fr_r h_o rfl (rr_217_14 hg_o)) (hU_o 223 _ rfl)) rfl (rr_217_14 hg_o)) (hU_o 223 _ rfl)) rfl (rr_217_14 hg_o)) (hU_o 223 _ rfl)) (fr_r (Fw_w (Fw_w (Fw_w h_o (fr_r h_o rfl (rr_217_14 hg_o)) (hU_o 223 _ rfl)) (fr_r (Fw_w h_o (fr_r h_o rfl (rr_217_14 hg_o)) (hU_o 223 _ rfl)) rfl (rr_217_14 hg_o)) (hU_o 223 _ rfl)) (fr_r (Fw_w (Fw_w h_o (fr_r h_o rfl (rr_217_14 hg_o)) (hU_o 223 _ rfl)) (fr_r (Fw_w h_o (fr_r h_o rfl (rr_217_14 hg_o)) (hU_o 223 _ rfl)) rfl (rr_217_14 hg_o)) (hU_o 223 _ rfl)) rfl (rr_217_14 hg_o)) (hU_o 223 _ rfl)) rfl (rr_217_14 hg_o)) (hU_o 223 _ rfl)) (fr_r (Fw_w (Fw_w (Fw_w (Fw_w h_o (fr_r h_o rfl (rr_217_14 hg_o)) (hU_o 223 _ rfl)) (fr_r (Fw_w h_o (fr_r h_o rfl (rr_217_14 hg_o)) (hU_o 223 _ rfl)) rfl (rr_217_14 hg_o)) (hU_o 223 _ rfl)) (fr_r (Fw_w (Fw_w h_o (fr_r h_o rfl (rr_217_14 hg_o)) (hU_o 223 _ rfl)) (fr_r (Fw_w h_o (fr_r h_o rfl (rr_217_14 hg_o)) (hU_o 223 _ rfl)) rfl (rr_217_14 hg_o)) (hU_o 223 _ rfl)) rfl (rr_217_14 hg_o)) (hU_o 223 _ rfl)) (fr_r (Fw_w (Fw_w (Fw_w h_o (fr_r h_o rfl (rr_217_14 hg_o)) (hU_o 223 _ rfl)) (fr_r (Fw_w h_o (fr_r h_o rfl (rr_217_14 hg_o)) (hU_o 223 _ rfl)) rfl (rr_217_14 hg_o)) (hU_o 223 _ rfl)) (fr_r (Fw_w (Fw_w h_o (fr_r h_o rfl (rr_217_14 hg_o)) (hU_o 223 _ rfl)) (fr_r (Fw_w h_o (fr_r h_o rfl (rr_217_14 hg_o)) (hU_o 223 _ rfl)) rfl (rr_217_14 hg_o)) (hU_o 223 _ rfl)) rfl (rr_217_14 hg_o)) (hU_o 223 _ rfl)) rfl (rr_217_14 hg_o)) (hU_o 223 _ rfl)) rfl (rr_217_14 hg_o)) (hU_o 223 _ rfl)) (fr_r (Fw_w (Fw_w (Fw_w (Fw_w (Fw_w h_o (fr_r h_o rfl (rr_217_14 hg_o)) (hU_o 223 _ rfl)) (fr_r (Fw_w h_o (fr_r h_o rfl (rr_217_14 hg_o)) (hU_o 223 _ rfl)) rfl (rr_217_14 hg_o)) (hU_o 223 _ rfl)) (fr_r (Fw_w (Fw_w h_o (fr_r h_o rfl (rr_217_14 hg_o)) (hU_o 223 _ rfl)) (fr_r (Fw_w h_o (fr_r h_o rfl (rr_217_14 hg_o)) (hU_o 223 _ rfl)) rfl (rr_217_14 hg_o)) (hU_o 223 _ rfl)) rfl (rr_217_14 hg_o)) (hU_o 223 _ rfl)) (fr_r (Fw_w (Fw_w (Fw_w h_o (fr_r h_o rfl (rr_217_14 hg_o)) (hU_o 223 _ rfl)) (fr_r (Fw_w h_o (fr_r h_o rfl (rr_217_14 hg_o)) (hU_o 223 _ rfl)) rfl (rr_217_14 hg_o)) (hU_o 223 _ rfl)) (fr_r (Fw_w (Fw_w h_o (fr_r h_o rfl (rr_217_14 hg_o)) (hU_o 223 _ rfl)) (fr_r (Fw_w h_o (fr_r h_o rfl (rr_217_14 hg_o)) (hU_o 223 _ rfl)) rfl (rr_217_14 hg_o)) (hU_o 223 _ rfl)) rfl (rr_217_14 hg_o)) (hU_o 223 _ rfl)) rfl (rr_217_14 hg_o)) (hU_o 223 _ rfl)) (fr_r (Fw_w (Fw_w (Fw_w (Fw_w h_o (fr_r h_o rfl (rr_217_14 hg_o)) (hU_o 223 _ rfl)) (fr_r (Fw_w h_o (fr_r h_o rfl (rr_217_14 hg_o)) (hU_o 223 _ rfl)) rfl (rr_217_14 hg_o)) (hU_o 223 _ rfl)) (fr_r (Fw_w (Fw_w h_o (fr_r h_o rfl (rr_217_14 hg_o)) (hU_o 223 _ rfl)) (fr_r (Fw_w h_o (fr_r h_o rfl (rr_217_14 hg_o)) (hU_o 223 _ rfl)) rfl (rr_217_14 hg_o)) (hU_o 223 _ rfl)) rfl (rr_217_14 hg_o)) (hU_o 223 _ rfl)) (fr_r (Fw_w (Fw_w (Fw_w h_o (fr_r h_o rfl (rr_217_14 hg_o)) (hU_o 223 _ rfl)) (fr_r (Fw_w h_o (fr_r h_o rfl (rr_217_14 hg_o)) (hU_o 223 _ rfl)) rfl (rr_217_14 hg_o)) (hU_o 223 _ rfl)) (fr_r (Fw_w (Fw_w h_o (fr_r h_o rfl (rr_217_14 hg_o)) (hU_o 223 _ rfl)) (fr_r (Fw_w h_o (fr_r h_o rfl (rr_217_14 hg_o)) (hU_o 223 _ rfl)) rfl (rr_217_14 hg_o)) (hU_o 223 _ rfl)) rfl (rr_217_14 hg_o)) (hU_o 223 _ rfl)) rfl (rr_217_14 hg_o)) (hU_o 223 _ rfl)) rfl (rr_217_14 hg_o)) (hU_o 223 _ rfl)) rfl (rr_217_14 hg_o)) (hU_o 223 _ rfl)) (fr_r (Fw_w (Fw_w (Fw_w (Fw_w (Fw_w (Fw_w h_o (fr_r h_o rfl (rr_217_14 hg_o)) (hU_o 223 _ rfl)) (fr_r (Fw_w h_o (fr_r h_o rfl (rr_217_14 hg_o)) (hU_o 223 _ rfl)) rfl (rr_217_14 hg_o)) (hU_o 223 _ rfl)) (fr_r (Fw_w (Fw_w h_o (fr_r h_o rfl (rr_217_14 hg_o)) (hU_o 223 _ rfl)) (fr_r (Fw_w h_o (fr_r h_o rfl (rr_217_14 hg_o)) (hU_o 223 _ rfl)) rfl (rr_217_14 hg_o)) (hU_o 223 _ rfl)) rfl (rr_217_14 hg_o)) (hU_o 223 _ rfl)) (fr_r (Fw_w (Fw_w (Fw_w h_o (fr_r h_o rfl (rr_217_14 hg_o)) (hU_o 223 _ rfl)) (fr_r (Fw_w h_o (fr_r h_o rfl (rr_217_14 hg_o)) (hU_o 223 _ rfl)) rfl (rr_217_14 hg_o)) (hU_o 223 _ rfl)) (fr_r (Fw_w (Fw_w h_o (fr_r h_o rfl (rr_217_14 hg_o)) (hU_o 223 _ rfl)) (fr_r (Fw_w h_o (fr_r h_o rfl (rr_217_14 hg_o)) (hU_o 223 _ rfl)) rfl (rr_217_14 hg_o)) (hU_o 223 _ rfl)) rfl (rr_217_14 hg_o)) (hU_o 223 _ rfl)) rfl (rr_217_14 hg_o)) (hU_o 223 _ rfl)) (fr_r (Fw_w (Fw_w (Fw_w (Fw_w h_o (fr_r h_o rfl (rr_217_14 hg_o)) (hU_o 223 _ rfl)) (fr_r (Fw_w h_o (fr_r h_o rfl (rr_217_14 hg_o)) (hU_o 223 _ rfl)) rfl (rr_217_14 hg_o)) (hU_o 223 _ rfl)) (fr_r (Fw_w (Fw_w h_o (fr_r h_o rfl (rr_217_14 hg_o)) (hU_o 223 _ rfl)) (fr_r (Fw_w h_o (fr_r h_o rfl (rr_217_14 hg_o)) (hU_o 223 _ rfl)) rfl (rr_217_14 hg_o)) (hU_o 223 _ rfl)) rfl (rr_217_14 hg_o)) (hU_o 223 _ rfl)) (fr_r (Fw_w (Fw_w (Fw_w h_o (fr_r h_o rfl (rr_217_14 hg_o)) (hU_o 223 _ rfl)) (fr_r (Fw_w h_o (fr_r h_o rfl (rr_217_14 hg_o)) (hU_o 223 _ rfl)) rfl (rr_217_14 hg_o)) (hU_o 223 _ rfl)) (fr_r (Fw_w (Fw_w h_o (fr_r h_o rfl (rr_217_14 hg_o)) (hU_o 223 _ rfl)) (fr_r (Fw_w h_o (fr_r h_o rfl (rr_217_14 hg_o)) (hU_o 223 _ rfl)) rfl (rr_217_14 hg_o)) (hU_o 223 _ rfl)) rfl (rr_217_14 hg_o)) (hU_o 223 _ rfl)) rfl (rr_217_14 hg_o)) (hU_o 223 _ rfl)) rfl (rr_217_14 hg_o)) (hU_o 223 _ rfl)) (fr_r (Fw_w (Fw_w (Fw_w (Fw_w (Fw_w h_o (fr_r h_o rfl (rr_217_14 hg_o)) (hU_o 223 _ rfl)) (fr_r (Fw_w h_o (fr_r h_o rfl (rr_217_14 hg_o)) (hU_o 223 _ rfl)) rfl (rr_217_14 hg_o)) (hU_o 223 _ rfl)) (fr_r (Fw_w (Fw_w h_o (fr_r h_o rfl (rr_217_14 hg_o)) (hU_o 223 _ rfl)) (fr_r (Fw_w h_o (fr_r h_o rfl (rr_217_14 hg_o)) (hU_o 223 _ rfl)) rfl (rr_217_14 hg_o)) (hU_o 223 _ rfl)) rfl (rr_217_14 hg_o)) (hU_o 223 _ rfl)) (fr_r (Fw_w (Fw_w (Fw_w h_o (fr_r h_o rfl (rr_217_14 hg_o)) (hU_o 223 _ rfl)) (fr_r (Fw_w h_o (fr_r h_o rfl (rr_217_14 hg_o)) (hU_o 223 _ rfl)) rfl (rr_217_14 hg_o)) (hU_o 223 _ rfl)) (fr_r (Fw_w (Fw_w h_o (fr_r h_o rfl (rr_217_14 hg_o)) (hU_o 223 _ rfl)) (fr_r (Fw_w h_o (fr_r h_o rfl (rr_217_14 hg_o)) (hU_o 223 _ rfl)) rfl (rr_217_14 hg_o)) (hU_o 223 _ rfl)) rfl (rr_217_14 hg_o)) (hU_o 223 _ rfl)) rfl (rr_217_14 hg_o)) (hU_o 223 _ rfl)) (fr_r (Fw_w (Fw_w (Fw_w (Fw_w h_o (fr_r h_o rfl (rr_217_14 hg_o)) (hU_o 223 _ rfl)) (fr_r (Fw_w h_o (fr_r h_o rfl (rr_217_14 hg_o)) (hU_o 223 _ rfl)) rfl (rr_217_14 hg_o)) (hU_o 223 _ rfl)) (fr_r (Fw_w (Fw_w h_o (fr_r h_o rfl (rr_217_14 hg_o)) (hU_o 223 _ rfl)) (fr_r (Fw_w h_o (fr_r h_o rfl (rr_217_14 hg_o)) (hU_o 223 _ rfl)) rfl (rr_217_14 hg_o)) (hU_o 223 _ rfl)) rfl (rr_217_14 hg_o)) (hU_o 223 _ rfl)) (fr_r (Fw_w (Fw_w (Fw_w h_o (fr_r h_o rfl (rr_217_14 hg_o)) (hU_o 223 _ rfl)) (fr_r (Fw_w h_o (fr_r h_o rfl (rr_217_14 hg_o)) (hU_o 223 _ rfl)) rfl (rr_217_14 hg_o)) (hU_o 223 _ rfl)) (fr_r (Fw_w (Fw_w h_o (fr_r h_o rfl (rr_217_14 hg_o)) (hU_o 223 _ rfl)) (fr_r (Fw_w h_o (fr_r h_o rfl (rr_217_14 hg_o)) (hU_o 223 _ rfl)) rfl (rr_217_14 hg_o)) (hU_o 223 _ rfl)) rfl (rr_217_14 hg_o)) (hU_o 223 _ rfl)) rfl (rr_217_14 hg_o)) (hU_o 223 _ rfl)) rfl (rr_217_14 hg_o)) (hU_o 223 _ rfl)) rfl (rr_217_14 hg_o)) (hU_o 223 _ rfl)) rfl (rr_217_14 hg_o)) (hU_o 223 _ rfl)) rfl (hU_o 217 _ rfl)) rfl (hU_o 217 _ rfl)) rfl (hU_o 217 _ rfl)) rfl (hU_o 217 _ rfl)) rfl (hU_o 217 _ rfl)) rfl (hU_o 217 _ rfl)) rfl (hU_o 217 _ rfl)) rfl (hU_o 217 _ rfl))) (fun v17 s16 h744_o => ?_)
        exact gQ_ret (Fw_w h744_o rfl (hU_o 217 _ rfl))
      · unfold fb_197_100
        dsimp only
        refine gQ_bool ?_
        refine gQ_v1 (A := Fw W g) (om_184 hg_o hU_o rfl rfl (Fw_w (Fw_w (Fw_w (Fw_w (Fw_w (Fw_w (Fw_w (Fw_w (Fw_w (Fw_w (Fw_w (Fw_w (Fw_w (Fw_w (Fw_w h_o (fr_r h_o rfl (rr_217_14 hg_o)) (hU_o 223 _ rfl)) (fr_r (Fw_w h_o (fr_r h_o rfl (rr_217_14 hg_o)) (hU_o 223 _ rfl)) rfl (rr_217_14 hg_o)) (hU_o 223 _ rfl)) (fr_r (Fw_w (Fw_w h_o (fr_r h_o rfl (rr_217_14 hg_o)) (hU_o 223 _ rfl)) (fr_r (Fw_w h_o (fr_r h_o rfl (rr_217_14 hg_o)) (hU_o 223 _ rfl)) rfl (rr_217_14 hg_o)) (hU_o 223 _ rfl)) rfl (rr_217_14 hg_o)) (hU_o 223 _ rfl)) (fr_r (Fw_w (Fw_w (Fw_w h_o (fr_r h_o rfl (rr_217_14 hg_o)) (hU_o 223 _ rfl)) (fr_r (Fw_w h_o (fr_r h_o rfl (rr_217_14 hg_o)) (hU_o 223 _ rfl)) rfl (rr_217_14 hg_o)) (hU_o 223 _ rfl)) (fr_r (Fw_w (Fw_w h_o (fr_r h_o rfl (rr_217_14 hg_o)) (hU_o 223 _ rfl)) (fr_r (Fw_w h_o (fr_r h_o rfl (rr_217_14 hg_o)) (hU_o 223 _ rfl)) rfl (rr_217_14 hg_o)) (hU_o 223 _ rfl)) rfl (rr_217_14 hg_o)) (hU_o 223 _ rfl)) rfl (rr_217_14 hg_o)) (hU_o 223 _ rfl)) (fr_r (Fw_w (Fw_w (Fw_w (Fw_w h_o (fr_r h_o rfl (rr_217_14 hg_o)) (hU_o 223 _ rfl)) (fr_r (Fw_w h_o (fr_r h_o rfl (rr_217_14 hg_o)) (hU_o 223 _ rfl)) rfl (rr_217_14 hg_o)) (hU_o 223 _ rfl)) (fr_r (Fw_w (Fw_w h_o (fr_r h_o rfl (rr_217_14 hg_o)) (hU_o 223 _ rfl)) (fr_r (Fw_w h_o (fr_r h_o rfl (rr_217_14 hg_o)) (hU_o 223 _ rfl)) rfl (rr_217_14 hg_o)) (hU_o 223 _ rfl)) rfl (rr_217_14 hg_o)) (hU_o 223 _ rfl)) (fr_r (Fw_w (Fw_w (Fw_w h_o (fr_r h_o rfl (rr_217_14 hg_o)) (hU_o 223 _ rfl)) (fr_r (Fw_w h_o (fr_r h_o rfl (rr_217_14 hg_o)) (hU_o 223 _ rfl)) rfl (rr_217_14 hg_o)) (hU_o 223 _ rfl)) (fr_r (Fw_w (Fw_w h_o (fr_r h_o rfl (rr_217_14 hg_o)) (hU_o 223 _ rfl)) (fr_r (Fw_w h_o (fr_r h_o rfl (rr_217_14 hg_o)) (hU_o 223 _ rfl)) rfl (rr_217_14 hg_o)) (hU_o 223 _ rfl)) rfl (rr_217_14 hg_o)) (hU_o 223 _ rfl)) rfl (rr_217_14 hg_o)) (hU_o 223 _ rfl)) rfl (rr_217_14 hg_o)) (hU_o 223 _ rfl)) (fr_r (Fw_w (Fw_w (Fw_w (Fw_w (Fw_w h_o (fr_r h_o rfl (rr_217_14 hg_o)) (hU_o 223 _ rfl)) (fr_r (Fw_w h_o (fr_r h_o rfl (rr_217_14 hg_o)) (hU_o 223 _ rfl)) rfl (rr_217_14 hg_o)) (hU_o 223 _ rfl)) (fr_r (Fw_w (Fw_w h_o (fr_r h_o rfl (rr_217_14 hg_o)) (hU_o 223 _ rfl)) (fr_r (Fw_w h_o (fr_r h_o rfl (rr_217_14 hg_o)) (hU_o 223 _ rfl)) rfl (rr_217_14 hg_o)) (hU_o 223 _ rfl)) rfl (rr_217_14 hg_o)) (hU_o 223 _ rfl)) (fr_r (Fw_w (Fw_w (Fw_w h_o (fr_r h_o rfl (rr_217_14 hg_o)) (hU_o 223 _ rfl)) (fr_r (Fw_w h_o (fr_r h_o rfl (rr_217_14 hg_o)) (hU_o 223 _ rfl)) rfl (rr_217_14 hg_o)) (hU_o 223 _ rfl)) (fr_r (Fw_w (Fw_w h_o (fr_r h_o rfl (rr_217_14 hg_o)) (hU_o 223 _ rfl)) (fr_r (Fw_w h_o (fr_r h_o rfl (rr_217_14 hg_o)) (hU_o 223 _ rfl)) rfl (rr_217_14 hg_o)) (hU_o 223 _ rfl)) rfl (rr_217_14 hg_o)) (hU_o 223 _ rfl)) rfl (rr_217_14 hg_o)) (hU_o 223 _ rfl)) (fr_r (Fw_w (Fw_w (Fw_w (Fw_w h_o (fr_r h_o rfl (rr_217_14 hg_o)) (hU_o 223 _ rfl)) (fr_r (Fw_w h_o (fr_r h_o rfl (rr_217_14 hg_o)) (hU_o 223 _ rfl)) rfl (rr_217_14 hg_o)) (hU_o 223 _ rfl)) (fr_r (Fw_w (Fw_w h_o (fr_r h_o rfl (rr_217_14 hg_o)) (hU_o 223 _ rfl)) (fr_r (Fw_w h_o (fr_r h_o rfl (rr_217_14 hg_o)) (hU_o 223 _ rfl)) rfl (rr_217_14 hg_o)) (hU_o 223 _ rfl)) rfl (rr_217_14 hg_o)) (hU_o 223 _ rfl)) (fr_r (Fw_w (Fw_w (Fw_w h_o (fr_r h_o rfl (rr_217_14 hg_o)) (hU_o 223 _ rfl)) (fr_r (Fw_w h_o (fr_r h_o rfl (rr_217_14 hg_o)) (hU_o 223 _ rfl)) rfl (rr_217_14 hg_o)) (hU_o 223 _ rfl)) (fr_r (Fw_w (Fw_w h_o (fr_r h_o rfl (rr_217_14 hg_o)) (hU_o 223 _ rfl)) (fr_r (Fw_w h_o (fr_r h_o rfl (rr_217_14 hg_o)) (hU_o 223 _ rfl)) rfl (rr_217_14 hg_o)) (hU_o 223 _ rfl)) rfl (rr_217_14 hg_o)) (hU_o 223 _ rfl)) rfl (rr_217_14 hg_o)) (hU_o 223 _ rfl)) rfl (rr_217_14 hg_o)) (hU_o 223 _ rfl)) rfl (rr_217_14 hg_o)) (hU_o 223 _ rfl)) (fr_r (Fw_w (Fw_w (Fw_w (Fw_w (Fw_w (Fw_w h_o (fr_r h_o rfl (rr_217_14 hg_o)) (hU_o 223 _ rfl)) (fr_r (Fw_w h_o (fr_r h_o rfl (rr_217_14 hg_o)) (hU_o 223 _ rfl)) rfl (rr_217_14 hg_o)) (hU_o 223 _ rfl)) (fr_r (Fw_w (Fw_w h_o (fr_r h_o rfl (rr_217_14 hg_o)) (hU_o 223 _ rfl)) (fr_r (Fw_w h_o (fr_r h_o rfl (rr_217_14 hg_o)) (hU_o 223 _ rfl)) rfl (rr_217_14 hg_o)) (hU_o 223 _ rfl)) rfl (rr_217_14 hg_o)) (hU_o 223 _ rfl)) (fr_r (Fw_w (Fw_w (Fw_w h_o (fr_r h_o rfl (rr_217_14 hg_o)) (hU_o 223 _ rfl)) (fr_r (Fw_w h_o (fr_r h_o rfl (rr_217_14 hg_o)) (hU_o 223 _ rfl)) rfl (rr_217_14 hg_o)) (hU_o 223 _ rfl)) (fr_r (Fw_w (Fw_w h_o (fr_r h_o rfl (rr_217_14 hg_o)) (hU_o 223 _ rfl)) (fr_r (Fw_w h_o (fr_r h_o rfl (rr_217_14 hg_o)) (hU_o 223 _ rfl)) rfl (rr_217_14 hg_o)) (hU_o 223 _ rfl)) rfl (rr_217_14 hg_o)) (hU_o 223 _ rfl)) rfl (rr_217_14 hg_o)) (hU_o 223 _ rfl)) (fr_r (Fw_w (Fw_w (Fw_w (Fw_w h_o (fr_r h_o rfl (rr_217_14 hg_o)) (hU_o 223 _ rfl)) (fr_r (Fw_w h_o (fr_r h_o rfl (rr_217_14 hg_o)) (hU_o 223 _ rfl)) rfl (rr_217_14 hg_o)) (hU_o 223 _ rfl)) (fr_r (Fw_w (Fw_w h_o (fr_r h_o rfl (rr_217_14 hg_o)) (hU_o 223 _ rfl)) (fr_r (Fw_w h_o (fr_r h_o rfl (rr_217_14 hg_o)) (hU_o 223 _ rfl)) rfl (rr_217_14 hg_o)) (hU_o 223 _ rfl)) rfl (rr_217_14 hg_o)) (hU_o 223 _ rfl)) (fr_r (Fw_w (Fw_w (Fw_w h_o (fr_r h_o rfl (rr_217_14 hg_o)) (hU_o 223 _ rfl)) (fr_r (Fw_w h_o (fr_r h_o rfl (rr_217_14 hg_o)) (hU_o 223 _ rfl)) rfl (rr_217_14 hg_o)) (hU_o 223 _ rfl)) (fr_r (Fw_w (Fw_w h_o (fr_r h_o rfl (rr_217_14 hg_o)) (hU_o 223 _ rfl)) (fr_r (Fw_w h_o (fr_r h_o rfl (rr_217_14 hg_o)) (hU_o 223 _ rfl)) rfl (rr_217_14 hg_o)) (hU_o 223 _ rfl)) rfl (rr_217_14 hg_o)) (hU_o 223 _ rfl)) rfl (rr_217_14 hg_o)) (hU_o 223 _ rfl)) rfl (rr_217_14 hg_o)) (hU_o 223 _ rfl)) (fr_r (Fw_w (Fw_w (Fw_w (Fw_w (Fw_w h_o (fr_r h_o rfl (rr_217_14 hg_o)) (hU_o 223 _ rfl)) (fr_r (Fw_w h_o (fr_r h_o rfl (rr_217_14 hg_o)) (hU_o 223 _ rfl)) rfl (rr_217_14 hg_o)) (hU_o 223 _ rfl)) (fr_r (Fw_w (Fw_w h_o (fr_r h_o rfl (rr_217_14 hg_o)) (hU_o 223 _ rfl)) (fr_r (Fw_w h_o (fr_r h_o rfl (rr_217_14 hg_o)) (hU_o 223 _ rfl)) rfl (rr_217_14 hg_o)) (hU_o 223 _ rfl)) rfl (rr_217_14 hg_o)) (hU_o 223 _ rfl)) (fr_r (Fw_w (Fw_w (Fw_w h_o (fr_r h_o rfl (rr_217_14 hg_o)) (hU_o 223 _ rfl)) (fr_r (Fw_w h_o (fr_r h_o rfl (rr_217_14 hg_o)) (hU_o 223 _ rfl)) rfl (rr_217_14 hg_o)) (hU_o 223 _ rfl)) (fr_r (Fw_w (Fw_w h_o (fr_r h_o rfl (rr_217_14 hg_o)) (hU_o 223 _ rfl)) (fr_r (Fw_w h_o (fr_r h_o rfl (rr_217_14 hg_o)) (hU_o 223 _ rfl)) rfl (rr_217_14 hg_o)) (hU_o 223 _ rfl)) rfl (rr_217_14 hg_o)) (hU_o 223 _ rfl)) rfl (rr_217_14 hg_o)) (hU_o 223 _ rfl)) (fr_r (Fw_w (Fw_w (Fw_w (Fw_w h_o (fr_r h_o rfl (rr_217_14 hg_o)) (hU_o 223 _ rfl)) (fr_r (Fw_w h_o (fr_r h_o rfl (rr_217_14 hg_o)) (hU_o 223 _ rfl)) rfl (rr_217_14 hg_o)) (hU_o 223 _ rfl)) (fr_r (Fw_w (Fw_w h_o (fr_r h_o rfl (rr_217_14 hg_o)) (hU_o 223 _ rfl)) (fr_r (Fw_w h_o (fr_r h_o rfl (rr_217_14 hg_o)) (hU_o 223 _ rfl)) rfl (rr_217_14 hg_o)) (hU_o 223 _ rfl)) rfl (rr_217_14 hg_o)) (hU_o 223 _ rfl)) (fr_r (Fw_w (Fw_w (Fw_w h_o (fr_r h_o rfl (rr_217_14 hg_o)) (hU_o 223 _ rfl)) (fr_r (Fw_w h_o (fr_r h_o rfl (rr_217_14 hg_o)) (hU_o 223 _ rfl)) rfl (rr_217_14 hg_o)) (hU_o 223 _ rfl)) (fr_r (Fw_w (Fw_w h_o (fr_r h_o rfl (rr_217_14 hg_o)) (hU_o 223 _ rfl)) (fr_r (Fw_w h_o (fr_r h_o rfl (rr_217_14 hg_o)) (hU_o 223 _ rfl)) rfl (rr_217_14 hg_o)) (hU_o 223 _ rfl)) rfl (rr_217_14 hg_o)) (hU_o 223 _ rfl)) rfl (rr_217_14 hg_o)) (hU_o 223 _ rfl)) rfl (rr_217_14 hg_o)) (hU_o 223 _ rfl)) rfl (rr_217_14 hg_o)) (hU_o 223 _ rfl)) rfl (rr_217_14 hg_o)) (hU_o 223 _ rfl)) rfl (hU_o 217 _ rfl)) rfl (hU_o 217 _ rfl)) rfl (hU_o 217 _ rfl)) rfl (hU_o 217 _ rfl)) rfl (hU_o 217 _ rfl)) rfl (hU_o 217 _ rfl)) rfl (hU_o 217 _ rfl)) rfl (hU_o 217 _ rfl))) (fun v17 s16 h745_o => ?_)
        exact gQ_ret (Fw_w h745_o rfl (hU_o 217 _ rfl))
    · unfold fb_197_80
      dsimp only
      refine gQ_bool ?_
      refine gQ_ite ?_ ?_
      · unfold fb_197_100
        dsimp only
        refine gQ_bool ?_
        refine gQ_v1 (A := Fw W g) (om_184 hg_o hU_o rfl rfl (Fw_w (Fw_w (Fw_w (Fw_w (Fw_w (Fw_w (Fw_w (Fw_w (Fw_w (Fw_w (Fw_w (Fw_w (Fw_w (Fw_w (Fw_w h_o (fr_r h_o rfl (rr_217_14 hg_o)) (hU_o 223 _ rfl)) (fr_r (Fw_w h_o (fr_r h_o rfl (rr_217_14 hg_o)) (hU_o 223 _ rfl)) rfl (rr_217_14 hg_o)) (hU_o 223 _ rfl)) (fr_r (Fw_w (Fw_w h_o (fr_r h_o rfl (rr_217_14 hg_o)) (hU_o 223 _ rfl)) (fr_r (Fw_w h_o (fr_r h_o rfl (rr_217_14 hg_o)) (hU_o 223 _ rfl)) rfl (rr_217_14 hg_o)) (hU_o 223 _ rfl)) rfl (rr_217_14 hg_o)) (hU_o 223 _ rfl)) (fr_r (Fw_w (Fw_w (Fw_w h_o (fr_r h_o rfl (rr_217_14 hg_o)) (hU_o 223 _ rfl)) (fr_r (Fw_w h_o (fr_r h_o rfl (rr_217_14 hg_o)) (hU_o 223 _ rfl)) rfl (rr_217_14 hg_o)) (hU_o 223 _ rfl)) (fr_r (Fw_w (Fw_w h_o (fr_r h_o rfl (rr_217_14 hg_o)) (hU_o 223 _ rfl)) (fr_r (Fw_w h_o (fr_r h_o rfl (rr_217_14 hg_o)) (hU_o 223 _ rfl)) rfl (rr_217_14 hg_o)) (hU_o 223 _ rfl)) rfl (rr_217_14 hg_o)) (hU_o 223 _ rfl)) rfl (rr_217_14 hg_o)) (hU_o 223 _ rfl)) (fr_r (Fw_w (Fw_w (Fw_w (Fw_w h_o (fr_r h_o rfl (rr_217_14 hg_o)) (hU_o 223 _ rfl)) (fr_r (Fw_w h_o (fr_r h_o rfl (rr_217_14 hg_o)) (hU_o 223 _ rfl)) rfl (rr_217_14 hg_o)) (hU_o 223 _ rfl)) (fr_r (Fw_w (Fw_w h_o (fr_r h_o rfl (rr_217_14 hg_o)) (hU_o 223 _ rfl)) (fr_r (Fw_w h_o (fr_r h_o rfl (rr_217_14 hg_o)) (hU_o 223 _ rfl)) rfl (rr_217_14 hg_o)) (hU_o 223 _ rfl)) rfl (rr_217_14 hg_o)) (hU_o 223 _ rfl)) (fr_r (Fw_w (Fw_w (Fw_w h_o (fr_r h_o rfl (rr_217_14 hg_o)) (hU_o 223 _ rfl)) (fr_r (Fw_w h_o (fr_r h_o rfl (rr_217_14 hg_o)) (hU_o 223 _ rfl)) rfl (rr_217_14 hg_o)) (hU_o 223 _ rfl)) (fr_r (Fw_w (Fw_w h_o (fr_r h_o rfl (rr_217_14 hg_o)) (hU_o 223 _ rfl)) (fr_r (Fw_w h_o (fr_r h_o rfl (rr_217_14 hg_o)) (hU_o 223 _ rfl)) rfl (rr_217_14 hg_o)) (hU_o 223 _ rfl)) rfl (rr_217_14 hg_o)) (hU_o 223 _ rfl)) rfl (rr_217_14 hg_o)) (hU_o 223 _ rfl)) rfl (rr_217_14 hg_o)) (hU_o 223 _ rfl)) (fr_r (Fw_w (Fw_w (Fw_w (Fw_w (Fw_w h_o (fr_r h_o rfl (rr_217_14 hg_o)) (hU_o 223 _ rfl)) (fr_r (Fw_w h_o (fr_r h_o rfl (rr_217_14 hg_o)) (hU_o 223 _ rfl)) rfl (rr_217_14 hg_o)) (hU_o 223 _ rfl)) (fr_r (Fw_w (Fw_w h_o (fr_r h_o rfl (rr_217_14 hg_o)) (hU_o 223 _ rfl)) (fr_r (Fw_w h_o (fr_r h_o rfl (rr_217_14 hg_o)) (hU_o 223 _ rfl)) rfl (rr_217_14 hg_o)) (hU_o 223 _ rfl)) rfl (rr_217_14 hg_o)) (hU_o 223 _ rfl)) (fr_r (Fw_w (Fw_w (Fw_w h_o (fr_r h_o rfl (rr_217_14 hg_o)) (hU_o 223 _ rfl)) (fr_r (Fw_w h_o (fr_r h_o rfl (rr_217_14 hg_o)) (hU_o 223 _ rfl)) rfl (rr_217_14 hg_o)) (hU_o 223 _ rfl)) (fr_r (Fw_w (Fw_w h_o (fr_r h_o rfl (rr_217_14 hg_o)) (hU_o 223 _ rfl)) (fr_r (Fw_w h_o (fr_r h_o rfl (rr_217_14 hg_o)) (hU_o 223 _ rfl)) rfl (rr_217_14 hg_o)) (hU_o 223 _ rfl)) rfl (rr_217_14 hg_o)) (hU_o 223 _ rfl)) rfl (rr_217_14 hg_o)) (hU_o 223 _ rfl)) (fr_r (Fw_w (Fw_w (Fw_w (Fw_w h_o (fr_r h_o rfl (rr_217_14 hg_o)) (hU_o 223 _ rfl)) (fr_r (Fw_w h_o (fr_r h_o rfl (rr_217_14 hg_o)) (hU_o 223 _ rfl)) rfl (rr_217_14 hg_o)) (hU_o 223 _ rfl)) (fr_r (Fw_w (Fw_w h_o (fr_r h_o rfl (rr_217_14 hg_o)) (hU_o 223 _ rfl)) (fr_r (Fw_w h_o (fr_r h_o rfl (rr_217_14 hg_o)) (hU_o 223 _ rfl)) rfl (rr_217_14 hg_o)) (hU_o 223 _ rfl)) rfl (rr_217_14 hg_o)) (hU_o 223 _ rfl)) (fr_r (Fw_w (Fw_w (Fw_w h_o (fr_r h_o rfl (rr_217_14 hg_o)) (hU_o 223 _ rfl)) (fr_r (Fw_w h_o (fr_r h_o rfl (rr_217_14 hg_o)) (hU_o 223 _ rfl)) rfl (rr_217_14 hg_o)) (hU_o 223 _ rfl)) (fr_r (Fw_w (Fw_w h_o (fr_r h_o rfl (rr_217_14 hg_o)) (hU_o 223 _ rfl)) (fr_r (Fw_w h_o (fr_r h_o rfl (rr_217_14 hg_o)) (hU_o 223 _ rfl)) rfl (rr_217_14 hg_o)) (hU_o 223 _ rfl)) rfl (rr_217_14 hg_o)) (hU_o 223 _ rfl)) rfl (rr_217_14 hg_o)) (hU_o 223 _ rfl)) rfl (rr_217_14 hg_o)) (hU_o 223 _ rfl)) rfl (rr_217_14 hg_o)) (hU_o 223 _ rfl)) (fr_r (Fw_w (Fw_w (Fw_w (Fw_w (Fw_w (Fw_w h_o (fr_r h_o rfl (rr_217_14 hg_o)) (hU_o 223 _ rfl)) (fr_r (Fw_w h_o (fr_r h_o rfl (rr_217_14 hg_o)) (hU_o 223 _ rfl)) rfl (rr_217_14 hg_o)) (hU_o 223 _ rfl)) (fr_r (Fw_w (Fw_w h_o (fr_r h_o rfl (rr_217_14 hg_o)) (hU_o 223 _ rfl)) (fr_r (Fw_w h_o (fr_r h_o rfl (rr_217_14 hg_o)) (hU_o 223 _ rfl)) rfl (rr_217_14 hg_o)) (hU_o 223 _ rfl)) rfl (rr_217_14 hg_o)) (hU_o 223 _ rfl)) (fr_r (Fw_w (Fw_w (Fw_w h_o (fr_r h_o rfl (rr_217_14 hg_o)) (hU_o 223 _ rfl)) (fr_r (Fw_w h_o (fr_r h_o rfl (rr_217_14 hg_o)) (hU_o 223 _ rfl)) rfl (rr_217_14 hg_o)) (hU_o 223 _ rfl)) (fr_r (Fw_w (Fw_w h_o (fr_r h_o rfl (rr_217_14 hg_o)) (hU_o 223 _ rfl)) (fr_r (Fw_w h_o (fr_r h_o rfl (rr_217_14 hg_o)) (hU_o 223 _ rfl)) rfl (rr_217_14 hg_o)) (hU_o 223 _ rfl)) rfl (rr_217_14 hg_o)) (hU_o 223 _ rfl)) rfl (rr_217_14 hg_o)) (hU_o 223 _ rfl)) (fr_r (Fw_w (Fw_w (Fw_w (Fw_w h_o (fr_r h_o rfl (rr_217_14 hg_o)) (hU_o 223 _ rfl)) (fr_r (Fw_w h_o (fr_r h_o rfl (rr_217_14 hg_o)) (hU_o 223 _ rfl)) rfl (rr_217_14 hg_o)) (hU_o 223 _ rfl)) (fr_r (Fw_w (Fw_w h_o (fr_r h_o rfl (rr_217_14 hg_o)) (hU_o 223 _ rfl)) (fr_r (Fw_w h_o (fr_r h_o rfl (rr_217_14 hg_o)) (hU_o 223 _ rfl)) rfl (rr_217_14 hg_o)) (hU_o 223 _ rfl)) rfl (rr_217_14 hg_o)) (hU_o 223 _ rfl)) (fr_r (Fw_w (Fw_w (Fw_w h_o (fr_r h_o rfl (rr_217_14 hg_o)) (hU_o 223 _ rfl)) (fr_r (Fw_w h_o (fr_r h_o rfl (rr_217_14 hg_o)) (hU_o 223 _ rfl)) rfl (rr_217_14 hg_o)) (hU_o 223 _ rfl)) (fr_r (Fw_w (Fw_w h_o (fr_r h_o rfl (rr_217_14 hg_o)) (hU_o 223 _ rfl)) (fr_r (Fw_w h_o (fr_r h_o rfl (rr_217_14 hg_o)) (hU_o 223 _ rfl)) rfl (rr_217_14 hg_o)) (hU_o 223 _ rfl)) rfl (rr_217_14 hg_o)) (hU_o 223 _ rfl)) rfl (rr_217_14 hg_o)) (hU_o 223 _ rfl)) rfl (rr_217_14 hg_o)) (hU_o 223 _ rfl)) (fr_r (Fw_w (Fw_w (Fw_w (Fw_w (Fw_w h_o (fr_r h_o rfl (rr_217_14 hg_o)) (hU_o 223 _ rfl)) (fr_r (Fw_w h_o (fr_r h_o rfl (rr_217_14 hg_o)) (hU_o 223 _ rfl)) rfl (rr_217_14 hg_o)) (hU_o 223 _ rfl)) (fr_r (Fw_w (Fw_w h_o (fr_r h_o rfl (rr_217_14 hg_o)) (hU_o 223 _ rfl)) (fr_r (Fw_w h_o (fr_r h_o rfl (rr_217_14 hg_o)) (hU_o 223 _ rfl)) rfl (rr_217_14 hg_o)) (hU_o 223 _ rfl)) rfl (rr_217_14 hg_o)) (hU_o 223 _ rfl)) (fr_r (Fw_w (Fw_w (Fw_w h_o (fr_r h_o rfl (rr_217_14 hg_o)) (hU_o 223 _ rfl)) (fr_r (Fw_w h_o (fr_r h_o rfl (rr_217_14 hg_o)) (hU_o 223 _ rfl)) rfl (rr_217_14 hg_o)) (hU_o 223 _ rfl)) (fr_r (Fw_w (Fw_w h_o (fr_r h_o rfl (rr_217_14 hg_o)) (hU_o 223 _ rfl)) (fr_r (Fw_w h_o (fr_r h_o rfl (rr_217_14 hg_o)) (hU_o 223 _ rfl)) rfl (rr_217_14 hg_o)) (hU_o 223 _ rfl)) rfl (rr_217_14 hg_o)) (hU_o 223 _ rfl)) rfl (rr_217_14 hg_o)) (hU_o 223 _ rfl)) (fr_r (Fw_w (Fw_w (Fw_w (Fw_w h_o (fr_r h_o rfl (rr_217_14 hg_o)) (hU_o 223 _ rfl)) (fr_r (Fw_w h_o (fr_r h_o rfl (rr_217_14 hg_o)) (hU_o 223 _ rfl)) rfl (rr_217_14 hg_o)) (hU_o 223 _ rfl)) (fr_r (Fw_w (Fw_w h_o (fr_r h_o rfl (rr_217_14 hg_o)) (hU_o 223 _ rfl)) (fr_r (Fw_w h_o (fr_r h_o rfl (rr_217_14 hg_o)) (hU_o 223 _ rfl)) rfl (rr_217_14 hg_o)) (hU_o 223 _ rfl)) rfl (rr_217_14 hg_o)) (hU_o 223 _ rfl)) (fr_r (Fw_w (Fw_w (Fw_w h_o (fr_r h_o rfl (rr_217_14 hg_o)) (hU_o 223 _ rfl)) (fr_r (Fw_w h_o (fr_r h_o rfl (rr_217_14 hg_o)) (hU_o 223 _ rfl)) rfl (rr_217_14 hg_o)) (hU_o 223 _ rfl)) (fr_r (Fw_w (Fw_w h_o (fr_r h_o rfl (rr_217_14 hg_o)) (hU_o 223 _ rfl)) (fr_r (Fw_w h_o (fr_r h_o rfl (rr_217_14 hg_o)) (hU_o 223 _ rfl)) rfl (rr_217_14 hg_o)) (hU_o 223 _ rfl)) rfl (rr_217_14 hg_o)) (hU_o 223 _ rfl)) rfl (rr_217_14 hg_o)) (hU_o 223 _ rfl)) rfl (rr_217_14 hg_o)) (hU_o 223 _ rfl)) rfl (rr_217_14 hg_o)) (hU_o 223 _ rfl)) rfl (rr_217_14 hg_o)) (hU_o 223 _ rfl)) rfl (hU_o 217 _ rfl)) rfl (hU_o 217 _ rfl)) rfl (hU_o 217 _ rfl)) rfl (hU_o 217 _ rfl)) rfl (hU_o 217 _ rfl)) rfl (hU_o 217 _ rfl)) rfl (hU_o 217 _ rfl)) rfl (hU_o 217 _ rfl))) (fun v17 s16 h746_o => ?_)
        exact gQ_ret (Fw_w h746_o rfl (hU_o 217 _ rfl))
      · unfold fb_197_100
        dsimp only
        refine gQ_bool ?_
        refine gQ_v1 (A := Fw W g) (om_184 hg_o hU_o rfl rfl (Fw_w (Fw_w (Fw_w (Fw_w (Fw_w (Fw_w (Fw_w (Fw_w (Fw_w (Fw_w (Fw_w (Fw_w (Fw_w (Fw_w (Fw_w h_o (fr_r h_o rfl (rr_217_14 hg_o)) (hU_o 223 _ rfl)) (fr_r (Fw_w h_o (fr_r h_o rfl (rr_217_14 hg_o)) (hU_o 223 _ rfl)) rfl (rr_217_14 hg_o)) (hU_o 223 _ rfl)) (fr_r (Fw_w (Fw_w h_o (fr_r h_o rfl (rr_217_14 hg_o)) (hU_o 223 _ rfl)) (fr_r (Fw_w h_o (fr_r h_o rfl (rr_217_14 hg_o)) (hU_o 223 _ rfl)) rfl (rr_217_14 hg_o)) (hU_o 223 _ rfl)) rfl (rr_217_14 hg_o)) (hU_o 223 _ rfl)) (fr_r (Fw_w (Fw_w (Fw_w h_o (fr_r h_o rfl (rr_217_14 hg_o)) (hU_o 223 _ rfl)) (fr_r (Fw_w h_o (fr_r h_o rfl (rr_217_14 hg_o)) (hU_o 223 _ rfl)) rfl (rr_217_14 hg_o)) (hU_o 223 _ rfl)) (fr_r (Fw_w (Fw_w h_o (fr_r h_o rfl (rr_217_14 hg_o)) (hU_o 223 _ rfl)) (fr_r (Fw_w h_o (fr_r h_o rfl (rr_217_14 hg_o)) (hU_o 223 _ rfl)) rfl (rr_217_14 hg_o)) (hU_o 223 _ rfl)) rfl (rr_217_14 hg_o)) (hU_o 223 _ rfl)) rfl (rr_217_14 hg_o)) (hU_o 223 _ rfl)) (fr_r (Fw_w (Fw_w (Fw_w (Fw_w h_o (fr_r h_o rfl (rr_217_14 hg_o)) (hU_o 223 _ rfl)) (fr_r (Fw_w h_o (fr_r h_o rfl (rr_217_14 hg_o)) (hU_o 223 _ rfl)) rfl (rr_217_14 hg_o)) (hU_o 223 _ rfl)) (fr_r (Fw_w (Fw_w h_o (fr_r h_o rfl (rr_217_14 hg_o)) (hU_o 223 _ rfl)) (fr_r (Fw_w h_o (fr_r h_o rfl (rr_217_14 hg_o)) (hU_o 223 _ rfl)) rfl (rr_217_14 hg_o)) (hU_o 223 _ rfl)) rfl (rr_217_14 hg_o)) (hU_o 223 _ rfl)) (fr_r (Fw_w (Fw_w (Fw_w h_o (fr_r h_o rfl (rr_217_14 hg_o)) (hU_o 223 _ rfl)) (fr_r (Fw_w h_o (fr_r h_o rfl (rr_217_14 hg_o)) (hU_o 223 _ rfl)) rfl (rr_217_14 hg_o)) (hU_o 223 _ rfl)) (fr_r (Fw_w (Fw_w h_o (fr_r h_o rfl (rr_217_14 hg_o)) (hU_o 223 _ rfl)) (fr_r (Fw_w h_o (fr_r h_o rfl (rr_217_14 hg_o)) (hU_o 223 _ rfl)) rfl (rr_217_14 hg_o)) (hU_o 223 _ rfl)) rfl (rr_217_14 hg_o)) (hU_o 223 _ rfl)) rfl (rr_217_14 hg_o)) (hU_o 223 _ rfl)) rfl (rr_217_14 hg_o)) (hU_o 223 _ rfl)) (fr_r (Fw_w (Fw_w (Fw_w (Fw_w (Fw_w h_o (fr_r h_o rfl (rr_217_14 hg_o)) (hU_o 223 _ rfl)) (fr_r (Fw_w h_o (fr_r h_o rfl (rr_217_14 hg_o)) (hU_o 223 _ rfl)) rfl (rr_217_14 hg_o)) (hU_o 223 _ rfl)) (fr_r (Fw_w (Fw_w h_o (fr_r h_o rfl (rr_217_14 hg_o)) (hU_o 223 _ rfl)) (fr_r (Fw_w h_o (fr_r h_o rfl (rr_217_14 hg_o)) (hU_o 223 _ rfl)) rfl (rr_217_14 hg_o)) (hU_o 223 _ rfl)) rfl (rr_217_14 hg_o)) (hU_o 223 _ rfl)) (fr_r (Fw_w (Fw_w (Fw_w h_o (fr_r h_o rfl (rr_217_14 hg_o)) (hU_o 223 _ rfl)) (fr_r (Fw_w h_o (fr_r h_o rfl (rr_217_14 hg_o)) (hU_o 223 _ rfl)) rfl (rr_217_14 hg_o)) (hU_o 223 _ rfl)) (fr_r (Fw_w (Fw_w h_o (fr_r h_o rfl (rr_217_14 hg_o)) (hU_o 223 _ rfl)) (fr_r (Fw_w h_o (fr_r h_o rfl (rr_217_14 hg_o)) (hU_o 223 _ rfl)) rfl (rr_217_14 hg_o)) (hU_o 223 _ rfl)) rfl (rr_217_14 hg_o)) (hU_o 223 _ rfl)) rfl (rr_217_14 hg_o)) (hU_o 223 _ rfl)) (fr_r (Fw_w (Fw_w (Fw_w (Fw_w h_o (fr_r h_o rfl (rr_217_14 hg_o)) (hU_o 223 _ rfl)) (fr_r (Fw_w h_o (fr_r h_o rfl (rr_217_14 hg_o)) (hU_o 223 _ rfl)) rfl (rr_217_14 hg_o)) (hU_o 223 _ rfl)) (fr_r (Fw_w (Fw_w h_o (fr_r h_o rfl (rr_217_14 hg_o)) (hU_o 223 _ rfl)) (fr_r (Fw_w h_o (fr_r h_o rfl (rr_217_14 hg_o)) (hU_o 223 _ rfl)) rfl (rr_217_14 hg_o)) (hU_o 223 _ rfl)) rfl (rr_217_14 hg_o)) (hU_o 223 _ rfl)) (fr_r (Fw_w (Fw_w (Fw_w h_o (fr_r h_o rfl (rr_217_14 hg_o)) (hU_o 223 _ rfl)) (fr_r (Fw_w h_o (fr_r h_o rfl (rr_217_14 hg_o)) (hU_o 223 _ rfl)) rfl (rr_217_14 hg_o)) (hU_o 223 _ rfl)) (fr_r (Fw_w (Fw_w h_o (fr_r h_o rfl (rr_217_14 hg_o)) (hU_o 223 _ rfl)) (fr_r (Fw_w h_o (fr_r h_o rfl (rr_217_14 hg_o)) (hU_o 223 _ rfl)) rfl (rr_217_14 hg_o)) (hU_o 223 _ rfl)) rfl (rr_217_14 hg_o)) (hU_o 223 _ rfl)) rfl (rr_217_14 hg_o)) (hU_o 223 _ rfl)) rfl (rr_217_14 hg_o)) (hU_o 223 _ rfl)) rfl (rr_217_14 hg_o)) (hU_o 223 _ rfl)) (fr_r (Fw_w (Fw_w (Fw_w (Fw_w (Fw_w (Fw_w h_o (fr_r h_o rfl (rr_217_14 hg_o)) (hU_o 223 _ rfl)) (fr_r (Fw_w h_o (fr_r h_o rfl (rr_217_14 hg_o)) (hU_o 223 _ rfl)) rfl (rr_217_14 hg_o)) (hU_o 223 _ rfl)) (fr_r (Fw_w (Fw_w h_o (fr_r h_o rfl (rr_217_14 hg_o)) (hU_o 223 _ rfl)) (fr_r (Fw_w h_o (fr_r h_o rfl (rr_217_14 hg_o)) (hU_o 223 _ rfl)) rfl (rr_217_14 hg_o)) (hU_o 223 _ rfl)) rfl (rr_217_14 hg_o)) (hU_o 223 _ rfl)) (fr_r (Fw_w (Fw_w (Fw_w h_o (fr_r h_o rfl (rr_217_14 hg_o)) (hU_o 223 _ rfl)) (fr_r (Fw_w h_o (fr_r h_o rfl (rr_217_14 hg_o)) (hU_o 223 _ rfl)) rfl (rr_217_14 hg_o)) (hU_o 223 _ rfl)) (fr_r (Fw_w (Fw_w h_o (fr_r h_o rfl (rr_217_14 hg_o)) (hU_o 223 _ rfl)) (fr_r (Fw_w h_o (fr_r h_o rfl (rr_217_14 hg_o)) (hU_o 223 _ rfl)) rfl (rr_217_14 hg_o)) (hU_o 223 _ rfl)) rfl (rr_217_14 hg_o)) (hU_o 223 _ rfl)) rfl (rr_217_14 hg_o)) (hU_o 223 _ rfl)) (fr_r (Fw_w (Fw_w (Fw_w (Fw_w h_o (fr_r h_o rfl (rr_217_14 hg_o)) (hU_o 223 _ rfl)) (fr_r (Fw_w h_o (fr_r h_o rfl (rr_217_14 hg_o)) (hU_o 223 _ rfl)) rfl (rr_217_14 hg_o)) (hU_o 223 _ rfl)) (fr_r (Fw_w (Fw_w h_o (fr_r h_o rfl (rr_217_14 hg_o)) (hU_o 223 _ rfl)) (fr_r (Fw_w h_o (fr_r h_o rfl (rr_217_14 hg_o)) (hU_o 223 _ rfl)) rfl (rr_217_14 hg_o)) (hU_o 223 _ rfl)) rfl (rr_217_14 hg_o)) (hU_o 223 _ rfl)) (fr_r (Fw_w (Fw_w (Fw_w h_o (fr_r h_o rfl (rr_217_14 hg_o)) (hU_o 223 _ rfl)) (fr_r (Fw_w h_o (fr_r h_o rfl (rr_217_14 hg_o)) (hU_o 223 _ rfl)) rfl (rr_217_14 hg_o)) (hU_o 223 _ rfl)) (fr_r (Fw_w (Fw_w h_o (fr_r h_o rfl (rr_217_14 hg_o)) (hU_o 223 _ rfl)) (fr_r (Fw_w h_o (fr_r h_o rfl (rr_217_14 hg_o)) (hU_o 223 _ rfl)) rfl (rr_217_14 hg_o)) (hU_o 223 _ rfl)) rfl (rr_217_14 hg_o)) (hU_o 223 _ rfl)) rfl (rr_217_14 hg_o)) (hU_o 223 _ rfl)) rfl (rr_217_14 hg_o)) (hU_o 223 _ rfl)) (fr_r (Fw_w (Fw_w (Fw_w (Fw_w (Fw_w h_o (fr_r h_o rfl (rr_217_14 hg_o)) (hU_o 223 _ rfl)) (fr_r (Fw_w h_o (fr_r h_o rfl (rr_217_14 hg_o)) (hU_o 223 _ rfl)) rfl (rr_217_14 hg_o)) (hU_o 223 _ rfl)) (fr_r (Fw_w (Fw_w h_o (fr_r h_o rfl (rr_217_14 hg_o)) (hU_o 223 _ rfl)) (fr_r (Fw_w h_o (fr_r h_o rfl (rr_217_14 hg_o)) (hU_o 223 _ rfl)) rfl (rr_217_14 hg_o)) (hU_o 223 _ rfl)) rfl (rr_217_14 hg_o)) (hU_o 223 _ rfl)) (fr_r (Fw_w (Fw_w (Fw_w h_o (fr_r h_o rfl (rr_217_14 hg_o)) (hU_o 223 _ rfl)) (fr_r (Fw_w h_o (fr_r h_o rfl (rr_217_14 hg_o)) (hU_o 223 _ rfl)) rfl (rr_217_14 hg_o)) (hU_o 223 _ rfl)) (fr_r (Fw_w (Fw_w h_o (fr_r h_o rfl (rr_217_14 hg_o)) (hU_o 223 _ rfl)) (fr_r (Fw_w h_o (fr_r h_o rfl (rr_217_14 hg_o)) (hU_o 223 _ rfl)) rfl (rr_217_14 hg_o)) (hU_o 223 _ rfl)) rfl (rr_217_14 hg_o)) (hU_o 223 _ rfl)) rfl (rr_217_14 hg_o)) (hU_o 223 _ rfl)) (fr_r (Fw_w (Fw_w (Fw_w (Fw_w h_o (fr_r h_o rfl (rr_217_14 hg_o)) (hU_o 223 _ rfl)) (fr_r (Fw_w h_o (fr_r h_o rfl (rr_217_14 hg_o)) (hU_o 223 _ rfl)) rfl (rr_217_14 hg_o)) (hU_o 223 _ rfl)) (fr_r (Fw_w (Fw_w h_o (fr_r h_o rfl (rr_217_14 hg_o)) (hU_o 223 _ rfl)) (fr_r (Fw_w h_o (fr_r h_o rfl (rr_217_14 hg_o)) (hU_o 223 _ rfl)) rfl (rr_217_14 hg_o)) (hU_o 223 _ rfl)) rfl (rr_217_14 hg_o)) (hU_o 223 _ rfl)) (fr_r (Fw_w (Fw_w (Fw_w h_o (fr_r h_o rfl (rr_217_14 hg_o)) (hU_o 223 _ rfl)) (fr_r (Fw_w h_o (fr_r h_o rfl (rr_217_14 hg_o)) (hU_o 223 _ rfl)) rfl (rr_217_14 hg_o)) (hU_o 223 _ rfl)) (fr_r (Fw_w (Fw_w h_o (fr_r h_o rfl (rr_217_14 hg_o)) (hU_o 223 _ rfl)) (fr_r (Fw_w h_o (fr_r h_o rfl (rr_217_14 hg_o)) (hU_o 223 _ rfl)) rfl (rr_217_14 hg_o)) (hU_o 223 _ rfl)) rfl (rr_217_14 hg_o)) (hU_o 223 _ rfl)) rfl (rr_217_14 hg_o)) (hU_o 223 _ rfl)) rfl (rr_217_14 hg_o)) (hU_o 223 _ rfl)) rfl (rr_217_14 hg_o)) (hU_o 223 _ rfl)) rfl (rr_217_14 hg_o)) (hU_o 223 _ rfl)) rfl (hU_o 217 _ rfl)) rfl (hU_o 217 _ rfl)) rfl (hU_o 217 _ rfl)) rfl (hU_o 217 _ rfl)) rfl (hU_o 217 _ rfl)) rfl (hU_o 217 _ rfl)) rfl (hU_o 217 _ rfl)) rfl (hU_o 217 _ rfl))) (fun v17 s16 h747_o => ?_)
        exact gQ_ret (Fw_w h747_o rfl (hU_o 217 _ rfl))

theorem om_198 {W : Nat → Nat → Bool} {g s : gS} {a0 : Nat} {a1 : Int} (hg_o : RF g) (hU_o : ∀ a k, mss a k = true → W a k = true) (ea0_o : a0 = 217) (h_o : Fw W g s) : gQ (f_198 a0 a1 s) (fun r => Fw W g r.2.2.2) := by
  subst ea0_o
  unfold f_198
  refine gQ_v1 (A := Fw W g) (om_156 hg_o hU_o rfl h_o) (fun v2 s1_l h748_o => ?_)
  refine gQ_v1 (A := Fw W g) (om_156 hg_o hU_o rfl h748_o) (fun v4_l s3_l h749_o => ?_)
  refine gQ_v1 (A := Fw W g) (om_156 hg_o hU_o rfl h749_o) (fun v6 s5 h750_o => ?_)
  refine gQ_v1 (A := Fw W g) (om_156 hg_o hU_o rfl h750_o) (fun v8 s7 h751_o => ?_)
  refine gQ_v1 (A := Fw W g) (om_197 hg_o hU_o rfl h751_o) (fun v10 s9 h752_o => ?_)
  exact gQ_ret h752_o

theorem om_199 {W : Nat → Nat → Bool} {g s : gS} {a0 : Nat} {a1 : Int} (hg_o : RF g) (hU_o : ∀ a k, msd a k = true → W a k = true) (ea0_o : a0 = 217) (h_o : Fw W g s) : gQ (f_199 a0 a1 s) (fun r => Fw W g r.2.2.2) := by
  subst ea0_o
  unfold f_199
  dsimp only
  refine gQ_ite ?_ ?_
  · exact gQ_none
  · exact gQ_ret (Fw_w h_o (fr_r h_o rfl (rr_217_1 hg_o)) (hU_o 218 _ rfl))

theorem om_200 {W : Nat → Nat → Bool} {g s : gS} {a0 : Nat} {a1 : Int} (hg_o : RF g) (hU_o : ∀ a k, msd a k = true → W a k = true) (ea0_o : a0 = 217) (h_o : Fw W g s) : gQ (f_200 a0 a1 s) (fun r => Fw W g r.2.2.2) := by
  subst ea0_o
  unfold f_200
  dsimp only
  refine gQ_v1 (A := Fw W g) (om_151 hg_o (mqd_o hU_o)  h_o) (fun v2 s1_l h753_o => ?_)
  refine gQ_v1 (A := Fw W g) (om_151 hg_o (mqd_o hU_o)  (Fw_w h753_o (fr_r h753_o rfl (rr_217_1 hg_o)) (hU_o 218 _ rfl))) (fun v5 s4_l h754_o => ?_)
  exact gQ_ret (Fw_w h754_o (fr_r (Fw_w h753_o (fr_r h753_o rfl (rr_217_1 hg_o)) (hU_o 218 _ rfl)) rfl (rr_217_1 hg_o)) (hU_o 218 _ rfl))

theorem om_196 {W : Nat → Nat → Bool} {g s : gS} {a0 : Nat} (hg_o : RF g) (hU_o : ∀ a k, mss a k = true → W a k = true) (ea0_o : a0 = 217) (h_o : Fw W g s) : gQ (f_196 a0 s) (fun r => Fw W g r.2.2.2) := by
  subst ea0_o
  unfold f_196
  dsimp only
  exact gQ_ret (Fw_w h_o rfl (hU_o 217 _ rfl))

theorem om_203 {W : Nat → Nat → Bool} {g s : gS} {a0 : Nat} {a1 : Int} {a2 : Int} (hg_o : RF g) (hU_o : ∀ a k, mss a k = true → W a k = true) (ea0_o : a0 = 217) (h_o : Fw W g s) : gQ (f_203 a0 a1 a2 s) (fun r => Fw W g r.2.2.2) := by
  subst ea0_o
  unfold f_203
  refine gQ_v1 (A := Fw W g) (om_161 hg_o hU_o rfl h_o) (fun v2 s1_l h755_o => ?_)
  refine gQ_ite ?_ ?_
  · unfold fb_203_27
    dsimp only
    refine gQ_ite ?_ ?_
    · exact gQ_ret (Fw_w h755_o rfl (hU_o 217 _ rfl))
    · refine gQ_ite ?_ ?_
      · refine gQ_v1 (A := Fw W g) (om_155 hg_o hU_o rfl (Fw_w h755_o rfl (hU_o 217 _ rfl))) (fun v6 s5 h756_o => ?_)
        exact gQ_ret h756_o
      · refine gQ_loop (fun y_l => y_l.1 = 217 ∧ Fw W g (y_l.2.2.2.2)) (fun y_l hy_o => ?_) ⟨rfl, (Fw_w h755_o rfl (hU_o 217 _ rfl))⟩
        obtain ⟨x757_o, x758_o, x759_o, x760_o, x761_o⟩ := y_l
        obtain ⟨e763_o, h762_o⟩ := hy_o
        dsimp only at e763_o h762_o
        subst e763_o
        show gQ (sb_203_56 217 x758_o x759_o x760_o x761_o) _
        unfold sb_203_56
        dsimp only
        refine gQ_ite ?_ ?_
        · refine gQ_v1 (A := Fw W g) (om_160 hg_o hU_o rfl h762_o) (fun v8 s7 h764_o => ?_)
          refine gQ_v1 (A := Fw W g) (om_153 hg_o hU_o  h764_o) (fun v10 s9 h765_o => ?_)
          refine gQ_ite ?_ ?_
          · exact gQ_ret ⟨rfl, h765_o⟩
          · exact gQ_ret ⟨rfl, h765_o⟩
        · refine gQ_map ?_
          exact gQ_ret h762_o
  · refine gQ_v1 (A := Fw W g) (om_150 hg_o hU_o  h755_o) (fun v14 s13 h766_o => ?_)
    refine gQ_ite ?_ ?_
    · unfold fb_203_27
      dsimp only
      refine gQ_ite ?_ ?_
      · exact gQ_ret (Fw_w h766_o rfl (hU_o 217 _ rfl))
      · refine gQ_ite ?_ ?_
        · refine gQ_v1 (A := Fw W g) (om_155 hg_o hU_o rfl (Fw_w h766_o rfl (hU_o 217 _ rfl))) (fun v6 s5 h767_o => ?_)
          exact gQ_ret h767_o
        · refine gQ_loop (fun y_l => y_l.1 = 217 ∧ Fw W g (y_l.2.2.2.2)) (fun y_l hy_o => ?_) ⟨rfl, (Fw_w h766_o rfl (hU_o 217 _ rfl))⟩
          obtain ⟨x768_o, x769_o, x770_o, x771_o, x772_o⟩ := y_l
          obtain ⟨e774_o, h773_o⟩ := hy_o
          dsimp only at e774_o h773_o
          subst e774_o
          show gQ (sb_203_56 217 x769_o x770_o x771_o x772_o) _
          unfold sb_203_56
          dsimp only
          refine gQ_ite ?_ ?_
          · refine gQ_v1 (A := Fw W g) (om_160 hg_o hU_o rfl h773_o) (fun v8 s7 h775_o => ?_)
            refine gQ_v1 (A := Fw W g) (om_153 hg_o hU_o  h775_o) (fun v10 s9 h776_o => ?_)
            refine gQ_ite ?_ ?_
            · exact gQ_ret ⟨rfl, h776_o⟩
            · exact gQ_ret ⟨rfl, h776_o⟩
          · refine gQ_map ?_
            exact gQ_ret h773_o
    · unfold fb_203_27
      dsimp only
      refine gQ_ite ?_ ?_
      · exact gQ_ret (Fw_w h766_o rfl (hU_o 217 _ rfl))
      · refine gQ_ite ?_ ?_
        · refine gQ_v1 (A := Fw W g) (om_155 hg_o hU_o rfl (Fw_w h766_o rfl (hU_o 217 _ rfl))) (fun v6 s5 h777_o => ?_)
          exact gQ_ret h777_o
        · refine gQ_loop (fun y_l => y_l.1 = 217 ∧ Fw W g (y_l.2.2.2.2)) (fun y_l hy_o => ?_) ⟨rfl, (Fw_w h766_o rfl (hU_o 217 _ rfl))⟩
          obtain ⟨x778_o, x779_o, x780_o, x781_o, x782_o⟩ := y_l
          obtain ⟨e784_o, h783_o⟩ := hy_o
          dsimp only at e784_o h783_o
          subst e784_o
          show gQ (sb_203_56 217 x779_o x780_o x781_o x782_o) _
          unfold sb_203_56
          dsimp only
          refine gQ_ite ?_ ?_
          · refine gQ_v1 (A := Fw W g) (om_160 hg_o hU_o rfl h783_o) (fun v8 s7 h785_o => ?_)
            refine gQ_v1 (A := Fw W g) (om_153 hg_o hU_o  h785_o) (fun v10 s9 h786_o => ?_)
            refine gQ_ite ?_ ?_
            · exact gQ_ret ⟨rfl, h786_o⟩
            · exact gQ_ret ⟨rfl, h786_o⟩
          · refine gQ_map ?_
            exact gQ_ret h783_o

theorem om_204 {W : Nat → Nat → Bool} {g s : gS} {a0 : Nat} {a1 : Int} {a2 : Int} (hg_o : RF g) (hU_o : ∀ a k, mss a k = true → W a k = true) (ea0_o : a0 = 217) (h_o : Fw W g s) : gQ (f_204 a0 a1 a2 s) (fun r => Fw W g r.2.2.2) := by
  subst ea0_o
  unfold f_204
  refine gQ_v1 (A := Fw W g) (om_156 hg_o hU_o rfl h_o) (fun v2 s1_l h787_o => ?_)
  refine gQ_loop (fun y_l => y_l.1 = 217 ∧ Fw W g (y_l.2.2.2.2)) (fun y_l hy_o => ?_) ⟨rfl, h787_o⟩
  obtain ⟨x788_o, x789_o, x790_o, x791_o, x792_o⟩ := y_l
  obtain ⟨e794_o, h793_o⟩ := hy_o
  dsimp only at e794_o h793_o
  subst e794_o
  show gQ (sb_204_10 217 x789_o x790_o x791_o x792_o) _
  unfold sb_204_10
  refine gQ_ite ?_ ?_
  · refine gQ_v1 (A := Fw W g) (om_155 hg_o hU_o rfl h793_o) (fun v4_l s3_l h795_o => ?_)
    exact gQ_ret ⟨rfl, h795_o⟩
  · refine gQ_map ?_
    exact gQ_ret h793_o

theorem om_205 {W : Nat → Nat → Bool} {g s : gS} {a0 : Nat} {a1 : Int} (hg_o : RF g) (hU_o : ∀ a k, mss a k = true → W a k = true) (ea0_o : a0 = 217) (h_o : Fw W g s) : gQ (f_205 a0 a1 s) (fun r => Fw W g r.2.2.2) := by
  subst ea0_o
  unfold f_205
  refine gQ_v1 (A := Fw W g) (om_204 hg_o hU_o rfl h_o) (fun v2 s1_l h796_o => ?_)
  refine gQ_v1 (A := Fw W g) (om_156 hg_o hU_o rfl h796_o) (fun v4_l s3_l h797_o => ?_)
  refine gQ_ite ?_ ?_
  · refine gQ_v1 (A := Fw W g) (om_156 hg_o hU_o rfl h797_o) (fun v6 s5 h798_o => ?_)
    refine gQ_v1 (A := Fw W g) (om_155 hg_o hU_o rfl h798_o) (fun v8 s7 h799_o => ?_)
    exact gQ_ret h799_o
  · exact gQ_ret h797_o

theorem om_206 {W : Nat → Nat → Bool} {g s : gS} {a0 : Nat} {a1 : Int} {a2 : Int} (hg_o : RF g) (hU_o : ∀ a k, mss a k = true → W a k = true) (ea0_o : a0 = 217) (h_o : Fw W g s) : gQ (f_206 a0 a1 a2 s) (fun r => Fw W g r.2.2.2) := by
  subst ea0_o
  unfold f_206
  refine gQ_v1 (A := Fw W g) (om_162 hg_o hU_o rfl h_o) (fun v2 s1_l h800_o => ?_)
  refine gQ_ite ?_ ?_
  · unfold fb_206_28
    dsimp only
    refine gQ_ite ?_ ?_
    · exact gQ_ret (Fw_w h800_o rfl (hU_o 217 _ rfl))
    · refine gQ_ite ?_ ?_
      · refine gQ_v1 (A := Fw W g) (om_156 hg_o hU_o rfl (Fw_w h800_o rfl (hU_o 217 _ rfl))) (fun v6 s5 h801_o => ?_)
        exact gQ_ret h801_o
      · refine gQ_ite ?_ ?_
        · refine gQ_v1 (A := Fw W g) (om_198 hg_o hU_o rfl (Fw_w h800_o rfl (hU_o 217 _ rfl))) (fun v8 s7 h802_o => ?_)
          exact gQ_ret h802_o
        · refine gQ_ite ?_ ?_
          · refine gQ_v1 (A := Fw W g) (om_205 hg_o hU_o rfl (Fw_w h800_o rfl (hU_o 217 _ rfl))) (fun v10 s9 h803_o => ?_)
            exact gQ_ret h803_o
          · refine gQ_ite ?_ ?_
            · refine gQ_v1 (A := Fw W g) (om_204 hg_o hU_o rfl (Fw_w h800_o rfl (hU_o 217 _ rfl))) (fun v12 s11 h804_o => ?_)
              refine gQ_v1 (A := Fw W g) (om_156 hg_o hU_o rfl h804_o) (fun v14 s13 h805_o => ?_)
              exact gQ_ret h805_o
            · refine gQ_v1 (A := Fw W g) (om_204 hg_o hU_o rfl (Fw_w h800_o rfl (hU_o 217 _ rfl))) (fun v16 s15 h806_o => ?_)
              refine gQ_v1 (A := Fw W g) (om_205 hg_o hU_o rfl h806_o) (fun v18 s17 h807_o => ?_)
              exact gQ_ret h807_o
  · refine gQ_v1 (A := Fw W g) (om_150 hg_o hU_o  h800_o) (fun v20 s19 h808_o => ?_)
    refine gQ_ite ?_ ?_
    · unfold fb_206_28
      dsimp only
      refine gQ_ite ?_ ?_
      · exact gQ_ret (Fw_w h808_o rfl (hU_o 217 _ rfl))
      · refine gQ_ite ?_ ?_
        · refine gQ_v1 (A := Fw W g) (om_156 hg_o hU_o rfl (Fw_w h808_o rfl (hU_o 217 _ rfl))) (fun v6 s5 h809_o => ?_)
          exact gQ_ret h809_o
        · refine gQ_ite ?_ ?_
          · refine gQ_v1 (A := Fw W g) (om_198 hg_o hU_o rfl (Fw_w h808_o rfl (hU_o 217 _ rfl))) (fun v8 s7 h810_o => ?_)
            exact gQ_ret h810_o
          · refine gQ_ite ?_ ?_
            · refine gQ_v1 (A := Fw W g) (om_205 hg_o hU_o rfl (Fw_w h808_o rfl (hU_o 217 _ rfl))) (fun v10 s9 h811_o => ?_)
              exact gQ_ret h811_o
            · refine gQ_ite ?_ ?_
              · refine gQ_v1 (A := Fw W g) (om_204 hg_o hU_o rfl (Fw_w h808_o rfl (hU_o 217 _ rfl))) (fun v12 s11 h812_o => ?_)
                refine gQ_v1 (A := Fw W g) (om_156 hg_o hU_o rfl h812_o) (fun v14 s13 h813_o => ?_)
                exact gQ_ret h813_o
              · refine gQ_v1 (A := Fw W g) (om_204 hg_o hU_o rfl (Fw_w h808_o rfl (hU_o 217 _ rfl))) (fun v16 s15 h814_o => ?_)
                refine gQ_v1 (A := Fw W g) (om_205 hg_o hU_o rfl h814_o) (fun v18 s17 h815_o => ?_)
                exact gQ_ret h815_o
    · unfold fb_206_28
      dsimp only
      refine gQ_ite ?_ ?_
      · exact gQ_ret (Fw_w h808_o rfl (hU_o 217 _ rfl))
      · refine gQ_ite ?_ ?_
        · refine gQ_v1 (A := Fw W g) (om_156 hg_o hU_o rfl (Fw_w h808_o rfl (hU_o 217 _ rfl))) (fun v6 s5 h816_o => ?_)
          exact gQ_ret h816_o
        · refine gQ_ite ?_ ?_
          · refine gQ_v1 (A := Fw W g) (om_198 hg_o hU_o rfl (Fw_w h808_o rfl (hU_o 217 _ rfl))) (fun v8 s7 h817_o => ?_)
            exact gQ_ret h817_o
          · refine gQ_ite ?_ ?_
            · refine gQ_v1 (A := Fw W g) (om_205 hg_o hU_o rfl (Fw_w h808_o rfl (hU_o 217 _ rfl))) (fun v10 s9 h818_o => ?_)
              exact gQ_ret h818_o
            · refine gQ_ite ?_ ?_
              · refine gQ_v1 (A := Fw W g) (om_204 hg_o hU_o rfl (Fw_w h808_o rfl (hU_o 217 _ rfl))) (fun v12 s11 h819_o => ?_)
                refine gQ_v1 (A := Fw W g) (om_156 hg_o hU_o rfl h819_o) (fun v14 s13 h820_o => ?_)
                exact gQ_ret h820_o
              · refine gQ_v1 (A := Fw W g) (om_204 hg_o hU_o rfl (Fw_w h808_o rfl (hU_o 217 _ rfl))) (fun v16 s15 h821_o => ?_)
                refine gQ_v1 (A := Fw W g) (om_205 hg_o hU_o rfl h821_o) (fun v18 s17 h822_o => ?_)
                exact gQ_ret h822_o

theorem om_207 {W : Nat → Nat → Bool} {g s : gS} {a0 : Nat} {a1 : Int} {a2 : Int} (hg_o : RF g) (hU_o : ∀ a k, mss a k = true → W a k = true) (ea0_o : a0 = 217) (h_o : Fw W g s) : gQ (f_207 a0 a1 a2 s) (fun r => Fw W g r.2.2.2) := by
  subst ea0_o
  unfold f_207
  refine gQ_v1 (A := Fw W g) (om_163 hg_o hU_o rfl h_o) (fun v2 s1_l h823_o => ?_)
  refine gQ_ite ?_ ?_
  · unfold fb_207_14
    dsimp only
    refine gQ_ite ?_ ?_
    · exact gQ_ret (Fw_w h823_o rfl (hU_o 217 _ rfl))
    · refine gQ_ite ?_ ?_
      · refine gQ_v1 (A := Fw W g) (om_158 hg_o hU_o rfl (Fw_w h823_o rfl (hU_o 217 _ rfl))) (fun v6 s5 h824_o => ?_)
        exact gQ_ret h824_o
      · refine gQ_v1 (A := Fw W g) (om_159 hg_o hU_o rfl (Fw_w h823_o rfl (hU_o 217 _ rfl))) (fun v8 s7 h825_o => ?_)
        exact gQ_ret h825_o
  · unfold fb_207_14
    dsimp only
    refine gQ_ite ?_ ?_
    · exact gQ_ret (Fw_w h823_o rfl (hU_o 217 _ rfl))
    · refine gQ_ite ?_ ?_
      · refine gQ_v1 (A := Fw W g) (om_158 hg_o hU_o rfl (Fw_w h823_o rfl (hU_o 217 _ rfl))) (fun v6 s5 h826_o => ?_)
        exact gQ_ret h826_o
      · refine gQ_v1 (A := Fw W g) (om_159 hg_o hU_o rfl (Fw_w h823_o rfl (hU_o 217 _ rfl))) (fun v8 s7 h827_o => ?_)
        exact gQ_ret h827_o

theorem om_208 {W : Nat → Nat → Bool} {g s : gS} {a0 : Nat} {a1 : Int} {a2 : Int} (hg_o : RF g) (hU_o : ∀ a k, mss a k = true → W a k = true) (ea0_o : a0 = 217) (h_o : Fw W g s) : gQ (f_208 a0 a1 a2 s) (fun r => Fw W g r.2.2.2) := by
  subst ea0_o
  unfold f_208
  refine gQ_v1 (A := Fw W g) (om_164 hg_o hU_o rfl h_o) (fun v2 s1_l h828_o => ?_)
  refine gQ_ite ?_ ?_
  · unfold fb_208_14
    dsimp only
    refine gQ_ite ?_ ?_
    · exact gQ_ret (Fw_w h828_o rfl (hU_o 217 _ rfl))
    · refine gQ_ite ?_ ?_
      · unfold fb_208_39
        refine gQ_v1 (A := Fw W g) (om_160 hg_o hU_o rfl (Fw_w h828_o rfl (hU_o 217 _ rfl))) (fun v6 s5 h829_o => ?_)
        exact gQ_ret h829_o
      · unfold fb_208_39
        refine gQ_v1 (A := Fw W g) (om_160 hg_o hU_o rfl (Fw_w h828_o rfl (hU_o 217 _ rfl))) (fun v6 s5 h830_o => ?_)
        exact gQ_ret h830_o
  · unfold fb_208_14
    dsimp only
    refine gQ_ite ?_ ?_
    · exact gQ_ret (Fw_w h828_o rfl (hU_o 217 _ rfl))
    · refine gQ_ite ?_ ?_
      · unfold fb_208_39
        refine gQ_v1 (A := Fw W g) (om_160 hg_o hU_o rfl (Fw_w h828_o rfl (hU_o 217 _ rfl))) (fun v6 s5 h831_o => ?_)
        exact gQ_ret h831_o
      · unfold fb_208_39
        refine gQ_v1 (A := Fw W g) (om_160 hg_o hU_o rfl (Fw_w h828_o rfl (hU_o 217 _ rfl))) (fun v6 s5 h832_o => ?_)
        exact gQ_ret h832_o

theorem om_212 {W : Nat → Nat → Bool} {g s : gS} {a0 : Nat} {a1 : Int} {a2 : Int} (hg_o : RF g) (hU_o : ∀ a k, mss a k = true → W a k = true) (ea0_o : a0 = 217) (h_o : Fw W g s) : gQ (f_212 a0 a1 a2 s) (fun r => Fw W g r.2.2.2) := by
  subst ea0_o
  unfold f_212
  refine gQ_v1 (A := Fw W g) (om_159 hg_o hU_o rfl h_o) (fun v2 s1_l h833_o => ?_)
  refine gQ_ite ?_ ?_
  · exact gQ_ret h833_o
  · exact gQ_ret h833_o

theorem om_231 {W : Nat → Nat → Bool} {g s : gS} {a0 : Nat} {a1 : Int} (hg_o : RF g) (hU_o : ∀ a k, mss a k = true → W a k = true) (ea0_o : a0 = 217) (h_o : Fw W g s) : gQ (f_231 a0 a1 s) (fun r => Fw W g r.2.2.2) := by
  subst ea0_o
  unfold f_231
  refine gQ_loop (fun y_l => y_l.1 = 217 ∧ Fw W g (y_l.2.2.2.2)) (fun y_l hy_o => ?_) ⟨rfl, h_o⟩
  obtain ⟨x834_o, x835_o, x836_o, x837_o, x838_o⟩ := y_l
  obtain ⟨e840_o, h839_o⟩ := hy_o
  dsimp only at e840_o h839_o
  subst e840_o
  show gQ (sb_231_4 217 x835_o x836_o x837_o x838_o) _
  unfold sb_231_4
  refine gQ_ite ?_ ?_
  · refine gQ_v1 (A := Fw W g) (om_153 hg_o hU_o  h839_o) (fun v2 s1_l h841_o => ?_)
    refine gQ_ite ?_ ?_
    · exact gQ_ret ⟨rfl, h841_o⟩
    · refine gQ_v1 (A := Fw W g) (om_159 hg_o hU_o rfl h841_o) (fun v5 s4_l h842_o => ?_)
      exact gQ_ret ⟨rfl, h842_o⟩
  · refine gQ_map ?_
    exact gQ_ret h839_o

theorem om_232 {W : Nat → Nat → Bool} {g s : gS} {a0 : Nat} {a1 : Int} (hg_o : RF g) (hU_o : ∀ a k, mss a k = true → W a k = true) (ea0_o : a0 = 217) (h_o : Fw W g s) : gQ (f_232 a0 a1 s) (fun r => Fw W g r.2.2.2) := by
  subst ea0_o
  unfold f_232
  refine gQ_loop (fun y_l => y_l.1 = 217 ∧ Fw W g (y_l.2.2.2.2)) (fun y_l hy_o => ?_) ⟨rfl, h_o⟩
  obtain ⟨x843_o, x844_o, x845_o, x846_o, x847_o⟩ := y_l
  obtain ⟨e849_o, h848_o⟩ := hy_o
  dsimp only at e849_o h848_o
  subst e849_o
  show gQ (sb_232_4 217 x844_o x845_o x846_o x847_o) _
  unfold sb_232_4
  refine gQ_ite ?_ ?_
  · refine gQ_v1 (A := Fw W g) (om_153 hg_o hU_o  h848_o) (fun v2 s1_l h850_o => ?_)
    refine gQ_ite ?_ ?_
    · exact gQ_ret ⟨rfl, h850_o⟩
    · refine gQ_v1 (A := Fw W g) (om_158 hg_o hU_o rfl h850_o) (fun v5 s4_l h851_o => ?_)
      exact gQ_ret ⟨rfl, h851_o⟩
  · refine gQ_map ?_
    exact gQ_ret h848_o

theorem om_233 {W : Nat → Nat → Bool} {g s : gS} {a0 : Nat} {a1 : Int} {a2 : Int} (hg_o : RF g) (hU_o : ∀ a k, mss a k = true → W a k = true) (ea0_o : a0 = 217) (h_o : Fw W g s) : gQ (f_233 a0 a1 a2 s) (fun r => Fw W g r.2.2.2) := by
  subst ea0_o
  unfold f_233
  refine gQ_v1 (A := Fw W g) (om_162 hg_o hU_o rfl h_o) (fun v2 s1_l h852_o => ?_)
  refine gQ_ite ?_ ?_
  · unfold fb_233_14
    dsimp only
    refine gQ_ite ?_ ?_
    · refine gQ_v1 (A := Fw W g) (om_156 hg_o hU_o rfl (Fw_w h852_o rfl (hU_o 217 _ rfl))) (fun v6 s5 h853_o => ?_)
      refine gQ_v1 (A := Fw W g) (om_231 hg_o hU_o rfl h853_o) (fun v8 s7 h854_o => ?_)
      refine gQ_ite ?_ ?_
      · exact gQ_ret h854_o
      · unfold fb_233_45
        exact gQ_ret h854_o
    · unfold fb_233_45
      exact gQ_ret (Fw_w h852_o rfl (hU_o 217 _ rfl))
  · unfold fb_233_14
    dsimp only
    refine gQ_ite ?_ ?_
    · refine gQ_v1 (A := Fw W g) (om_156 hg_o hU_o rfl (Fw_w h852_o rfl (hU_o 217 _ rfl))) (fun v6 s5 h855_o => ?_)
      refine gQ_v1 (A := Fw W g) (om_231 hg_o hU_o rfl h855_o) (fun v8 s7 h856_o => ?_)
      refine gQ_ite ?_ ?_
      · exact gQ_ret h856_o
      · unfold fb_233_45
        exact gQ_ret h856_o
    · unfold fb_233_45
      exact gQ_ret (Fw_w h852_o rfl (hU_o 217 _ rfl))

theorem om_234 {W : Nat → Nat → Bool} {g s : gS} {a0 : Nat} {a1 : Int} {a2 : Int} (hg_o : RF g) (hU_o : ∀ a k, mss a k = true → W a k = true) (ea0_o : a0 = 217) (h_o : Fw W g s) : gQ (f_234 a0 a1 a2 s) (fun r => Fw W g r.2.2.2) := by
  subst ea0_o
  unfold f_234
  refine gQ_loop (fun y_l => y_l.1 = 217 ∧ Fw W g (y_l.2.2.2.2.2)) (fun y_l hy_o => ?_) ⟨rfl, h_o⟩
  obtain ⟨x857_o, x858_o, x859_o, x860_o, x861_o, x862_o⟩ := y_l
  obtain ⟨e864_o, h863_o⟩ := hy_o
  dsimp only at e864_o h863_o
  subst e864_o
  show gQ (sb_234_5 217 x858_o x859_o x860_o x861_o x862_o) _
  unfold sb_234_5
  refine gQ_ite ?_ ?_
  · refine gQ_v1 (A := Fw W g) (om_156 hg_o hU_o rfl h863_o) (fun v2 s1_l h865_o => ?_)
    refine gQ_v1 (A := Fw W g) (om_231 hg_o hU_o rfl h865_o) (fun v4_l s3_l h866_o => ?_)
    refine gQ_ite ?_ ?_
    · refine gQ_ite ?_ ?_
      · unfold fb_234_77
        exact gQ_ret ⟨rfl, h866_o⟩
      · refine gQ_ite ?_ ?_
        · refine gQ_v1 (A := Fw W g) (om_232 hg_o hU_o rfl h866_o) (fun v6 s5 h867_o => ?_)
          refine gQ_v1 (A := Fw W g) (om_232 hg_o hU_o rfl h867_o) (fun v8 s7 h868_o => ?_)
          refine gQ_ite ?_ ?_
          · unfold fb_234_77
            exact gQ_ret ⟨rfl, h868_o⟩
          · exact gQ_ret ⟨rfl, h868_o⟩
        · refine gQ_v1 (A := Fw W g) (om_154 hg_o hU_o  h866_o) (fun v10 s9 h869_o => ?_)
          refine gQ_v1 (A := Fw W g) (om_154 hg_o hU_o  h869_o) (fun v12 s11 h870_o => ?_)
          refine gQ_ite ?_ ?_
          · unfold fb_234_77
            exact gQ_ret ⟨rfl, h870_o⟩
          · exact gQ_ret ⟨rfl, h870_o⟩
    · exact gQ_ret ⟨rfl, h866_o⟩
  · refine gQ_map ?_
    exact gQ_ret h863_o

theorem om_235 {W : Nat → Nat → Bool} {g s : gS} {a0 : Nat} {a1 : Int} (hg_o : RF g) (hU_o : ∀ a k, mss a k = true → W a k = true) (ea0_o : a0 = 217) (h_o : Fw W g s) : gQ (f_235 a0 a1 s) (fun r => Fw W g r.2.2.2) := by
  subst ea0_o
  unfold f_235
  refine gQ_v1 (A := Fw W g) (om_162 hg_o hU_o rfl h_o) (fun v2 s1_l h871_o => ?_)
  refine gQ_ite ?_ ?_
  · unfold fb_235_14
    dsimp only
    refine gQ_ite ?_ ?_
    · exact gQ_ret (Fw_w h871_o rfl (hU_o 217 _ rfl))
    · refine gQ_v1 (A := Fw W g) (om_234 hg_o hU_o rfl (Fw_w h871_o rfl (hU_o 217 _ rfl))) (fun v6 s5 h872_o => ?_)
      exact gQ_ret h872_o
  · unfold fb_235_14
    dsimp only
    refine gQ_ite ?_ ?_
    · exact gQ_ret (Fw_w h871_o rfl (hU_o 217 _ rfl))
    · refine gQ_v1 (A := Fw W g) (om_234 hg_o hU_o rfl (Fw_w h871_o rfl (hU_o 217 _ rfl))) (fun v6 s5 h873_o => ?_)
      exact gQ_ret h873_o

theorem om_236 {W : Nat → Nat → Bool} {g s : gS} {a0 : Nat} {a1 : Int} {a2 : Int} (hg_o : RF g) (hU_o : ∀ a k, mss a k = true → W a k = true) (ea0_o : a0 = 217) (h_o : Fw W g s) : gQ (f_236 a0 a1 a2 s) (fun r => Fw W g r.2.2.2) := by
  subst ea0_o
  unfold f_236
  refine gQ_v1 (A := Fw W g) (om_162 hg_o hU_o rfl h_o) (fun v2 s1_l h874_o => ?_)
  refine gQ_ite ?_ ?_
  · unfold fb_236_14
    dsimp only
    refine gQ_ite ?_ ?_
    · exact gQ_ret (Fw_w h874_o rfl (hU_o 217 _ rfl))
    · refine gQ_v1 (A := Fw W g) (om_234 hg_o hU_o rfl (Fw_w h874_o rfl (hU_o 217 _ rfl))) (fun v6 s5 h875_o => ?_)
      refine gQ_ite ?_ ?_
      · unfold fb_236_50
        exact gQ_ret h875_o
      · refine gQ_ite ?_ ?_
        · unfold fb_236_50
          exact gQ_ret h875_o
        · refine gQ_v1 (A := Fw W g) (om_232 hg_o hU_o rfl h875_o) (fun v8 s7 h876_o => ?_)
          exact gQ_ret h876_o
  · unfold fb_236_14
    dsimp only
    refine gQ_ite ?_ ?_
    · exact gQ_ret (Fw_w h874_o rfl (hU_o 217 _ rfl))
    · refine gQ_v1 (A := Fw W g) (om_234 hg_o hU_o rfl (Fw_w h874_o rfl (hU_o 217 _ rfl))) (fun v6 s5 h877_o => ?_)
      refine gQ_ite ?_ ?_
      · unfold fb_236_50
        exact gQ_ret h877_o
      · refine gQ_ite ?_ ?_
        · unfold fb_236_50
          exact gQ_ret h877_o
        · refine gQ_v1 (A := Fw W g) (om_232 hg_o hU_o rfl h877_o) (fun v8 s7 h878_o => ?_)
          exact gQ_ret h878_o

theorem om_237 {W : Nat → Nat → Bool} {g s : gS} {a0 : Nat} {a1 : Int} (hg_o : RF g) (hU_o : ∀ a k, mss a k = true → W a k = true) (ea0_o : a0 = 217) (h_o : Fw W g s) : gQ (f_237 a0 a1 s) (fun r => Fw W g r.2.2.2) := by
  subst ea0_o
  unfold f_237
  refine gQ_v1 (A := Fw W g) (om_162 hg_o hU_o rfl h_o) (fun v2 s1_l h879_o => ?_)
  refine gQ_ite ?_ ?_
  · unfold fb_237_14
    dsimp only
    refine gQ_loop (fun y_l => y_l.1 = 217 ∧ Fw W g (y_l.2.2.2.2)) (fun y_l hy_o => ?_) ⟨rfl, (Fw_w h879_o rfl (hU_o 217 _ rfl))⟩
    obtain ⟨x880_o, x881_o, x882_o, x883_o, x884_o⟩ := y_l
    obtain ⟨e886_o, h885_o⟩ := hy_o
    dsimp only at e886_o h885_o
    subst e886_o
    show gQ (sb_237_21 217 x881_o x882_o x883_o x884_o) _
    unfold sb_237_21
    dsimp only
    refine gQ_ite ?_ ?_
    · refine gQ_ite ?_ ?_
      · refine gQ_v1 (A := Fw W g) (om_156 hg_o hU_o rfl h885_o) (fun v6 s5 h887_o => ?_)
        refine gQ_v1 (A := Fw W g) (om_212 hg_o hU_o rfl h887_o) (fun v8 s7 h888_o => ?_)
        refine gQ_ite ?_ ?_
        · exact gQ_ret ⟨rfl, h888_o⟩
        · exact gQ_ret ⟨rfl, h888_o⟩
      · refine gQ_map ?_
        exact gQ_ret h885_o
    · refine gQ_map ?_
      exact gQ_ret h885_o
  · unfold fb_237_14
    dsimp only
    refine gQ_loop (fun y_l => y_l.1 = 217 ∧ Fw W g (y_l.2.2.2.2)) (fun y_l hy_o => ?_) ⟨rfl, (Fw_w h879_o rfl (hU_o 217 _ rfl))⟩
    obtain ⟨x889_o, x890_o, x891_o, x892_o, x893_o⟩ := y_l
    obtain ⟨e895_o, h894_o⟩ := hy_o
    dsimp only at e895_o h894_o
    subst e895_o
    show gQ (sb_237_21 217 x890_o x891_o x892_o x893_o) _
    unfold sb_237_21
    dsimp only
    refine gQ_ite ?_ ?_
    · refine gQ_ite ?_ ?_
      · refine gQ_v1 (A := Fw W g) (om_156 hg_o hU_o rfl h894_o) (fun v6 s5 h896_o => ?_)
        refine gQ_v1 (A := Fw W g) (om_212 hg_o hU_o rfl h896_o) (fun v8 s7 h897_o => ?_)
        refine gQ_ite ?_ ?_
        · exact gQ_ret ⟨rfl, h897_o⟩
        · exact gQ_ret ⟨rfl, h897_o⟩
      · refine gQ_map ?_
        exact gQ_ret h894_o
    · refine gQ_map ?_
      exact gQ_ret h894_o

theorem om_238 {W : Nat → Nat → Bool} {g s : gS} {a0 : Nat} (hg_o : RF g) (hU_o : ∀ a k, mss a k = true → W a k = true) (ea0_o : a0 = 217) (h_o : Fw W g s) : gQ (f_238 a0 s) (fun r => Fw W g r.2.2.2) := by
  subst ea0_o
  unfold f_238
  dsimp only
  refine gQ_ite ?_ ?_
  · refine gQ_ite ?_ ?_
    · unfold fb_238_26
      unfold fb_238_27
      refine gQ_loop (fun y_l => y_l.1 = 217 ∧ Fw W g (y_l.2.2.2.2)) (fun y_l hy_o => ?_) ⟨rfl, (Fw_w h_o rfl (hU_o 217 _ rfl))⟩
      obtain ⟨x898_o, x899_o, x900_o, x901_o, x902_o⟩ := y_l
      obtain ⟨e904_o, h903_o⟩ := hy_o
      dsimp only at e904_o h903_o
      subst e904_o
      show gQ (sb_238_30 217 x899_o x900_o x901_o x902_o) _
      unfold sb_238_30
      refine gQ_ite ?_ ?_
      · refine gQ_ite ?_ ?_
        · refine gQ_map ?_
          unfold fb_238_76
          refine gQ_ite ?_ ?_
          · exact gQ_ret h903_o
          · refine gQ_loop (fun y_l => y_l.1 = 217 ∧ Fw W g (y_l.2.2.2.2)) (fun y_l hy_o => ?_) ⟨rfl, h903_o⟩
            obtain ⟨x905_o, x906_o, x907_o, x908_o, x909_o⟩ := y_l
            obtain ⟨e911_o, h910_o⟩ := hy_o
            dsimp only at e911_o h910_o
            subst e911_o
            show gQ (sb_238_87 217 x906_o x907_o x908_o x909_o) _
            unfold sb_238_87
            dsimp only
            refine gQ_ite ?_ ?_
            · refine gQ_chk2 (fun ha912_o hb913_o => ?_)
              refine gQ_bool ?_
              refine gQ_loop (fun y_l => y_l.1 = 217 ∧ Fw W g (y_l.2.2.2.2.2)) (fun y_l hy_o => ?_) ⟨rfl, (Fw_w h910_o (fr_r h910_o rfl (rr_217_23 hg_o)) (hU_o 229 _ rfl))⟩
              obtain ⟨x914_o, x915_o, x916_o, x917_o, x918_o, x919_o⟩ := y_l
              obtain ⟨e921_o, h920_o⟩ := hy_o
              dsimp only at e921_o h920_o
              subst e921_o
              show gQ (sb_238_105 217 x915_o x916_o x917_o x918_o x919_o) _
              unfold sb_238_105
              refine gQ_ite ?_ ?_
              · refine gQ_chk2 (fun ha922_o hb923_o => ?_)
                refine gQ_ite ?_ ?_
                · refine gQ_map ?_
                  unfold fb_238_173
                  refine gQ_chk2 (fun ha924_o hb925_o => ?_)
                  refine gQ_ite ?_ ?_
                  · exact gQ_ret ⟨rfl, h920_o⟩
                  · exact gQ_ret ⟨rfl, h920_o⟩
                · refine gQ_chk2 (fun ha926_o hb927_o => ?_)
                  refine gQ_v1 (A := Fw W g) (om_212 hg_o hU_o rfl h920_o) (fun v4_l s3_l h928_o => ?_)
                  refine gQ_chk2 (fun ha929_o hb930_o => ?_)
                  refine gQ_ite ?_ ?_
                  · unfold fb_238_158
                    dsimp only
                    refine gQ_ite ?_ ?_
                    · refine gQ_chk2 (fun ha931_o hb932_o => ?_)
                      refine gQ_bool ?_
                      exact gQ_ret ⟨rfl, (Fw_w h928_o (fr_r h920_o rfl (rr_217_23 hg_o)) (hU_o 229 _ rfl))⟩
                    · refine gQ_chk2 (fun ha933_o hb934_o => ?_)
                      refine gQ_bool ?_
                      exact gQ_ret ⟨rfl, (Fw_w h928_o (fr_r h920_o rfl (rr_217_23 hg_o)) (hU_o 229 _ rfl))⟩
                  · unfold fb_238_158
                    dsimp only
                    refine gQ_ite ?_ ?_
                    · refine gQ_chk2 (fun ha935_o hb936_o => ?_)
                      refine gQ_bool ?_
                      exact gQ_ret ⟨rfl, (Fw_w h928_o (fr_r h920_o rfl (rr_217_23 hg_o)) (hU_o 229 _ rfl))⟩
                    · refine gQ_chk2 (fun ha937_o hb938_o => ?_)
                      refine gQ_bool ?_
                      exact gQ_ret ⟨rfl, (Fw_w h928_o (fr_r h920_o rfl (rr_217_23 hg_o)) (hU_o 229 _ rfl))⟩
              · refine gQ_map ?_
                unfold fb_238_173
                refine gQ_chk2 (fun ha939_o hb940_o => ?_)
                refine gQ_ite ?_ ?_
                · exact gQ_ret ⟨rfl, h920_o⟩
                · exact gQ_ret ⟨rfl, h920_o⟩
            · refine gQ_map ?_
              exact gQ_ret h910_o
        · refine gQ_chk2 (fun ha941_o hb942_o => ?_)
          refine gQ_ite ?_ ?_
          · unfold fb_238_61
            refine gQ_ite ?_ ?_
            · exact gQ_ret ⟨rfl, h903_o⟩
            · exact gQ_ret ⟨rfl, h903_o⟩
          · unfold fb_238_61
            refine gQ_ite ?_ ?_
            · exact gQ_ret ⟨rfl, h903_o⟩
            · exact gQ_ret ⟨rfl, h903_o⟩
      · refine gQ_map ?_
        unfold fb_238_76
        refine gQ_ite ?_ ?_
        · exact gQ_ret h903_o
        · refine gQ_loop (fun y_l => y_l.1 = 217 ∧ Fw W g (y_l.2.2.2.2)) (fun y_l hy_o => ?_) ⟨rfl, h903_o⟩
          obtain ⟨x943_o, x944_o, x945_o, x946_o, x947_o⟩ := y_l
          obtain ⟨e949_o, h948_o⟩ := hy_o
          dsimp only at e949_o h948_o
          subst e949_o
          show gQ (sb_238_87 217 x944_o x945_o x946_o x947_o) _
          unfold sb_238_87
          dsimp only
          refine gQ_ite ?_ ?_
          · refine gQ_chk2 (fun ha950_o hb951_o => ?_)
            refine gQ_bool ?_
            refine gQ_loop (fun y_l => y_l.1 = 217 ∧ Fw W g (y_l.2.2.2.2.2)) (fun y_l hy_o => ?_) ⟨rfl, (Fw_w h948_o (fr_r h948_o rfl (rr_217_23 hg_o)) (hU_o 229 _ rfl))⟩
            obtain ⟨x952_o, x953_o, x954_o, x955_o, x956_o, x957_o⟩ := y_l
            obtain ⟨e959_o, h958_o⟩ := hy_o
            dsimp only at e959_o h958_o
            subst e959_o
            show gQ (sb_238_105 217 x953_o x954_o x955_o x956_o x957_o) _
            unfold sb_238_105
            refine gQ_ite ?_ ?_
            · refine gQ_chk2 (fun ha960_o hb961_o => ?_)
              refine gQ_ite ?_ ?_
              · refine gQ_map ?_
                unfold fb_238_173
                refine gQ_chk2 (fun ha962_o hb963_o => ?_)
                refine gQ_ite ?_ ?_
                · exact gQ_ret ⟨rfl, h958_o⟩
                · exact gQ_ret ⟨rfl, h958_o⟩
              · refine gQ_chk2 (fun ha964_o hb965_o => ?_)
                refine gQ_v1 (A := Fw W g) (om_212 hg_o hU_o rfl h958_o) (fun v4_l s3_l h966_o => ?_)
                refine gQ_chk2 (fun ha967_o hb968_o => ?_)
                refine gQ_ite ?_ ?_
                · unfold fb_238_158
                  dsimp only
                  refine gQ_ite ?_ ?_
                  · refine gQ_chk2 (fun ha969_o hb970_o => ?_)
                    refine gQ_bool ?_
                    exact gQ_ret ⟨rfl, (Fw_w h966_o (fr_r h958_o rfl (rr_217_23 hg_o)) (hU_o 229 _ rfl))⟩
                  · refine gQ_chk2 (fun ha971_o hb972_o => ?_)
                    refine gQ_bool ?_
                    exact gQ_ret ⟨rfl, (Fw_w h966_o (fr_r h958_o rfl (rr_217_23 hg_o)) (hU_o 229 _ rfl))⟩
                · unfold fb_238_158
                  dsimp only
                  refine gQ_ite ?_ ?_
                  · refine gQ_chk2 (fun ha973_o hb974_o => ?_)
                    refine gQ_bool ?_
                    exact gQ_ret ⟨rfl, (Fw_w h966_o (fr_r h958_o rfl (rr_217_23 hg_o)) (hU_o 229 _ rfl))⟩
                  · refine gQ_chk2 (fun ha975_o hb976_o => ?_)
                    refine gQ_bool ?_
                    exact gQ_ret ⟨rfl, (Fw_w h966_o (fr_r h958_o rfl (rr_217_23 hg_o)) (hU_o 229 _ rfl))⟩
            · refine gQ_map ?_
              unfold fb_238_173
              refine gQ_chk2 (fun ha977_o hb978_o => ?_)
              refine gQ_ite ?_ ?_
              · exact gQ_ret ⟨rfl, h958_o⟩
              · exact gQ_ret ⟨rfl, h958_o⟩
          · refine gQ_map ?_
            exact gQ_ret h948_o
    · unfold fb_238_27
      refine gQ_loop (fun y_l => y_l.1 = 217 ∧ Fw W g (y_l.2.2.2.2)) (fun y_l hy_o => ?_) ⟨rfl, (Fw_w h_o rfl (hU_o 217 _ rfl))⟩
      obtain ⟨x979_o, x980_o, x981_o, x982_o, x983_o⟩ := y_l
      obtain ⟨e985_o, h984_o⟩ := hy_o
      dsimp only at e985_o h984_o
      subst e985_o
      show gQ (sb_238_30 217 x980_o x981_o x982_o x983_o) _
      unfold sb_238_30
      refine gQ_ite ?_ ?_
      · refine gQ_ite ?_ ?_
        · refine gQ_map ?_
          unfold fb_238_76
          refine gQ_ite ?_ ?_
          · exact gQ_ret h984_o
          · refine gQ_loop (fun y_l => y_l.1 = 217 ∧ Fw W g (y_l.2.2.2.2)) (fun y_l hy_o => ?_) ⟨rfl, h984_o⟩
            obtain ⟨x986_o, x987_o, x988_o, x989_o, x990_o⟩ := y_l
            obtain ⟨e992_o, h991_o⟩ := hy_o
            dsimp only at e992_o h991_o
            subst e992_o
            show gQ (sb_238_87 217 x987_o x988_o x989_o x990_o) _
            unfold sb_238_87
            dsimp only
            refine gQ_ite ?_ ?_
            · refine gQ_chk2 (fun ha993_o hb994_o => ?_)
              refine gQ_bool ?_
              refine gQ_loop (fun y_l => y_l.1 = 217 ∧ Fw W g (y_l.2.2.2.2.2)) (fun y_l hy_o => ?_) ⟨rfl, (Fw_w h991_o (fr_r h991_o rfl (rr_217_23 hg_o)) (hU_o 229 _ rfl))⟩
              obtain ⟨x995_o, x996_o, x997_o, x998_o, x999_o, x1000_o⟩ := y_l
              obtain ⟨e1002_o, h1001_o⟩ := hy_o
              dsimp only at e1002_o h1001_o
              subst e1002_o
              show gQ (sb_238_105 217 x996_o x997_o x998_o x999_o x1000_o) _
              unfold sb_238_105
              refine gQ_ite ?_ ?_
              · refine gQ_chk2 (fun ha1003_o hb1004_o => ?_)
                refine gQ_ite ?_ ?_
                · refine gQ_map ?_
                  unfold fb_238_173
                  refine gQ_chk2 (fun ha1005_o hb1006_o => ?_)
                  refine gQ_ite ?_ ?_
                  · exact gQ_ret ⟨rfl, h1001_o⟩
                  · exact gQ_ret ⟨rfl, h1001_o⟩
                · refine gQ_chk2 (fun ha1007_o hb1008_o => ?_)
                  refine gQ_v1 (A := Fw W g) (om_212 hg_o hU_o rfl h1001_o) (fun v4_l s3_l h1009_o => ?_)
                  refine gQ_chk2 (fun ha1010_o hb1011_o => ?_)
                  refine gQ_ite ?_ ?_
                  · unfold fb_238_158
                    dsimp only
                    refine gQ_ite ?_ ?_
                    · refine gQ_chk2 (fun ha1012_o hb1013_o => ?_)
                      refine gQ_bool ?_
                      exact gQ_ret ⟨rfl, (Fw_w h1009_o (fr_r h1001_o rfl (rr_217_23 hg_o)) (hU_o 229 _ rfl))⟩
                    · refine gQ_chk2 (fun ha1014_o hb1015_o => ?_)
                      refine gQ_bool ?_
                      exact gQ_ret ⟨rfl, (Fw_w h1009_o (fr_r h1001_o rfl (rr_217_23 hg_o)) (hU_o 229 _ rfl))⟩
                  · unfold fb_238_158
                    dsimp only
                    refine gQ_ite ?_ ?_
                    · refine gQ_chk2 (fun ha1016_o hb1017_o => ?_)
                      refine gQ_bool ?_
                      exact gQ_ret ⟨rfl, (Fw_w h1009_o (fr_r h1001_o rfl (rr_217_23 hg_o)) (hU_o 229 _ rfl))⟩
                    · refine gQ_chk2 (fun ha1018_o hb1019_o => ?_)
                      refine gQ_bool ?_
                      exact gQ_ret ⟨rfl, (Fw_w h1009_o (fr_r h1001_o rfl (rr_217_23 hg_o)) (hU_o 229 _ rfl))⟩
              · refine gQ_map ?_
                unfold fb_238_173
                refine gQ_chk2 (fun ha1020_o hb1021_o => ?_)
                refine gQ_ite ?_ ?_
                · exact gQ_ret ⟨rfl, h1001_o⟩
                · exact gQ_ret ⟨rfl, h1001_o⟩
            · refine gQ_map ?_
              exact gQ_ret h991_o
        · refine gQ_chk2 (fun ha1022_o hb1023_o => ?_)
          refine gQ_ite ?_ ?_
          · unfold fb_238_61
            refine gQ_ite ?_ ?_
            · exact gQ_ret ⟨rfl, h984_o⟩
            · exact gQ_ret ⟨rfl, h984_o⟩
          · unfold fb_238_61
            refine gQ_ite ?_ ?_
            · exact gQ_ret ⟨rfl, h984_o⟩
            · exact gQ_ret ⟨rfl, h984_o⟩
      · refine gQ_map ?_
        unfold fb_238_76
        refine gQ_ite ?_ ?_
        · exact gQ_ret h984_o
        · refine gQ_loop (fun y_l => y_l.1 = 217 ∧ Fw W g (y_l.2.2.2.2)) (fun y_l hy_o => ?_) ⟨rfl, h984_o⟩
          obtain ⟨x1024_o, x1025_o, x1026_o, x1027_o, x1028_o⟩ := y_l
          obtain ⟨e1030_o, h1029_o⟩ := hy_o
          dsimp only at e1030_o h1029_o
          subst e1030_o
          show gQ (sb_238_87 217 x1025_o x1026_o x1027_o x1028_o) _
          unfold sb_238_87
          dsimp only
          refine gQ_ite ?_ ?_
          · refine gQ_chk2 (fun ha1031_o hb1032_o => ?_)
            refine gQ_bool ?_
            refine gQ_loop (fun y_l => y_l.1 = 217 ∧ Fw W g (y_l.2.2.2.2.2)) (fun y_l hy_o => ?_) ⟨rfl, (Fw_w h1029_o (fr_r h1029_o rfl (rr_217_23 hg_o)) (hU_o 229 _ rfl))⟩
            obtain ⟨x1033_o, x1034_o, x1035_o, x1036_o, x1037_o, x1038_o⟩ := y_l
            obtain ⟨e1040_o, h1039_o⟩ := hy_o
            dsimp only at e1040_o h1039_o
            subst e1040_o
            show gQ (sb_238_105 217 x1034_o x1035_o x1036_o x1037_o x1038_o) _
            unfold sb_238_105
            refine gQ_ite ?_ ?_
            · refine gQ_chk2 (fun ha1041_o hb1042_o => ?_)
              refine gQ_ite ?_ ?_
              · refine gQ_map ?_
                unfold fb_238_173
                refine gQ_chk2 (fun ha1043_o hb1044_o => ?_)
                refine gQ_ite ?_ ?_
                · exact gQ_ret ⟨rfl, h1039_o⟩
                · exact gQ_ret ⟨rfl, h1039_o⟩
              · refine gQ_chk2 (fun ha1045_o hb1046_o => ?_)
                refine gQ_v1 (A := Fw W g) (om_212 hg_o hU_o rfl h1039_o) (fun v4_l s3_l h1047_o => ?_)
                refine gQ_chk2 (fun ha1048_o hb1049_o => ?_)
                refine gQ_ite ?_ ?_
                · unfold fb_238_158
                  dsimp only
                  refine gQ_ite ?_ ?_
                  · refine gQ_chk2 (fun ha1050_o hb1051_o => ?_)
                    refine gQ_bool ?_
                    exact gQ_ret ⟨rfl, (Fw_w h1047_o (fr_r h1039_o rfl (rr_217_23 hg_o)) (hU_o 229 _ rfl))⟩
                  · refine gQ_chk2 (fun ha1052_o hb1053_o => ?_)
                    refine gQ_bool ?_
                    exact gQ_ret ⟨rfl, (Fw_w h1047_o (fr_r h1039_o rfl (rr_217_23 hg_o)) (hU_o 229 _ rfl))⟩
                · unfold fb_238_158
                  dsimp only
                  refine gQ_ite ?_ ?_
                  · refine gQ_chk2 (fun ha1054_o hb1055_o => ?_)
                    refine gQ_bool ?_
                    exact gQ_ret ⟨rfl, (Fw_w h1047_o (fr_r h1039_o rfl (rr_217_23 hg_o)) (hU_o 229 _ rfl))⟩
                  · refine gQ_chk2 (fun ha1056_o hb1057_o => ?_)
                    refine gQ_bool ?_
                    exact gQ_ret ⟨rfl, (Fw_w h1047_o (fr_r h1039_o rfl (rr_217_23 hg_o)) (hU_o 229 _ rfl))⟩
            · refine gQ_map ?_
              unfold fb_238_173
              refine gQ_chk2 (fun ha1058_o hb1059_o => ?_)
              refine gQ_ite ?_ ?_
              · exact gQ_ret ⟨rfl, h1039_o⟩
              · exact gQ_ret ⟨rfl, h1039_o⟩
          · refine gQ_map ?_
            exact gQ_ret h1029_o
  · unfold fb_238_26
    unfold fb_238_27
    refine gQ_loop (fun y_l => y_l.1 = 217 ∧ Fw W g (y_l.2.2.2.2)) (fun y_l hy_o => ?_) ⟨rfl, (Fw_w h_o rfl (hU_o 217 _ rfl))⟩
    obtain ⟨x1060_o, x1061_o, x1062_o, x1063_o, x1064_o⟩ := y_l
    obtain ⟨e1066_o, h1065_o⟩ := hy_o
    dsimp only at e1066_o h1065_o
    subst e1066_o
    show gQ (sb_238_30 217 x1061_o x1062_o x1063_o x1064_o) _
    unfold sb_238_30
    refine gQ_ite ?_ ?_
    · refine gQ_ite ?_ ?_
      · refine gQ_map ?_
        unfold fb_238_76
        refine gQ_ite ?_ ?_
        · exact gQ_ret h1065_o
        · refine gQ_loop (fun y_l => y_l.1 = 217 ∧ Fw W g (y_l.2.2.2.2)) (fun y_l hy_o => ?_) ⟨rfl, h1065_o⟩
          obtain ⟨x1067_o, x1068_o, x1069_o, x1070_o, x1071_o⟩ := y_l
          obtain ⟨e1073_o, h1072_o⟩ := hy_o
          dsimp only at e1073_o h1072_o
          subst e1073_o
          show gQ (sb_238_87 217 x1068_o x1069_o x1070_o x1071_o) _
          unfold sb_238_87
          dsimp only
          refine gQ_ite ?_ ?_
          · refine gQ_chk2 (fun ha1074_o hb1075_o => ?_)
            refine gQ_bool ?_
            refine gQ_loop (fun y_l => y_l.1 = 217 ∧ Fw W g (y_l.2.2.2.2.2)) (fun y_l hy_o => ?_) ⟨rfl, (Fw_w h1072_o (fr_r h1072_o rfl (rr_217_23 hg_o)) (hU_o 229 _ rfl))⟩
            obtain ⟨x1076_o, x1077_o, x1078_o, x1079_o, x1080_o, x1081_o⟩ := y_l
            obtain ⟨e1083_o, h1082_o⟩ := hy_o
            dsimp only at e1083_o h1082_o
            subst e1083_o
            show gQ (sb_238_105 217 x1077_o x1078_o x1079_o x1080_o x1081_o) _
            unfold sb_238_105
            refine gQ_ite ?_ ?_
            · refine gQ_chk2 (fun ha1084_o hb1085_o => ?_)
              refine gQ_ite ?_ ?_
              · refine gQ_map ?_
                unfold fb_238_173
                refine gQ_chk2 (fun ha1086_o hb1087_o => ?_)
                refine gQ_ite ?_ ?_
                · exact gQ_ret ⟨rfl, h1082_o⟩
                · exact gQ_ret ⟨rfl, h1082_o⟩
              · refine gQ_chk2 (fun ha1088_o hb1089_o => ?_)
                refine gQ_v1 (A := Fw W g) (om_212 hg_o hU_o rfl h1082_o) (fun v4_l s3_l h1090_o => ?_)
                refine gQ_chk2 (fun ha1091_o hb1092_o => ?_)
                refine gQ_ite ?_ ?_
                · unfold fb_238_158
                  dsimp only
                  refine gQ_ite ?_ ?_
                  · refine gQ_chk2 (fun ha1093_o hb1094_o => ?_)
                    refine gQ_bool ?_
                    exact gQ_ret ⟨rfl, (Fw_w h1090_o (fr_r h1082_o rfl (rr_217_23 hg_o)) (hU_o 229 _ rfl))⟩
                  · refine gQ_chk2 (fun ha1095_o hb1096_o => ?_)
                    refine gQ_bool ?_
                    exact gQ_ret ⟨rfl, (Fw_w h1090_o (fr_r h1082_o rfl (rr_217_23 hg_o)) (hU_o 229 _ rfl))⟩
                · unfold fb_238_158
                  dsimp only
                  refine gQ_ite ?_ ?_
                  · refine gQ_chk2 (fun ha1097_o hb1098_o => ?_)
                    refine gQ_bool ?_
                    exact gQ_ret ⟨rfl, (Fw_w h1090_o (fr_r h1082_o rfl (rr_217_23 hg_o)) (hU_o 229 _ rfl))⟩
                  · refine gQ_chk2 (fun ha1099_o hb1100_o => ?_)
                    refine gQ_bool ?_
                    exact gQ_ret ⟨rfl, (Fw_w h1090_o (fr_r h1082_o rfl (rr_217_23 hg_o)) (hU_o 229 _ rfl))⟩
            · refine gQ_map ?_
              unfold fb_238_173
              refine gQ_chk2 (fun ha1101_o hb1102_o => ?_)
              refine gQ_ite ?_ ?_
              · exact gQ_ret ⟨rfl, h1082_o⟩
              · exact gQ_ret ⟨rfl, h1082_o⟩
          · refine gQ_map ?_
            exact gQ_ret h1072_o
      · refine gQ_chk2 (fun ha1103_o hb1104_o => ?_)
        refine gQ_ite ?_ ?_
        · unfold fb_238_61
          refine gQ_ite ?_ ?_
          · exact gQ_ret ⟨rfl, h1065_o⟩
          · exact gQ_ret ⟨rfl, h1065_o⟩
        · unfold fb_238_61
          refine gQ_ite ?_ ?_
          · exact gQ_ret ⟨rfl, h1065_o⟩
          · exact gQ_ret ⟨rfl, h1065_o⟩
    · refine gQ_map ?_
      unfold fb_238_76
      refine gQ_ite ?_ ?_
      · exact gQ_ret h1065_o
      · refine gQ_loop (fun y_l => y_l.1 = 217 ∧ Fw W g (y_l.2.2.2.2)) (fun y_l hy_o => ?_) ⟨rfl, h1065_o⟩
        obtain ⟨x1105_o, x1106_o, x1107_o, x1108_o, x1109_o⟩ := y_l
        obtain ⟨e1111_o, h1110_o⟩ := hy_o
        dsimp only at e1111_o h1110_o
        subst e1111_o
        show gQ (sb_238_87 217 x1106_o x1107_o x1108_o x1109_o) _
        unfold sb_238_87
        dsimp only
        refine gQ_ite ?_ ?_
        · refine gQ_chk2 (fun ha1112_o hb1113_o => ?_)
          refine gQ_bool ?_
          refine gQ_loop (fun y_l => y_l.1 = 217 ∧ Fw W g (y_l.2.2.2.2.2)) (fun y_l hy_o => ?_) ⟨rfl, (Fw_w h1110_o (fr_r h1110_o rfl (rr_217_23 hg_o)) (hU_o 229 _ rfl))⟩
          obtain ⟨x1114_o, x1115_o, x1116_o, x1117_o, x1118_o, x1119_o⟩ := y_l
          obtain ⟨e1121_o, h1120_o⟩ := hy_o
          dsimp only at e1121_o h1120_o
          subst e1121_o
          show gQ (sb_238_105 217 x1115_o x1116_o x1117_o x1118_o x1119_o) _
          unfold sb_238_105
          refine gQ_ite ?_ ?_
          · refine gQ_chk2 (fun ha1122_o hb1123_o => ?_)
            refine gQ_ite ?_ ?_
            · refine gQ_map ?_
              unfold fb_238_173
              refine gQ_chk2 (fun ha1124_o hb1125_o => ?_)
              refine gQ_ite ?_ ?_
              · exact gQ_ret ⟨rfl, h1120_o⟩
              · exact gQ_ret ⟨rfl, h1120_o⟩
            · refine gQ_chk2 (fun ha1126_o hb1127_o => ?_)
              refine gQ_v1 (A := Fw W g) (om_212 hg_o hU_o rfl h1120_o) (fun v4_l s3_l h1128_o => ?_)
              refine gQ_chk2 (fun ha1129_o hb1130_o => ?_)
              refine gQ_ite ?_ ?_
              · unfold fb_238_158
                dsimp only
                refine gQ_ite ?_ ?_
                · refine gQ_chk2 (fun ha1131_o hb1132_o => ?_)
                  refine gQ_bool ?_
                  exact gQ_ret ⟨rfl, (Fw_w h1128_o (fr_r h1120_o rfl (rr_217_23 hg_o)) (hU_o 229 _ rfl))⟩
                · refine gQ_chk2 (fun ha1133_o hb1134_o => ?_)
                  refine gQ_bool ?_
                  exact gQ_ret ⟨rfl, (Fw_w h1128_o (fr_r h1120_o rfl (rr_217_23 hg_o)) (hU_o 229 _ rfl))⟩
              · unfold fb_238_158
                dsimp only
                refine gQ_ite ?_ ?_
                · refine gQ_chk2 (fun ha1135_o hb1136_o => ?_)
                  refine gQ_bool ?_
                  exact gQ_ret ⟨rfl, (Fw_w h1128_o (fr_r h1120_o rfl (rr_217_23 hg_o)) (hU_o 229 _ rfl))⟩
                · refine gQ_chk2 (fun ha1137_o hb1138_o => ?_)
                  refine gQ_bool ?_
                  exact gQ_ret ⟨rfl, (Fw_w h1128_o (fr_r h1120_o rfl (rr_217_23 hg_o)) (hU_o 229 _ rfl))⟩
          · refine gQ_map ?_
            unfold fb_238_173
            refine gQ_chk2 (fun ha1139_o hb1140_o => ?_)
            refine gQ_ite ?_ ?_
            · exact gQ_ret ⟨rfl, h1120_o⟩
            · exact gQ_ret ⟨rfl, h1120_o⟩
        · refine gQ_map ?_
          exact gQ_ret h1110_o

theorem om_239 {W : Nat → Nat → Bool} {g s : gS} {a0 : Nat} {a1 : Int} (hg_o : RF g) (hU_o : ∀ a k, mss a k = true → W a k = true) (ea0_o : a0 = 217) (h_o : Fw W g s) : gQ (f_239 a0 a1 s) (fun r => Fw W g r.2.2.2) := by
  subst ea0_o
  unfold f_239
  refine gQ_v1 (A := Fw W g) (om_238 hg_o hU_o rfl h_o) (fun v2 s1_l h1141_o => ?_)
  refine gQ_ite ?_ ?_
  · unfold fb_239_16
    dsimp only
    refine gQ_ite ?_ ?_
    · unfold fb_239_30
      refine gQ_ite ?_ ?_
      · exact gQ_ret (Fw_w h1141_o rfl (hU_o 217 _ rfl))
      · exact gQ_ret (Fw_w h1141_o rfl (hU_o 217 _ rfl))
    · refine gQ_ite ?_ ?_
      · unfold fb_239_30
        refine gQ_ite ?_ ?_
        · exact gQ_ret (Fw_w h1141_o rfl (hU_o 217 _ rfl))
        · exact gQ_ret (Fw_w h1141_o rfl (hU_o 217 _ rfl))
      · refine gQ_ite ?_ ?_
        · unfold fb_239_53
          refine gQ_loop (fun y_l => y_l.1 = 217 ∧ Fw W g (y_l.2.2.2)) (fun y_l hy_o => ?_) ⟨rfl, (Fw_w h1141_o rfl (hU_o 217 _ rfl))⟩
          obtain ⟨x1142_o, x1143_o, x1144_o, x1145_o⟩ := y_l
          obtain ⟨e1147_o, h1146_o⟩ := hy_o
          dsimp only at e1147_o h1146_o
          subst e1147_o
          show gQ (sb_239_57 217 x1143_o x1144_o x1145_o) _
          unfold sb_239_57
          refine gQ_ite ?_ ?_
          · refine gQ_chk2 (fun ha1148_o hb1149_o => ?_)
            refine gQ_ite ?_ ?_
            · exact gQ_ret ⟨rfl, h1146_o⟩
            · exact gQ_ret ⟨rfl, h1146_o⟩
          · refine gQ_map ?_
            exact gQ_ret h1146_o
        · unfold fb_239_53
          refine gQ_loop (fun y_l => y_l.1 = 217 ∧ Fw W g (y_l.2.2.2)) (fun y_l hy_o => ?_) ⟨rfl, (Fw_w h1141_o rfl (hU_o 217 _ rfl))⟩
          obtain ⟨x1150_o, x1151_o, x1152_o, x1153_o⟩ := y_l
          obtain ⟨e1155_o, h1154_o⟩ := hy_o
          dsimp only at e1155_o h1154_o
          subst e1155_o
          show gQ (sb_239_57 217 x1151_o x1152_o x1153_o) _
          unfold sb_239_57
          refine gQ_ite ?_ ?_
          · refine gQ_chk2 (fun ha1156_o hb1157_o => ?_)
            refine gQ_ite ?_ ?_
            · exact gQ_ret ⟨rfl, h1154_o⟩
            · exact gQ_ret ⟨rfl, h1154_o⟩
          · refine gQ_map ?_
            exact gQ_ret h1154_o
  · unfold fb_239_16
    dsimp only
    refine gQ_ite ?_ ?_
    · unfold fb_239_30
      refine gQ_ite ?_ ?_
      · exact gQ_ret (Fw_w h1141_o rfl (hU_o 217 _ rfl))
      · exact gQ_ret (Fw_w h1141_o rfl (hU_o 217 _ rfl))
    · refine gQ_ite ?_ ?_
      · unfold fb_239_30
        refine gQ_ite ?_ ?_
        · exact gQ_ret (Fw_w h1141_o rfl (hU_o 217 _ rfl))
        · exact gQ_ret (Fw_w h1141_o rfl (hU_o 217 _ rfl))
      · refine gQ_ite ?_ ?_
        · unfold fb_239_53
          refine gQ_loop (fun y_l => y_l.1 = 217 ∧ Fw W g (y_l.2.2.2)) (fun y_l hy_o => ?_) ⟨rfl, (Fw_w h1141_o rfl (hU_o 217 _ rfl))⟩
          obtain ⟨x1158_o, x1159_o, x1160_o, x1161_o⟩ := y_l
          obtain ⟨e1163_o, h1162_o⟩ := hy_o
          dsimp only at e1163_o h1162_o
          subst e1163_o
          show gQ (sb_239_57 217 x1159_o x1160_o x1161_o) _
          unfold sb_239_57
          refine gQ_ite ?_ ?_
          · refine gQ_chk2 (fun ha1164_o hb1165_o => ?_)
            refine gQ_ite ?_ ?_
            · exact gQ_ret ⟨rfl, h1162_o⟩
            · exact gQ_ret ⟨rfl, h1162_o⟩
          · refine gQ_map ?_
            exact gQ_ret h1162_o
        · unfold fb_239_53
          refine gQ_loop (fun y_l => y_l.1 = 217 ∧ Fw W g (y_l.2.2.2)) (fun y_l hy_o => ?_) ⟨rfl, (Fw_w h1141_o rfl (hU_o 217 _ rfl))⟩
          obtain ⟨x1166_o, x1167_o, x1168_o, x1169_o⟩ := y_l
          obtain ⟨e1171_o, h1170_o⟩ := hy_o
          dsimp only at e1171_o h1170_o
          subst e1171_o
          show gQ (sb_239_57 217 x1167_o x1168_o x1169_o) _
          unfold sb_239_57
          refine gQ_ite ?_ ?_
          · refine gQ_chk2 (fun ha1172_o hb1173_o => ?_)
            refine gQ_ite ?_ ?_
            · exact gQ_ret ⟨rfl, h1170_o⟩
            · exact gQ_ret ⟨rfl, h1170_o⟩
          · refine gQ_map ?_
            exact gQ_ret h1170_o

theorem om_240 {W : Nat → Nat → Bool} {g s : gS} {a0 : Nat} (hg_o : RF g) (hU_o : ∀ a k, mss a k = true → W a k = true) (ea0_o : a0 = 217) (h_o : Fw W g s) : gQ (f_240 a0 s) (fun r => Fw W g r.2.2.2) := by
  subst ea0_o
  unfold f_240
  refine gQ_v1 (A := Fw W g) (om_238 hg_o hU_o rfl h_o) (fun v2 s1_l h1174_o => ?_)
  refine gQ_ite ?_ ?_
  · unfold fb_240_16
    dsimp only
    refine gQ_ite ?_ ?_
    · exact gQ_ret (Fw_w h1174_o rfl (hU_o 217 _ rfl))
    · refine gQ_loop (fun y_l => y_l.1 = 217 ∧ Fw W g (y_l.2.2.2.2.2)) (fun y_l hy_o => ?_) ⟨rfl, (Fw_w h1174_o rfl (hU_o 217 _ rfl))⟩
      obtain ⟨x1175_o, x1176_o, x1177_o, x1178_o, x1179_o, x1180_o⟩ := y_l
      obtain ⟨e1182_o, h1181_o⟩ := hy_o
      dsimp only at e1182_o h1181_o
      subst e1182_o
      show gQ (sb_240_37 217 x1176_o x1177_o x1178_o x1179_o x1180_o) _
      unfold sb_240_37
      refine gQ_ite ?_ ?_
      · refine gQ_ite ?_ ?_
        · refine gQ_loop (fun y_l => y_l.1 = 217 ∧ Fw W g (y_l.2.2.2.2.2.2.2)) (fun y_l hy_o => ?_) ⟨rfl, h1181_o⟩
          obtain ⟨x1183_o, x1184_o, x1185_o, x1186_o, x1187_o, x1188_o, x1189_o, x1190_o⟩ := y_l
          obtain ⟨e1192_o, h1191_o⟩ := hy_o
          dsimp only at e1192_o h1191_o
          subst e1192_o
          show gQ (sb_240_59 217 x1184_o x1185_o x1186_o x1187_o x1188_o x1189_o x1190_o) _
          unfold sb_240_59
          refine gQ_ite ?_ ?_
          · refine gQ_chk2 (fun ha1193_o hb1194_o => ?_)
            refine gQ_ite ?_ ?_
            · unfold fb_240_93
              exact gQ_ret ⟨rfl, h1191_o⟩
            · refine gQ_v1 (A := Fw W g) (om_212 hg_o hU_o rfl h1191_o) (fun v5 s4_l h1195_o => ?_)
              refine gQ_ite ?_ ?_
              · unfold fb_240_93
                exact gQ_ret ⟨rfl, h1195_o⟩
              · exact gQ_ret ⟨rfl, h1195_o⟩
          · refine gQ_map ?_
            refine gQ_v1 (A := Fw W g) (om_152 hg_o hU_o  h1191_o) (fun v8 s7 h1196_o => ?_)
            refine gQ_ite ?_ ?_
            · refine gQ_v1 (A := Fw W g) (om_152 hg_o hU_o  h1196_o) (fun v10 s9 h1197_o => ?_)
              exact gQ_ret ⟨rfl, h1197_o⟩
            · exact gQ_ret ⟨rfl, h1196_o⟩
        · refine gQ_map ?_
          exact gQ_ret h1181_o
      · refine gQ_map ?_
        exact gQ_ret h1181_o
  · unfold fb_240_16
    dsimp only
    refine gQ_ite ?_ ?_
    · exact gQ_ret (Fw_w h1174_o rfl (hU_o 217 _ rfl))
    · refine gQ_loop (fun y_l => y_l.1 = 217 ∧ Fw W g (y_l.2.2.2.2.2)) (fun y_l hy_o => ?_) ⟨rfl, (Fw_w h1174_o rfl (hU_o 217 _ rfl))⟩
      obtain ⟨x1198_o, x1199_o, x1200_o, x1201_o, x1202_o, x1203_o⟩ := y_l
      obtain ⟨e1205_o, h1204_o⟩ := hy_o
      dsimp only at e1205_o h1204_o
      subst e1205_o
      show gQ (sb_240_37 217 x1199_o x1200_o x1201_o x1202_o x1203_o) _
      unfold sb_240_37
      refine gQ_ite ?_ ?_
      · refine gQ_ite ?_ ?_
        · refine gQ_loop (fun y_l => y_l.1 = 217 ∧ Fw W g (y_l.2.2.2.2.2.2.2)) (fun y_l hy_o => ?_) ⟨rfl, h1204_o⟩
          obtain ⟨x1206_o, x1207_o, x1208_o, x1209_o, x1210_o, x1211_o, x1212_o, x1213_o⟩ := y_l
          obtain ⟨e1215_o, h1214_o⟩ := hy_o
          dsimp only at e1215_o h1214_o
          subst e1215_o
          show gQ (sb_240_59 217 x1207_o x1208_o x1209_o x1210_o x1211_o x1212_o x1213_o) _
          unfold sb_240_59
          refine gQ_ite ?_ ?_
          · refine gQ_chk2 (fun ha1216_o hb1217_o => ?_)
            refine gQ_ite ?_ ?_
            · unfold fb_240_93
              exact gQ_ret ⟨rfl, h1214_o⟩
            · refine gQ_v1 (A := Fw W g) (om_212 hg_o hU_o rfl h1214_o) (fun v5 s4_l h1218_o => ?_)
              refine gQ_ite ?_ ?_
              · unfold fb_240_93
                exact gQ_ret ⟨rfl, h1218_o⟩
              · exact gQ_ret ⟨rfl, h1218_o⟩
          · refine gQ_map ?_
            refine gQ_v1 (A := Fw W g) (om_152 hg_o hU_o  h1214_o) (fun v8 s7 h1219_o => ?_)
            refine gQ_ite ?_ ?_
            · refine gQ_v1 (A := Fw W g) (om_152 hg_o hU_o  h1219_o) (fun v10 s9 h1220_o => ?_)
              exact gQ_ret ⟨rfl, h1220_o⟩
            · exact gQ_ret ⟨rfl, h1219_o⟩
        · refine gQ_map ?_
          exact gQ_ret h1204_o
      · refine gQ_map ?_
        exact gQ_ret h1204_o

theorem om_241 {W : Nat → Nat → Bool} {g s : gS} {a0 : Nat} {a1 : Int} {a2 : Int} {a3 : Int} {a4 : Int} (hg_o : RF g) (hU_o : ∀ a k, mss a k = true → W a k = true) (ea0_o : a0 = 217) (h_o : Fw W g s) : gQ (f_241 a0 a1 a2 a3 a4 s) (fun r => Fw W g r.2.2.2) := by
  subst ea0_o
  unfold f_241
  refine gQ_ite ?_ ?_
  · refine gQ_v1 (A := Fw W g) (om_158 hg_o hU_o rfl h_o) (fun v2 s1_l h1221_o => ?_)
    unfold fb_241_13
    refine gQ_ite ?_ ?_
    · refine gQ_ite ?_ ?_
      · unfold fb_241_44
        refine gQ_ite ?_ ?_
        · exact gQ_ret h1221_o
        · exact gQ_ret h1221_o
      · refine gQ_v1 (A := Fw W g) (om_156 hg_o hU_o rfl h1221_o) (fun v4_l s3_l h1222_o => ?_)
        refine gQ_v1 (A := Fw W g) (om_212 hg_o hU_o rfl h1222_o) (fun v6 s5 h1223_o => ?_)
        refine gQ_ite ?_ ?_
        · unfold fb_241_44
          refine gQ_ite ?_ ?_
          · exact gQ_ret h1223_o
          · exact gQ_ret h1223_o
        · unfold fb_241_43
          unfold fb_241_44
          refine gQ_ite ?_ ?_
          · exact gQ_ret h1223_o
          · exact gQ_ret h1223_o
    · unfold fb_241_43
      unfold fb_241_44
      refine gQ_ite ?_ ?_
      · exact gQ_ret h1221_o
      · exact gQ_ret h1221_o
  · unfold fb_241_13
    refine gQ_ite ?_ ?_
    · refine gQ_ite ?_ ?_
      · unfold fb_241_44
        refine gQ_ite ?_ ?_
        · exact gQ_ret h_o
        · exact gQ_ret h_o
      · refine gQ_v1 (A := Fw W g) (om_156 hg_o hU_o rfl h_o) (fun v4_l s3_l h1224_o => ?_)
        refine gQ_v1 (A := Fw W g) (om_212 hg_o hU_o rfl h1224_o) (fun v6 s5 h1225_o => ?_)
        refine gQ_ite ?_ ?_
        · unfold fb_241_44
          refine gQ_ite ?_ ?_
          · exact gQ_ret h1225_o
          · exact gQ_ret h1225_o
        · unfold fb_241_43
          unfold fb_241_44
          refine gQ_ite ?_ ?_
          · exact gQ_ret h1225_o
          · exact gQ_ret h1225_o
    · unfold fb_241_43
      unfold fb_241_44
      refine gQ_ite ?_ ?_
      · exact gQ_ret h_o
      · exact gQ_ret h_o

theorem om_242 {W : Nat → Nat → Bool} {g s : gS} {a0 : Nat} {a1 : Int} {a2 : Int} {a3 : Int} {a4 : Int} (hg_o : RF g) (hU_o : ∀ a k, mss a k = true → W a k = true) (ea0_o : a0 = 217) (h_o : Fw W g s) : gQ (f_242 a0 a1 a2 a3 a4 s) (fun r => Fw W g r.2.2.2) := by
  subst ea0_o
  unfold f_242
  refine gQ_ite ?_ ?_
  · exact gQ_ret h_o
  · refine gQ_ite ?_ ?_
    · refine gQ_v1 (A := Fw W g) (om_156 hg_o hU_o rfl h_o) (fun v2 s1_l h1226_o => ?_)
      refine gQ_v1 (A := Fw W g) (om_212 hg_o hU_o rfl h1226_o) (fun v4_l s3_l h1227_o => ?_)
      refine gQ_ite ?_ ?_
      · unfold fb_242_37
        exact gQ_ret h1227_o
      · refine gQ_v1 (A := Fw W g) (om_156 hg_o hU_o rfl h1227_o) (fun v7 s6_l h1228_o => ?_)
        exact gQ_ret h1228_o
    · unfold fb_242_37
      exact gQ_ret h_o

theorem om_243 {W : Nat → Nat → Bool} {g s : gS} {a0 : Nat} {a1 : Int} {a2 : Int} (hg_o : RF g) (hU_o : ∀ a k, mss a k = true → W a k = true) (ea0_o : a0 = 217) (h_o : Fw W g s) : gQ (f_243 a0 a1 a2 s) (fun r => Fw W g r.2.2.2) := by
  subst ea0_o
  unfold f_243
  refine gQ_v1 (A := Fw W g) (om_162 hg_o hU_o rfl h_o) (fun v2 s1_l h1229_o => ?_)
  refine gQ_ite ?_ ?_
  · unfold fb_243_22
    dsimp only
    refine gQ_loop (fun y_l => y_l.1 = 217 ∧ Fw W g (y_l.2.2.2.2.2)) (fun y_l hy_o => ?_) ⟨rfl, (Fw_w h1229_o rfl (hU_o 217 _ rfl))⟩
    obtain ⟨x1230_o, x1231_o, x1232_o, x1233_o, x1234_o, x1235_o⟩ := y_l
    obtain ⟨e1237_o, h1236_o⟩ := hy_o
    dsimp only at e1237_o h1236_o
    subst e1237_o
    show gQ (sb_243_30 217 x1231_o x1232_o x1233_o x1234_o x1235_o) _
    unfold sb_243_30
    dsimp only
    refine gQ_ite ?_ ?_
    · refine gQ_ite ?_ ?_
      · refine gQ_v1 (A := Fw W g) (om_241 hg_o hU_o rfl h1236_o) (fun v6 s5 h1238_o => ?_)
        refine gQ_v1 (A := Fw W g) (om_241 hg_o hU_o rfl h1238_o) (fun v8 s7 h1239_o => ?_)
        refine gQ_ite ?_ ?_
        · exact gQ_ret ⟨rfl, h1239_o⟩
        · refine gQ_v1 (A := Fw W g) (om_242 hg_o hU_o rfl h1239_o) (fun v10 s9 h1240_o => ?_)
          refine gQ_v1 (A := Fw W g) (om_242 hg_o hU_o rfl h1240_o) (fun v12 s11 h1241_o => ?_)
          refine gQ_ite ?_ ?_
          · exact gQ_ret ⟨rfl, h1241_o⟩
          · exact gQ_ret ⟨rfl, h1241_o⟩
      · refine gQ_map ?_
        exact gQ_ret h1236_o
    · refine gQ_map ?_
      exact gQ_ret h1236_o
  · refine gQ_v1 (A := Fw W g) (om_163 hg_o hU_o rfl h1229_o) (fun v15 s14 h1242_o => ?_)
    refine gQ_ite ?_ ?_
    · unfold fb_243_22
      dsimp only
      refine gQ_loop (fun y_l => y_l.1 = 217 ∧ Fw W g (y_l.2.2.2.2.2)) (fun y_l hy_o => ?_) ⟨rfl, (Fw_w h1242_o rfl (hU_o 217 _ rfl))⟩
      obtain ⟨x1243_o, x1244_o, x1245_o, x1246_o, x1247_o, x1248_o⟩ := y_l
      obtain ⟨e1250_o, h1249_o⟩ := hy_o
      dsimp only at e1250_o h1249_o
      subst e1250_o
      show gQ (sb_243_30 217 x1244_o x1245_o x1246_o x1247_o x1248_o) _
      unfold sb_243_30
      dsimp only
      refine gQ_ite ?_ ?_
      · refine gQ_ite ?_ ?_
        · refine gQ_v1 (A := Fw W g) (om_241 hg_o hU_o rfl h1249_o) (fun v6 s5 h1251_o => ?_)
          refine gQ_v1 (A := Fw W g) (om_241 hg_o hU_o rfl h1251_o) (fun v8 s7 h1252_o => ?_)
          refine gQ_ite ?_ ?_
          · exact gQ_ret ⟨rfl, h1252_o⟩
          · refine gQ_v1 (A := Fw W g) (om_242 hg_o hU_o rfl h1252_o) (fun v10 s9 h1253_o => ?_)
            refine gQ_v1 (A := Fw W g) (om_242 hg_o hU_o rfl h1253_o) (fun v12 s11 h1254_o => ?_)
            refine gQ_ite ?_ ?_
            · exact gQ_ret ⟨rfl, h1254_o⟩
            · exact gQ_ret ⟨rfl, h1254_o⟩
        · refine gQ_map ?_
          exact gQ_ret h1249_o
      · refine gQ_map ?_
        exact gQ_ret h1249_o
    · unfold fb_243_22
      dsimp only
      refine gQ_loop (fun y_l => y_l.1 = 217 ∧ Fw W g (y_l.2.2.2.2.2)) (fun y_l hy_o => ?_) ⟨rfl, (Fw_w h1242_o rfl (hU_o 217 _ rfl))⟩
      obtain ⟨x1255_o, x1256_o, x1257_o, x1258_o, x1259_o, x1260_o⟩ := y_l
      obtain ⟨e1262_o, h1261_o⟩ := hy_o
      dsimp only at e1262_o h1261_o
      subst e1262_o
      show gQ (sb_243_30 217 x1256_o x1257_o x1258_o x1259_o x1260_o) _
      unfold sb_243_30
      dsimp only
      refine gQ_ite ?_ ?_
      · refine gQ_ite ?_ ?_
        · refine gQ_v1 (A := Fw W g) (om_241 hg_o hU_o rfl h1261_o) (fun v6 s5 h1263_o => ?_)
          refine gQ_v1 (A := Fw W g) (om_241 hg_o hU_o rfl h1263_o) (fun v8 s7 h1264_o => ?_)
          refine gQ_ite ?_ ?_
          · exact gQ_ret ⟨rfl, h1264_o⟩
          · refine gQ_v1 (A := Fw W g) (om_242 hg_o hU_o rfl h1264_o) (fun v10 s9 h1265_o => ?_)
            refine gQ_v1 (A := Fw W g) (om_242 hg_o hU_o rfl h1265_o) (fun v12 s11 h1266_o => ?_)
            refine gQ_ite ?_ ?_
            · exact gQ_ret ⟨rfl, h1266_o⟩
            · exact gQ_ret ⟨rfl, h1266_o⟩
        · refine gQ_map ?_
          exact gQ_ret h1261_o
      · refine gQ_map ?_
        exact gQ_ret h1261_o

theorem om_244 {W : Nat → Nat → Bool} {g s : gS} {a0 : Nat} {a1 : Int} {a2 : Int} (hg_o : RF g) (hU_o : ∀ a k, mss a k = true → W a k = true) (ea0_o : a0 = 217) (h_o : Fw W g s) : gQ (f_244 a0 a1 a2 s) (fun r => Fw W g r.2.2.2) := by
  subst ea0_o
  unfold f_244
  refine gQ_v1 (A := Fw W g) (om_150 hg_o hU_o  h_o) (fun v2 s1_l h1267_o => ?_)
  refine gQ_ite ?_ ?_
  · unfold fb_244_24
    dsimp only
    refine gQ_ite ?_ ?_
    · exact gQ_ret (Fw_w h1267_o rfl (hU_o 217 _ rfl))
    · refine gQ_loop (fun y_l => y_l.1 = 217 ∧ Fw W g (y_l.2.2.2.2.2)) (fun y_l hy_o => ?_) ⟨rfl, (Fw_w h1267_o rfl (hU_o 217 _ rfl))⟩
      obtain ⟨x1268_o, x1269_o, x1270_o, x1271_o, x1272_o, x1273_o⟩ := y_l
      obtain ⟨e1275_o, h1274_o⟩ := hy_o
      dsimp only at e1275_o h1274_o
      subst e1275_o
      show gQ (sb_244_41 217 x1269_o x1270_o x1271_o x1272_o x1273_o) _
      unfold sb_244_41
      refine gQ_ite ?_ ?_
      · exact gQ_ret ⟨rfl, h1274_o⟩
      · refine gQ_map ?_
        refine gQ_loop (fun y_l => y_l.1 = 217 ∧ Fw W g (y_l.2.2.2.2.2.2)) (fun y_l hy_o => ?_) ⟨rfl, h1274_o⟩
        obtain ⟨x1276_o, x1277_o, x1278_o, x1279_o, x1280_o, x1281_o, x1282_o⟩ := y_l
        obtain ⟨e1284_o, h1283_o⟩ := hy_o
        dsimp only at e1284_o h1283_o
        subst e1284_o
        show gQ (sb_244_65 217 x1277_o x1278_o x1279_o x1280_o x1281_o x1282_o) _
        unfold sb_244_65
        refine gQ_ite ?_ ?_
        · refine gQ_v1 (A := Fw W g) (om_154 hg_o hU_o  h1283_o) (fun v6 s5 h1285_o => ?_)
          refine gQ_ite ?_ ?_
          · unfold fb_244_87
            refine gQ_loop (fun y_l => y_l.1 = 217 ∧ Fw W g (y_l.2.2.2.2.2.2.2.2)) (fun y_l hy_o => ?_) ⟨rfl, h1285_o⟩
            obtain ⟨x1286_o, x1287_o, x1288_o, x1289_o, x1290_o, x1291_o, x1292_o, x1293_o, x1294_o⟩ := y_l
            obtain ⟨e1296_o, h1295_o⟩ := hy_o
            dsimp only at e1296_o h1295_o
            subst e1296_o
            show gQ (sb_244_92 217 x1287_o x1288_o x1289_o x1290_o x1291_o x1292_o x1293_o x1294_o) _
            unfold sb_244_92
            dsimp only
            refine gQ_ite ?_ ?_
            · refine gQ_v1 (A := Fw W g) (om_153 hg_o hU_o  h1295_o) (fun v8 s7 h1297_o => ?_)
              refine gQ_ite ?_ ?_
              · exact gQ_ret ⟨rfl, h1297_o⟩
              · exact gQ_ret ⟨rfl, h1297_o⟩
            · refine gQ_map ?_
              exact gQ_ret ⟨rfl, h1295_o⟩
          · unfold fb_244_87
            refine gQ_loop (fun y_l => y_l.1 = 217 ∧ Fw W g (y_l.2.2.2.2.2.2.2.2)) (fun y_l hy_o => ?_) ⟨rfl, h1285_o⟩
            obtain ⟨x1298_o, x1299_o, x1300_o, x1301_o, x1302_o, x1303_o, x1304_o, x1305_o, x1306_o⟩ := y_l
            obtain ⟨e1308_o, h1307_o⟩ := hy_o
            dsimp only at e1308_o h1307_o
            subst e1308_o
            show gQ (sb_244_92 217 x1299_o x1300_o x1301_o x1302_o x1303_o x1304_o x1305_o x1306_o) _
            unfold sb_244_92
            dsimp only
            refine gQ_ite ?_ ?_
            · refine gQ_v1 (A := Fw W g) (om_153 hg_o hU_o  h1307_o) (fun v8 s7 h1309_o => ?_)
              refine gQ_ite ?_ ?_
              · exact gQ_ret ⟨rfl, h1309_o⟩
              · exact gQ_ret ⟨rfl, h1309_o⟩
            · refine gQ_map ?_
              exact gQ_ret ⟨rfl, h1307_o⟩
        · refine gQ_map ?_
          refine gQ_ite ?_ ?_
          · exact gQ_none
          · exact gQ_ret h1283_o
  · refine gQ_v1 (A := Fw W g) (om_150 hg_o hU_o  h1267_o) (fun v13 s12 h1310_o => ?_)
    refine gQ_ite ?_ ?_
    · unfold fb_244_24
      dsimp only
      refine gQ_ite ?_ ?_
      · exact gQ_ret (Fw_w h1310_o rfl (hU_o 217 _ rfl))
      · refine gQ_loop (fun y_l => y_l.1 = 217 ∧ Fw W g (y_l.2.2.2.2.2)) (fun y_l hy_o => ?_) ⟨rfl, (Fw_w h1310_o rfl (hU_o 217 _ rfl))⟩
        obtain ⟨x1311_o, x1312_o, x1313_o, x1314_o, x1315_o, x1316_o⟩ := y_l
        obtain ⟨e1318_o, h1317_o⟩ := hy_o
        dsimp only at e1318_o h1317_o
        subst e1318_o
        show gQ (sb_244_41 217 x1312_o x1313_o x1314_o x1315_o x1316_o) _
        unfold sb_244_41
        refine gQ_ite ?_ ?_
        · exact gQ_ret ⟨rfl, h1317_o⟩
        · refine gQ_map ?_
          refine gQ_loop (fun y_l => y_l.1 = 217 ∧ Fw W g (y_l.2.2.2.2.2.2)) (fun y_l hy_o => ?_) ⟨rfl, h1317_o⟩
          obtain ⟨x1319_o, x1320_o, x1321_o, x1322_o, x1323_o, x1324_o, x1325_o⟩ := y_l
          obtain ⟨e1327_o, h1326_o⟩ := hy_o
          dsimp only at e1327_o h1326_o
          subst e1327_o
          show gQ (sb_244_65 217 x1320_o x1321_o x1322_o x1323_o x1324_o x1325_o) _
          unfold sb_244_65
          refine gQ_ite ?_ ?_
          · refine gQ_v1 (A := Fw W g) (om_154 hg_o hU_o  h1326_o) (fun v6 s5 h1328_o => ?_)
            refine gQ_ite ?_ ?_
            · unfold fb_244_87
              refine gQ_loop (fun y_l => y_l.1 = 217 ∧ Fw W g (y_l.2.2.2.2.2.2.2.2)) (fun y_l hy_o => ?_) ⟨rfl, h1328_o⟩
              obtain ⟨x1329_o, x1330_o, x1331_o, x1332_o, x1333_o, x1334_o, x1335_o, x1336_o, x1337_o⟩ := y_l
              obtain ⟨e1339_o, h1338_o⟩ := hy_o
              dsimp only at e1339_o h1338_o
              subst e1339_o
              show gQ (sb_244_92 217 x1330_o x1331_o x1332_o x1333_o x1334_o x1335_o x1336_o x1337_o) _
              unfold sb_244_92
              dsimp only
              refine gQ_ite ?_ ?_
              · refine gQ_v1 (A := Fw W g) (om_153 hg_o hU_o  h1338_o) (fun v8 s7 h1340_o => ?_)
                refine gQ_ite ?_ ?_
                · exact gQ_ret ⟨rfl, h1340_o⟩
                · exact gQ_ret ⟨rfl, h1340_o⟩
              · refine gQ_map ?_
                exact gQ_ret ⟨rfl, h1338_o⟩
            · unfold fb_244_87
              refine gQ_loop (fun y_l => y_l.1 = 217 ∧ Fw W g (y_l.2.2.2.2.2.2.2.2)) (fun y_l hy_o => ?_) ⟨rfl, h1328_o⟩
              obtain ⟨x1341_o, x1342_o, x1343_o, x1344_o, x1345_o, x1346_o, x1347_o, x1348_o, x1349_o⟩ := y_l
              obtain ⟨e1351_o, h1350_o⟩ := hy_o
              dsimp only at e1351_o h1350_o
              subst e1351_o
              show gQ (sb_244_92 217 x1342_o x1343_o x1344_o x1345_o x1346_o x1347_o x1348_o x1349_o) _
              unfold sb_244_92
              dsimp only
              refine gQ_ite ?_ ?_
              · refine gQ_v1 (A := Fw W g) (om_153 hg_o hU_o  h1350_o) (fun v8 s7 h1352_o => ?_)
                refine gQ_ite ?_ ?_
                · exact gQ_ret ⟨rfl, h1352_o⟩
                · exact gQ_ret ⟨rfl, h1352_o⟩
              · refine gQ_map ?_
                exact gQ_ret ⟨rfl, h1350_o⟩
          · refine gQ_map ?_
            refine gQ_ite ?_ ?_
            · exact gQ_none
            · exact gQ_ret h1326_o
    · unfold fb_244_24
      dsimp only
      refine gQ_ite ?_ ?_
      · exact gQ_ret (Fw_w h1310_o rfl (hU_o 217 _ rfl))
      · refine gQ_loop (fun y_l => y_l.1 = 217 ∧ Fw W g (y_l.2.2.2.2.2)) (fun y_l hy_o => ?_) ⟨rfl, (Fw_w h1310_o rfl (hU_o 217 _ rfl))⟩
        obtain ⟨x1353_o, x1354_o, x1355_o, x1356_o, x1357_o, x1358_o⟩ := y_l
        obtain ⟨e1360_o, h1359_o⟩ := hy_o
        dsimp only at e1360_o h1359_o
        subst e1360_o
        show gQ (sb_244_41 217 x1354_o x1355_o x1356_o x1357_o x1358_o) _
        unfold sb_244_41
        refine gQ_ite ?_ ?_
        · exact gQ_ret ⟨rfl, h1359_o⟩
        · refine gQ_map ?_
          refine gQ_loop (fun y_l => y_l.1 = 217 ∧ Fw W g (y_l.2.2.2.2.2.2)) (fun y_l hy_o => ?_) ⟨rfl, h1359_o⟩
          obtain ⟨x1361_o, x1362_o, x1363_o, x1364_o, x1365_o, x1366_o, x1367_o⟩ := y_l
          obtain ⟨e1369_o, h1368_o⟩ := hy_o
          dsimp only at e1369_o h1368_o
          subst e1369_o
          show gQ (sb_244_65 217 x1362_o x1363_o x1364_o x1365_o x1366_o x1367_o) _
          unfold sb_244_65
          refine gQ_ite ?_ ?_
          · refine gQ_v1 (A := Fw W g) (om_154 hg_o hU_o  h1368_o) (fun v6 s5 h1370_o => ?_)
            refine gQ_ite ?_ ?_
            · unfold fb_244_87
              refine gQ_loop (fun y_l => y_l.1 = 217 ∧ Fw W g (y_l.2.2.2.2.2.2.2.2)) (fun y_l hy_o => ?_) ⟨rfl, h1370_o⟩
              obtain ⟨x1371_o, x1372_o, x1373_o, x1374_o, x1375_o, x1376_o, x1377_o, x1378_o, x1379_o⟩ := y_l
              obtain ⟨e1381_o, h1380_o⟩ := hy_o
              dsimp only at e1381_o h1380_o
              subst e1381_o
              show gQ (sb_244_92 217 x1372_o x1373_o x1374_o x1375_o x1376_o x1377_o x1378_o x1379_o) _
              unfold sb_244_92
              dsimp only
              refine gQ_ite ?_ ?_
              · refine gQ_v1 (A := Fw W g) (om_153 hg_o hU_o  h1380_o) (fun v8 s7 h1382_o => ?_)
                refine gQ_ite ?_ ?_
                · exact gQ_ret ⟨rfl, h1382_o⟩
                · exact gQ_ret ⟨rfl, h1382_o⟩
              · refine gQ_map ?_
                exact gQ_ret ⟨rfl, h1380_o⟩
            · unfold fb_244_87
              refine gQ_loop (fun y_l => y_l.1 = 217 ∧ Fw W g (y_l.2.2.2.2.2.2.2.2)) (fun y_l hy_o => ?_) ⟨rfl, h1370_o⟩
              obtain ⟨x1383_o, x1384_o, x1385_o, x1386_o, x1387_o, x1388_o, x1389_o, x1390_o, x1391_o⟩ := y_l
              obtain ⟨e1393_o, h1392_o⟩ := hy_o
              dsimp only at e1393_o h1392_o
              subst e1393_o
              show gQ (sb_244_92 217 x1384_o x1385_o x1386_o x1387_o x1388_o x1389_o x1390_o x1391_o) _
              unfold sb_244_92
              dsimp only
              refine gQ_ite ?_ ?_
              · refine gQ_v1 (A := Fw W g) (om_153 hg_o hU_o  h1392_o) (fun v8 s7 h1394_o => ?_)
                refine gQ_ite ?_ ?_
                · exact gQ_ret ⟨rfl, h1394_o⟩
                · exact gQ_ret ⟨rfl, h1394_o⟩
              · refine gQ_map ?_
                exact gQ_ret ⟨rfl, h1392_o⟩
          · refine gQ_map ?_
            refine gQ_ite ?_ ?_
            · exact gQ_none
            · exact gQ_ret h1368_o

theorem om_245 {W : Nat → Nat → Bool} {g s : gS} {a0 : Nat} {a1 : Int} (hg_o : RF g) (hU_o : ∀ a k, mss a k = true → W a k = true) (ea0_o : a0 = 217) (h_o : Fw W g s) : gQ (f_245 a0 a1 s) (fun r => Fw W g r.2.2.2) := by
  subst ea0_o
  unfold f_245
  dsimp only
  refine gQ_loop (fun y_l => y_l.1 = 217 ∧ Fw W g (y_l.2.2.2.2)) (fun y_l hy_o => ?_) ⟨rfl, (Fw_w h_o rfl (hU_o 217 _ rfl))⟩
  obtain ⟨x1395_o, x1396_o, x1397_o, x1398_o, x1399_o⟩ := y_l
  obtain ⟨e1401_o, h1400_o⟩ := hy_o
  dsimp only at e1401_o h1400_o
  subst e1401_o
  show gQ (sb_245_9 217 x1396_o x1397_o x1398_o x1399_o) _
  unfold sb_245_9
  refine gQ_ite ?_ ?_
  · refine gQ_ite ?_ ?_
    · unfold fb_245_40
      exact gQ_ret ⟨rfl, h1400_o⟩
    · refine gQ_v1 (A := Fw W g) (om_160 hg_o hU_o rfl h1400_o) (fun v3 s2_l h1402_o => ?_)
      refine gQ_v1 (A := Fw W g) (om_160 hg_o hU_o rfl h1402_o) (fun v5 s4_l h1403_o => ?_)
      refine gQ_ite ?_ ?_
      · unfold fb_245_40
        exact gQ_ret ⟨rfl, h1403_o⟩
      · exact gQ_ret ⟨rfl, h1403_o⟩
  · refine gQ_map ?_
    refine gQ_ite ?_ ?_
    · exact gQ_ret h1400_o
    · refine gQ_loop (fun y_l => y_l.1 = 217 ∧ Fw W g (y_l.2.2.2.2)) (fun y_l hy_o => ?_) ⟨rfl, h1400_o⟩
      obtain ⟨x1404_o, x1405_o, x1406_o, x1407_o, x1408_o⟩ := y_l
      obtain ⟨e1410_o, h1409_o⟩ := hy_o
      dsimp only at e1410_o h1409_o
      subst e1410_o
      show gQ (sb_245_59 217 x1405_o x1406_o x1407_o x1408_o) _
      unfold sb_245_59
      refine gQ_ite ?_ ?_
      · refine gQ_ite ?_ ?_
        · exact gQ_ret ⟨rfl, h1409_o⟩
        · refine gQ_v1 (A := Fw W g) (om_160 hg_o hU_o rfl h1409_o) (fun v7 s6_l h1411_o => ?_)
          refine gQ_v1 (A := Fw W g) (om_152 hg_o hU_o  h1411_o) (fun v9 s8 h1412_o => ?_)
          exact gQ_ret ⟨rfl, h1412_o⟩
      · refine gQ_map ?_
        exact gQ_ret h1409_o

theorem om_246 {W : Nat → Nat → Bool} {g s : gS} {a0 : Nat} {a1 : Int} {a2 : Int} {a3 : Int} (hg_o : RF g) (hU_o : ∀ a k, mss a k = true → W a k = true) (ea0_o : a0 = 217) (h_o : Fw W g s) : gQ (f_246 a0 a1 a2 a3 s) (fun r => Fw W g r.2.2.2) := by
  subst ea0_o
  unfold f_246
  refine gQ_ite ?_ ?_
  · refine gQ_chk2 (fun ha1413_o hb1414_o => ?_)
    exact gQ_ret h_o
  · refine gQ_v1 (A := Fw W g) (om_160 hg_o hU_o rfl h_o) (fun v2 s1_l h1415_o => ?_)
    refine gQ_v1 (A := Fw W g) (om_156 hg_o hU_o rfl h1415_o) (fun v4_l s3_l h1416_o => ?_)
    refine gQ_v1 (A := Fw W g) (om_151 hg_o hU_o  h1416_o) (fun v6 s5 h1417_o => ?_)
    refine gQ_chk2 (fun ha1418_o hb1419_o => ?_)
    exact gQ_ret h1417_o

theorem om_252 {W : Nat → Nat → Bool} {g s : gS} {a0 : Nat} {a1 : Int} (hg_o : RF g) (hU_o : ∀ a k, mss a k = true → W a k = true) (ea0_o : a0 = 217) (h_o : Fw W g s) : gQ (f_252 a0 a1 s) (fun r => Fw W g r.2.2.2) := by
  subst ea0_o
  unfold f_252
  refine gQ_loop (fun y_l => y_l.1 = 217 ∧ Fw W g (y_l.2.2.2.2)) (fun y_l hy_o => ?_) ⟨rfl, h_o⟩
  obtain ⟨x1420_o, x1421_o, x1422_o, x1423_o, x1424_o⟩ := y_l
  obtain ⟨e1426_o, h1425_o⟩ := hy_o
  dsimp only at e1426_o h1425_o
  subst e1426_o
  show gQ (sb_252_4 217 x1421_o x1422_o x1423_o x1424_o) _
  unfold sb_252_4
  dsimp only
  refine gQ_ite ?_ ?_
  · refine gQ_v1 (A := Fw W g) (om_156 hg_o hU_o rfl h1425_o) (fun v2 s1_l h1427_o => ?_)
    refine gQ_ite ?_ ?_
    · exact gQ_ret ⟨rfl, h1427_o⟩
    · exact gQ_ret ⟨rfl, h1427_o⟩
  · refine gQ_map ?_
    exact gQ_ret h1425_o

theorem om_247 {W : Nat → Nat → Bool} {g s : gS} {a0 : Nat} {a1 : Int} (hg_o : RF g) (hU_o : ∀ a k, mss a k = true → W a k = true) (ea0_o : a0 = 217) (h_o : Fw W g s) : gQ (f_247 a0 a1 s) (fun r => Fw W g r.2.2.2) := by
  subst ea0_o
  unfold f_247
  refine gQ_ite ?_ ?_
  · unfold fb_247_18
    unfold fb_247_19
    dsimp only
    refine gQ_ite ?_ ?_
    · exact gQ_ret (Fw_w h_o rfl (hU_o 217 _ rfl))
    · refine gQ_loop (fun y_l => y_l.1 = 217 ∧ Fw W g (y_l.2.2.2.2)) (fun y_l hy_o => ?_) ⟨rfl, (Fw_w h_o rfl (hU_o 217 _ rfl))⟩
      obtain ⟨x1428_o, x1429_o, x1430_o, x1431_o, x1432_o⟩ := y_l
      obtain ⟨e1434_o, h1433_o⟩ := hy_o
      dsimp only at e1434_o h1433_o
      subst e1434_o
      show gQ (sb_247_41 217 x1429_o x1430_o x1431_o x1432_o) _
      unfold sb_247_41
      refine gQ_ite ?_ ?_
      · refine gQ_map ?_
        refine gQ_v1 (A := Fw W g) (om_252 hg_o hU_o rfl h1433_o) (fun v4_l s3_l h1435_o => ?_)
        refine gQ_ite ?_ ?_
        · refine gQ_chk2 (fun ha1436_o hb1437_o => ?_)
          exact gQ_ret h1435_o
        · refine gQ_loop (fun y_l => y_l.1 = 217 ∧ Fw W g (y_l.2.2.2.2.2)) (fun y_l hy_o => ?_) ⟨rfl, h1435_o⟩
          obtain ⟨x1438_o, x1439_o, x1440_o, x1441_o, x1442_o, x1443_o⟩ := y_l
          obtain ⟨e1445_o, h1444_o⟩ := hy_o
          dsimp only at e1445_o h1444_o
          subst e1445_o
          show gQ (sb_247_175 217 x1439_o x1440_o x1441_o x1442_o x1443_o) _
          unfold sb_247_175
          refine gQ_ite ?_ ?_
          · refine gQ_map ?_
            exact gQ_ret h1444_o
          · refine gQ_loop (fun y_l => y_l.1 = 217 ∧ Fw W g (y_l.2.2.2.2.2)) (fun y_l hy_o => ?_) ⟨rfl, h1444_o⟩
            obtain ⟨x1446_o, x1447_o, x1448_o, x1449_o, x1450_o, x1451_o⟩ := y_l
            obtain ⟨e1453_o, h1452_o⟩ := hy_o
            dsimp only at e1453_o h1452_o
            subst e1453_o
            show gQ (sb_247_184 217 x1447_o x1448_o x1449_o x1450_o x1451_o) _
            unfold sb_247_184
            refine gQ_ite ?_ ?_
            · unfold fb_247_199
              dsimp only
              refine gQ_v1 (A := Fw W g) (om_246 hg_o hU_o rfl h1452_o) (fun v6 s5 h1454_o => ?_)
              refine gQ_chk2 (fun ha1455_o hb1456_o => ?_)
              refine gQ_ite ?_ ?_
              · refine gQ_map ?_
                refine gQ_ite ?_ ?_
                · exact gQ_ret ⟨rfl, h1454_o⟩
                · exact gQ_ret ⟨rfl, h1454_o⟩
              · exact gQ_ret ⟨rfl, h1454_o⟩
            · refine gQ_v1 (A := Fw W g) (om_153 hg_o hU_o  h1452_o) (fun v9 s8 h1457_o => ?_)
              refine gQ_ite ?_ ?_
              · exact gQ_ret ⟨rfl, h1457_o⟩
              · unfold fb_247_199
                dsimp only
                refine gQ_v1 (A := Fw W g) (om_246 hg_o hU_o rfl h1457_o) (fun v6 s5 h1458_o => ?_)
                refine gQ_chk2 (fun ha1459_o hb1460_o => ?_)
                refine gQ_ite ?_ ?_
                · refine gQ_map ?_
                  refine gQ_ite ?_ ?_
                  · exact gQ_ret ⟨rfl, h1458_o⟩
                  · exact gQ_ret ⟨rfl, h1458_o⟩
                · exact gQ_ret ⟨rfl, h1458_o⟩
      · refine gQ_loop (fun y_l => y_l.1 = 217 ∧ Fw W g (y_l.2.2.2.2.2)) (fun y_l hy_o => ?_) ⟨rfl, h1433_o⟩
        obtain ⟨x1461_o, x1462_o, x1463_o, x1464_o, x1465_o, x1466_o⟩ := y_l
        obtain ⟨e1468_o, h1467_o⟩ := hy_o
        dsimp only at e1468_o h1467_o
        subst e1468_o
        show gQ (sb_247_48 217 x1462_o x1463_o x1464_o x1465_o x1466_o) _
        unfold sb_247_48
        refine gQ_ite ?_ ?_
        · refine gQ_ite ?_ ?_
          · unfold fb_247_72
            refine gQ_loop (fun y_l => y_l.1 = 217 ∧ Fw W g (y_l.2.2.2.2.2.2.2)) (fun y_l hy_o => ?_) ⟨rfl, h1467_o⟩
            obtain ⟨x1469_o, x1470_o, x1471_o, x1472_o, x1473_o, x1474_o, x1475_o, x1476_o⟩ := y_l
            obtain ⟨e1478_o, h1477_o⟩ := hy_o
            dsimp only at e1478_o h1477_o
            subst e1478_o
            show gQ (sb_247_77 217 x1470_o x1471_o x1472_o x1473_o x1474_o x1475_o x1476_o) _
            unfold sb_247_77
            refine gQ_ite ?_ ?_
            · refine gQ_ite ?_ ?_
              · refine gQ_v1 (A := Fw W g) (om_153 hg_o hU_o  h1477_o) (fun v12 s11 h1479_o => ?_)
                refine gQ_ite ?_ ?_
                · exact gQ_ret ⟨rfl, h1479_o⟩
                · refine gQ_v1 (A := Fw W g) (om_246 hg_o hU_o rfl h1479_o) (fun v15 s14 h1480_o => ?_)
                  refine gQ_v1 (A := Fw W g) (om_152 hg_o hU_o  h1480_o) (fun v17 s16 h1481_o => ?_)
                  exact gQ_ret ⟨rfl, h1481_o⟩
              · refine gQ_map ?_
                unfold fb_247_125
                dsimp only
                refine gQ_chk2 (fun ha1482_o hb1483_o => ?_)
                exact gQ_ret ⟨rfl, (Fw_w h1477_o (fr_r h1477_o rfl (rr_217_24 hg_o)) (hU_o 230 _ rfl))⟩
            · refine gQ_map ?_
              unfold fb_247_125
              dsimp only
              refine gQ_chk2 (fun ha1484_o hb1485_o => ?_)
              exact gQ_ret ⟨rfl, (Fw_w h1477_o (fr_r h1477_o rfl (rr_217_24 hg_o)) (hU_o 230 _ rfl))⟩
          · refine gQ_v1 (A := Fw W g) (om_246 hg_o hU_o rfl h1467_o) (fun v20 s19 h1486_o => ?_)
            unfold fb_247_72
            refine gQ_loop (fun y_l => y_l.1 = 217 ∧ Fw W g (y_l.2.2.2.2.2.2.2)) (fun y_l hy_o => ?_) ⟨rfl, h1486_o⟩
            obtain ⟨x1487_o, x1488_o, x1489_o, x1490_o, x1491_o, x1492_o, x1493_o, x1494_o⟩ := y_l
            obtain ⟨e1496_o, h1495_o⟩ := hy_o
            dsimp only at e1496_o h1495_o
            subst e1496_o
            show gQ (sb_247_77 217 x1488_o x1489_o x1490_o x1491_o x1492_o x1493_o x1494_o) _
            unfold sb_247_77
            refine gQ_ite ?_ ?_
            · refine gQ_ite ?_ ?_
              · refine gQ_v1 (A := Fw W g) (om_153 hg_o hU_o  h1495_o) (fun v12 s11 h1497_o => ?_)
                refine gQ_ite ?_ ?_
                · exact gQ_ret ⟨rfl, h1497_o⟩
                · refine gQ_v1 (A := Fw W g) (om_246 hg_o hU_o rfl h1497_o) (fun v15 s14 h1498_o => ?_)
                  refine gQ_v1 (A := Fw W g) (om_152 hg_o hU_o  h1498_o) (fun v17 s16 h1499_o => ?_)
                  exact gQ_ret ⟨rfl, h1499_o⟩
              · refine gQ_map ?_
                unfold fb_247_125
                dsimp only
                refine gQ_chk2 (fun ha1500_o hb1501_o => ?_)
                exact gQ_ret ⟨rfl, (Fw_w h1495_o (fr_r h1495_o rfl (rr_217_24 hg_o)) (hU_o 230 _ rfl))⟩
            · refine gQ_map ?_
              unfold fb_247_125
              dsimp only
              refine gQ_chk2 (fun ha1502_o hb1503_o => ?_)
              exact gQ_ret ⟨rfl, (Fw_w h1495_o (fr_r h1495_o rfl (rr_217_24 hg_o)) (hU_o 230 _ rfl))⟩
        · refine gQ_map ?_
          exact gQ_ret ⟨rfl, h1467_o⟩
  · refine gQ_v1 (A := Fw W g) (om_164 hg_o hU_o rfl h_o) (fun v22 s21 h1504_o => ?_)
    refine gQ_ite ?_ ?_
    · unfold fb_247_19
      dsimp only
      refine gQ_ite ?_ ?_
      · exact gQ_ret (Fw_w h1504_o rfl (hU_o 217 _ rfl))
      · refine gQ_loop (fun y_l => y_l.1 = 217 ∧ Fw W g (y_l.2.2.2.2)) (fun y_l hy_o => ?_) ⟨rfl, (Fw_w h1504_o rfl (hU_o 217 _ rfl))⟩
        obtain ⟨x1505_o, x1506_o, x1507_o, x1508_o, x1509_o⟩ := y_l
        obtain ⟨e1511_o, h1510_o⟩ := hy_o
        dsimp only at e1511_o h1510_o
        subst e1511_o
        show gQ (sb_247_41 217 x1506_o x1507_o x1508_o x1509_o) _
        unfold sb_247_41
        refine gQ_ite ?_ ?_
        · refine gQ_map ?_
          refine gQ_v1 (A := Fw W g) (om_252 hg_o hU_o rfl h1510_o) (fun v4_l s3_l h1512_o => ?_)
          refine gQ_ite ?_ ?_
          · refine gQ_chk2 (fun ha1513_o hb1514_o => ?_)
            exact gQ_ret h1512_o
          · refine gQ_loop (fun y_l => y_l.1 = 217 ∧ Fw W g (y_l.2.2.2.2.2)) (fun y_l hy_o => ?_) ⟨rfl, h1512_o⟩
            obtain ⟨x1515_o, x1516_o, x1517_o, x1518_o, x1519_o, x1520_o⟩ := y_l
            obtain ⟨e1522_o, h1521_o⟩ := hy_o
            dsimp only at e1522_o h1521_o
            subst e1522_o
            show gQ (sb_247_175 217 x1516_o x1517_o x1518_o x1519_o x1520_o) _
            unfold sb_247_175
            refine gQ_ite ?_ ?_
            · refine gQ_map ?_
              exact gQ_ret h1521_o
            · refine gQ_loop (fun y_l => y_l.1 = 217 ∧ Fw W g (y_l.2.2.2.2.2)) (fun y_l hy_o => ?_) ⟨rfl, h1521_o⟩
              obtain ⟨x1523_o, x1524_o, x1525_o, x1526_o, x1527_o, x1528_o⟩ := y_l
              obtain ⟨e1530_o, h1529_o⟩ := hy_o
              dsimp only at e1530_o h1529_o
              subst e1530_o
              show gQ (sb_247_184 217 x1524_o x1525_o x1526_o x1527_o x1528_o) _
              unfold sb_247_184
              refine gQ_ite ?_ ?_
              · unfold fb_247_199
                dsimp only
                refine gQ_v1 (A := Fw W g) (om_246 hg_o hU_o rfl h1529_o) (fun v6 s5 h1531_o => ?_)
                refine gQ_chk2 (fun ha1532_o hb1533_o => ?_)
                refine gQ_ite ?_ ?_
                · refine gQ_map ?_
                  refine gQ_ite ?_ ?_
                  · exact gQ_ret ⟨rfl, h1531_o⟩
                  · exact gQ_ret ⟨rfl, h1531_o⟩
                · exact gQ_ret ⟨rfl, h1531_o⟩
              · refine gQ_v1 (A := Fw W g) (om_153 hg_o hU_o  h1529_o) (fun v9 s8 h1534_o => ?_)
                refine gQ_ite ?_ ?_
                · exact gQ_ret ⟨rfl, h1534_o⟩
                · unfold fb_247_199
                  dsimp only
                  refine gQ_v1 (A := Fw W g) (om_246 hg_o hU_o rfl h1534_o) (fun v6 s5 h1535_o => ?_)
                  refine gQ_chk2 (fun ha1536_o hb1537_o => ?_)
                  refine gQ_ite ?_ ?_
                  · refine gQ_map ?_
                    refine gQ_ite ?_ ?_
                    · exact gQ_ret ⟨rfl, h1535_o⟩
                    · exact gQ_ret ⟨rfl, h1535_o⟩
                  · exact gQ_ret ⟨rfl, h1535_o⟩
        · refine gQ_loop (fun y_l => y_l.1 = 217 ∧ Fw W g (y_l.2.2.2.2.2)) (fun y_l hy_o => ?_) ⟨rfl, h1510_o⟩
          obtain ⟨x1538_o, x1539_o, x1540_o, x1541_o, x1542_o, x1543_o⟩ := y_l
          obtain ⟨e1545_o, h1544_o⟩ := hy_o
          dsimp only at e1545_o h1544_o
          subst e1545_o
          show gQ (sb_247_48 217 x1539_o x1540_o x1541_o x1542_o x1543_o) _
          unfold sb_247_48
          refine gQ_ite ?_ ?_
          · refine gQ_ite ?_ ?_
            · unfold fb_247_72
              refine gQ_loop (fun y_l => y_l.1 = 217 ∧ Fw W g (y_l.2.2.2.2.2.2.2)) (fun y_l hy_o => ?_) ⟨rfl, h1544_o⟩
              obtain ⟨x1546_o, x1547_o, x1548_o, x1549_o, x1550_o, x1551_o, x1552_o, x1553_o⟩ := y_l
              obtain ⟨e1555_o, h1554_o⟩ := hy_o
              dsimp only at e1555_o h1554_o
              subst e1555_o
              show gQ (sb_247_77 217 x1547_o x1548_o x1549_o x1550_o x1551_o x1552_o x1553_o) _
              unfold sb_247_77
              refine gQ_ite ?_ ?_
              · refine gQ_ite ?_ ?_
                · refine gQ_v1 (A := Fw W g) (om_153 hg_o hU_o  h1554_o) (fun v12 s11 h1556_o => ?_)
                  refine gQ_ite ?_ ?_
                  · exact gQ_ret ⟨rfl, h1556_o⟩
                  · refine gQ_v1 (A := Fw W g) (om_246 hg_o hU_o rfl h1556_o) (fun v15 s14 h1557_o => ?_)
                    refine gQ_v1 (A := Fw W g) (om_152 hg_o hU_o  h1557_o) (fun v17 s16 h1558_o => ?_)
                    exact gQ_ret ⟨rfl, h1558_o⟩
                · refine gQ_map ?_
                  unfold fb_247_125
                  dsimp only
                  refine gQ_chk2 (fun ha1559_o hb1560_o => ?_)
                  exact gQ_ret ⟨rfl, (Fw_w h1554_o (fr_r h1554_o rfl (rr_217_24 hg_o)) (hU_o 230 _ rfl))⟩
              · refine gQ_map ?_
                unfold fb_247_125
                dsimp only
                refine gQ_chk2 (fun ha1561_o hb1562_o => ?_)
                exact gQ_ret ⟨rfl, (Fw_w h1554_o (fr_r h1554_o rfl (rr_217_24 hg_o)) (hU_o 230 _ rfl))⟩
            · refine gQ_v1 (A := Fw W g) (om_246 hg_o hU_o rfl h1544_o) (fun v20 s19 h1563_o => ?_)
              unfold fb_247_72
              refine gQ_loop (fun y_l => y_l.1 = 217 ∧ Fw W g (y_l.2.2.2.2.2.2.2)) (fun y_l hy_o => ?_) ⟨rfl, h1563_o⟩
              obtain ⟨x1564_o, x1565_o, x1566_o, x1567_o, x1568_o, x1569_o, x1570_o, x1571_o⟩ := y_l
              obtain ⟨e1573_o, h1572_o⟩ := hy_o
              dsimp only at e1573_o h1572_o
              subst e1573_o
              show gQ (sb_247_77 217 x1565_o x1566_o x1567_o x1568_o x1569_o x1570_o x1571_o) _
              unfold sb_247_77
              refine gQ_ite ?_ ?_
              · refine gQ_ite ?_ ?_
                · refine gQ_v1 (A := Fw W g) (om_153 hg_o hU_o  h1572_o) (fun v12 s11 h1574_o => ?_)
                  refine gQ_ite ?_ ?_
                  · exact gQ_ret ⟨rfl, h1574_o⟩
                  · refine gQ_v1 (A := Fw W g) (om_246 hg_o hU_o rfl h1574_o) (fun v15 s14 h1575_o => ?_)
                    refine gQ_v1 (A := Fw W g) (om_152 hg_o hU_o  h1575_o) (fun v17 s16 h1576_o => ?_)
                    exact gQ_ret ⟨rfl, h1576_o⟩
                · refine gQ_map ?_
                  unfold fb_247_125
                  dsimp only
                  refine gQ_chk2 (fun ha1577_o hb1578_o => ?_)
                  exact gQ_ret ⟨rfl, (Fw_w h1572_o (fr_r h1572_o rfl (rr_217_24 hg_o)) (hU_o 230 _ rfl))⟩
              · refine gQ_map ?_
                unfold fb_247_125
                dsimp only
                refine gQ_chk2 (fun ha1579_o hb1580_o => ?_)
                exact gQ_ret ⟨rfl, (Fw_w h1572_o (fr_r h1572_o rfl (rr_217_24 hg_o)) (hU_o 230 _ rfl))⟩
          · refine gQ_map ?_
            exact gQ_ret ⟨rfl, h1544_o⟩
    · unfold fb_247_18
      unfold fb_247_19
      dsimp only
      refine gQ_ite ?_ ?_
      · exact gQ_ret (Fw_w h1504_o rfl (hU_o 217 _ rfl))
      · refine gQ_loop (fun y_l => y_l.1 = 217 ∧ Fw W g (y_l.2.2.2.2)) (fun y_l hy_o => ?_) ⟨rfl, (Fw_w h1504_o rfl (hU_o 217 _ rfl))⟩
        obtain ⟨x1581_o, x1582_o, x1583_o, x1584_o, x1585_o⟩ := y_l
        obtain ⟨e1587_o, h1586_o⟩ := hy_o
        dsimp only at e1587_o h1586_o
        subst e1587_o
        show gQ (sb_247_41 217 x1582_o x1583_o x1584_o x1585_o) _
        unfold sb_247_41
        refine gQ_ite ?_ ?_
        · refine gQ_map ?_
          refine gQ_v1 (A := Fw W g) (om_252 hg_o hU_o rfl h1586_o) (fun v4_l s3_l h1588_o => ?_)
          refine gQ_ite ?_ ?_
          · refine gQ_chk2 (fun ha1589_o hb1590_o => ?_)
            exact gQ_ret h1588_o
          · refine gQ_loop (fun y_l => y_l.1 = 217 ∧ Fw W g (y_l.2.2.2.2.2)) (fun y_l hy_o => ?_) ⟨rfl, h1588_o⟩
            obtain ⟨x1591_o, x1592_o, x1593_o, x1594_o, x1595_o, x1596_o⟩ := y_l
            obtain ⟨e1598_o, h1597_o⟩ := hy_o
            dsimp only at e1598_o h1597_o
            subst e1598_o
            show gQ (sb_247_175 217 x1592_o x1593_o x1594_o x1595_o x1596_o) _
            unfold sb_247_175
            refine gQ_ite ?_ ?_
            · refine gQ_map ?_
              exact gQ_ret h1597_o
            · refine gQ_loop (fun y_l => y_l.1 = 217 ∧ Fw W g (y_l.2.2.2.2.2)) (fun y_l hy_o => ?_) ⟨rfl, h1597_o⟩
              obtain ⟨x1599_o, x1600_o, x1601_o, x1602_o, x1603_o, x1604_o⟩ := y_l
              obtain ⟨e1606_o, h1605_o⟩ := hy_o
              dsimp only at e1606_o h1605_o
              subst e1606_o
              show gQ (sb_247_184 217 x1600_o x1601_o x1602_o x1603_o x1604_o) _
              unfold sb_247_184
              refine gQ_ite ?_ ?_
              · unfold fb_247_199
                dsimp only
                refine gQ_v1 (A := Fw W g) (om_246 hg_o hU_o rfl h1605_o) (fun v6 s5 h1607_o => ?_)
                refine gQ_chk2 (fun ha1608_o hb1609_o => ?_)
                refine gQ_ite ?_ ?_
                · refine gQ_map ?_
                  refine gQ_ite ?_ ?_
                  · exact gQ_ret ⟨rfl, h1607_o⟩
                  · exact gQ_ret ⟨rfl, h1607_o⟩
                · exact gQ_ret ⟨rfl, h1607_o⟩
              · refine gQ_v1 (A := Fw W g) (om_153 hg_o hU_o  h1605_o) (fun v9 s8 h1610_o => ?_)
                refine gQ_ite ?_ ?_
                · exact gQ_ret ⟨rfl, h1610_o⟩
                · unfold fb_247_199
                  dsimp only
                  refine gQ_v1 (A := Fw W g) (om_246 hg_o hU_o rfl h1610_o) (fun v6 s5 h1611_o => ?_)
                  refine gQ_chk2 (fun ha1612_o hb1613_o => ?_)
                  refine gQ_ite ?_ ?_
                  · refine gQ_map ?_
                    refine gQ_ite ?_ ?_
                    · exact gQ_ret ⟨rfl, h1611_o⟩
                    · exact gQ_ret ⟨rfl, h1611_o⟩
                  · exact gQ_ret ⟨rfl, h1611_o⟩
        · refine gQ_loop (fun y_l => y_l.1 = 217 ∧ Fw W g (y_l.2.2.2.2.2)) (fun y_l hy_o => ?_) ⟨rfl, h1586_o⟩
          obtain ⟨x1614_o, x1615_o, x1616_o, x1617_o, x1618_o, x1619_o⟩ := y_l
          obtain ⟨e1621_o, h1620_o⟩ := hy_o
          dsimp only at e1621_o h1620_o
          subst e1621_o
          show gQ (sb_247_48 217 x1615_o x1616_o x1617_o x1618_o x1619_o) _
          unfold sb_247_48
          refine gQ_ite ?_ ?_
          · refine gQ_ite ?_ ?_
            · unfold fb_247_72
              refine gQ_loop (fun y_l => y_l.1 = 217 ∧ Fw W g (y_l.2.2.2.2.2.2.2)) (fun y_l hy_o => ?_) ⟨rfl, h1620_o⟩
              obtain ⟨x1622_o, x1623_o, x1624_o, x1625_o, x1626_o, x1627_o, x1628_o, x1629_o⟩ := y_l
              obtain ⟨e1631_o, h1630_o⟩ := hy_o
              dsimp only at e1631_o h1630_o
              subst e1631_o
              show gQ (sb_247_77 217 x1623_o x1624_o x1625_o x1626_o x1627_o x1628_o x1629_o) _
              unfold sb_247_77
              refine gQ_ite ?_ ?_
              · refine gQ_ite ?_ ?_
                · refine gQ_v1 (A := Fw W g) (om_153 hg_o hU_o  h1630_o) (fun v12 s11 h1632_o => ?_)
                  refine gQ_ite ?_ ?_
                  · exact gQ_ret ⟨rfl, h1632_o⟩
                  · refine gQ_v1 (A := Fw W g) (om_246 hg_o hU_o rfl h1632_o) (fun v15 s14 h1633_o => ?_)
                    refine gQ_v1 (A := Fw W g) (om_152 hg_o hU_o  h1633_o) (fun v17 s16 h1634_o => ?_)
                    exact gQ_ret ⟨rfl, h1634_o⟩
                · refine gQ_map ?_
                  unfold fb_247_125
                  dsimp only
                  refine gQ_chk2 (fun ha1635_o hb1636_o => ?_)
                  exact gQ_ret ⟨rfl, (Fw_w h1630_o (fr_r h1630_o rfl (rr_217_24 hg_o)) (hU_o 230 _ rfl))⟩
              · refine gQ_map ?_
                unfold fb_247_125
                dsimp only
                refine gQ_chk2 (fun ha1637_o hb1638_o => ?_)
                exact gQ_ret ⟨rfl, (Fw_w h1630_o (fr_r h1630_o rfl (rr_217_24 hg_o)) (hU_o 230 _ rfl))⟩
            · refine gQ_v1 (A := Fw W g) (om_246 hg_o hU_o rfl h1620_o) (fun v20 s19 h1639_o => ?_)
              unfold fb_247_72
              refine gQ_loop (fun y_l => y_l.1 = 217 ∧ Fw W g (y_l.2.2.2.2.2.2.2)) (fun y_l hy_o => ?_) ⟨rfl, h1639_o⟩
              obtain ⟨x1640_o, x1641_o, x1642_o, x1643_o, x1644_o, x1645_o, x1646_o, x1647_o⟩ := y_l
              obtain ⟨e1649_o, h1648_o⟩ := hy_o
              dsimp only at e1649_o h1648_o
              subst e1649_o
              show gQ (sb_247_77 217 x1641_o x1642_o x1643_o x1644_o x1645_o x1646_o x1647_o) _
              unfold sb_247_77
              refine gQ_ite ?_ ?_
              · refine gQ_ite ?_ ?_
                · refine gQ_v1 (A := Fw W g) (om_153 hg_o hU_o  h1648_o) (fun v12 s11 h1650_o => ?_)
                  refine gQ_ite ?_ ?_
                  · exact gQ_ret ⟨rfl, h1650_o⟩
                  · refine gQ_v1 (A := Fw W g) (om_246 hg_o hU_o rfl h1650_o) (fun v15 s14 h1651_o => ?_)
                    refine gQ_v1 (A := Fw W g) (om_152 hg_o hU_o  h1651_o) (fun v17 s16 h1652_o => ?_)
                    exact gQ_ret ⟨rfl, h1652_o⟩
                · refine gQ_map ?_
                  unfold fb_247_125
                  dsimp only
                  refine gQ_chk2 (fun ha1653_o hb1654_o => ?_)
                  exact gQ_ret ⟨rfl, (Fw_w h1648_o (fr_r h1648_o rfl (rr_217_24 hg_o)) (hU_o 230 _ rfl))⟩
              · refine gQ_map ?_
                unfold fb_247_125
                dsimp only
                refine gQ_chk2 (fun ha1655_o hb1656_o => ?_)
                exact gQ_ret ⟨rfl, (Fw_w h1648_o (fr_r h1648_o rfl (rr_217_24 hg_o)) (hU_o 230 _ rfl))⟩
          · refine gQ_map ?_
            exact gQ_ret ⟨rfl, h1620_o⟩

theorem om_248 {W : Nat → Nat → Bool} {g s : gS} {a0 : Nat} (hg_o : RF g) (hU_o : ∀ a k, mss a k = true → W a k = true) (ea0_o : a0 = 217) (h_o : Fw W g s) : gQ (f_248 a0 s) (fun r => Fw W g r.2.2.2) := by
  subst ea0_o
  unfold f_248
  dsimp only
  refine gQ_loop (fun y_l => y_l.1 = 217 ∧ Fw W g (y_l.2.2.2.2)) (fun y_l hy_o => ?_) ⟨rfl, (Fw_w h_o rfl (hU_o 217 _ rfl))⟩
  obtain ⟨x1657_o, x1658_o, x1659_o, x1660_o, x1661_o⟩ := y_l
  obtain ⟨e1663_o, h1662_o⟩ := hy_o
  dsimp only at e1663_o h1662_o
  subst e1663_o
  show gQ (sb_248_20 217 x1658_o x1659_o x1660_o x1661_o) _
  unfold sb_248_20
  refine gQ_ite ?_ ?_
  · refine gQ_loop (fun y_l => y_l.1 = 217 ∧ Fw W g (y_l.2.2.2.2.2.2)) (fun y_l hy_o => ?_) ⟨rfl, h1662_o⟩
    obtain ⟨x1664_o, x1665_o, x1666_o, x1667_o, x1668_o, x1669_o, x1670_o⟩ := y_l
    obtain ⟨e1672_o, h1671_o⟩ := hy_o
    dsimp only at e1672_o h1671_o
    subst e1672_o
    show gQ (sb_248_39 217 x1665_o x1666_o x1667_o x1668_o x1669_o x1670_o) _
    unfold sb_248_39
    refine gQ_ite ?_ ?_
    · refine gQ_v1 (A := Fw W g) (om_153 hg_o hU_o  h1671_o) (fun v4_l s3_l h1673_o => ?_)
      refine gQ_ite ?_ ?_
      · exact gQ_ret ⟨rfl, h1673_o⟩
      · refine gQ_v1 (A := Fw W g) (om_160 hg_o hU_o rfl h1673_o) (fun v7 s6_l h1674_o => ?_)
        exact gQ_ret ⟨rfl, h1674_o⟩
    · refine gQ_map ?_
      refine gQ_ite ?_ ?_
      · refine gQ_ite ?_ ?_
        · unfold fb_248_107
          exact gQ_ret ⟨rfl, h1671_o⟩
        · refine gQ_v1 (A := Fw W g) (om_154 hg_o hU_o  h1671_o) (fun v9 s8 h1675_o => ?_)
          refine gQ_v1 (A := Fw W g) (om_154 hg_o hU_o  h1675_o) (fun v11 s10 h1676_o => ?_)
          refine gQ_ite ?_ ?_
          · unfold fb_248_107
            exact gQ_ret ⟨rfl, h1676_o⟩
          · exact gQ_ret ⟨rfl, h1676_o⟩
      · exact gQ_ret ⟨rfl, h1671_o⟩
  · refine gQ_map ?_
    exact gQ_ret h1662_o

theorem om_249 {W : Nat → Nat → Bool} {g s : gS} {a0 : Nat} (hg_o : RF g) (hU_o : ∀ a k, mss a k = true → W a k = true) (ea0_o : a0 = 217) (h_o : Fw W g s) : gQ (f_249 a0 s) (fun r => Fw W g r.2.2.2) := by
  subst ea0_o
  unfold f_249
  dsimp only
  refine gQ_loop (fun y_l => y_l.1 = 217 ∧ Fw W g (y_l.2.2.2)) (fun y_l hy_o => ?_) ⟨rfl, (Fw_w h_o rfl (hU_o 217 _ rfl))⟩
  obtain ⟨x1677_o, x1678_o, x1679_o, x1680_o⟩ := y_l
  obtain ⟨e1682_o, h1681_o⟩ := hy_o
  dsimp only at e1682_o h1681_o
  subst e1682_o
  show gQ (sb_249_9 217 x1678_o x1679_o x1680_o) _
  unfold sb_249_9
  refine gQ_ite ?_ ?_
  · refine gQ_loop (fun y_l => y_l.1 = 217 ∧ Fw W g (y_l.2.2.2.2)) (fun y_l hy_o => ?_) ⟨rfl, h1681_o⟩
    obtain ⟨x1683_o, x1684_o, x1685_o, x1686_o, x1687_o⟩ := y_l
    obtain ⟨e1689_o, h1688_o⟩ := hy_o
    dsimp only at e1689_o h1688_o
    subst e1689_o
    show gQ (sb_249_23 217 x1684_o x1685_o x1686_o x1687_o) _
    unfold sb_249_23
    refine gQ_ite ?_ ?_
    · refine gQ_v1 (A := Fw W g) (om_156 hg_o hU_o rfl h1688_o) (fun v3 s2_l h1690_o => ?_)
      refine gQ_v1 (A := Fw W g) (om_156 hg_o hU_o rfl h1690_o) (fun v5 s4_l h1691_o => ?_)
      refine gQ_ite ?_ ?_
      · exact gQ_ret ⟨rfl, h1691_o⟩
      · exact gQ_ret ⟨rfl, h1691_o⟩
    · refine gQ_map ?_
      exact gQ_ret ⟨rfl, h1688_o⟩
  · refine gQ_map ?_
    exact gQ_ret h1681_o

theorem om_250 {W : Nat → Nat → Bool} {g s : gS} {a0 : Nat} {a1 : Int} (hg_o : RF g) (hU_o : ∀ a k, mss a k = true → W a k = true) (ea0_o : a0 = 217) (h_o : Fw W g s) : gQ (f_250 a0 a1 s) (fun r => Fw W g r.2.2.2) := by
  subst ea0_o
  unfold f_250
  refine gQ_v1 (A := Fw W g) (om_150 hg_o hU_o  h_o) (fun v2 s1_l h1692_o => ?_)
  refine gQ_ite ?_ ?_
  · unfold fb_250_15
    dsimp only
    refine gQ_loop (fun y_l => y_l.1 = 217 ∧ Fw W g (y_l.2.2.2.2)) (fun y_l hy_o => ?_) ⟨rfl, (Fw_w h1692_o rfl (hU_o 217 _ rfl))⟩
    obtain ⟨x1693_o, x1694_o, x1695_o, x1696_o, x1697_o⟩ := y_l
    obtain ⟨e1699_o, h1698_o⟩ := hy_o
    dsimp only at e1699_o h1698_o
    subst e1699_o
    show gQ (sb_250_22 217 x1694_o x1695_o x1696_o x1697_o) _
    unfold sb_250_22
    dsimp only
    refine gQ_ite ?_ ?_
    · refine gQ_ite ?_ ?_
      · refine gQ_v1 (A := Fw W g) (om_156 hg_o hU_o rfl h1698_o) (fun v6 s5 h1700_o => ?_)
        refine gQ_v1 (A := Fw W g) (om_153 hg_o hU_o  h1700_o) (fun v8 s7 h1701_o => ?_)
        refine gQ_ite ?_ ?_
        · exact gQ_ret ⟨rfl, h1701_o⟩
        · exact gQ_ret ⟨rfl, h1701_o⟩
      · refine gQ_map ?_
        exact gQ_ret h1698_o
    · refine gQ_map ?_
      exact gQ_ret h1698_o
  · unfold fb_250_15
    dsimp only
    refine gQ_loop (fun y_l => y_l.1 = 217 ∧ Fw W g (y_l.2.2.2.2)) (fun y_l hy_o => ?_) ⟨rfl, (Fw_w h1692_o rfl (hU_o 217 _ rfl))⟩
    obtain ⟨x1702_o, x1703_o, x1704_o, x1705_o, x1706_o⟩ := y_l
    obtain ⟨e1708_o, h1707_o⟩ := hy_o
    dsimp only at e1708_o h1707_o
    subst e1708_o
    show gQ (sb_250_22 217 x1703_o x1704_o x1705_o x1706_o) _
    unfold sb_250_22
    dsimp only
    refine gQ_ite ?_ ?_
    · refine gQ_ite ?_ ?_
      · refine gQ_v1 (A := Fw W g) (om_156 hg_o hU_o rfl h1707_o) (fun v6 s5 h1709_o => ?_)
        refine gQ_v1 (A := Fw W g) (om_153 hg_o hU_o  h1709_o) (fun v8 s7 h1710_o => ?_)
        refine gQ_ite ?_ ?_
        · exact gQ_ret ⟨rfl, h1710_o⟩
        · exact gQ_ret ⟨rfl, h1710_o⟩
      · refine gQ_map ?_
        exact gQ_ret h1707_o
    · refine gQ_map ?_
      exact gQ_ret h1707_o

theorem om_251 {W : Nat → Nat → Bool} {g s : gS} {a0 : Nat} (hg_o : RF g) (hU_o : ∀ a k, mss a k = true → W a k = true) (ea0_o : a0 = 217) (h_o : Fw W g s) : gQ (f_251 a0 s) (fun r => Fw W g r.2.2.2) := by
  subst ea0_o
  unfold f_251
  dsimp only
  refine gQ_loop (fun y_l => y_l.1 = 217 ∧ Fw W g (y_l.2.2.2)) (fun y_l hy_o => ?_) ⟨rfl, (Fw_w h_o rfl (hU_o 217 _ rfl))⟩
  obtain ⟨x1711_o, x1712_o, x1713_o, x1714_o⟩ := y_l
  obtain ⟨e1716_o, h1715_o⟩ := hy_o
  dsimp only at e1716_o h1715_o
  subst e1716_o
  show gQ (sb_251_9 217 x1712_o x1713_o x1714_o) _
  unfold sb_251_9
  refine gQ_ite ?_ ?_
  · refine gQ_ite ?_ ?_
    · unfold fb_251_39
      exact gQ_ret ⟨rfl, h1715_o⟩
    · refine gQ_v1 (A := Fw W g) (om_155 hg_o hU_o rfl h1715_o) (fun v3 s2_l h1717_o => ?_)
      refine gQ_v1 (A := Fw W g) (om_155 hg_o hU_o rfl h1717_o) (fun v5 s4_l h1718_o => ?_)
      refine gQ_ite ?_ ?_
      · unfold fb_251_39
        exact gQ_ret ⟨rfl, h1718_o⟩
      · exact gQ_ret ⟨rfl, h1718_o⟩
  · refine gQ_map ?_
    exact gQ_ret h1715_o

theorem om_253 {W : Nat → Nat → Bool} {g s : gS} {a0 : Nat} {a1 : Int} (hg_o : RF g) (hU_o : ∀ a k, mss a k = true → W a k = true) (ea0_o : a0 = 217) (h_o : Fw W g s) : gQ (f_253 a0 a1 s) (fun r => Fw W g r.2.2.2) := by
  subst ea0_o
  unfold f_253
  dsimp only
  refine gQ_ite ?_ ?_
  · unfold fb_253_15
    refine gQ_v1 (A := Fw W g) (om_252 hg_o hU_o rfl (Fw_w h_o rfl (hU_o 217 _ rfl))) (fun v3 s2_l h1719_o => ?_)
    exact gQ_ret h1719_o
  · unfold fb_253_15
    refine gQ_v1 (A := Fw W g) (om_252 hg_o hU_o rfl (Fw_w h_o rfl (hU_o 217 _ rfl))) (fun v3 s2_l h1720_o => ?_)
    exact gQ_ret h1720_o

theorem om_256 {W : Nat → Nat → Bool} {g s : gS} {a0 : Nat} {a1 : Int} {a2 : Int} (hg_o : RF g) (hU_o : ∀ a k, mss a k = true → W a k = true) (ea0_o : a0 = 217) (h_o : Fw W g s) : gQ (f_256 a0 a1 a2 s) (fun r => Fw W g r.2.2.2) := by
  subst ea0_o
  unfold f_256
  refine gQ_chk2 (fun ha1721_o hb1722_o => ?_)
  exact gQ_ret h_o

theorem om_257 {W : Nat → Nat → Bool} {g s : gS} {a0 : Nat} {a1 : Int} {a2 : Int} (hg_o : RF g) (hU_o : ∀ a k, mss a k = true → W a k = true) (ea0_o : a0 = 217) (h_o : Fw W g s) : gQ (f_257 a0 a1 a2 s) (fun r => Fw W g r.2.2.2) := by
  subst ea0_o
  unfold f_257
  refine gQ_v1 (A := Fw W g) (om_162 hg_o hU_o rfl h_o) (fun v2 s1_l h1723_o => ?_)
  refine gQ_ite ?_ ?_
  · unfold fb_257_14
    dsimp only
    refine gQ_loop (fun y_l => y_l.1 = 217 ∧ Fw W g (y_l.2.2.2.2.2)) (fun y_l hy_o => ?_) ⟨rfl, (Fw_w h1723_o rfl (hU_o 217 _ rfl))⟩
    obtain ⟨x1724_o, x1725_o, x1726_o, x1727_o, x1728_o, x1729_o⟩ := y_l
    obtain ⟨e1731_o, h1730_o⟩ := hy_o
    dsimp only at e1731_o h1730_o
    subst e1731_o
    show gQ (sb_257_22 217 x1725_o x1726_o x1727_o x1728_o x1729_o) _
    unfold sb_257_22
    refine gQ_ite ?_ ?_
    · refine gQ_ite ?_ ?_
      · refine gQ_v1 (A := Fw W g) (om_256 hg_o hU_o rfl h1730_o) (fun v6 s5 h1732_o => ?_)
        refine gQ_ite ?_ ?_
        · refine gQ_ite ?_ ?_
          · exact gQ_ret ⟨rfl, h1732_o⟩
          · refine gQ_v1 (A := Fw W g) (om_256 hg_o hU_o rfl h1732_o) (fun v8 s7 h1733_o => ?_)
            refine gQ_ite ?_ ?_
            · exact gQ_ret ⟨rfl, h1733_o⟩
            · unfold fb_257_72
              exact gQ_ret ⟨rfl, h1733_o⟩
        · unfold fb_257_72
          exact gQ_ret ⟨rfl, h1732_o⟩
      · refine gQ_map ?_
        exact gQ_ret h1730_o
    · refine gQ_map ?_
      exact gQ_ret h1730_o
  · unfold fb_257_14
    dsimp only
    refine gQ_loop (fun y_l => y_l.1 = 217 ∧ Fw W g (y_l.2.2.2.2.2)) (fun y_l hy_o => ?_) ⟨rfl, (Fw_w h1723_o rfl (hU_o 217 _ rfl))⟩
    obtain ⟨x1734_o, x1735_o, x1736_o, x1737_o, x1738_o, x1739_o⟩ := y_l
    obtain ⟨e1741_o, h1740_o⟩ := hy_o
    dsimp only at e1741_o h1740_o
    subst e1741_o
    show gQ (sb_257_22 217 x1735_o x1736_o x1737_o x1738_o x1739_o) _
    unfold sb_257_22
    refine gQ_ite ?_ ?_
    · refine gQ_ite ?_ ?_
      · refine gQ_v1 (A := Fw W g) (om_256 hg_o hU_o rfl h1740_o) (fun v6 s5 h1742_o => ?_)
        refine gQ_ite ?_ ?_
        · refine gQ_ite ?_ ?_
          · exact gQ_ret ⟨rfl, h1742_o⟩
          · refine gQ_v1 (A := Fw W g) (om_256 hg_o hU_o rfl h1742_o) (fun v8 s7 h1743_o => ?_)
            refine gQ_ite ?_ ?_
            · exact gQ_ret ⟨rfl, h1743_o⟩
            · unfold fb_257_72
              exact gQ_ret ⟨rfl, h1743_o⟩
        · unfold fb_257_72
          exact gQ_ret ⟨rfl, h1742_o⟩
      · refine gQ_map ?_
        exact gQ_ret h1740_o
    · refine gQ_map ?_
      exact gQ_ret h1740_o

theorem om_258 {W : Nat → Nat → Bool} {g s : gS} {a0 : Nat} {a1 : Int} {a2 : Int} (hg_o : RF g) (hU_o : ∀ a k, mss a k = true → W a k = true) (ea0_o : a0 = 217) (h_o : Fw W g s) : gQ (f_258 a0 a1 a2 s) (fun r => Fw W g r.2.2.2) := by
  subst ea0_o
  unfold f_258
  refine gQ_v1 (A := Fw W g) (om_150 hg_o hU_o  h_o) (fun v2 s1_l h1744_o => ?_)
  refine gQ_ite ?_ ?_
  · unfold fb_258_15
    dsimp only
    refine gQ_ite ?_ ?_
    · exact gQ_ret (Fw_w h1744_o rfl (hU_o 217 _ rfl))
    · refine gQ_v1 (A := Fw W g) (om_150 hg_o hU_o  (Fw_w h1744_o rfl (hU_o 217 _ rfl))) (fun v6 s5 h1745_o => ?_)
      refine gQ_ite ?_ ?_
      · exact gQ_ret h1745_o
      · refine gQ_v1 (A := Fw W g) (om_256 hg_o hU_o rfl h1745_o) (fun v9 s8 h1746_o => ?_)
        exact gQ_ret h1746_o
  · unfold fb_258_15
    dsimp only
    refine gQ_ite ?_ ?_
    · exact gQ_ret (Fw_w h1744_o rfl (hU_o 217 _ rfl))
    · refine gQ_v1 (A := Fw W g) (om_150 hg_o hU_o  (Fw_w h1744_o rfl (hU_o 217 _ rfl))) (fun v6 s5 h1747_o => ?_)
      refine gQ_ite ?_ ?_
      · exact gQ_ret h1747_o
      · refine gQ_v1 (A := Fw W g) (om_256 hg_o hU_o rfl h1747_o) (fun v9 s8 h1748_o => ?_)
        exact gQ_ret h1748_o

theorem om_263 {W : Nat → Nat → Bool} {g s : gS} {a0 : Nat} {a1 : Int} (hg_o : RF g) (hU_o : ∀ a k, mss a k = true → W a k = true) (ea0_o : a0 = 217) (h_o : Fw W g s) : gQ (f_263 a0 a1 s) (fun r => Fw W g r.2.2.2) := by
  subst ea0_o
  unfold f_263
  dsimp only
  refine gQ_v1 (A := Fw W g) (om_150 hg_o hU_o  (Fw_w h_o rfl (hU_o 217 _ rfl))) (fun v3 s2_l h1749_o => ?_)
  refine gQ_ite ?_ ?_
  · refine gQ_ite ?_ ?_
    · exact gQ_ret h1749_o
    · refine gQ_ite ?_ ?_
      · exact gQ_ret h1749_o
      · refine gQ_ite ?_ ?_
        · exact gQ_ret h1749_o
        · refine gQ_v1 (A := Fw W g) (om_150 hg_o hU_o  h1749_o) (fun v6 s5 h1750_o => ?_)
          refine gQ_ite ?_ ?_
          · refine gQ_ite ?_ ?_
            · refine gQ_loop (fun y_l => y_l.1 = 217 ∧ Fw W g (y_l.2.2.2)) (fun y_l hy_o => ?_) ⟨rfl, h1750_o⟩
              obtain ⟨x1751_o, x1752_o, x1753_o, x1754_o⟩ := y_l
              obtain ⟨e1756_o, h1755_o⟩ := hy_o
              dsimp only at e1756_o h1755_o
              subst e1756_o
              show gQ (sb_263_95 217 x1752_o x1753_o x1754_o) _
              unfold sb_263_95
              refine gQ_ite ?_ ?_
              · refine gQ_v1 (A := Fw W g) (om_165 hg_o hU_o rfl h1755_o) (fun v9 s8 h1757_o => ?_)
                refine gQ_ite ?_ ?_
                · exact gQ_ret ⟨rfl, h1757_o⟩
                · refine gQ_v1 (A := Fw W g) (om_156 hg_o hU_o rfl h1757_o) (fun v12 s11 h1758_o => ?_)
                  exact gQ_ret ⟨rfl, h1758_o⟩
              · refine gQ_map ?_
                exact gQ_ret h1755_o
            · refine gQ_ite ?_ ?_
              · exact gQ_ret h1750_o
              · refine gQ_ite ?_ ?_
                · exact gQ_ret h1750_o
                · exact gQ_ret h1750_o
          · refine gQ_chk2 (fun ha1759_o hb1760_o => ?_)
            exact gQ_ret h1750_o
  · refine gQ_chk2 (fun ha1761_o hb1762_o => ?_)
    exact gQ_ret h1749_o

end
