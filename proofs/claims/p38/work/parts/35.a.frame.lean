/-! what each call leaves as it is -/
def Fw (W : Nat → Nat → Bool) (g s : gS) : Prop := (232 ≤ gn g ∧ gn g ≤ gn s ∧ ∀ a, a < gn g → gK s a = gK g a) ∧ (∀ a k, a < gn g → gR s a k = gR g a k) ∧ ∀ a k, a < gn g → W a k = false → gI s a k = gI g a k
/-- all fields but the third; all fields -/
def Wm (W : Nat → Nat → Bool) (a : Nat) : Prop := ∀ k, k ≠ 2 → W a k = true
def Wa (W : Nat → Nat → Bool) (a : Nat) : Prop := ∀ k, W a k = true
/-- the class's own drafts; and what days and acts change of the court -/
def csa (a : Nat) : Bool := Nat.beq a 1 || (Nat.beq a 3 || (Nat.beq a 4 || (Nat.beq a 5 || (Nat.beq a 7 || (Nat.beq a 8 || ((Nat.ble 27 a && Nat.ble a 35) || (Nat.ble 42 a && Nat.ble a 53)))))))
def csq (a _k : Nat) : Bool := csa a
def csd (a k : Nat) : Bool := csa a || ((Nat.ble 17 a && Nat.ble a 20) || ((Nat.beq a 15 && Nat.ble 6 k) || (Nat.ble 21 a && (Nat.ble a 26 && !Nat.beq k 2))))
section Fw
variable {W : Nat → Nat → Bool} {g s : gS} {Q : Type} {P : Q → Prop} {x : Option Q}
theorem qd_o (h : ∀ a k, csd a k = true → W a k = true) : ∀ a k, csq a k = true → W a k = true := fun a k hq => h a k (by
  unfold csd
  unfold csq at hq
  rw [hq]
  rfl)
theorem Fw_rf (h : 232 ≤ gn s) : Fw W s s := ⟨⟨h, Nat.le_refl _, fun _ _ => rfl⟩, fun _ _ _ => rfl, fun _ _ _ _ => rfl⟩
theorem Fw_wv {A k : Nat} {v : Int} (h : Fw W g s) (hw : W A k = true) : Fw W g (gw s A k v) := by
  refine ⟨h.1, h.2.1, fun b_l j_l hb_l hf => ?_⟩
  show (if b_l = A ∧ j_l = k then v else gI s b_l j_l) = _
  rw [if_neg (fun e_l => by rw [e_l.1, e_l.2, hw] at hf; cases hf)]
  exact h.2.2 b_l j_l hb_l hf
theorem Fw_w {A a k : Nat} {v : Int} (h : Fw W g s) (e : A = a) (hw : W a k = true) : Fw W g (gw s A k v) := by
  subst e
  exact Fw_wv h hw
theorem Fw_c {A B b sp dp n : Nat} (h : Fw W g s) (e : B = b) (hw : ∀ k, W b k = true) : Fw W g (gcpy s A sp B dp n) := by
  subst e
  refine ⟨h.1, h.2.1, fun c_l j_l hc_l hf => ?_⟩
  show (if c_l = B ∧ dp ≤ j_l ∧ j_l < dp + n then gI s A (sp + (j_l - dp)) else gI s c_l j_l) = _
  rw [if_neg (fun e => by rw [e.1, hw] at hf; cases hf)]
  exact h.2.2 c_l j_l hc_l hf
theorem Fw_n {kd : Nat} (h : Fw W g s) : Fw W g (gnw s kd) := by
  have hl : gn g ≤ s.1 := h.1.2.1
  refine ⟨⟨h.1.1, Nat.le_succ_of_le h.1.2.1, fun a_l ha_l => ?_⟩, fun a_l k_l ha_l => ?_, fun a_l k_l ha_l hf => ?_⟩
  · show (if a_l = s.1 then kd else s.2.1 a_l) = _
    rw [if_neg (by omega)]
    exact h.1.2.2 a_l ha_l
  · show (if a_l = s.1 then 0 else s.2.2.2 a_l k_l) = _
    rw [if_neg (by omega)]
    exact h.2.1 a_l k_l ha_l
  · show (if a_l = s.1 then 0 else s.2.2.1 a_l k_l) = _
    rw [if_neg (by omega)]
    exact h.2.2 a_l k_l ha_l hf
theorem fr_r {X a k y : Nat} (h : Fw W g s) (e : X = a) (r : a < 232 ∧ gR g a k = y) : gR s X k = y := by
  subst e
  exact (h.2.1 X k (Nat.lt_of_lt_of_le r.1 h.1.1)).trans r.2
theorem r0_m43 : ∀ i, i < 6 → r0 43 i = 48 + i ∧ r0 16 i = 21 + i := by decide +kernel
theorem k0_m43 : k0 43 = 152 ∧ k0 16 = 152 := by decide +kernel
theorem fr_m43 {X : Nat} {i : Int} (h : Fw W g s) (hg : RF g) (hU : ∀ a k, csq a k = true → W a k = true) (e : X = 43) (h0 : 0 ≤ i) (h6 : i < 6) : Wa W (gR s X i.toNat) := by
  subst e
  intro k
  rw [h.2.1 43 i.toNat (Nat.lt_of_lt_of_le (by decide) h.1.1), hg 43 i.toNat (by decide) (fun z_l => by rw [k0_m43.1] at z_l; omega), (r0_m43 i.toNat (by omega)).1]
  refine hU _ k ?_
  unfold csq csa
  simp only [Bool.or_eq_true, Bool.and_eq_true, Nat.ble_eq]
  omega
theorem fr_m16 {X : Nat} {i : Int} (h : Fw W g s) (hg : RF g) (hU : ∀ a k, csd a k = true → W a k = true) (e : X = 16) (h0 : 0 ≤ i) (h6 : i < 6) : Wm W (gR s X i.toNat) := by
  subst e
  intro k hk
  rw [h.2.1 16 i.toNat (Nat.lt_of_lt_of_le (by decide) h.1.1), hg 16 i.toNat (by decide) (fun z_l => by rw [k0_m43.2] at z_l; omega), (r0_m43 i.toNat (by omega)).2]
  refine hU _ k ?_
  unfold csd
  simp only [Bool.or_eq_true, Bool.and_eq_true, Nat.ble_eq, Bool.not_eq_true', es_beqf]
  omega
theorem gQ_chk2 {j n : Int} (k : 0 ≤ j → j < n → gQ x P) : gQ (gchk j n x) P := by
  unfold gchk
  by_cases c : 0 ≤ j ∧ j < n
  · rw [if_pos c]; exact k c.1 c.2
  · rw [if_neg c]; exact gQ_none
theorem gQ_t0 {z : Option gO} {A : gS → Prop} {Z : gO → Q} {E : gS → Option Q} (h : gQ z (fun r => A r.2.2.2)) (k : ∀ s, A s → gQ (E s) P) (kz : ∀ (t : Nat) (s : gS), A s → P (Z (t, 0, 0, s))) : gQ (z.bind (gt0 Z E)) P := by
  cases z with
  | none => exact gQ_none
  | some r =>
    have hA := h r rfl
    show gQ (gt0 Z E r) P
    unfold gt0
    exact gQ_ite (k _ hA) (gQ_ite (gQ_ret (kz _ _ hA)) gQ_none)
theorem gQ_t1 {z : Option gO} {A : gS → Prop} {Z : gO → Q} {E : Int → gS → Option Q} (h : gQ z (fun r => A r.2.2.2)) (k : ∀ v s, A s → gQ (E v s) P) (kz : ∀ (t : Nat) (s : gS), A s → P (Z (t, 0, 0, s))) : gQ (z.bind (gt1 Z E)) P := by
  cases z with
  | none => exact gQ_none
  | some r =>
    have hA := h r rfl
    show gQ (gt1 Z E r) P
    unfold gt1
    exact gQ_ite (k _ _ hA) (gQ_ite (gQ_ret (kz _ _ hA)) gQ_none)
end Fw
theorem rr_0_0 {g : gS} (hg : RF g) : 0 < 232 ∧ gR g 0 0 = 1 := ⟨by decide, (hg 0 0 (by decide) (by decide +kernel)).trans (by decide +kernel)⟩
theorem rr_0_1 {g : gS} (hg : RF g) : 0 < 232 ∧ gR g 0 1 = 3 := ⟨by decide, (hg 0 1 (by decide) (by decide +kernel)).trans (by decide +kernel)⟩
theorem rr_0_2 {g : gS} (hg : RF g) : 0 < 232 ∧ gR g 0 2 = 6 := ⟨by decide, (hg 0 2 (by decide) (by decide +kernel)).trans (by decide +kernel)⟩
theorem rr_0_4 {g : gS} (hg : RF g) : 0 < 232 ∧ gR g 0 4 = 9 := ⟨by decide, (hg 0 4 (by decide) (by decide +kernel)).trans (by decide +kernel)⟩
theorem rr_0_5 {g : gS} (hg : RF g) : 0 < 232 ∧ gR g 0 5 = 15 := ⟨by decide, (hg 0 5 (by decide) (by decide +kernel)).trans (by decide +kernel)⟩
theorem rr_0_6 {g : gS} (hg : RF g) : 0 < 232 ∧ gR g 0 6 = 27 := ⟨by decide, (hg 0 6 (by decide) (by decide +kernel)).trans (by decide +kernel)⟩
theorem rr_0_7 {g : gS} (hg : RF g) : 0 < 232 ∧ gR g 0 7 = 34 := ⟨by decide, (hg 0 7 (by decide) (by decide +kernel)).trans (by decide +kernel)⟩
theorem rr_0_8 {g : gS} (hg : RF g) : 0 < 232 ∧ gR g 0 8 = 36 := ⟨by decide, (hg 0 8 (by decide) (by decide +kernel)).trans (by decide +kernel)⟩
theorem rr_0_9 {g : gS} (hg : RF g) : 0 < 232 ∧ gR g 0 9 = 42 := ⟨by decide, (hg 0 9 (by decide) (by decide +kernel)).trans (by decide +kernel)⟩
theorem rr_0_10 {g : gS} (hg : RF g) : 0 < 232 ∧ gR g 0 10 = 54 := ⟨by decide, (hg 0 10 (by decide) (by decide +kernel)).trans (by decide +kernel)⟩
theorem rr_0_11 {g : gS} (hg : RF g) : 0 < 232 ∧ gR g 0 11 = 60 := ⟨by decide, (hg 0 11 (by decide) (by decide +kernel)).trans (by decide +kernel)⟩
theorem rr_0_12 {g : gS} (hg : RF g) : 0 < 232 ∧ gR g 0 12 = 72 := ⟨by decide, (hg 0 12 (by decide) (by decide +kernel)).trans (by decide +kernel)⟩
theorem rr_3_0 {g : gS} (hg : RF g) : 3 < 232 ∧ gR g 3 0 = 4 := ⟨by decide, (hg 3 0 (by decide) (by decide +kernel)).trans (by decide +kernel)⟩
theorem rr_3_1 {g : gS} (hg : RF g) : 3 < 232 ∧ gR g 3 1 = 5 := ⟨by decide, (hg 3 1 (by decide) (by decide +kernel)).trans (by decide +kernel)⟩
theorem rr_15_0 {g : gS} (hg : RF g) : 15 < 232 ∧ gR g 15 0 = 16 := ⟨by decide, (hg 15 0 (by decide) (by decide +kernel)).trans (by decide +kernel)⟩
theorem rr_15_1 {g : gS} (hg : RF g) : 15 < 232 ∧ gR g 15 1 = 17 := ⟨by decide, (hg 15 1 (by decide) (by decide +kernel)).trans (by decide +kernel)⟩
theorem rr_15_2 {g : gS} (hg : RF g) : 15 < 232 ∧ gR g 15 2 = 18 := ⟨by decide, (hg 15 2 (by decide) (by decide +kernel)).trans (by decide +kernel)⟩
theorem rr_15_3 {g : gS} (hg : RF g) : 15 < 232 ∧ gR g 15 3 = 19 := ⟨by decide, (hg 15 3 (by decide) (by decide +kernel)).trans (by decide +kernel)⟩
theorem rr_19_0 {g : gS} (hg : RF g) : 19 < 232 ∧ gR g 19 0 = 20 := ⟨by decide, (hg 19 0 (by decide) (by decide +kernel)).trans (by decide +kernel)⟩
theorem rr_27_0 {g : gS} (hg : RF g) : 27 < 232 ∧ gR g 27 0 = 3 := ⟨by decide, (hg 27 0 (by decide) (by decide +kernel)).trans (by decide +kernel)⟩
theorem rr_27_1 {g : gS} (hg : RF g) : 27 < 232 ∧ gR g 27 1 = 9 := ⟨by decide, (hg 27 1 (by decide) (by decide +kernel)).trans (by decide +kernel)⟩
theorem rr_27_2 {g : gS} (hg : RF g) : 27 < 232 ∧ gR g 27 2 = 28 := ⟨by decide, (hg 27 2 (by decide) (by decide +kernel)).trans (by decide +kernel)⟩
theorem rr_27_3 {g : gS} (hg : RF g) : 27 < 232 ∧ gR g 27 3 = 29 := ⟨by decide, (hg 27 3 (by decide) (by decide +kernel)).trans (by decide +kernel)⟩
theorem rr_27_4 {g : gS} (hg : RF g) : 27 < 232 ∧ gR g 27 4 = 30 := ⟨by decide, (hg 27 4 (by decide) (by decide +kernel)).trans (by decide +kernel)⟩
theorem rr_27_5 {g : gS} (hg : RF g) : 27 < 232 ∧ gR g 27 5 = 31 := ⟨by decide, (hg 27 5 (by decide) (by decide +kernel)).trans (by decide +kernel)⟩
theorem rr_27_6 {g : gS} (hg : RF g) : 27 < 232 ∧ gR g 27 6 = 32 := ⟨by decide, (hg 27 6 (by decide) (by decide +kernel)).trans (by decide +kernel)⟩
theorem rr_27_7 {g : gS} (hg : RF g) : 27 < 232 ∧ gR g 27 7 = 33 := ⟨by decide, (hg 27 7 (by decide) (by decide +kernel)).trans (by decide +kernel)⟩
theorem rr_34_1 {g : gS} (hg : RF g) : 34 < 232 ∧ gR g 34 1 = 35 := ⟨by decide, (hg 34 1 (by decide) (by decide +kernel)).trans (by decide +kernel)⟩
theorem rr_42_0 {g : gS} (hg : RF g) : 42 < 232 ∧ gR g 42 0 = 43 := ⟨by decide, (hg 42 0 (by decide) (by decide +kernel)).trans (by decide +kernel)⟩
theorem rr_42_1 {g : gS} (hg : RF g) : 42 < 232 ∧ gR g 42 1 = 44 := ⟨by decide, (hg 42 1 (by decide) (by decide +kernel)).trans (by decide +kernel)⟩
theorem rr_42_2 {g : gS} (hg : RF g) : 42 < 232 ∧ gR g 42 2 = 45 := ⟨by decide, (hg 42 2 (by decide) (by decide +kernel)).trans (by decide +kernel)⟩
theorem rr_217_1 {g : gS} (hg : RF g) : 217 < 232 ∧ gR g 217 1 = 218 := ⟨by decide, (hg 217 1 (by decide) (by decide +kernel)).trans (by decide +kernel)⟩
theorem rr_217_2 {g : gS} (hg : RF g) : 217 < 232 ∧ gR g 217 2 = 219 := ⟨by decide, (hg 217 2 (by decide) (by decide +kernel)).trans (by decide +kernel)⟩
theorem rr_217_4 {g : gS} (hg : RF g) : 217 < 232 ∧ gR g 217 4 = 220 := ⟨by decide, (hg 217 4 (by decide) (by decide +kernel)).trans (by decide +kernel)⟩
theorem rr_217_5 {g : gS} (hg : RF g) : 217 < 232 ∧ gR g 217 5 = 221 := ⟨by decide, (hg 217 5 (by decide) (by decide +kernel)).trans (by decide +kernel)⟩
theorem rr_217_7 {g : gS} (hg : RF g) : 217 < 232 ∧ gR g 217 7 = 222 := ⟨by decide, (hg 217 7 (by decide) (by decide +kernel)).trans (by decide +kernel)⟩
theorem rr_217_14 {g : gS} (hg : RF g) : 217 < 232 ∧ gR g 217 14 = 223 := ⟨by decide, (hg 217 14 (by decide) (by decide +kernel)).trans (by decide +kernel)⟩
theorem rr_217_18 {g : gS} (hg : RF g) : 217 < 232 ∧ gR g 217 18 = 224 := ⟨by decide, (hg 217 18 (by decide) (by decide +kernel)).trans (by decide +kernel)⟩
theorem rr_217_19 {g : gS} (hg : RF g) : 217 < 232 ∧ gR g 217 19 = 225 := ⟨by decide, (hg 217 19 (by decide) (by decide +kernel)).trans (by decide +kernel)⟩
theorem rr_217_20 {g : gS} (hg : RF g) : 217 < 232 ∧ gR g 217 20 = 226 := ⟨by decide, (hg 217 20 (by decide) (by decide +kernel)).trans (by decide +kernel)⟩
theorem rr_217_21 {g : gS} (hg : RF g) : 217 < 232 ∧ gR g 217 21 = 227 := ⟨by decide, (hg 217 21 (by decide) (by decide +kernel)).trans (by decide +kernel)⟩
theorem rr_217_22 {g : gS} (hg : RF g) : 217 < 232 ∧ gR g 217 22 = 228 := ⟨by decide, (hg 217 22 (by decide) (by decide +kernel)).trans (by decide +kernel)⟩
theorem rr_217_23 {g : gS} (hg : RF g) : 217 < 232 ∧ gR g 217 23 = 229 := ⟨by decide, (hg 217 23 (by decide) (by decide +kernel)).trans (by decide +kernel)⟩
theorem rr_217_24 {g : gS} (hg : RF g) : 217 < 232 ∧ gR g 217 24 = 230 := ⟨by decide, (hg 217 24 (by decide) (by decide +kernel)).trans (by decide +kernel)⟩
