/-! law on both sides -/
section Lw4
variable {W : Nat → Nat → Bool} {g s t : gS} {Q : Type} {P : Q → Prop} {p : gP}
theorem gQ_vr {z : Option gO} {A : gS → Prop} {E : Nat → gS → Option Q} (h : gQ z (fun r => A r.2.2.2)) (k : ∀ v s, A s → gQ (E v s) P) : gQ (z.bind (gvr E)) P := by
  cases z with
  | none => exact gQ_none
  | some r =>
    have hA := h r rfl
    show gQ (gvr E r) P
    unfold gvr
    exact gQ_ite (k _ _ hA) gQ_none
theorem gQ_c1 {z : Option gO} {A : gS → Prop} {C : Nat → gS → Option Q} {E : Int → gS → Option Q} (h : gQ z (fun r => A r.2.2.2)) (k : ∀ v s, A s → gQ (E v s) P) (kz : ∀ t s, A s → gQ (C t s) P) : gQ (z.bind (gc1 C E)) P := by
  cases z with
  | none => exact gQ_none
  | some r =>
    have hA := h r rfl
    show gQ (gc1 C E r) P
    unfold gc1
    exact gQ_ite (k _ _ hA) (gQ_ite (kz _ _ hA) gQ_none)
theorem Fw_ge {A k : Nat} {v : Int} (h : Fw W g s) (hA : gn g ≤ A) : Fw W g (gw s A k v) := by
  refine ⟨h.1, h.2.1, fun b_l j_l hb_l hf => ?_⟩
  show (if b_l = A ∧ j_l = k then v else gI s b_l j_l) = _
  rw [if_neg (fun e_l => by omega)]
  exact h.2.2 b_l j_l hb_l hf
theorem Fw_gr {A k r : Nat} (h : Fw W g s) (hA : gn g ≤ A) : Fw W g (gwr s A k r) := by
  refine ⟨h.1, fun b_l j_l hb_l => ?_, h.2.2⟩
  show (if b_l = A ∧ j_l = k then r else gR s b_l j_l) = _
  rw [if_neg (fun e_l => by omega)]
  exact h.2.1 b_l j_l hb_l
theorem Fw_gc {A B sp dp n : Nat} (h : Fw W g s) (hB : gn g ≤ B) : Fw W g (gcpy s A sp B dp n) := by
  refine ⟨h.1, h.2.1, fun c_l j_l hc_l hf => ?_⟩
  show (if c_l = B ∧ dp ≤ j_l ∧ j_l < dp + n then gI s A (sp + (j_l - dp)) else gI s c_l j_l) = _
  rw [if_neg (fun e_l => by omega)]
  exact h.2.2 c_l j_l hc_l hf
theorem o_274 {a0 : Nat} {a1 : Int} (h : Fw W g s) : gQ (f_274 a0 a1 s) (fun r => Fw W g r.2.2.2) := by
  unfold f_274
  exact gQ_ite gQ_none (gQ_chk (gQ_ite gQ_none (gQ_ret (Fw_gc (Fw_n h) h.1.2.1))))
theorem o_44e {x B : Nat} {i n : Int} (h : Fw W g s) (hB : B = gn s) : gQ ((f_274 x i (gnw s 4)).bind (gvr (fun v18 s17 => (f_42 B n v18 s17).bind (gv0 (fun s19 => if B = 0 then none else some ((1, 0, B, s19) : gO)))))) (fun r => Fw W g r.2.2.2) := by
  have hl : gn g ≤ B := by
    rw [hB]
    exact h.1.2.1
  refine gQ_vr (A := Fw W g) (o_274 (Fw_n h)) (fun v_l t_l ht => ?_)
  unfold f_42
  dsimp only
  refine gQ_v0 (A := Fw W g) (gQ_ret (Fw_gr (Fw_ge ht hl) hl)) (fun u_l hu => ?_)
  exact gQ_ite gQ_none (gQ_ret hu)
theorem o_44 {a0 : Nat} (hg : RF g) (hU : ∀ a k, csq a k = true → W a k = true) (e0 : a0 = 7) (h : Fw W g s) : gQ (f_44 a0 s) (fun r => Fw W g r.2.2.2) := by
  subst e0
  unfold f_44
  dsimp only
  have h1 : Fw W g (gw s 7 2 0) := Fw_w h rfl (hU 7 _ rfl)
  refine gQ_v0 (A := Fw W g) (o_77 hg hU (fr_r h1 rfl (rr_7_0 hg)) h1) (fun s2_l h2 => ?_)
  refine gQ_v1 (A := Fw W g) (o_79 hg hU (fr_r h2 rfl (rr_7_0 hg)) h2) (fun v5 s4_l h4 => ?_)
  refine gQ_ite ?_ (o_44e h4 rfl)
  refine gQ_loop (fun y_l => y_l.1 = 7 ∧ Fw W g y_l.2.2) (fun y_l hy => ?_) ⟨rfl, h4⟩
  obtain ⟨x0_l, x1_l, t_l⟩ := y_l
  obtain ⟨q0, ht⟩ := hy
  dsimp only at q0 ht
  subst q0
  show gQ (sb_44_41 7 x1_l t_l) _
  unfold sb_44_41
  dsimp only
  refine gQ_ite (gQ_map (gQ_ret ht)) ?_
  refine gQ_v1 (A := Fw W g) (o_46 hg hU rfl ht) (fun v8 s7 h7 => ?_)
  refine gQ_ite (gQ_map (gQ_ret h7)) ?_
  refine gQ_v1 (A := Fw W g) (o_79 hg hU (fr_r h7 rfl (rr_7_0 hg)) h7) (fun v11 s10 h10 => ?_)
  refine gQ_ite ?_ (gQ_map (o_44e h10 rfl))
  refine gQ_v1 (A := Fw W g) (o_83 hg hU (fr_r h10 rfl (rr_7_0 hg)) h10) (fun v14 s13 h13 => ?_)
  exact gQ_ite (gQ_map (gQ_ret h13)) (gQ_ret ⟨rfl, h13⟩)
end Lw4
/-- the clauses of the relation -/
def Rc1 (s : gS) : Prop := ∀ k, Tx k → gI s 218 k = cv s 9 15 k ∧ (k = 0 → gI s 218 k ≤ 12) ∧ (0 ≤ gI s 218 k ∧ gI s 218 k ≤ 100)
def Rc2 (s : gS) : Prop := ∀ k, gI s 2 k = gI s 222 k
def Rc3 (s : gS) : Prop := gI s 217 3 = 1 → ∀ k, Tx k → gI s 219 k = cv s 54 60 k ∧ (k = 0 → gI s 219 k ≤ 12) ∧ (0 ≤ gI s 219 k ∧ gI s 219 k ≤ 100)
def Rc4 (s : gS) : Prop := (0 ≤ gI s 0 13 ∧ gI s 0 13 ≤ 11) ∧ (0 ≤ gI s 0 14 ∧ gI s 0 14 ≤ 12) ∧ ∀ j : Nat, (j : Int) < gI s 0 14 → ∀ k, Tc k → cv s 9 (pst (gI s 0 13) j) k = cv s 9 15 k
def Rc5 (s : gS) : Prop := (0 ≤ gI s 217 6 ∧ gI s 217 6 ≤ 12) ∧ ∀ j : Nat, (j : Int) < gI s 217 6 → ∀ k, k < 340 → mnt k = false → gI s 221 (340 * j + k) = gI s 218 k
section Cl5
variable {s t : gS} {p : gP}
theorem Rt_5 (h1 : Rc1 s) (h2 : Rc2 s) (h3 : Rc3 s) (h4 : Rc4 s) (h5 : Rc5 s) : Rt s := ⟨h1, h2, h3, h4, h5⟩
theorem c1_e (h : Rc1 s) (h1 : ∀ a k, 9 ≤ a → a < 27 → gI t a k = gI s a k) (h2 : ∀ k, Tx k → gI t 218 k = gI s 218 k) : Rc1 t := fun k hk => by
  have hp := pa_15 k hk.1.1
  have e1_l : cv t 9 15 k = cv s 9 15 k := h1 _ _ hp.1 hp.2.1
  rw [h2 k hk, e1_l]
  exact h k hk
theorem c3_e (h : Rc3 s) (h0 : gI t 217 3 = gI s 217 3) (h1 : ∀ a k, 54 ≤ a → a < 72 → gI t a k = gI s a k) (h2 : ∀ k, gI t 219 k = gI s 219 k) : Rc3 t := fun he k hk => by
  have hp := pa_15 k hk.1.1
  have e1_l : cv t 54 60 k = cv s 54 60 k := h1 _ _ hp.2.2.1 hp.2.2.2
  rw [h2, e1_l]
  exact h (by rw [← h0]; exact he) k hk
theorem c4_0 (h : 0 ≤ gI t 0 13 ∧ gI t 0 13 ≤ 11) (h0 : gI t 0 14 = 0) : Rc4 t := ⟨h, by omega, fun j_l hj => by omega⟩
theorem c4_e (h : Rc4 s) (h3 : gI t 0 13 = gI s 0 13) (h4 : gI t 0 14 = gI s 0 14) (h1 : ∀ a k, 9 ≤ a → a < 27 → gI t a k = gI s a k) (h2 : ∀ a k, 73 ≤ a → a < 217 → gI t a k = gI s a k) : Rc4 t := by
  obtain ⟨x1_l, x2_l, x3⟩ := h
  refine ⟨by rw [h3]; exact x1_l, by rw [h4]; exact x2_l, fun j_l hj k hk => ?_⟩
  rw [h4] at hj
  have hp := pa_15 k (Tc_x hk).1.1
  have e1_l : cv t 9 15 k = cv s 9 15 k := h1 _ _ hp.1 hp.2.1
  obtain ⟨o, q_l, o1, o2, o3_l, o4_l⟩ := Tc_c hk
  have e2_l : cv t 9 (pst (gI s 0 13) j_l) k = cv s 9 (pst (gI s 0 13) j_l) k := by
    refine h2 _ _ ?_ ?_
    · rw [o2]
      unfold pst
      omega
    · rw [o2]
      unfold pst
      omega
  rw [h3, e1_l, e2_l]
  exact x3 j_l hj k hk
theorem c5_0 (h0 : gI t 217 6 = 0) : Rc5 t := ⟨by omega, fun j_l hj => by omega⟩
theorem c5_e (h : Rc5 s) (h0 : gI t 217 6 = gI s 217 6) (h1 : ∀ k, gI t 221 k = gI s 221 k) (h2 : ∀ k, gI t 218 k = gI s 218 k) : Rc5 t := ⟨by rw [h0]; exact h.1, fun j_l hj k hk hm_l => by
  rw [h1, h2]
  exact h.2 j_l (by rw [← h0]; exact hj) k hk hm_l⟩
theorem Rt_wr {a k r : Nat} (h : Rt s) : Rt (gwr s a k r) := h
theorem Rt_eq (h : Rt s) (hb : ∀ a k, a < 231 → gI t a k = gI s a k) : Rt t := by
  obtain ⟨h1, h2, h3, h4, h5⟩ := h
  exact Rt_5 (c1_e h1 (fun a k _ ha_l => hb a k (by omega)) (fun k _ => hb 218 k (by decide))) (fun k => (hb 2 k (by decide)).trans ((h2 k).trans (hb 222 k (by decide)).symm)) (c3_e h3 (hb 217 3 (by decide)) (fun a k _ ha_l => hb a k (by omega)) (fun k => hb 219 k (by decide))) (c4_e h4 (hb 0 13 (by decide)) (hb 0 14 (by decide)) (fun a k _ ha_l => hb a k (by omega)) (fun a k _ ha_l => hb a k (by omega))) (c5_e h5 (hb 217 6 (by decide)) (fun k => hb 221 k (by decide)) (fun k => hb 218 k (by decide)))
theorem Rt_231 {k : Nat} {v : Int} (h : Rt s) : Rt (gw s 231 k v) := Rt_eq h (fun a_l j_l ha_l => rd_a rfl (by omega))
theorem Rt_past (h : Rt s) : Rt (gw s 0 14 0) := by
  obtain ⟨h1, h2, h3, h4, h5⟩ := h
  have hb_l : ∀ a_l k_l, a_l ≠ 0 → gI (gw s 0 14 0) a_l k_l = gI s a_l k_l := fun a_l k_l ha_l => rd_a rfl ha_l
  have e13_l : gI (gw s 0 14 0) 0 13 = gI s 0 13 := rd_k rfl (by decide)
  exact Rt_5 (c1_e h1 (fun a_l k_l ha_l _ => hb_l a_l k_l (by omega)) (fun k_l _ => hb_l 218 k_l (by decide))) (fun k_l => (hb_l 2 k_l (by decide)).trans ((h2 k_l).trans (hb_l 222 k_l (by decide)).symm)) (c3_e h3 (hb_l 217 3 (by decide)) (fun a_l k_l ha_l _ => hb_l a_l k_l (by omega)) (fun k_l => hb_l 219 k_l (by decide))) (c4_0 (by rw [e13_l]; exact h4.1) (rd_same rfl)) (c5_e h5 (hb_l 217 6 (by decide)) (fun k_l => hb_l 221 k_l (by decide)) (fun k_l => hb_l 218 k_l (by decide)))
theorem rt_90 {a0 : Nat} (hg : RF s) (hn : 232 ≤ gn s) (e0 : a0 = 0) (h : Rt s) : gQ (f_90 a0 s) (fun r => Rt r.2.2.2) := by
  subst e0
  unfold f_90
  refine gQ_vr (A := Fw WR s) (o_44 hg uq (rr_0_3 hg).2 (Fw_rf hn)) (fun v2 s1_l h1 => ?_)
  have key_l : ∀ (x1_l : Nat) (w0_l : Int), gQ (fb_90_24 0 x1_l w0_l 0 s1_l) (fun r => Rt r.2.2.2) := fun x1_l w0_l => by
    unfold fb_90_24
    dsimp only
    have h2 : Fw WR s (gw s1_l 0 16 w0_l) := Fw_w h1 rfl rfl
    have q0 : gR (gw s1_l 0 16 w0_l) 0 0 = 1 := fr_r h2 rfl (rr_0_0 hg)
    rw [q0]
    have h3 : Fw WR s (gw (gw s1_l 0 16 w0_l) 1 1 0) := Fw_w h2 rfl rfl
    refine gQ_ite (gQ_ret (Rt_fw h (Fw_n h3))) ?_
    refine gQ_ite gQ_none (gQ_ret ?_)
    exact Rt_past (Rt_wr (Rt_fw h h3))
  exact gQ_ite (key_l _ _) (key_l _ _)
theorem om_183 {W : Nat → Nat → Bool} {g : gS} {a0 : Nat} (hU : ∀ a k, mss a k = true → W a k = true) (e0 : a0 = 217) (h : Fw W g s) : gQ (f_183 a0 s) (fun r => Fw W g r.2.2.2) := by
  subst e0
  unfold f_183
  dsimp only
  exact gQ_ret (Fw_w (Fw_w (Fw_w (Fw_w (Fw_w (Fw_w h rfl (hU 217 12 rfl)) rfl (hU 217 9 rfl)) rfl (hU 217 10 rfl)) rfl (hU 217 8 rfl)) rfl (hU 217 11 rfl)) rfl (hU 217 13 rfl))
theorem rt_195 {a0 : Nat} (hg : RF s) (hn : 232 ≤ gn s) (e0 : a0 = 217) (h : Rt s) : gQ (f_195 a0 s) (fun r => Rt r.2.2.2) := by
  subst e0
  unfold f_195
  refine gQ_v0 (A := Fw WR s) (om_183 um rfl (Fw_rf hn)) (fun s1_l h1 => ?_)
  refine gQ_v1 (A := Fw WR s) (om_184 hg um rfl rfl h1) (fun v4_l s3_l h3 => ?_)
  have key_l : ∀ w0_l : Int, gQ (fb_195_24 217 v4_l w0_l 217 s3_l) (fun r => Rt r.2.2.2) := fun w0_l => by
    unfold fb_195_24
    dsimp only
    have h4 : Fw WR s (gw s3_l 217 0 w0_l) := Fw_w h3 rfl (um 217 0 rfl)
    have hR := Rt_fw h h4
    refine gQ_ite (gQ_ret hR) ?_
    have r1_l : gR (gw s3_l 217 0 w0_l) 217 1 = 218 := fr_r h4 rfl (rr_217_1 hg)
    generalize gw s3_l 217 0 w0_l = u at *
    have r2 : gR (gw u 218 1 v4_l) 217 1 = 218 := r1_l
    rw [r1_l, r2]
    refine gQ_loop (fun y_l => y_l.1 = 217 ∧ 0 ≤ y_l.2.2.1 ∧ y_l.2.2.2.2.2.2 = u.2.2.2 ∧ ∀ a_l k_l, ¬ (a_l = 218 ∧ (k_l = 1 ∨ k_l = 2 ∨ 340 ≤ k_l)) → gI y_l.2.2.2 a_l k_l = gI u a_l k_l) (fun y_l hy => ?_) ⟨rfl, Int.le_refl 0, rfl, fun a_l k_l hz => ?_⟩
    · obtain ⟨y0, y1, x2_l, t_l⟩ := y_l
      obtain ⟨q0, q1_l, q2_l, q3_l⟩ := hy
      dsimp only at q0 q1_l q2_l q3_l
      subst q0
      have rt : gR t_l 217 1 = 218 := by
        show t_l.2.2.2 217 1 = 218
        rw [q2_l]
        exact r1_l
      show gQ (sb_195_55 217 y1 x2_l t_l) _
      unfold sb_195_55
      dsimp only
      rw [rt]
      refine gQ_ite (gQ_chk2 (fun c1_l c2_l => gQ_chk (gQ_ret ⟨rfl, ?_, q2_l, fun a_l k_l hz => ?_⟩))) (gQ_map (gQ_ret ?_))
      · dsimp only
        rw [g32_eq (v := x2_l + 1) (by omega) (by omega)]
        omega
      · dsimp only
        have e_l : g32 (340 + x2_l) = 340 + x2_l := g32_eq (by omega) (by omega)
        show (if a_l = 218 ∧ k_l = (g32 (340 + x2_l)).toNat then _ else gI t_l a_l k_l) = _
        rw [if_neg (fun z_l => by rw [e_l] at z_l; omega)]
        exact q3_l a_l k_l hz
      · have hb_l : ∀ a_l k_l, a_l ≠ 217 → ¬ (a_l = 218 ∧ (k_l = 1 ∨ k_l = 2 ∨ 340 ≤ k_l)) → gI (gw t_l 217 6 0) a_l k_l = gI u a_l k_l := fun a_l k_l ha_l hz => (rd_a rfl ha_l).trans (q3_l a_l k_l hz)
        have e3_l : gI (gw t_l 217 6 0) 217 3 = gI u 217 3 := (rd_k rfl (by decide)).trans (q3_l 217 3 (by omega))
        obtain ⟨h1, h2, h3, h4, h5⟩ := hR
        exact Rt_5 (c1_e h1 (fun a_l k_l ha_l ha2 => hb_l a_l k_l (by omega) (by omega)) (fun k_l hk => hb_l 218 k_l (by decide) (by have := hk.1; unfold KK at this; omega))) (fun k_l => (hb_l 2 k_l (by decide) (by omega)).trans ((h2 k_l).trans (hb_l 222 k_l (by decide) (by omega)).symm)) (c3_e h3 e3_l (fun a_l k_l ha_l ha2 => hb_l a_l k_l (by omega) (by omega)) (fun k_l => hb_l 219 k_l (by decide) (by omega))) (c4_e h4 (hb_l 0 13 (by decide) (by omega)) (hb_l 0 14 (by decide) (by omega)) (fun a_l k_l ha_l ha2 => hb_l a_l k_l (by omega) (by omega)) (fun a_l k_l ha_l ha2 => hb_l a_l k_l (by omega) (by omega))) (c5_0 (rd_same rfl))
    · show (if a_l = 218 ∧ k_l = 2 then _ else if a_l = 218 ∧ k_l = 1 then _ else gI u a_l k_l) = _
      rw [if_neg (by omega), if_neg (by omega)]
  exact gQ_ite (key_l _) (key_l _)
end Cl5
