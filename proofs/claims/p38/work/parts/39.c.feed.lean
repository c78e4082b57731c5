/-! feed and end on both sides -/
def fd5 (a b c d e : Int) (i : Nat) : Int := if i = 0 then a else if i = 1 then b else if i = 2 then c else if i = 3 then d else e
def fdv (A : Nat → Int) (i : Nat) : Int := gand (gshr (A (i / 4)) (24 - 8 * ((i % 4 : Nat) : Int))) 255
def fdb (A : Nat → Int) (l n : Nat) (L : Nat → Int) (k : Nat) : Int := if l ≤ k ∧ k < l + n then fdv A (k - l) else L k
/-- n bytes are fed: the class -/
def FD (s : gS) (l : Nat) (A : Nat → Int) (n : Nat) (t : gS) : Prop := Sm s t ∧ gI t 1 1 = ((l + n : Nat) : Int) ∧ (∀ k, gI t 2 k = fdb A l n (gI s 2) k) ∧ ∀ a k, a ≠ 2 → ¬ (a = 1 ∧ k = 1) → gI t a k = gI s a k
/-- and the model -/
def FE (s : gS) (l : Nat) (A : Nat → Int) (n : Nat) (t : gS) : Prop := Sm s t ∧ gI t 217 8 = ((l + n : Nat) : Int) ∧ (∀ k, gI t 222 k = fdb A l n (gI s 222) k) ∧ ∀ a k, a ≠ 222 → ¬ (a = 217 ∧ (k = 0 ∨ k = 8)) → gI t a k = gI s a k
section Fd
variable {s t u : gS} {l n j : Nat} {A : Nat → Int} {p : gP}
theorem fdb_s {L M : Nat → Int} {v : Int} (hM : ∀ k, M k = fdb A l n L k) (hv : v = fdv A n) (k : Nat) : (if k = l + n then v else M k) = fdb A l (n + 1) L k := by
  unfold fdb
  by_cases c : k = l + n
  · rw [if_pos c, if_pos (by omega), hv, c, show l + n - l = n by omega]
  · rw [if_neg c, hM]
    unfold fdb
    by_cases d : l ≤ k ∧ k < l + n
    · rw [if_pos d, if_pos (by omega)]
    · rw [if_neg d, if_neg (by omega)]
theorem FD_s {v : Int} (h : FD s l A n t) (hl : l + n < 400) (hv : v = fdv A n) : FD s l A (n + 1) (gw (gw t 2 (l + n) v) 1 1 (((l + n : Nat) : Int) + 1)) := by
  obtain ⟨h1, h2, h3, h4⟩ := h
  refine ⟨h1, ?_, fun k_l => ?_, fun a_l k_l ha_l hz => ?_⟩
  · rw [rd_same rfl]
    omega
  · have e_l : gI (gw (gw t 2 (l + n) v) 1 1 (((l + n : Nat) : Int) + 1)) 2 k_l = if k_l = l + n then v else gI t 2 k_l := by
      refine (rd_a rfl (by decide)).trans ?_
      show (if 2 = 2 ∧ k_l = l + n then v else gI t 2 k_l) = _
      by_cases c : k_l = l + n
      · rw [if_pos ⟨rfl, c⟩, if_pos c]
      · rw [if_neg (fun z_l => c z_l.2), if_neg c]
    rw [e_l]
    exact fdb_s h3 hv k_l
  · show (if a_l = 1 ∧ k_l = 1 then _ else if a_l = 2 ∧ k_l = l + n then v else gI t a_l k_l) = _
    rw [if_neg hz, if_neg (fun z_l => ha_l z_l.1)]
    exact h4 a_l k_l ha_l hz
theorem x_76 {x : Int} (hr : gR s 1 0 = 2) (h : FD s l A (4 * j) t) (hl : l + 4 * j + 4 ≤ 400) (hx : x = A j) : gQ (f_76 1 x t) (fun r => FD s l A (4 * (j + 1)) r.2.2.2) := by
  unfold f_76
  refine gQ_loop (fun y_l => y_l.1 = 1 ∧ y_l.2.1 = x ∧ ∃ i_l : Nat, i_l ≤ 4 ∧ y_l.2.2.1 = 24 - 8 * (i_l : Int) ∧ FD s l A (4 * j + i_l) y_l.2.2.2) (fun y_l hy => ?_) ⟨rfl, rfl, 0, by omega, by dsimp only; omega, h⟩
  obtain ⟨y0, y1, x2_l, w_l⟩ := y_l
  obtain ⟨q0, q1_l, i_l, hi_l, q2_l, q3_l⟩ := hy
  dsimp only at q0 q1_l q2_l q3_l
  subst q0 q1_l
  have hpos := q3_l.2.1
  have rw2 : gR w_l 1 0 = 2 := by
    show w_l.2.2.2 1 0 = 2
    rw [q3_l.1.2.2]
    exact hr
  show gQ (sb_76_3 1 y1 x2_l w_l) _
  unfold sb_76_3
  dsimp only
  by_cases c : x2_l < 0
  · rw [if_pos c]
    have e4_l : i_l = 4 := by omega
    subst e4_l
    exact gQ_map (gQ_ret q3_l)
  rw [if_neg c, if_pos (by rw [hpos]; omega), rw2]
  refine gQ_chk (gQ_ret ⟨rfl, rfl, i_l + 1, by omega, ?_, ?_⟩)
  · dsimp only
    rw [g32_eq (v := x2_l + -8) (by omega) (by omega)]
    omega
  · dsimp only
    have e1_l : gI (gw w_l 2 (gI w_l 1 1).toNat (gand (gshr y1 x2_l) 255)) 1 1 = gI w_l 1 1 := rd_a rfl (by decide)
    rw [e1_l, hpos, Int.toNat_natCast, g32_eq (v := ((l + (4 * j + i_l) : Nat) : Int) + 1) (by omega) (by omega)]
    refine FD_s (n := 4 * j + i_l) q3_l (by omega) ?_
    unfold fdv
    rw [show (4 * j + i_l) / 4 = j by omega, show (4 * j + i_l) % 4 = i_l by omega, ← hx, q2_l]
theorem FD_0 (h : gI s 1 1 = (l : Int)) : FD s l A (4 * 0) s := by
  refine ⟨Sm_r, h, fun k_l => ?_, fun _ _ _ _ => rfl⟩
  unfold fdb
  rw [if_neg (by omega)]
theorem x_87 {a b c d e : Int} (hg : RF s) (hl : gI s 1 1 = (l : Int)) (h8 : l ≤ 380) : gQ (f_87 0 a b c d e s) (fun r => FD s l (fd5 a b c d e) 20 r.2.2.2) := by
  have r0 : gR s 0 0 = 1 := (rr_0_0 hg).2
  have r1_l : gR s 1 0 = 2 := (hg 1 0 (by decide) (by decide +kernel)).trans (by decide +kernel)
  have rr : ∀ n_l u_l, FD s l (fd5 a b c d e) n_l u_l → gR u_l 0 0 = 1 := fun n_l u_l hu => by
    show u_l.2.2.2 0 0 = 1
    rw [hu.1.2.2]
    exact r0
  unfold f_87
  rw [r0, hl, g32_eq (v := (l : Int) + 20) (by omega) (by omega), if_neg (by omega)]
  refine gQ_v0 (A := FD s l (fd5 a b c d e) (4 * 1)) (x_76 (j := 0) r1_l (FD_0 hl) (by omega) rfl) (fun s1_l h1 => ?_)
  rw [rr _ _ h1]
  refine gQ_v0 (A := FD s l (fd5 a b c d e) (4 * 2)) (x_76 (j := 1) r1_l h1 (by omega) rfl) (fun s2_l h2 => ?_)
  rw [rr _ _ h2]
  refine gQ_v0 (A := FD s l (fd5 a b c d e) (4 * 3)) (x_76 (j := 2) r1_l h2 (by omega) rfl) (fun s3_l h3 => ?_)
  rw [rr _ _ h3]
  refine gQ_v0 (A := FD s l (fd5 a b c d e) (4 * 4)) (x_76 (j := 3) r1_l h3 (by omega) rfl) (fun s4_l h4 => ?_)
  rw [rr _ _ h4]
  refine gQ_v0 (A := FD s l (fd5 a b c d e) (4 * 5)) (x_76 (j := 4) r1_l h4 (by omega) rfl) (fun s5 h5 => ?_)
  exact gQ_ret h5
theorem FE_s {v : Int} (h : FE s l A n t) (hl : l + n < 400) (hv : v = fdv A n) : FE s l A (n + 1) (gw (gw t 222 (l + n) v) 217 8 (((l + n : Nat) : Int) + 1)) := by
  obtain ⟨h1, h2, h3, h4⟩ := h
  refine ⟨h1, ?_, fun k_l => ?_, fun a_l k_l ha_l hz => ?_⟩
  · rw [rd_same rfl]
    omega
  · have e_l : gI (gw (gw t 222 (l + n) v) 217 8 (((l + n : Nat) : Int) + 1)) 222 k_l = if k_l = l + n then v else gI t 222 k_l := by
      refine (rd_a rfl (by decide)).trans ?_
      show (if 222 = 222 ∧ k_l = l + n then v else gI t 222 k_l) = _
      by_cases c : k_l = l + n
      · rw [if_pos ⟨rfl, c⟩, if_pos c]
      · rw [if_neg (fun z_l => c z_l.2), if_neg c]
    rw [e_l]
    exact fdb_s h3 hv k_l
  · show (if a_l = 217 ∧ k_l = 8 then _ else if a_l = 222 ∧ k_l = l + n then v else gI t a_l k_l) = _
    rw [if_neg (by omega), if_neg (fun z_l => ha_l z_l.1)]
    exact h4 a_l k_l ha_l hz
theorem x_166b {a b c d e w0 : Int} {i : Nat} (hr : gR s 217 7 = 222) (h : FE s l A i t) (hl : l + i < 400) (hi : i < 20) (hw : w0 = A (i / 4)) : gQ (fb_166_76 217 a b c d e (i : Int) w0 t) (Sum.elim (fun y => y.1 = 217 ∧ y.2.1 = a ∧ y.2.2.1 = b ∧ y.2.2.2.1 = c ∧ y.2.2.2.2.1 = d ∧ y.2.2.2.2.2.1 = e ∧ ∃ i : Nat, i ≤ 20 ∧ y.2.2.2.2.2.2.1 = (i : Int) ∧ FE s l A i y.2.2.2.2.2.2.2) (fun r => FE s l A 20 r.2.2.2)) := by
  have hpos := h.2.1
  have r7 : gR t 217 7 = 222 := by
    show t.2.2.2 217 7 = 222
    rw [h.1.2.2]
    exact hr
  unfold fb_166_76
  dsimp only
  rw [r7]
  refine gQ_chk (gQ_ret ⟨rfl, rfl, rfl, rfl, rfl, rfl, i + 1, by omega, ?_, ?_⟩)
  · dsimp only
    rw [g32_eq (v := (i : Int) + 1) (by omega) (by omega)]
    omega
  · dsimp only
    have e1_l : gI (gw t 222 (gI t 217 8).toNat (gand (gushr w0 (g32 (24 - g32 (8 * grem (i : Int) 4)))) 255)) 217 8 = gI t 217 8 := rd_a rfl (by decide)
    rw [e1_l, hpos, Int.toNat_natCast, g32_eq (v := ((l + i : Nat) : Int) + 1) (by omega) (by omega)]
    refine FE_s h hl ?_
    rw [grem_eq (x := (i : Int)) (c := 4) (by omega) (by decide), g32_eq (v := 8 * ((i : Int) % 4)) (by omega) (by omega), g32_eq (v := 24 - 8 * ((i : Int) % 4)) (by omega) (by omega)]
    unfold fdv
    rw [show ((i % 4 : Nat) : Int) = (i : Int) % 4 by omega, ← hw]
    exact (gsh_8 (by omega)).symm
theorem x_166 {a b c d e : Int} (hg : RF s) (hl : gI s 217 8 = (l : Int)) (h8 : l ≤ 380) : gQ (f_166 217 a b c d e s) (fun r => FE s l (fd5 a b c d e) 20 r.2.2.2) := by
  have r7 : gR s 217 7 = 222 := (rr_217_7 hg).2
  have e8 : gI (gw s 217 0 0) 217 8 = gI s 217 8 := rd_k (a := 217) (k := 8) rfl (by decide)
  unfold f_166
  dsimp only
  rw [e8, hl, g32_eq (v := (l : Int) + 20) (by omega) (by omega), if_neg (by omega)]
  refine gQ_loop (fun y_l => y_l.1 = 217 ∧ y_l.2.1 = a ∧ y_l.2.2.1 = b ∧ y_l.2.2.2.1 = c ∧ y_l.2.2.2.2.1 = d ∧ y_l.2.2.2.2.2.1 = e ∧ ∃ i_l : Nat, i_l ≤ 20 ∧ y_l.2.2.2.2.2.2.1 = (i_l : Int) ∧ FE s l (fd5 a b c d e) i_l y_l.2.2.2.2.2.2.2) (fun y_l hy => ?_) ⟨rfl, rfl, rfl, rfl, rfl, rfl, 0, by omega, rfl, ?_⟩
  · obtain ⟨y0, y1, y2, y3, y4, y5, x6, w_l⟩ := y_l
    obtain ⟨q0, q1_l, q2_l, q3_l, q4_l, q5_l, i_l, hi_l, q6_l, q7_l⟩ := hy
    dsimp only at q0 q1_l q2_l q3_l q4_l q5_l q6_l q7_l
    subst q0 q1_l q2_l q3_l q4_l q5_l q6_l
    show gQ (sb_166_23 217 y1 y2 y3 y4 y5 (i_l : Int) w_l) _
    unfold sb_166_23
    by_cases c : (i_l : Int) < 20
    · rw [if_pos c]
      by_cases c1 : (i_l : Int) < 4
      · rw [if_pos c1]
        exact x_166b r7 q7_l (by omega) (by omega) (by unfold fd5; rw [if_pos (by omega)])
      rw [if_neg c1]
      by_cases c2 : (i_l : Int) < 8
      · rw [if_pos c2]
        exact x_166b r7 q7_l (by omega) (by omega) (by unfold fd5; rw [if_neg (by omega), if_pos (by omega)])
      rw [if_neg c2]
      by_cases c3 : (i_l : Int) < 12
      · rw [if_pos c3]
        exact x_166b r7 q7_l (by omega) (by omega) (by unfold fd5; rw [if_neg (by omega), if_neg (by omega), if_pos (by omega)])
      rw [if_neg c3]
      by_cases c4 : (i_l : Int) < 16
      · rw [if_pos c4]
        exact x_166b r7 q7_l (by omega) (by omega) (by unfold fd5; rw [if_neg (by omega), if_neg (by omega), if_neg (by omega), if_pos (by omega)])
      rw [if_neg c4]
      exact x_166b r7 q7_l (by omega) (by omega) (by unfold fd5; rw [if_neg (by omega), if_neg (by omega), if_neg (by omega), if_neg (by omega)])
    · rw [if_neg c]
      have e20 : i_l = 20 := by omega
      subst e20
      exact gQ_map (gQ_ret q7_l)
  · dsimp only
    refine ⟨⟨rfl, rfl, rfl⟩, e8.trans hl, fun k_l => ?_, fun a k_l ha_l hz => ?_⟩
    · unfold fdb
      rw [if_neg (by omega)]
      exact rd_a rfl (by decide)
    · show (if a = 217 ∧ k_l = 0 then _ else gI s a k_l) = _
      rw [if_neg (by omega)]
/-- between the two halves of feed -/
def Mfd (l : Int) (A : Nat → Int) (s : gS) : Prop := (Rc1 s ∧ Rc3 s ∧ Rc4 s ∧ Rc5 s) ∧ ∀ k, gI s 2 k = fdb A l.toNat 20 (gI s 222) k
theorem rt_87 {a b c d e : Int} (hJ : J p s) (h : Rt s) : gQ (f_87 0 a b c d e s) (fun r => (380 < p.2.1 → Rt r.2.2.2) ∧ (p.2.1 ≤ 380 → Mfd p.2.1 (fd5 a b c d e) r.2.2.2)) := by
  have hg : RF s := hJ.1.2.1
  have r0 : gR s 0 0 = 1 := (rr_0_0 hg).2
  have hl : gI s 1 1 = p.2.1 := hJ.2.2.1
  have hb_l := J_f hJ (kd := 10) (a := 1) (i := 1) t10 rfl (fun z_l => by cases z_l) (x := 0) (y := 400) rfl
  by_cases c : 380 < p.2.1
  · unfold f_87
    rw [r0, hl, g32_eq (v := p.2.1 + 20) (by omega) (by omega), if_pos (by omega)]
    exact gQ_ret ⟨fun _ => h, fun z_l => by omega⟩
  · intro r hr
    refine ⟨fun z_l => by omega, fun _ => ?_⟩
    obtain ⟨h1, h2, h3, h4⟩ := x_87 hg (l := p.2.1.toNat) (by omega) (by omega) r hr
    obtain ⟨g1, g2, g3_l, g4, g5_l⟩ := h
    refine ⟨⟨c1_e g1 (fun a k_l ha_l ha2 => h4 a k_l (by omega) (by omega)) (fun k_l _ => h4 218 k_l (by decide) (by omega)), c3_e g3_l (h4 217 3 (by decide) (by omega)) (fun a k_l ha_l ha2 => h4 a k_l (by omega) (by omega)) (fun k_l => h4 219 k_l (by decide) (by omega)), c4_e g4 (h4 0 13 (by decide) (by omega)) (h4 0 14 (by decide) (by omega)) (fun a k_l ha_l ha2 => h4 a k_l (by omega) (by omega)) (fun a k_l ha_l ha2 => h4 a k_l (by omega) (by omega)), c5_e g5_l (h4 217 6 (by decide) (by omega)) (fun k_l => h4 221 k_l (by decide) (by omega)) (fun k_l => h4 218 k_l (by decide) (by omega))⟩, fun k_l => ?_⟩
    rw [h3 k_l]
    unfold fdb
    rw [g2 k_l, h4 222 k_l (by decide) (by omega)]
theorem rt_166a {a b c d e : Int} (hJ : J p s) (hl8 : 380 < p.2.2.1) (h : Rt s) : gQ (f_166 217 a b c d e s) (fun r => Rt r.2.2.2) := by
  have hl : gI s 217 8 = p.2.2.1 := hJ.2.2.2.1
  have hb_l := J_f hJ (kd := 12) (a := 217) (i := 8) t217 rfl (fun z_l => by cases z_l) (x := 0) (y := 400) rfl
  have e8 : gI (gw s 217 0 0) 217 8 = gI s 217 8 := rd_k (a := 217) (k := 8) rfl (by decide)
  unfold f_166
  dsimp only
  rw [e8, hl, g32_eq (v := p.2.2.1 + 20) (by omega) (by omega), if_pos (by omega)]
  exact gQ_ret (Rt_fw h (Fw_0 hJ.1.1))
theorem rt_166b {a b c d e : Int} (hJ : J p s) (hl8 : p.2.2.1 ≤ 380) (h : Mfd p.2.2.1 (fd5 a b c d e) s) : gQ (f_166 217 a b c d e s) (fun r => Rt r.2.2.2) := by
  have hg : RF s := hJ.1.2.1
  have hl : gI s 217 8 = p.2.2.1 := hJ.2.2.2.1
  have hb_l := J_f hJ (kd := 12) (a := 217) (i := 8) t217 rfl (fun z_l => by cases z_l) (x := 0) (y := 400) rfl
  intro r hr
  obtain ⟨h1, h2, h3, h4⟩ := x_166 hg (l := p.2.2.1.toNat) (by omega) (by omega) r hr
  obtain ⟨⟨g1, g3_l, g4, g5_l⟩, g2⟩ := h
  refine Rt_5 (c1_e g1 (fun a k_l ha_l ha2 => h4 a k_l (by omega) (by omega)) (fun k_l _ => h4 218 k_l (by decide) (by omega))) (fun k_l => ?_) (c3_e g3_l (h4 217 3 (by decide) (by omega)) (fun a k_l ha_l ha2 => h4 a k_l (by omega) (by omega)) (fun k_l => h4 219 k_l (by decide) (by omega))) (c4_e g4 (h4 0 13 (by decide) (by omega)) (h4 0 14 (by decide) (by omega)) (fun a k_l ha_l ha2 => h4 a k_l (by omega) (by omega)) (fun a k_l ha_l ha2 => h4 a k_l (by omega) (by omega))) (c5_e g5_l (h4 217 6 (by decide) (by omega)) (fun k_l => h4 221 k_l (by decide) (by omega)) (fun k_l => h4 218 k_l (by decide) (by omega)))
  rw [h3 k_l, h4 2 k_l (by decide) (by omega), g2 k_l]
theorem rt_88 {n : Int} (hJ : J p s) (h : Rt s) : gQ (f_88 0 n s) (fun r => Rt r.2.2.2) := by
  have r0 : gR s 0 0 = 1 := (rr_0_0 hJ.1.2.1).2
  unfold f_88
  dsimp only
  rw [r0]
  exact gQ_ite (gQ_ret h) (gQ_ite (gQ_ret h) (gQ_ret (Rt_fw h (Fw_w (Fw_rf hJ.1.1) rfl (uq 1 1 rfl)))))
theorem rt_167 {n : Int} (hJ : J p s) (h : Rt s) : gQ (f_167 217 n s) (fun r => Rt r.2.2.2) := by
  have h0 : Fw WR s (gw s 217 0 0) := Fw_0 hJ.1.1
  unfold f_167
  dsimp only
  refine gQ_v1 (A := fun z_l => z_l = gw s 217 0 0) (fun r hr => (qv_150 r hr).1) (fun v_l s2_l e_l => ?_)
  rw [e_l]
  exact gQ_ite (gQ_ret (Rt_fw h h0)) (gQ_ret (Rt_fw h (Fw_w h0 rfl (um 217 8 rfl))))
end Fd
