/-! feed and end; the two relations together -/
noncomputable def RX (s : gS) : Prop := Rt s ∧ Rx s
section Rs2
variable {s t u : gS} {p : gP} {a b c d e n : Int} {F : gS → Option gO} {z : Option gO} {w : Int}
theorem gQ_and {Q : Type} {x : Option Q} {P R : Q → Prop} (h1 : gQ x P) (h2 : gQ x R) : gQ x (fun r => P r ∧ R r) := fun r hr => ⟨h1 r hr, h2 r hr⟩
theorem Rx_sm (hJ : J p s) (h : Rx s) (hS : Sm s t) (hc : ∀ a k, ((9 ≤ a ∧ a < 27) ∨ (54 ≤ a ∧ a < 217) ∨ a = 218 ∨ a = 219 ∨ a = 221 ∨ (a = 0 ∧ (k = 13 ∨ k = 14)) ∨ (a = 217 ∧ (k = 3 ∨ k = 6)) ∨ 232 ≤ a) → gI t a k = gI s a k) : Rx t := Rx_g hJ h (fun a k ha_l => hc a k (by omega)) (fun a j_l _ _ => by
    show t.2.2.2 a j_l = s.2.2.2 a j_l
    rw [hS.2.2]) (fun a _ => by
    show t.2.1 a = s.2.1 a
    rw [hS.2.1]) (fun a j_l ha_l _ => hc a j_l (by omega))
theorem rx_87 (hJ : J p s) (h : Rx s) : gQ (f_87 0 a b c d e s) (fun r => Rx r.2.2.2) := by
  have hg : RF s := hJ.1.2.1
  have r0 : gR s 0 0 = 1 := (rr_0_0 hg).2
  have hl : gI s 1 1 = p.2.1 := hJ.2.2.1
  have hb_l := J_f hJ (kd := 10) (a := 1) (i := 1) t10 rfl (fun z_l => by cases z_l) (x := 0) (y := 400) rfl
  by_cases c0 : 380 < p.2.1
  · unfold f_87
    rw [r0, hl, g32_eq (v := p.2.1 + 20) (by omega) (by omega), if_pos (by omega)]
    exact gQ_ret h
  · intro r hr
    obtain ⟨h1, h2, h3, h4⟩ := x_87 hg (l := p.2.1.toNat) (by omega) (by omega) r hr
    exact Rx_sm hJ h h1 (fun a k_l ha_l => h4 a k_l (by omega) (by omega))
theorem rx_166 (hJ : J p s) (h : Rx s) : gQ (f_166 217 a b c d e s) (fun r => Rx r.2.2.2) := by
  have hg : RF s := hJ.1.2.1
  have hl : gI s 217 8 = p.2.2.1 := hJ.2.2.2.1
  have hb_l := J_f hJ (kd := 12) (a := 217) (i := 8) t217 rfl (fun z_l => by cases z_l) (x := 0) (y := 400) rfl
  by_cases c0 : 380 < p.2.2.1
  · have e8 : gI (gw s 217 0 0) 217 8 = gI s 217 8 := rd_k (a := 217) (k := 8) rfl (by decide)
    unfold f_166
    dsimp only
    rw [e8, hl, g32_eq (v := p.2.2.1 + 20) (by omega) (by omega), if_pos (by omega)]
    exact gQ_ret (Rx_fw hJ h (Fw_wv (Fw_rf hJ.1.1) rfl))
  · intro r hr
    obtain ⟨h1, h2, h3, h4⟩ := x_166 hg (l := p.2.2.1.toNat) (by omega) (by omega) r hr
    exact Rx_sm hJ h h1 (fun a k_l ha_l => h4 a k_l (by omega) (by omega))
theorem rx_88 (hJ : J p s) (h : Rx s) : gQ (f_88 0 n s) (fun r => Rx r.2.2.2) := by
  have r0 : gR s 0 0 = 1 := (rr_0_0 hJ.1.2.1).2
  unfold f_88
  dsimp only
  rw [r0]
  exact gQ_ite (gQ_ret h) (gQ_ite (gQ_ret h) (gQ_ret (Rx_fw hJ h (Fw_wv (Fw_rf hJ.1.1) rfl))))
theorem rx_167 (hJ : J p s) (h : Rx s) : gQ (f_167 217 n s) (fun r => Rx r.2.2.2) := by
  have h0 : Fw WX s (gw s 217 0 0) := Fw_wv (Fw_rf hJ.1.1) rfl
  unfold f_167
  dsimp only
  refine gQ_v1 (A := fun z_l => z_l = gw s 217 0 0) (fun r hr => (qv_150 r hr).1) (fun v_l s2_l e_l => ?_)
  rw [e_l]
  exact gQ_ite (gQ_ret (Rx_fw hJ h h0)) (gQ_ret (Rx_fw hJ h (Fw_wv h0 rfl)))
/-- acts behind their class's half -/
theorem xn_m (hJ : J p u) (hR : Rt u) (h : Xn F w u) (hr : gQ (F u) (fun q => Rt q.2.2.2)) : gQ (F u) (fun q => RX q.2.2.2 ∧ gI q.2.2.2 217 0 = w ∧ (w = 0 → gI q.2.2.2 231 0 = q.2.1)) := fun q hq => by
  obtain ⟨h1, h2, h3⟩ := h p hJ hR q hq
  exact ⟨⟨hr q hq, h1⟩, h2, h3⟩
theorem xd_m (hJ : J p u) (hR : Rt u) (h : Xd F w u) (hr : gQ (F u) (fun q => Rt q.2.2.2)) : gQ (F u) (fun q => RX q.2.2.2 ∧ q.2.1 = w) := fun q hq => by
  obtain ⟨h1, h2⟩ := h p hJ hR q hq
  exact ⟨⟨hr q hq, h1⟩, h2⟩
end Rs2
