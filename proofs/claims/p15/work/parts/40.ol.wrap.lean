/-! acts: the wrapped calls of the class, and the model behind them -/
section Xw
variable {p : gP} {s : gS} {a1 a2 a3 : Int}
theorem ax_282 (hJ : J p s) (hR : Rt s) (hX : Rx s) : gQ (f_282 0 a1 231 s) (fun r => Xn (f_211 217 a1) r.2.1 r.2.2.2) := by
  obtain ⟨c_l, n_l, P_l, hc_l, hm_l, ho, hp, hr, h8⟩ := Rx_data hX
  unfold f_282
  refine ax2 (st := stA) (y := aPf a1 c_l) hJ hm_l ho hp hr h8 (okPf ho (J_Jn hJ h8)) (ca_96 hJ hR h8 ho hp hc_l) rfl (fun t_l h0 => aX trivial) (fun k_l t_l => ?_) (fun u_l p2_l hu hRu hfu hmu h8u => ma_211 hu h8u ho hp hmu)
  by_cases c0 : k_l = 3
  · rw [if_pos c0, c0]
    exact gQ_ret ⟨rfl, (by decide : (1 : Int) ≠ 0), rfl⟩
  by_cases c1 : k_l = 4
  · rw [if_neg c0, if_pos c1, c1]
    exact gQ_ret ⟨rfl, (by decide : (2 : Int) ≠ 0), rfl⟩
  rw [if_neg c0, if_neg c1]
  exact gQ_none
theorem tr_b {c : gCt} (h : (aTr a1 a2 c).1 = 0) : (aTr a1 a2 c).2.1 = 0 ∨ (aTr a1 a2 c).2.1 = 1 := by
  unfold aTr at h ⊢
  by_cases hx : (0 ≤ a1 ∧ a1 < c.1 4) ∧ (0 ≤ a2 ∧ a2 < c.1 5)
  · rw [if_pos hx] at h ⊢
    by_cases h5 : c.1 (40 + 6 * a1.toNat + 5) = 0
    · rw [if_pos h5]
      exact cgt_b
    · rw [if_neg h5] at h
      exact n20 h
  · rw [if_neg hx] at h
    exact n10 h
theorem ax_283 (hJ : J p s) (hR : Rt s) (hX : Rx s) : gQ (f_283 0 a1 a2 231 s) (fun r => Xn (f_213 217 a1 a2) r.2.1 r.2.2.2) := by
  obtain ⟨c_l, n_l, P_l, hc_l, hm_l, ho, hp, hr, h8⟩ := Rx_data hX
  unfold f_283
  refine ax2 (st := stA) (y := aTr a1 a2 c_l) hJ hm_l ho hp hr h8 (okTr ho) (ca_97 hJ hR h8 ho hp hc_l) rfl (fun t_l h0 => aXb (tr_b h0)) (fun k_l t_l => ?_) (fun u_l p2_l hu hRu hfu hmu h8u => ma_213 hu h8u ho hp hmu)
  by_cases c0 : k_l = 3
  · rw [if_pos c0, c0]
    exact gQ_ret ⟨rfl, (by decide : (1 : Int) ≠ 0), rfl⟩
  by_cases c1 : k_l = 4
  · rw [if_neg c0, if_pos c1, c1]
    exact gQ_ret ⟨rfl, (by decide : (2 : Int) ≠ 0), rfl⟩
  rw [if_neg c0, if_neg c1]
  exact gQ_none
theorem ax_284 (hJ : J p s) (hR : Rt s) (hX : Rx s) : gQ (f_284 0 a1 231 s) (fun r => Xn (f_214 217 a1) r.2.1 r.2.2.2) := by
  obtain ⟨c_l, n_l, P_l, hc_l, hm_l, ho, hp, hr, h8⟩ := Rx_data hX
  unfold f_284
  refine ax2 (st := stA) (y := aFl a1 c_l) hJ hm_l ho hp hr h8 (okFl ho) (ca_98 hJ hR h8 ho hp hc_l) rfl (fun t_l h0 => aX trivial) (fun k_l t_l => ?_) (fun u_l p2_l hu hRu hfu hmu h8u => ma_214 hu h8u ho hp hmu)
  by_cases c0 : k_l = 3
  · rw [if_pos c0, c0]
    exact gQ_ret ⟨rfl, (by decide : (1 : Int) ≠ 0), rfl⟩
  by_cases c1 : k_l = 4
  · rw [if_neg c0, if_pos c1, c1]
    exact gQ_ret ⟨rfl, (by decide : (2 : Int) ≠ 0), rfl⟩
  rw [if_neg c0, if_neg c1]
  exact gQ_none
theorem ax_285 (hJ : J p s) (hR : Rt s) (hX : Rx s) : gQ (f_285 0 a1 a2 a3 231 s) (fun r => Xn (f_215 217 a1 a2 a3) r.2.1 r.2.2.2) := by
  obtain ⟨c_l, n_l, P_l, hc_l, hm_l, ho, hp, hr, h8⟩ := Rx_data hX
  unfold f_285
  refine ax2 (st := stB) (y := aSl a1 a2 a3 c_l) hJ hm_l ho hp hr h8 (okSl ho (J_Jn hJ h8)) (ca_99 hJ hR h8 ho hp hc_l) rfl (fun t_l h0 => aX trivial) (fun k_l t_l => ?_) (fun u_l p2_l hu hRu hfu hmu h8u => ma_215 hu h8u ho hp hmu)
  by_cases c0 : k_l = 3
  · rw [if_pos c0, c0]
    exact gQ_ret ⟨rfl, (by decide : (1 : Int) ≠ 0), rfl⟩
  by_cases c1 : k_l = 0
  · rw [if_neg c0, if_pos c1, c1]
    exact gQ_ret ⟨rfl, (by decide : (2 : Int) ≠ 0), rfl⟩
  by_cases c2 : k_l = 4
  · rw [if_neg c0, if_neg c1, if_pos c2, c2]
    exact gQ_ret ⟨rfl, (by decide : (3 : Int) ≠ 0), rfl⟩
  rw [if_neg c0, if_neg c1, if_neg c2]
  exact gQ_none
theorem ax_286 (hJ : J p s) (hR : Rt s) (hX : Rx s) : gQ (f_286 0 a1 a2 231 s) (fun r => Xn (f_216 217 a1 a2) r.2.1 r.2.2.2) := by
  obtain ⟨c_l, n_l, P_l, hc_l, hm_l, ho, hp, hr, h8⟩ := Rx_data hX
  unfold f_286
  refine ax2 (st := stA) (y := aPt a1 a2 c_l) hJ hm_l ho hp hr h8 (okPt ho (J_Jn hJ h8)) (ca_100 hJ hR h8 ho hp hc_l) rfl (fun t_l h0 => aX trivial) (fun k_l t_l => ?_) (fun u_l p2_l hu hRu hfu hmu h8u => ma_216 hu h8u ho hp hmu)
  by_cases c0 : k_l = 3
  · rw [if_pos c0, c0]
    exact gQ_ret ⟨rfl, (by decide : (1 : Int) ≠ 0), rfl⟩
  by_cases c1 : k_l = 4
  · rw [if_neg c0, if_pos c1, c1]
    exact gQ_ret ⟨rfl, (by decide : (2 : Int) ≠ 0), rfl⟩
  rw [if_neg c0, if_neg c1]
  exact gQ_none
theorem ax_287 (hJ : J p s) (hR : Rt s) (hX : Rx s) : gQ (f_287 0 a1 231 s) (fun r => Xn (f_217 217 a1) r.2.1 r.2.2.2) := by
  obtain ⟨c_l, n_l, P_l, hc_l, hm_l, ho, hp, hr, h8⟩ := Rx_data hX
  unfold f_287
  refine ax2 (st := st2) (y := aPy a1 c_l) hJ hm_l ho hp hr h8 (okPy ho) (ca_101 hJ ho hp hc_l) rfl (fun t_l h0 => aX trivial) (fun k_l t_l => ?_) (fun u_l p2_l hu hRu hfu hmu h8u => ma_217 hu h8u ho hp hmu)
  by_cases c0 : k_l = 0
  · rw [if_pos c0, c0]
    exact gQ_ret ⟨rfl, (by decide : (1 : Int) ≠ 0), rfl⟩
  rw [if_neg c0]
  exact gQ_none
theorem ax_288 (hJ : J p s) (hR : Rt s) (hX : Rx s) : gQ (f_288 0 a1 231 s) (fun r => Xn (f_218 217 a1) r.2.1 r.2.2.2) := by
  obtain ⟨c_l, n_l, P_l, hc_l, hm_l, ho, hp, hr, h8⟩ := Rx_data hX
  obtain ⟨T, hT_l⟩ := hr.2
  unfold f_288
  refine ax2 (st := st2) (y := aDy T a1 c_l) hJ hm_l ho hp hr h8 (okDy ho) (ca_102 hJ hT_l ho hp hc_l) rfl (fun t_l h0 => aX trivial) (fun k_l t_l => ?_) (fun u_l p2_l hu hRu hfu hmu h8u => ma_218 hu (law_C hJ hT_l hfu) h8u ho hp hmu)
  by_cases c0 : k_l = 0
  · rw [if_pos c0, c0]
    exact gQ_ret ⟨rfl, (by decide : (1 : Int) ≠ 0), rfl⟩
  rw [if_neg c0]
  exact gQ_none
end Xw
section Sd
variable {g s t u : gS} {c : gCt} {n i : Nat} {P : Nat → gCt} {p : gP} {x : Int} {F : gS → Option gO}
/-- direct acts: the class's half is done -/
theorem ad1 {z : Option gO} {w : Int} {c' : gCt} {n' : Nat} {P' : Nat → gCt} (hJ : J p s) (hm : Ms s c n P) (ho : Okc c) (hp : Pok n P) (hr : Rr s) (h8 : ∀ k, gI s 218 k = c.1 k) (ho' : Okc c') (hp' : Pok n' P') (hz : gQ z (fun r => Fw WC s r.2.2.2 ∧ r.2.1 = w ∧ Cs r.2.2.2 c' n' P')) (hF : ∀ u p, J p u → Rt u → Fw WC s u → Ms u c n P → (∀ k, gI u 218 k = c.1 k) → gQ (F u) (fun q => Fw WM u q.2.2.2 ∧ q.2.1 = w ∧ Ms q.2.2.2 c' n' P')) : gQ z (fun r => Xd F r.2.1 r.2.2.2) := by
  intro r hr2 p2_l hJ2 hR2 q hq
  obtain ⟨x1_l, x2_l, x3⟩ := hz r hr2
  have hn := hJ.1.1
  have g8 : ∀ k, gI r.2.2.2 218 k = c.1 k := fun k => (x1_l.2.2 218 k (by omega) (WC_n (by omega))).trans (h8 k)
  obtain ⟨y1, y2, y3⟩ := hF _ p2_l hJ2 hR2 x1_l (Ms_C hm ho hp x1_l) g8 q hq
  exact ⟨data_Rx (Cs_M x3 y1) y3 ho' hp' (Rr_M hJ2 (Rr_C hJ hr x1_l) y1), y2.trans x2_l.symm⟩
theorem ax_129 (hJ : J p s) (hR : Rt s) (hX : Rx s) : gQ (f_129 0 x s) (fun r => Xd (f_259 217 x) r.2.1 r.2.2.2) := by
  obtain ⟨c_l, n_l, P_l, hc_l, hm_l, ho, hp, hr, h8⟩ := Rx_data hX
  have hg := J_RF hJ
  have hn := hJ.1.1
  have o2 : Okc (up c_l.1 14 x, c_l.2) := by
    refine ⟨⟨Vg_x ho.1.1 ⟨by decide, by decide, fun i_l hi_l => by omega, fun a_l ha_l => by omega⟩, Vp_o ho.1.2 (by omega)⟩, ?_⟩
    show 0 ≤ up c_l.1 14 x 13 ∧ up c_l.1 14 x 13 ≤ 60
    rw [up_n (by decide)]
    exact ho.2
  refine ad1 (w := c_l.1 14) hJ hm_l ho hp hr h8 o2 hp ?_ (fun u_l p2_l hu hRu hfu hmu h8u => ?_)
  · have e_l : gI s 15 9 = c_l.1 14 := rd_ci (C := 15) hc_l.1.1 cjc.2.2.2 KK_c.2.2.2.2.2.2.2.2.2.2.2
    have h1 : Cst s s c_l.1 c_l.2 n_l P_l := ⟨hc_l, Fw_rf hn, hg⟩
    unfold f_129
    dsimp only
    rw [(rr_0_5 hg).2, e_l]
    have h2 := Cst_w (v := x) h1 cjc.2.2.2 (by decide) (by decide)
    exact gQ_ret ⟨h2.2.1, rfl, h2.1⟩
  · have hgu := J_RF hu
    have h1 : Mst u_l (gw u_l 217 0 0) c_l.1 c_l.2 n_l P_l := ⟨Ms_0 hmu, Fw_m0 hu.1.1, RF_sm hgu rfl, rd_same rfl⟩
    unfold f_259
    dsimp only
    rw [show gR (gw u_l 217 0 0) 217 1 = 218 from (rr_217_1 hgu).2, Mst_r h1 KK_c.2.2.2.2.2.2.2.2.2.2.2]
    have h2 := Mst_w (v := x) h1 (k0 := 14) (by decide) (by decide) rfl
    exact gQ_ret ⟨h2.2.1, rfl, h2.1⟩
/-- the class's undo -/
theorem ct_130 (hg : RF s) (hn : 232 ≤ gn s) (hp : Pok n P) (h : Cs s c n P) : gQ (f_130 0 s) (fun r => Fw WC s r.2.2.2 ∧ (n = 0 → r.2.1 = 0 ∧ Cs r.2.2.2 c n P) ∧ (0 < n → r.2.1 = 1 ∧ Cs r.2.2.2 (P 0) (n - 1) (fun j => P (j + 1)))) := by
  have hh := h
  have hp1 := hp.1
  obtain ⟨c1_l, c2_l, c3_l, c4_l⟩ := h
  unfold f_130
  by_cases c0 : gI s 0 14 < 1
  · rw [if_pos c0]
    exact gQ_ret ⟨Fw_rf hn, fun _ => ⟨rfl, hh⟩, fun z_l => by omega⟩
  rw [if_neg c0]
  obtain ⟨i_l, hi_l⟩ : ∃ i_l : Nat, gI s 0 13 = (i_l : Int) := ⟨(gI s 0 13).toNat, by omega⟩
  have hi12 : i_l < 12 := by omega
  have r12 : gR s 0 12 = 72 := (rr_0_12 hg).2
  have r5_l : gR s 0 5 = 15 := (rr_0_5 hg).2
  have rp : gR s 72 i_l = 73 + 12 * i_l := (hg 72 i_l (by decide) (fun z_l => by rw [k0_72.1] at z_l; omega)).trans (r0_72 i_l hi12).1
  rw [r12, r5_l, hi_l, Int.toNat_natCast, rp]
  refine gQ_chk ?_
  refine gQ_v0 (A := fun z_l => FC 15 (73 + 12 * i_l) s z_l) (fun r hr => (gQ_T (s_22 hg ⟨by decide, k0_72.2⟩ ⟨by omega, (r0_72 i_l hi12).2⟩ (by omega)) r hr).2) (fun s2_l hF => ?_)
  have w13_l : gI s2_l 0 13 = (i_l : Int) := by
    rw [(hF.2 0 13).2 (fun z_l => by have := blk z_l; omega)]
    exact hi_l
  have w14_l : gI s2_l 0 14 = gI s 0 14 := (hF.2 0 14).2 (fun z_l => by have := blk z_l; omega)
  have hm_l : grem (g32 (g32 ((i_l : Int) + 12) - 1)) 12 = (((i_l + 11) % 12 : Nat) : Int) := by
    rw [g32_eq (v := (i_l : Int) + 12) (by omega) (by omega), g32_eq (v := (i_l : Int) + 12 - 1) (by omega) (by omega), grem_eq (x := (i_l : Int) + 12 - 1) (c := 12) (by omega) (by decide)]
    omega
  rw [w13_l, hm_l]
  clear hm_l
  dsimp only
  have x14 : gI (gw s2_l 0 13 (((i_l + 11) % 12 : Nat) : Int)) 0 14 = gI s 0 14 := (rd_k rfl (by decide)).trans w14_l
  rw [x14, g32_eq (v := gI s 0 14 - 1) (by omega) (by omega)]
  refine gQ_ret ?_
  dsimp only
  have y13 : gI (gw (gw s2_l 0 13 (((i_l + 11) % 12 : Nat) : Int)) 0 14 (gI s 0 14 - 1)) 0 13 = (((i_l + 11) % 12 : Nat) : Int) := (rd_k rfl (by decide)).trans (rd_same rfl)
  have y14 : gI (gw (gw s2_l 0 13 (((i_l + 11) % 12 : Nat) : Int)) 0 14 (gI s 0 14 - 1)) 0 14 = gI s 0 14 - 1 := rd_same rfl
  have hs2 : ∀ a_l k_l, ¬ (a_l = 0 ∧ (k_l = 13 ∨ k_l = 14)) → gI (gw (gw s2_l 0 13 (((i_l + 11) % 12 : Nat) : Int)) 0 14 (gI s 0 14 - 1)) a_l k_l = gI s2_l a_l k_l := fun a_l k_l ha_l => by
    show (if a_l = 0 ∧ k_l = 14 then _ else if a_l = 0 ∧ k_l = 13 then _ else gI s2_l a_l k_l) = _
    rw [if_neg (by omega), if_neg (by omega)]
  have hsm : Sm s (gw (gw s2_l 0 13 (((i_l + 11) % 12 : Nat) : Int)) 0 14 (gI s 0 14 - 1)) := hF.1
  generalize gw (gw s2_l 0 13 (((i_l + 11) % 12 : Nat) : Int)) 0 14 (gI s 0 14 - 1) = t at *
  have hb_l : ∀ a_l k_l, ¬ (15 ≤ a_l ∧ a_l < 27) → ¬ (a_l = 0 ∧ (k_l = 13 ∨ k_l = 14)) → gI t a_l k_l = gI s a_l k_l := fun a_l k_l hx hz => (hs2 a_l k_l hz).trans ((hF.2 a_l k_l).2 (fun z_l => hx (blk z_l)))
  have h0 : 0 < n := by omega
  refine ⟨Fw_sm (Fw_rf hn) hsm (fun a_l k_l _ hf => hb_l a_l k_l (fun z_l => ?_) (fun z_l => ?_)), fun z_l => by omega, fun _ => ⟨rfl, ?_, ?_, by rw [y13]; omega, fun j hj => ?_⟩⟩
  · rw [WC_t (by omega)] at hf
    cases hf
  · rw [WC_t (by omega)] at hf
    cases hf
  · have e1_l : pst (gI s 0 13) 0 = 73 + 12 * i_l := by
      unfold pst
      rw [hi_l, Int.toNat_natCast]
      omega
    have f0_l := c4_l 0 h0
    rw [e1_l] at f0_l
    have f1_l : Csw s2_l 9 15 (P 0).1 (P 0).2 := Csw_FC hF (by decide) f0_l (hp.2 0 h0).2.2
    exact Csw_e f1_l (fun a_l k_l ha_l _ => hs2 a_l k_l (by omega)) (fun a_l k_l ha_l _ => hs2 a_l k_l (by omega))
  · rw [y14]
    omega
  · have e1_l : pst ((((i_l + 11) % 12 : Nat) : Int)) j = pst (gI s 0 13) (j + 1) := by
      have := hp.1
      unfold pst
      rw [Int.toNat_natCast, hi_l, Int.toNat_natCast]
      omega
    rw [y13, e1_l]
    exact Csw_e (c4_l (j + 1) (by omega)) (fun a_l k_l ha_l hb2 => hb_l a_l k_l (by omega) (by omega)) (fun a_l k_l ha_l hb2 => by
      unfold pst at ha_l hb2
      exact hb_l a_l k_l (by omega) (by omega))
/-- the model's undo -/
theorem mt_260 (hJ : J p s) (hR : Rt s) (hp : Pok n P) (h : Ms s c n P) : gQ (f_260 217 s) (fun r => Fw WM s r.2.2.2 ∧ (n = 0 → r.2.1 = 0 ∧ Ms r.2.2.2 c n P) ∧ (0 < n → r.2.1 = 1 ∧ Ms r.2.2.2 (P 0) (n - 1) (fun j => P (j + 1)))) := by
  have hg := J_RF hJ
  have hn := hJ.1.1
  have h8 := hR.2.2.2.2
  have hh := Ms_0 (v := 0) h
  obtain ⟨m1_l, m2_l, m3_l⟩ := h
  have e6_l : gI (gw s 217 0 0) 217 6 = gI s 217 6 := rd_k (a := 217) (k := 6) rfl (by decide)
  have r1_l : gR s 217 1 = 218 := (rr_217_1 hg).2
  have r5_l : gR s 217 5 = 221 := (rr_217_5 hg).2
  unfold f_260
  dsimp only
  rw [e6_l]
  by_cases c0 : gI s 217 6 = 0
  · rw [if_pos c0]
    exact gQ_ret ⟨Fw_m0 hn, fun _ => ⟨rfl, hh⟩, fun z_l => by omega⟩
  rw [if_neg c0, g32_eq (v := gI s 217 6 - 1) (by omega) (by omega)]
  have h0 : 0 < n := by omega
  have s6_l : gI (gw (gw s 217 0 0) 217 6 (gI s 217 6 - 1)) 217 6 = gI s 217 6 - 1 := rd_same rfl
  have hc_l : ∀ a_l k_l, a_l ≠ 217 → gI (gw (gw s 217 0 0) 217 6 (gI s 217 6 - 1)) a_l k_l = gI s a_l k_l := fun a_l k_l ha_l => (rd_a rfl ha_l).trans (rd_a rfl ha_l)
  have hc2 : gI (gw (gw s 217 0 0) 217 6 (gI s 217 6 - 1)) 217 3 = gI s 217 3 := (rd_k rfl (by decide)).trans (rd_k rfl (by decide))
  have hw : Fw WM s (gw (gw s 217 0 0) 217 6 (gI s 217 6 - 1)) := Fw_wv (Fw_m0 hn) rfl
  have hsm : Sm s (gw (gw s 217 0 0) 217 6 (gI s 217 6 - 1)) := ⟨rfl, rfl, rfl⟩
  generalize gw (gw s 217 0 0) 217 6 (gI s 217 6 - 1) = t at *
  have b1 : gR t 217 1 = 218 := by
    show t.2.2.2 217 1 = 218
    rw [hsm.2.2]
    exact r1_l
  have b5 : gR t 217 5 = 221 := by
    show t.2.2.2 217 5 = 221
    rw [hsm.2.2]
    exact r5_l
  refine gQ_loop (fun y_l => y_l.1 = 217 ∧ (0 ≤ y_l.2.1 ∧ y_l.2.1 ≤ 340) ∧ Sm t y_l.2.2 ∧ (∀ a_l k_l : Nat, ¬ (a_l = 218 ∧ (k_l : Int) < y_l.2.1) → gI y_l.2.2 a_l k_l = gI t a_l k_l) ∧ ∀ k_l : Nat, (k_l : Int) < y_l.2.1 → gI y_l.2.2 218 k_l = gI s 221 (340 * (n - 1) + k_l)) (fun y_l hy => ?_) ⟨rfl, ⟨Int.le_refl 0, (by decide : (0 : Int) ≤ 340)⟩, ⟨rfl, rfl, rfl⟩, fun _ _ _ => rfl, fun k_l hk => by dsimp only at hk; omega⟩
  obtain ⟨x0_l, x1_l, y1⟩ := y_l
  obtain ⟨q0, hb_l, hs, h5, h6⟩ := hy
  dsimp only at q0 hb_l hs h5 h6
  subst q0
  have t1_l : gR y1 217 1 = 218 := by
    show y1.2.2.2 217 1 = 218
    rw [hs.2.2]
    exact b1
  have t5_l : gR y1 217 5 = 221 := by
    show y1.2.2.2 217 5 = 221
    rw [hs.2.2]
    exact b5
  show gQ (sb_260_26 217 x1_l y1) _
  unfold sb_260_26
  by_cases c : x1_l < 340
  · have hA : 0 ≤ gI s 217 6 - 1 ∧ gI s 217 6 - 1 ≤ 11 := by omega
    have e6y : gI y1 217 6 = gI s 217 6 - 1 := (h5 217 6 (by omega)).trans s6_l
    rw [if_pos c, t1_l, t5_l, e6y, g32_eq (v := 340 * (gI s 217 6 - 1)) (by omega) (by omega), g32_eq (v := 340 * (gI s 217 6 - 1) + x1_l) (by omega) (by omega), g32_eq (v := x1_l + 1) (by omega) (by omega)]
    have hv : (340 * (gI s 217 6 - 1) + x1_l).toNat = 340 * (n - 1) + x1_l.toNat := by omega
    have e21_l : gI y1 221 (340 * (gI s 217 6 - 1) + x1_l).toNat = gI s 221 (340 * (n - 1) + x1_l.toNat) := by
      rw [hv, h5 221 _ (by omega)]
      exact hc_l 221 _ (by decide)
    refine gQ_chk (gQ_chk (gQ_ret ⟨rfl, by dsimp only; omega, hs, fun a_l k_l ha_l => ?_, fun k_l hk => ?_⟩))
    · dsimp only at ha_l ⊢
      rw [e21_l]
      show (if a_l = 218 ∧ k_l = x1_l.toNat then _ else gI y1 a_l k_l) = _
      rw [if_neg (by omega)]
      exact h5 a_l k_l (by omega)
    · dsimp only at hk ⊢
      rw [e21_l]
      show (if 218 = 218 ∧ k_l = x1_l.toNat then gI s 221 (340 * (n - 1) + x1_l.toNat) else gI y1 218 k_l) = _
      by_cases ck : k_l = x1_l.toNat
      · rw [if_pos ⟨rfl, ck⟩, ck]
      · rw [if_neg (fun z_l => ck z_l.2)]
        exact h6 k_l (by omega)
  · rw [if_neg c]
    refine gQ_map (gQ_ret ⟨Fw_sm hw hs (fun a_l k_l _ hf => ?_), fun z_l => by omega, fun _ => ⟨rfl, ?_, ?_, fun j hj => ?_⟩⟩)
    · dsimp only
      by_cases ca : a_l = 218 ∧ k_l < 340
      · obtain ⟨rfl, ck⟩ := ca
        cases hm : mnt k_l with
        | true =>
          rw [WM_8 hm] at hf
          cases hf
        | false =>
          rw [h6 k_l (by omega), h8.2 (n - 1) (by omega) k_l ck hm]
          exact (hc_l 218 k_l (by decide)).symm
      · exact h5 a_l k_l (by omega)
    · dsimp only
      refine Msw_m (m3_l 0 h0) (hp.2 0 h0).2.2 (fun k_l hk => ?_)
      rw [Nat.zero_add, h6 k_l (by omega), show n - 1 - 0 = n - 1 by omega]
    · dsimp only
      rw [h5 217 6 (by omega), s6_l]
      omega
    · dsimp only
      refine Msw_m (m3_l (j + 1) (by omega)) (hp.2 (j + 1) (by omega)).2.2 (fun k_l hk => ?_)
      rw [h5 221 _ (by omega), hc_l 221 _ (by decide), show n - 1 - 1 - j = n - 1 - (j + 1) by omega]
theorem ax_130 (hJ : J p s) (hR : Rt s) (hX : Rx s) : gQ (f_130 0 s) (fun r => Xd (f_260 217) r.2.1 r.2.2.2) := by
  obtain ⟨c_l, n_l, P_l, hc_l, hm_l, ho, hp, hr, h8⟩ := Rx_data hX
  have hg := J_RF hJ
  have hn := hJ.1.1
  by_cases h0 : n_l = 0
  · refine ad1 (w := 0) hJ hm_l ho hp hr h8 ho hp (fun r hr2 => ?_) (fun u_l p2_l hu hRu hfu hmu h8u q_l hq => ?_)
    · obtain ⟨q1_l, q2_l, q3_l⟩ := ct_130 hg hn hp hc_l r hr2
      exact ⟨q1_l, q2_l h0⟩
    · obtain ⟨q1_l, q2_l, q3_l⟩ := mt_260 hu hRu hp hmu q_l hq
      exact ⟨q1_l, q2_l h0⟩
  · have h1 : 0 < n_l := by omega
    refine ad1 (w := 1) (c' := P_l 0) (n' := n_l - 1) (P' := fun j_l => P_l (j_l + 1)) hJ hm_l ho hp hr h8 (hp.2 0 h1) ⟨by have := hp.1; omega, fun j_l hj => hp.2 (j_l + 1) (by omega)⟩ (fun r hr2 => ?_) (fun u_l p2_l hu hRu hfu hmu h8u q_l hq => ?_)
    · obtain ⟨q1_l, q2_l, q3_l⟩ := ct_130 hg hn hp hc_l r hr2
      exact ⟨q1_l, q3_l h1⟩
    · obtain ⟨q1_l, q2_l, q3_l⟩ := mt_260 hu hRu hp hmu q_l hq
      exact ⟨q1_l, q3_l h1⟩
end Sd
