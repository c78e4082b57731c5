section
/-! the texts on both sides -/
noncomputable def Tx (k : Nat) : Prop := KK k ∧ mnt k = false
/-- cells that no text stands in -/
noncomputable def WR (a k : Nat) : Bool := csd a k || (msd a k || (Nat.beq a 220 || (Nat.beq a 0 && Nat.beq k 16)))
/-- the text of a remembered court -/
noncomputable def Tc (k : Nat) : Prop := k = 4 ∨ k = 6 ∨ ∃ x, x < 6 ∧ k = 42 + 6 * x
noncomputable def pst (n : Int) (j : Nat) : Nat := 73 + 12 * ((n.toNat + 12 - j) % 12)
noncomputable def Rt (s : gS) : Prop := (∀ k, Tx k → gI s 218 k = cv s 9 15 k ∧ (k = 0 → gI s 218 k ≤ 12) ∧ (0 ≤ gI s 218 k ∧ gI s 218 k ≤ 100)) ∧ (∀ k, gI s 2 k = gI s 222 k) ∧ (gI s 217 3 = 1 → ∀ k, Tx k → gI s 219 k = cv s 54 60 k ∧ (k = 0 → gI s 219 k ≤ 12) ∧ (0 ≤ gI s 219 k ∧ gI s 219 k ≤ 100)) ∧ ((0 ≤ gI s 0 13 ∧ gI s 0 13 ≤ 11) ∧ (0 ≤ gI s 0 14 ∧ gI s 0 14 ≤ 12) ∧ ∀ j : Nat, (j : Int) < gI s 0 14 → ∀ k, Tc k → cv s 9 (pst (gI s 0 13) j) k = cv s 9 15 k) ∧ ((0 ≤ gI s 217 6 ∧ gI s 217 6 ≤ 12) ∧ ∀ j : Nat, (j : Int) < gI s 217 6 → ∀ k, k < 340 → mnt k = false → gI s 221 (340 * j + k) = gI s 218 k)
section Rw3
variable {s s' t : gS} {p : gP}
theorem Tx_9 : ∀ k, k < 100 → (k ≠ 1 ∧ k ≠ 2 ∧ k ≠ 15) → mnt k = false → pa 9 15 k < 232 ∧ WR (pa 9 15 k) (pj k) = false ∧ pa 54 60 k < 232 ∧ WR (pa 54 60 k) (pj k) = false := by decide +kernel
theorem Tx_8 : ∀ k, k < 340 → mnt k = false → WR 218 k = false := by decide +kernel
theorem WR_t {k : Nat} : WR 2 k = false ∧ WR 222 k = false ∧ WR 219 k = false ∧ WR 221 k = false ∧ WR 0 13 = false ∧ WR 0 14 = false ∧ WR 217 3 = false ∧ WR 217 6 = false := ⟨rfl, rfl, rfl, rfl, rfl, rfl, rfl, rfl⟩
theorem Tc_p : ∀ i, i < 12 → ∀ x, x < 6 → (pa 9 (73 + 12 * i) 4 < 232 ∧ WR (pa 9 (73 + 12 * i) 4) (pj 4) = false) ∧ (pa 9 (73 + 12 * i) 6 < 232 ∧ WR (pa 9 (73 + 12 * i) 6) (pj 6) = false) ∧ (pa 9 (73 + 12 * i) (42 + 6 * x) < 232 ∧ WR (pa 9 (73 + 12 * i) (42 + 6 * x)) (pj (42 + 6 * x)) = false) := by decide +kernel
theorem Tc_q {i k : Nat} (hi : i < 12) (hk : Tc k) : pa 9 (73 + 12 * i) k < 232 ∧ WR (pa 9 (73 + 12 * i) k) (pj k) = false := by
  rcases hk with rfl | rfl | ⟨x_l, hx, rfl⟩
  · exact (Tc_p i hi 0 (by decide)).1
  · exact (Tc_p i hi 0 (by decide)).2.1
  · exact (Tc_p i hi x_l hx).2.2
theorem Tc_b : ∀ x, x < 6 → KK (42 + 6 * x) ∧ mnt (42 + 6 * x) = false := by unfold KK; decide +kernel
theorem Tc_x {k : Nat} (hk : Tc k) : Tx k := by
  rcases hk with rfl | rfl | ⟨x_l, hx, rfl⟩
  · exact ⟨by unfold KK; decide, rfl⟩
  · exact ⟨by unfold KK; decide, rfl⟩
  · exact Tc_b x_l hx
/-- what touches no text keeps the relation -/
theorem Rt_fw (h : Rt s) (hf : Fw WR s s') : Rt s' := by
  obtain ⟨h1, h2, h3, ⟨h4, h5, h6⟩, h7, h8⟩ := h
  have hi_l : ∀ a_l k_l, a_l < 232 → WR a_l k_l = false → gI s' a_l k_l = gI s a_l k_l := fun a_l k_l ha_l hw => hf.2.2 a_l k_l (Nat.lt_of_lt_of_le ha_l hf.1.1) hw
  have hc_l : ∀ k_l, Tx k_l → cv s' 9 15 k_l = cv s 9 15 k_l ∧ cv s' 54 60 k_l = cv s 54 60 k_l := fun k_l hk => by
    obtain ⟨a1_l, a2, a3, a4⟩ := Tx_9 k_l hk.1.1 hk.1.2 hk.2
    exact ⟨hi_l _ _ a1_l a2, hi_l _ _ a3 a4⟩
  have w_l := @WR_t 0
  have e13_l := hi_l 0 13 (by decide) rfl
  have e14_l := hi_l 0 14 (by decide) rfl
  have e3_l := hi_l 217 3 (by decide) rfl
  have e6_l := hi_l 217 6 (by decide) rfl
  refine ⟨fun k_l hk => ?_, fun k_l => ?_, fun he k_l hk => ?_, ⟨?_, ?_, fun j_l hj k_l hk => ?_⟩, ?_, fun j_l hj k_l hk hm_l => ?_⟩
  · rw [hi_l 218 k_l (by decide) (Tx_8 k_l (by have := hk.1.1; omega) hk.2), (hc_l k_l hk).1]
    exact h1 k_l hk
  · rw [hi_l 2 k_l (by decide) rfl, hi_l 222 k_l (by decide) rfl]
    exact h2 k_l
  · rw [hi_l 219 k_l (by decide) rfl, (hc_l k_l hk).2]
    exact h3 (by rw [← e3_l]; exact he) k_l hk
  · rw [e13_l]; exact h4
  · rw [e14_l]; exact h5
  · rw [e13_l, (hc_l k_l (Tc_x hk)).1]
    rw [e14_l] at hj
    obtain ⟨a1_l, a2⟩ := Tc_q (i := ((gI s 0 13).toNat + 12 - j_l) % 12) (Nat.mod_lt _ (by decide)) hk
    refine (hi_l _ _ a1_l a2).trans ?_
    exact h6 j_l hj k_l hk
  · rw [e6_l]; exact h7
  · rw [e6_l] at hj
    rw [hi_l 221 _ (by decide) rfl, hi_l 218 k_l (by decide) (Tx_8 k_l hk hm_l)]
    exact h8 j_l hj k_l hk hm_l
theorem uq : ∀ a k, csq a k = true → WR a k = true := fun a k h_l => by
  unfold WR csd
  unfold csq at h_l
  rw [h_l]
  rfl
theorem ud : ∀ a k, csd a k = true → WR a k = true := fun a k h_l => by
  unfold WR
  rw [h_l]
  rfl
theorem umd : ∀ a k, msd a k = true → WR a k = true := fun a k h_l => by
  unfold WR
  rw [h_l]
  cases csd a k <;> rfl
theorem um : ∀ a k, mss a k = true → WR a k = true := mqd_o umd
theorem uA : ∀ k, WR 220 k = true := fun k => rfl
theorem JF (h : J p s) : Fw WR s s := Fw_rf h.1.1
theorem Jm (h : J p s) : gI s 218 4 ≤ 6 := (J_ra h (a := 218) (k := 4) (by decide) (by rw [k0_sp.2.2.2.1]; decide) rfl).2
theorem Rq {z : Option gO} (h : Rt s) (hq : gQ z (fun r => Fw WR s r.2.2.2)) : gQ z (fun r => Rt r.2.2.2) := fun r hr => Rt_fw h (hq r hr)
end Rw3

end
section
section Pt
variable {s s' u : gS} {p : gP}
theorem gQ_T {Q : Type} {x : Option Q} {P : Q → Prop} (h : gT x P) : gQ x P := by
  obtain ⟨r_l, h1, h2⟩ := h
  intro r1_l e_l
  rw [h1] at e_l
  cases e_l
  exact h2
theorem Tc_c {k : Nat} (hk : Tc k) : ∃ o q, o < 12 ∧ (∀ C, pa 9 C k = C + o) ∧ pj k = q ∧ ∀ C, CCr C (C + o) q := by
  rcases hk with rfl | rfl | ⟨x_l, hx, rfl⟩
  · exact ⟨0, 4, by decide, fun C => rfl, rfl, fun C => Or.inl ⟨rfl, by decide, by decide⟩⟩
  · exact ⟨0, 5, by decide, fun C => rfl, rfl, fun C => Or.inl ⟨rfl, by decide, by decide⟩⟩
  · have h6 : x_l = 0 ∨ x_l = 1 ∨ x_l = 2 ∨ x_l = 3 ∨ x_l = 4 ∨ x_l = 5 := by omega
    have hr : ∀ C o, 6 ≤ o → o < 12 → CCr C (C + o) 2 := fun C o h1 h2 => Or.inr (Or.inr ⟨by omega, by omega, by decide⟩)
    rcases h6 with rfl | rfl | rfl | rfl | rfl | rfl
    · exact ⟨6, 2, by decide, fun C => rfl, rfl, fun C => hr C 6 (by decide) (by decide)⟩
    · exact ⟨7, 2, by decide, fun C => rfl, rfl, fun C => hr C 7 (by decide) (by decide)⟩
    · exact ⟨8, 2, by decide, fun C => rfl, rfl, fun C => hr C 8 (by decide) (by decide)⟩
    · exact ⟨9, 2, by decide, fun C => rfl, rfl, fun C => hr C 9 (by decide) (by decide)⟩
    · exact ⟨10, 2, by decide, fun C => rfl, rfl, fun C => hr C 10 (by decide) (by decide)⟩
    · exact ⟨11, 2, by decide, fun C => rfl, rfl, fun C => hr C 11 (by decide) (by decide)⟩
theorem pa_15 : ∀ k, k < 100 → 9 ≤ pa 9 15 k ∧ pa 9 15 k < 27 ∧ 54 ≤ pa 54 60 k ∧ pa 54 60 k < 72 := by decide +kernel
theorem r0_72 : ∀ i, i < 12 → r0 72 i = 73 + 12 * i ∧ k0 (73 + 12 * i) = 2 := by decide +kernel
theorem k0_72 : k0 72 = 199 ∧ k0 15 = 2 := by decide +kernel
theorem blk {a b j : Nat} (h : CCr a b j ∨ LCr a b j) : a ≤ b ∧ b < a + 12 := by
  unfold CCr LCr at h
  omega
/-- the act before is remembered -/
theorem rt_140 {a0 : Nat} (hg : RF s) (hn : 232 ≤ gn s) (e0 : a0 = 0) (h : Rt s) : gQ (f_140 a0 s) (fun r => Rt r.2.2.2 ∧ RF r.2.2.2 ∧ 232 ≤ gn r.2.2.2) := by
  subst e0
  obtain ⟨h1, h2, h3, ⟨h4, h5, h6⟩, h7, h8⟩ := h
  have hm_l : grem (g32 (gI s 0 13 + 1)) 12 = (((gI s 0 13).toNat + 1) % 12 : Nat) := by
    rw [g32_eq (v := gI s 0 13 + 1) (by omega) (by omega), grem_eq (x := gI s 0 13 + 1) (c := 12) (by omega) (by decide)]
    omega
  generalize hi : ((gI s 0 13).toNat + 1) % 12 = i at hm_l
  have hi12 : i < 12 := by omega
  unfold f_140
  rw [hm_l]
  dsimp only
  have c13_l : gI (gw s 0 13 ((i : Nat) : Int)) 0 13 = ((i : Nat) : Int) := rd_same rfl
  have r12 : gR (gw s 0 13 ((i : Nat) : Int)) 0 12 = 72 := (rr_0_12 hg).2
  have r5_l : gR (gw s 0 13 ((i : Nat) : Int)) 0 5 = 15 := (rr_0_5 hg).2
  have rp : gR (gw s 0 13 ((i : Nat) : Int)) 72 i = 73 + 12 * i := (hg 72 i (by decide) (fun z_l => by rw [k0_72.1] at z_l; omega)).trans (r0_72 i hi12).1
  rw [c13_l, r12, r5_l, Int.toNat_natCast, rp]
  refine gQ_chk ?_
  have hgw : RF (gw s 0 13 ((i : Nat) : Int)) := RF_sm hg rfl
  refine gQ_v0 (A := fun z_l => FC (73 + 12 * i) 15 (gw s 0 13 ((i : Nat) : Int)) z_l) (fun r hr => (gQ_T (s_22 hgw ⟨by omega, (r0_72 i hi12).2⟩ ⟨by decide, k0_72.2⟩ (by omega)) r hr).2) (fun s2_l hF => ?_)
  refine gQ_ret ?_
  dsimp only
  have hb_l : ∀ a_l k_l, ¬ (73 + 12 * i ≤ a_l ∧ a_l < 73 + 12 * i + 12) → ¬ (a_l = 0 ∧ (k_l = 13 ∨ k_l = 14)) → gI (gw s2_l 0 14 (min 12 (g32 (gI s2_l 0 14 + 1)))) a_l k_l = gI s a_l k_l := fun a_l k_l hx hz => by
    have q1_l : gI (gw s2_l 0 14 (min 12 (g32 (gI s2_l 0 14 + 1)))) a_l k_l = gI s2_l a_l k_l := by
      show (if a_l = 0 ∧ k_l = 14 then _ else gI s2_l a_l k_l) = _
      rw [if_neg (by omega)]
    rw [q1_l, (hF.2 a_l k_l).2 (fun z_l => hx (blk z_l))]
    show (if a_l = 0 ∧ k_l = 13 then _ else gI s a_l k_l) = _
    rw [if_neg (by omega)]
  have v13 : gI (gw s2_l 0 14 (min 12 (g32 (gI s2_l 0 14 + 1)))) 0 13 = ((i : Nat) : Int) := by
    have q1_l : gI (gw s2_l 0 14 (min 12 (g32 (gI s2_l 0 14 + 1)))) 0 13 = gI s2_l 0 13 := rd_k rfl (by decide)
    rw [q1_l, (hF.2 0 13).2 (fun z_l => by have := blk z_l; omega)]
    exact c13_l
  have v14 : gI (gw s2_l 0 14 (min 12 (g32 (gI s2_l 0 14 + 1)))) 0 14 = min 12 (gI s 0 14 + 1) := by
    have q1_l : gI s2_l 0 14 = gI s 0 14 := by
      rw [(hF.2 0 14).2 (fun z_l => by have := blk z_l; omega)]
      exact rd_k rfl (by decide)
    rw [rd_same rfl, q1_l, g32_eq (v := gI s 0 14 + 1) (by omega) (by omega)]
  have hRF : RF (gw s2_l 0 14 (min 12 (g32 (gI s2_l 0 14 + 1)))) := RF_sm hgw hF.1.2.2
  have hgn : 232 ≤ gn (gw s2_l 0 14 (min 12 (g32 (gI s2_l 0 14 + 1)))) := by
    show 232 ≤ s2_l.1
    rw [hF.1.1]
    exact hn
  have hmin : min 12 (gI s 0 14 + 1) ≤ gI s 0 14 + 1 ∧ min 12 (gI s 0 14 + 1) ≤ 12 ∧ 0 ≤ min 12 (gI s 0 14 + 1) := by omega
  have hs2 : ∀ a_l k_l, a_l ≠ 0 → gI (gw s2_l 0 14 (min 12 (g32 (gI s2_l 0 14 + 1)))) a_l k_l = gI s2_l a_l k_l := fun a_l k_l ha_l => rd_a rfl ha_l
  generalize gw s2_l 0 14 (min 12 (g32 (gI s2_l 0 14 + 1))) = t at *
  have hc15 : ∀ k_l, k_l < 100 → cv t 9 15 k_l = cv s 9 15 k_l := fun k_l hk => by
    have := pa_15 k_l hk
    exact hb_l _ _ (by omega) (by omega)
  refine ⟨⟨fun k_l hk => ?_, fun k_l => ?_, fun he k_l hk => ?_, ⟨?_, ?_, fun j_l hj k_l hk => ?_⟩, ?_, fun j_l hj k_l hk hm2 => ?_⟩, hRF, hgn⟩
  · rw [hb_l 218 k_l (by omega) (by omega), hc15 k_l hk.1.1]
    exact h1 k_l hk
  · rw [hb_l 2 k_l (by omega) (by omega), hb_l 222 k_l (by omega) (by omega)]
    exact h2 k_l
  · have := pa_15 k_l hk.1.1
    have e1_l : cv t 54 60 k_l = cv s 54 60 k_l := hb_l _ _ (by omega) (by omega)
    rw [hb_l 219 k_l (by omega) (by omega), e1_l]
    exact h3 (by rw [← hb_l 217 3 (by omega) (by omega)]; exact he) k_l hk
  · rw [v13]; omega
  · rw [v14]; omega
  · have hk9 := (Tc_x hk).1.1
    rw [hc15 k_l hk9, v13]
    rw [v14] at hj
    obtain ⟨o, q_l, o1, o2, o3_l, o4_l⟩ := Tc_c hk
    by_cases cj : j_l = 0
    · have e1_l : pst ((i : Nat) : Int) j_l = 73 + 12 * i := by
        unfold pst
        rw [Int.toNat_natCast, cj]
        omega
      rw [e1_l]
      show gI t (pa 9 (73 + 12 * i) k_l) (pj k_l) = gI s (pa 9 15 k_l) (pj k_l)
      rw [o2, o2, o3_l]
      have e2_l : gI t (73 + 12 * i + o) q_l = gI s2_l (73 + 12 * i + o) q_l := hs2 _ _ (by omega)
      rw [e2_l, (hF.2 _ q_l).1 (Or.inl (o4_l _)), show 73 + 12 * i + o - (73 + 12 * i) + 15 = 15 + o by omega]
      exact rd_a rfl (by omega)
    · have e1_l : pst ((i : Nat) : Int) j_l = pst (gI s 0 13) (j_l - 1) := by
        unfold pst
        rw [Int.toNat_natCast]
        omega
      rw [e1_l]
      have e3_l : cv t 9 (pst (gI s 0 13) (j_l - 1)) k_l = cv s 9 (pst (gI s 0 13) (j_l - 1)) k_l := by
        refine hb_l _ _ ?_ ?_
        · rw [o2]
          unfold pst
          omega
        · rw [o2]
          unfold pst
          omega
      rw [e3_l]
      exact h6 (j_l - 1) (by omega) k_l hk
  · rw [hb_l 217 6 (by omega) (by omega)]; exact h7
  · rw [hb_l 217 6 (by omega) (by omega)] at hj
    rw [hb_l 221 _ (by omega) (by omega), hb_l 218 k_l (by omega) (by omega)]
    exact h8 j_l hj k_l hk hm2
theorem tx_c0 : ∀ k, k < 100 → (k ≠ 1 ∧ k ≠ 2 ∧ k ≠ 15) → mnt k = false → (k = 4 ∨ k = 6 ∨ (42 ≤ k ∧ k ≤ 72 ∧ k % 6 = 0)) ∨ pa 9 15 k < 15 := by decide +kernel
theorem tx_cut (k : Nat) (hk : Tx k) : Tc k ∨ (9 ≤ pa 9 15 k ∧ pa 9 15 k < 15) := by
  rcases tx_c0 k hk.1.1 hk.1.2 hk.2 with (c_l | c_l | c_l) | c_l
  · exact Or.inl (Or.inl c_l)
  · exact Or.inl (Or.inr (Or.inl c_l))
  · exact Or.inl (Or.inr (Or.inr ⟨(k - 42) / 6, by omega, by omega⟩))
  · exact Or.inr ⟨(pa_15 k hk.1.1).1, c_l⟩
/-- undo -/
theorem rt_130 {a0 : Nat} (hg : RF s) (hn : 232 ≤ gn s) (e0 : a0 = 0) (h : Rt s) : gQ (f_130 a0 s) (fun r => Rt r.2.2.2) := by
  subst e0
  have hh := h
  obtain ⟨h1, h2, h3, ⟨h4, h5, h6⟩, h7, h8⟩ := h
  unfold f_130
  by_cases c1 : gI s 0 14 < 1
  · rw [if_pos c1]
    exact gQ_ret hh
  rw [if_neg c1]
  obtain ⟨i_l, hi_l⟩ : ∃ i_l : Nat, gI s 0 13 = (i_l : Int) := ⟨(gI s 0 13).toNat, by omega⟩
  have hi12 : i_l < 12 := by omega
  have r12 : gR s 0 12 = 72 := (rr_0_12 hg).2
  have r5_l : gR s 0 5 = 15 := (rr_0_5 hg).2
  have rp : gR s 72 i_l = 73 + 12 * i_l := (hg 72 i_l (by decide) (fun z_l => by rw [k0_72.1] at z_l; omega)).trans (r0_72 i_l hi12).1
  rw [r12, r5_l, hi_l, Int.toNat_natCast, rp]
  refine gQ_chk ?_
  refine gQ_v0 (A := fun z_l => FC 15 (73 + 12 * i_l) s z_l) (fun r hr => (gQ_T (s_22 hg ⟨by decide, k0_72.2⟩ ⟨by omega, (r0_72 i_l hi12).2⟩ (by omega)) r hr).2) (fun s2_l hF => ?_)
  have w13_l : gI s2_l 0 13 = (i_l : Int) := by
    rw [(hF.2 0 13).2 (fun z_l => by have := blk z_l; omega)]
    exact hi_l
  have w14_l : gI s2_l 0 14 = gI s 0 14 := (hF.2 0 14).2 (fun z_l => by have := blk z_l; omega)
  have hm_l : grem (g32 (g32 ((i_l : Int) + 12) - 1)) 12 = (((i_l + 11) % 12 : Nat) : Int) := by
    rw [g32_eq (v := (i_l : Int) + 12) (by omega) (by omega), g32_eq (v := (i_l : Int) + 12 - 1) (by omega) (by omega), grem_eq (x := (i_l : Int) + 12 - 1) (c := 12) (by omega) (by decide)]
    omega
  rw [w13_l, hm_l]
  clear hm_l
  dsimp only
  have x14 : gI (gw s2_l 0 13 (((i_l + 11) % 12 : Nat) : Int)) 0 14 = gI s 0 14 := (rd_k rfl (by decide)).trans w14_l
  rw [x14, g32_eq (v := gI s 0 14 - 1) (by omega) (by omega)]
  refine gQ_ret ?_
  dsimp only
  have y13 : gI (gw (gw s2_l 0 13 (((i_l + 11) % 12 : Nat) : Int)) 0 14 (gI s 0 14 - 1)) 0 13 = (((i_l + 11) % 12 : Nat) : Int) := (rd_k rfl (by decide)).trans (rd_same rfl)
  have y14 : gI (gw (gw s2_l 0 13 (((i_l + 11) % 12 : Nat) : Int)) 0 14 (gI s 0 14 - 1)) 0 14 = gI s 0 14 - 1 := rd_same rfl
  have hs2 : ∀ a_l k_l, ¬ (a_l = 0 ∧ (k_l = 13 ∨ k_l = 14)) → gI (gw (gw s2_l 0 13 (((i_l + 11) % 12 : Nat) : Int)) 0 14 (gI s 0 14 - 1)) a_l k_l = gI s2_l a_l k_l := fun a_l k_l ha_l => by
    show (if a_l = 0 ∧ k_l = 14 then _ else if a_l = 0 ∧ k_l = 13 then _ else gI s2_l a_l k_l) = _
    rw [if_neg (by omega), if_neg (by omega)]
  generalize gw (gw s2_l 0 13 (((i_l + 11) % 12 : Nat) : Int)) 0 14 (gI s 0 14 - 1) = t at *
  have hb_l : ∀ a_l k_l, ¬ (15 ≤ a_l ∧ a_l < 27) → ¬ (a_l = 0 ∧ (k_l = 13 ∨ k_l = 14)) → gI t a_l k_l = gI s a_l k_l := fun a_l k_l hx hz => (hs2 a_l k_l hz).trans ((hF.2 a_l k_l).2 (fun z_l => hx (blk z_l)))
  have htc : ∀ k_l, Tc k_l → cv t 9 15 k_l = cv s 9 15 k_l := fun k_l hk => by
    obtain ⟨o, q_l, o1, o2, o3_l, o4_l⟩ := Tc_c hk
    have e0 := h6 0 (by omega) k_l hk
    have e1_l : pst (gI s 0 13) 0 = 73 + 12 * i_l := by
      unfold pst
      rw [hi_l, Int.toNat_natCast]
      omega
    rw [e1_l] at e0
    refine Eq.trans ?_ e0
    show gI t (pa 9 15 k_l) (pj k_l) = gI s (pa 9 (73 + 12 * i_l) k_l) (pj k_l)
    rw [o2, o2, o3_l, hs2 _ _ (by omega), (hF.2 _ q_l).1 (Or.inl (o4_l _)), show 15 + o - 15 + (73 + 12 * i_l) = 73 + 12 * i_l + o by omega]
  have hc15 : ∀ k_l, Tx k_l → cv t 9 15 k_l = cv s 9 15 k_l := fun k_l hk => by
    rcases tx_cut k_l hk with c_l | c_l
    · exact htc k_l c_l
    · exact hb_l _ _ (by omega) (by omega)
  refine ⟨fun k_l hk => ?_, fun k_l => ?_, fun he k_l hk => ?_, ⟨?_, ?_, fun j_l hj k_l hk => ?_⟩, ?_, fun j_l hj k_l hk hm2 => ?_⟩
  · rw [hb_l 218 k_l (by omega) (by omega), hc15 k_l hk]
    exact h1 k_l hk
  · rw [hb_l 2 k_l (by omega) (by omega), hb_l 222 k_l (by omega) (by omega)]
    exact h2 k_l
  · have := pa_15 k_l hk.1.1
    have e1_l : cv t 54 60 k_l = cv s 54 60 k_l := hb_l _ _ (by omega) (by omega)
    rw [hb_l 219 k_l (by omega) (by omega), e1_l]
    exact h3 (by rw [← hb_l 217 3 (by omega) (by omega)]; exact he) k_l hk
  · rw [y13]; omega
  · rw [y14]; omega
  · rw [y13]
    rw [y14] at hj
    have e1_l : pst ((((i_l + 11) % 12 : Nat) : Int)) j_l = pst (gI s 0 13) (j_l + 1) := by
      unfold pst
      rw [Int.toNat_natCast, hi_l, Int.toNat_natCast]
      omega
    obtain ⟨o, q_l, o1, o2, o3_l, o4_l⟩ := Tc_c hk
    have e3_l : cv t 9 (pst (gI s 0 13) (j_l + 1)) k_l = cv s 9 (pst (gI s 0 13) (j_l + 1)) k_l := by
      refine hb_l _ _ ?_ ?_
      · rw [o2]
        unfold pst
        omega
      · rw [o2]
        unfold pst
        omega
    rw [e1_l, e3_l, htc k_l hk]
    exact h6 (j_l + 1) (by omega) k_l hk
  · rw [hb_l 217 6 (by omega) (by omega)]; exact h7
  · rw [hb_l 217 6 (by omega) (by omega)] at hj
    rw [hb_l 221 _ (by omega) (by omega), hb_l 218 k_l (by omega) (by omega)]
    exact h8 j_l hj k_l hk hm2
end Pt

end
section
theorem rt_96 {s : gS} {a0 : Nat} {a1 : Int} (hg_o : RF s) (hn_o : 232 ≤ gn s) (e0_o : a0 = 0) (h_o : Rt s) : gQ (f_96 a0 a1 s) (fun r => Rt r.2.2.2) := by
  subst e0_o
  unfold f_96
  dsimp only
  refine gQ_t0 (A := Fw WR s) (o_135 hg_o (qd_o ud) rfl (Fw_rf (W := WR) hn_o)) (fun s1_l h2128_o => ?_) (fun _ _ hz_o => (Rt_fw h_o hz_o))
  refine gQ_t0 (A := Fw WR s) (o_139 hg_o (qd_o ud) rfl h2128_o) (fun s3_l h2129_o => ?_) (fun _ _ hz_o => (Rt_fw h_o hz_o))
  refine gQ_chk2 (fun ha2130_o hb2131_o => ?_)
  refine gQ_ite ?_ ?_
  · exact gQ_ret (Rt_fw h_o (Fw_n h2129_o))
  · refine gQ_v0 (A := fun u_o => Rt u_o ∧ RF u_o ∧ 232 ≤ gn u_o) (rt_140 (RF_fw hg_o h2129_o) (Fw_232 h2129_o) rfl (Rt_fw h_o h2129_o)) (fun s6_l hp2132_o => ?_)
    refine gQ_v0 (A := Fw WR s6_l) (o_60 hp2132_o.2.1 (qd_o ud) (fr_m16 h2129_o hg_o ud (fr_r h2129_o (fr_r h2129_o rfl (rr_0_5 hg_o)) (rr_15_0 hg_o)) ha2130_o hb2131_o) (Fw_wv (Fw_rf (W := WR) hp2132_o.2.2) ((fr_m16 h2129_o hg_o ud (fr_r h2129_o (fr_r h2129_o rfl (rr_0_5 hg_o)) (rr_15_0 hg_o)) ha2130_o hb2131_o) _ (by decide)))) (fun s9 h2133_o => ?_)
    refine gQ_v0 (A := Fw WR s6_l) (o_55 hp2132_o.2.1 ud (fr_r h2133_o (fr_r h2133_o rfl (rr_0_5 hp2132_o.2.1)) (rr_15_3 hp2132_o.2.1)) h2133_o) (fun s11 h2134_o => ?_)
    exact gQ_ret (Rt_fw hp2132_o.1 h2134_o)

theorem rt_97 {s : gS} {a0 : Nat} {a1 : Int} {a2 : Int} (hg_o : RF s) (hn_o : 232 ≤ gn s) (e0_o : a0 = 0) (h_o : Rt s) : gQ (f_97 a0 a1 a2 s) (fun r => Rt r.2.2.2) := by
  subst e0_o
  unfold f_97
  dsimp only
  refine gQ_t0 (A := Fw WR s) (o_135 hg_o (qd_o ud) rfl (Fw_rf (W := WR) hn_o)) (fun s1_l h2135_o => ?_) (fun _ _ hz_o => (Rt_fw h_o hz_o))
  refine gQ_t0 (A := Fw WR s) (o_136 hg_o (qd_o ud) rfl h2135_o) (fun s3_l h2136_o => ?_) (fun _ _ hz_o => (Rt_fw h_o hz_o))
  refine gQ_t0 (A := Fw WR s) (o_139 hg_o (qd_o ud) rfl h2136_o) (fun s5 h2137_o => ?_) (fun _ _ hz_o => (Rt_fw h_o hz_o))
  refine gQ_v0 (A := fun u_o => Rt u_o ∧ RF u_o ∧ 232 ≤ gn u_o) (rt_140 (RF_fw hg_o h2137_o) (Fw_232 h2137_o) rfl (Rt_fw h_o h2137_o)) (fun s7 hp2138_o => ?_)
  refine gQ_chk2 (fun ha2139_o hb2140_o => ?_)
  refine gQ_v0 (A := Fw WR s7) (o_26d hp2138_o.2.1 ud (fr_r (Fw_rf (W := WR) hp2138_o.2.2) rfl (rr_0_5 hp2138_o.2.1)) (Fw_rf (W := WR) hp2138_o.2.2)) (fun s9 h2141_o => ?_)
  refine gQ_chk2 (fun ha2142_o hb2143_o => ?_)
  refine gQ_v1 (A := Fw WR s7) (o_4 hp2138_o.2.1 (qd_o ud)  h2141_o) (fun v13 s12 h2144_o => ?_)
  refine gQ_ite ?_ ?_
  · refine gQ_v0 (A := Fw WR s7) (o_60 hp2138_o.2.1 (qd_o ud) (fr_m16 h2141_o hp2138_o.2.1 ud (fr_r h2141_o (fr_r h2141_o rfl (rr_0_5 hp2138_o.2.1)) (rr_15_0 hp2138_o.2.1)) ha2142_o hb2143_o) h2144_o) (fun s15 h2145_o => ?_)
    unfold fb_97_82
    dsimp only
    refine gQ_ite ?_ ?_
    · unfold fb_97_101
      refine gQ_ite ?_ ?_
      · unfold fb_97_126
        refine gQ_v0 (A := Fw WR s7) (o_55 hp2138_o.2.1 ud (fr_r (Fw_wv h2145_o ((fr_m16 h2141_o hp2138_o.2.1 ud (fr_r h2141_o (fr_r h2141_o rfl (rr_0_5 hp2138_o.2.1)) (rr_15_0 hp2138_o.2.1)) ha2142_o hb2143_o) _ (by decide))) (fr_r (Fw_wv h2145_o ((fr_m16 h2141_o hp2138_o.2.1 ud (fr_r h2141_o (fr_r h2141_o rfl (rr_0_5 hp2138_o.2.1)) (rr_15_0 hp2138_o.2.1)) ha2142_o hb2143_o) _ (by decide))) rfl (rr_0_5 hp2138_o.2.1)) (rr_15_3 hp2138_o.2.1)) (Fw_wv h2145_o ((fr_m16 h2141_o hp2138_o.2.1 ud (fr_r h2141_o (fr_r h2141_o rfl (rr_0_5 hp2138_o.2.1)) (rr_15_0 hp2138_o.2.1)) ha2142_o hb2143_o) _ (by decide)))) (fun s18 h2146_o => ?_)
        refine gQ_bool ?_
        exact gQ_ret (Rt_fw hp2138_o.1 h2146_o)
      · unfold fb_97_126
        refine gQ_v0 (A := Fw WR s7) (o_55 hp2138_o.2.1 ud (fr_r (Fw_wv h2145_o ((fr_m16 h2141_o hp2138_o.2.1 ud (fr_r h2141_o (fr_r h2141_o rfl (rr_0_5 hp2138_o.2.1)) (rr_15_0 hp2138_o.2.1)) ha2142_o hb2143_o) _ (by decide))) (fr_r (Fw_wv h2145_o ((fr_m16 h2141_o hp2138_o.2.1 ud (fr_r h2141_o (fr_r h2141_o rfl (rr_0_5 hp2138_o.2.1)) (rr_15_0 hp2138_o.2.1)) ha2142_o hb2143_o) _ (by decide))) rfl (rr_0_5 hp2138_o.2.1)) (rr_15_3 hp2138_o.2.1)) (Fw_wv h2145_o ((fr_m16 h2141_o hp2138_o.2.1 ud (fr_r h2141_o (fr_r h2141_o rfl (rr_0_5 hp2138_o.2.1)) (rr_15_0 hp2138_o.2.1)) ha2142_o hb2143_o) _ (by decide)))) (fun s18 h2147_o => ?_)
        refine gQ_bool ?_
        exact gQ_ret (Rt_fw hp2138_o.1 h2147_o)
    · unfold fb_97_101
      refine gQ_ite ?_ ?_
      · unfold fb_97_126
        refine gQ_v0 (A := Fw WR s7) (o_55 hp2138_o.2.1 ud (fr_r h2145_o (fr_r h2145_o rfl (rr_0_5 hp2138_o.2.1)) (rr_15_3 hp2138_o.2.1)) h2145_o) (fun s18 h2148_o => ?_)
        refine gQ_bool ?_
        exact gQ_ret (Rt_fw hp2138_o.1 h2148_o)
      · unfold fb_97_126
        refine gQ_v0 (A := Fw WR s7) (o_55 hp2138_o.2.1 ud (fr_r h2145_o (fr_r h2145_o rfl (rr_0_5 hp2138_o.2.1)) (rr_15_3 hp2138_o.2.1)) h2145_o) (fun s18 h2149_o => ?_)
        refine gQ_bool ?_
        exact gQ_ret (Rt_fw hp2138_o.1 h2149_o)
  · unfold fb_97_82
    dsimp only
    refine gQ_ite ?_ ?_
    · unfold fb_97_101
      refine gQ_ite ?_ ?_
      · unfold fb_97_126
        refine gQ_v0 (A := Fw WR s7) (o_55 hp2138_o.2.1 ud (fr_r (Fw_wv (Fw_wv h2144_o ((fr_m16 h2141_o hp2138_o.2.1 ud (fr_r h2141_o (fr_r h2141_o rfl (rr_0_5 hp2138_o.2.1)) (rr_15_0 hp2138_o.2.1)) ha2142_o hb2143_o) _ (by decide))) ((fr_m16 h2141_o hp2138_o.2.1 ud (fr_r h2141_o (fr_r h2141_o rfl (rr_0_5 hp2138_o.2.1)) (rr_15_0 hp2138_o.2.1)) ha2142_o hb2143_o) _ (by decide))) (fr_r (Fw_wv (Fw_wv h2144_o ((fr_m16 h2141_o hp2138_o.2.1 ud (fr_r h2141_o (fr_r h2141_o rfl (rr_0_5 hp2138_o.2.1)) (rr_15_0 hp2138_o.2.1)) ha2142_o hb2143_o) _ (by decide))) ((fr_m16 h2141_o hp2138_o.2.1 ud (fr_r h2141_o (fr_r h2141_o rfl (rr_0_5 hp2138_o.2.1)) (rr_15_0 hp2138_o.2.1)) ha2142_o hb2143_o) _ (by decide))) rfl (rr_0_5 hp2138_o.2.1)) (rr_15_3 hp2138_o.2.1)) (Fw_wv (Fw_wv h2144_o ((fr_m16 h2141_o hp2138_o.2.1 ud (fr_r h2141_o (fr_r h2141_o rfl (rr_0_5 hp2138_o.2.1)) (rr_15_0 hp2138_o.2.1)) ha2142_o hb2143_o) _ (by decide))) ((fr_m16 h2141_o hp2138_o.2.1 ud (fr_r h2141_o (fr_r h2141_o rfl (rr_0_5 hp2138_o.2.1)) (rr_15_0 hp2138_o.2.1)) ha2142_o hb2143_o) _ (by decide)))) (fun s18 h2150_o => ?_)
        refine gQ_bool ?_
        exact gQ_ret (Rt_fw hp2138_o.1 h2150_o)
      · unfold fb_97_126
        refine gQ_v0 (A := Fw WR s7) (o_55 hp2138_o.2.1 ud (fr_r (Fw_wv (Fw_wv h2144_o ((fr_m16 h2141_o hp2138_o.2.1 ud (fr_r h2141_o (fr_r h2141_o rfl (rr_0_5 hp2138_o.2.1)) (rr_15_0 hp2138_o.2.1)) ha2142_o hb2143_o) _ (by decide))) ((fr_m16 h2141_o hp2138_o.2.1 ud (fr_r h2141_o (fr_r h2141_o rfl (rr_0_5 hp2138_o.2.1)) (rr_15_0 hp2138_o.2.1)) ha2142_o hb2143_o) _ (by decide))) (fr_r (Fw_wv (Fw_wv h2144_o ((fr_m16 h2141_o hp2138_o.2.1 ud (fr_r h2141_o (fr_r h2141_o rfl (rr_0_5 hp2138_o.2.1)) (rr_15_0 hp2138_o.2.1)) ha2142_o hb2143_o) _ (by decide))) ((fr_m16 h2141_o hp2138_o.2.1 ud (fr_r h2141_o (fr_r h2141_o rfl (rr_0_5 hp2138_o.2.1)) (rr_15_0 hp2138_o.2.1)) ha2142_o hb2143_o) _ (by decide))) rfl (rr_0_5 hp2138_o.2.1)) (rr_15_3 hp2138_o.2.1)) (Fw_wv (Fw_wv h2144_o ((fr_m16 h2141_o hp2138_o.2.1 ud (fr_r h2141_o (fr_r h2141_o rfl (rr_0_5 hp2138_o.2.1)) (rr_15_0 hp2138_o.2.1)) ha2142_o hb2143_o) _ (by decide))) ((fr_m16 h2141_o hp2138_o.2.1 ud (fr_r h2141_o (fr_r h2141_o rfl (rr_0_5 hp2138_o.2.1)) (rr_15_0 hp2138_o.2.1)) ha2142_o hb2143_o) _ (by decide)))) (fun s18 h2151_o => ?_)
        refine gQ_bool ?_
        exact gQ_ret (Rt_fw hp2138_o.1 h2151_o)
    · unfold fb_97_101
      refine gQ_ite ?_ ?_
      · unfold fb_97_126
        refine gQ_v0 (A := Fw WR s7) (o_55 hp2138_o.2.1 ud (fr_r (Fw_wv h2144_o ((fr_m16 h2141_o hp2138_o.2.1 ud (fr_r h2141_o (fr_r h2141_o rfl (rr_0_5 hp2138_o.2.1)) (rr_15_0 hp2138_o.2.1)) ha2142_o hb2143_o) _ (by decide))) (fr_r (Fw_wv h2144_o ((fr_m16 h2141_o hp2138_o.2.1 ud (fr_r h2141_o (fr_r h2141_o rfl (rr_0_5 hp2138_o.2.1)) (rr_15_0 hp2138_o.2.1)) ha2142_o hb2143_o) _ (by decide))) rfl (rr_0_5 hp2138_o.2.1)) (rr_15_3 hp2138_o.2.1)) (Fw_wv h2144_o ((fr_m16 h2141_o hp2138_o.2.1 ud (fr_r h2141_o (fr_r h2141_o rfl (rr_0_5 hp2138_o.2.1)) (rr_15_0 hp2138_o.2.1)) ha2142_o hb2143_o) _ (by decide)))) (fun s18 h2152_o => ?_)
        refine gQ_bool ?_
        exact gQ_ret (Rt_fw hp2138_o.1 h2152_o)
      · unfold fb_97_126
        refine gQ_v0 (A := Fw WR s7) (o_55 hp2138_o.2.1 ud (fr_r (Fw_wv h2144_o ((fr_m16 h2141_o hp2138_o.2.1 ud (fr_r h2141_o (fr_r h2141_o rfl (rr_0_5 hp2138_o.2.1)) (rr_15_0 hp2138_o.2.1)) ha2142_o hb2143_o) _ (by decide))) (fr_r (Fw_wv h2144_o ((fr_m16 h2141_o hp2138_o.2.1 ud (fr_r h2141_o (fr_r h2141_o rfl (rr_0_5 hp2138_o.2.1)) (rr_15_0 hp2138_o.2.1)) ha2142_o hb2143_o) _ (by decide))) rfl (rr_0_5 hp2138_o.2.1)) (rr_15_3 hp2138_o.2.1)) (Fw_wv h2144_o ((fr_m16 h2141_o hp2138_o.2.1 ud (fr_r h2141_o (fr_r h2141_o rfl (rr_0_5 hp2138_o.2.1)) (rr_15_0 hp2138_o.2.1)) ha2142_o hb2143_o) _ (by decide)))) (fun s18 h2153_o => ?_)
        refine gQ_bool ?_
        exact gQ_ret (Rt_fw hp2138_o.1 h2153_o)

theorem rt_98 {s : gS} {a0 : Nat} {a1 : Int} (hg_o : RF s) (hn_o : 232 ≤ gn s) (e0_o : a0 = 0) (h_o : Rt s) : gQ (f_98 a0 a1 s) (fun r => Rt r.2.2.2) := by
  subst e0_o
  unfold f_98
  dsimp only
  refine gQ_t0 (A := Fw WR s) (o_135 hg_o (qd_o ud) rfl (Fw_rf (W := WR) hn_o)) (fun s1_l h2154_o => ?_) (fun _ _ hz_o => (Rt_fw h_o hz_o))
  refine gQ_t0 (A := Fw WR s) (o_139 hg_o (qd_o ud) rfl h2154_o) (fun s3_l h2155_o => ?_) (fun _ _ hz_o => (Rt_fw h_o hz_o))
  refine gQ_chk2 (fun ha2156_o hb2157_o => ?_)
  refine gQ_ite ?_ ?_
  · exact gQ_ret (Rt_fw h_o (Fw_n h2155_o))
  · refine gQ_v0 (A := fun u_o => Rt u_o ∧ RF u_o ∧ 232 ≤ gn u_o) (rt_140 (RF_fw hg_o h2155_o) (Fw_232 h2155_o) rfl (Rt_fw h_o h2155_o)) (fun s6_l hp2158_o => ?_)
    exact gQ_ret (Rt_fw hp2158_o.1 (Fw_wv (Fw_rf (W := WR) hp2158_o.2.2) ((fr_m16 h2155_o hg_o ud (fr_r h2155_o (fr_r h2155_o rfl (rr_0_5 hg_o)) (rr_15_0 hg_o)) ha2156_o hb2157_o) _ (by decide))))

theorem rt_99 {s : gS} {a0 : Nat} {a1 : Int} {a2 : Int} {a3 : Int} (hg_o : RF s) (hn_o : 232 ≤ gn s) (e0_o : a0 = 0) (h_o : Rt s) : gQ (f_99 a0 a1 a2 a3 s) (fun r => Rt r.2.2.2) := by
  subst e0_o
  unfold f_99
  dsimp only
  refine gQ_t0 (A := Fw WR s) (o_135 hg_o (qd_o ud) rfl (Fw_rf (W := WR) hn_o)) (fun s1_l h2159_o => ?_) (fun _ _ hz_o => (Rt_fw h_o hz_o))
  refine gQ_t0 (A := Fw WR s) (o_137 hg_o (qd_o ud) rfl h2159_o) (fun s3_l h2160_o => ?_) (fun _ _ hz_o => (Rt_fw h_o hz_o))
  refine gQ_chk2 (fun ha2161_o hb2162_o => ?_)
  refine gQ_t0 (A := Fw WR s) (o_138 hg_o (qd_o ud) rfl h2160_o) (fun s5 h2163_o => ?_) (fun _ _ hz_o => (Rt_fw h_o hz_o))
  refine gQ_t0 (A := Fw WR s) (o_139 hg_o (qd_o ud) rfl h2163_o) (fun s7 h2164_o => ?_) (fun _ _ hz_o => (Rt_fw h_o hz_o))
  refine gQ_v0 (A := fun u_o => Rt u_o ∧ RF u_o ∧ 232 ≤ gn u_o) (rt_140 (RF_fw hg_o h2164_o) (Fw_232 h2164_o) rfl (Rt_fw h_o h2164_o)) (fun s9 hp2165_o => ?_)
  refine gQ_chk2 (fun ha2166_o hb2167_o => ?_)
  refine gQ_chk2 (fun ha2168_o hb2169_o => ?_)
  refine gQ_chk2 (fun ha2170_o hb2171_o => ?_)
  refine gQ_chk2 (fun ha2172_o hb2173_o => ?_)
  refine gQ_chk2 (fun ha2174_o hb2175_o => ?_)
  exact gQ_ret (Rt_fw hp2165_o.1 (Fw_wv (Fw_w (Fw_w (Fw_w (Fw_rf (W := WR) hp2165_o.2.2) (fr_r (Fw_rf (W := WR) hp2165_o.2.2) (fr_r (Fw_rf (W := WR) hp2165_o.2.2) rfl (rr_0_5 hp2165_o.2.1)) (rr_15_1 hp2165_o.2.1)) (ud 17 _ rfl)) (fr_r (Fw_w (Fw_rf (W := WR) hp2165_o.2.2) (fr_r (Fw_rf (W := WR) hp2165_o.2.2) (fr_r (Fw_rf (W := WR) hp2165_o.2.2) rfl (rr_0_5 hp2165_o.2.1)) (rr_15_1 hp2165_o.2.1)) (ud 17 _ rfl)) rfl (rr_0_5 hp2165_o.2.1)) (ud 15 _ rfl)) (fr_r (Fw_w (Fw_w (Fw_rf (W := WR) hp2165_o.2.2) (fr_r (Fw_rf (W := WR) hp2165_o.2.2) (fr_r (Fw_rf (W := WR) hp2165_o.2.2) rfl (rr_0_5 hp2165_o.2.1)) (rr_15_1 hp2165_o.2.1)) (ud 17 _ rfl)) (fr_r (Fw_w (Fw_rf (W := WR) hp2165_o.2.2) (fr_r (Fw_rf (W := WR) hp2165_o.2.2) (fr_r (Fw_rf (W := WR) hp2165_o.2.2) rfl (rr_0_5 hp2165_o.2.1)) (rr_15_1 hp2165_o.2.1)) (ud 17 _ rfl)) rfl (rr_0_5 hp2165_o.2.1)) (ud 15 _ rfl)) (fr_r (Fw_w (Fw_w (Fw_rf (W := WR) hp2165_o.2.2) (fr_r (Fw_rf (W := WR) hp2165_o.2.2) (fr_r (Fw_rf (W := WR) hp2165_o.2.2) rfl (rr_0_5 hp2165_o.2.1)) (rr_15_1 hp2165_o.2.1)) (ud 17 _ rfl)) (fr_r (Fw_w (Fw_rf (W := WR) hp2165_o.2.2) (fr_r (Fw_rf (W := WR) hp2165_o.2.2) (fr_r (Fw_rf (W := WR) hp2165_o.2.2) rfl (rr_0_5 hp2165_o.2.1)) (rr_15_1 hp2165_o.2.1)) (ud 17 _ rfl)) rfl (rr_0_5 hp2165_o.2.1)) (ud 15 _ rfl)) rfl (rr_0_5 hp2165_o.2.1)) (rr_15_2 hp2165_o.2.1)) (ud 18 _ rfl)) ((fr_m16 (Fw_rf (W := WR) hp2165_o.2.2) hp2165_o.2.1 ud (fr_r (Fw_rf (W := WR) hp2165_o.2.2) (fr_r (Fw_rf (W := WR) hp2165_o.2.2) rfl (rr_0_5 hp2165_o.2.1)) (rr_15_0 hp2165_o.2.1)) ha2166_o hb2167_o) _ (by decide))))

theorem rt_100 {s : gS} {a0 : Nat} {a1 : Int} {a2 : Int} (hg_o : RF s) (hn_o : 232 ≤ gn s) (e0_o : a0 = 0) (h_o : Rt s) : gQ (f_100 a0 a1 a2 s) (fun r => Rt r.2.2.2) := by
  subst e0_o
  unfold f_100
  dsimp only
  refine gQ_t0 (A := Fw WR s) (o_134 hg_o (qd_o ud) rfl (Fw_rf (W := WR) hn_o)) (fun s1_l h2176_o => ?_) (fun _ _ hz_o => (Rt_fw h_o hz_o))
  refine gQ_t0 (A := Fw WR s) (o_137 hg_o (qd_o ud) rfl h2176_o) (fun s3_l h2177_o => ?_) (fun _ _ hz_o => (Rt_fw h_o hz_o))
  refine gQ_chk2 (fun ha2178_o hb2179_o => ?_)
  refine gQ_ite ?_ ?_
  · refine gQ_chk2 (fun ha2180_o hb2181_o => ?_)
    refine gQ_ite ?_ ?_
    · unfold fb_100_40
      exact gQ_ret (Rt_fw h_o (Fw_n h2177_o))
    · refine gQ_v0 (A := fun u_o => Rt u_o ∧ RF u_o ∧ 232 ≤ gn u_o) (rt_140 (RF_fw hg_o h2177_o) (Fw_232 h2177_o) rfl (Rt_fw h_o h2177_o)) (fun s5 hp2182_o => ?_)
      refine gQ_chk2 (fun ha2183_o hb2184_o => ?_)
      refine gQ_chk2 (fun ha2185_o hb2186_o => ?_)
      refine gQ_chk2 (fun ha2187_o hb2188_o => ?_)
      refine gQ_chk2 (fun ha2189_o hb2190_o => ?_)
      refine gQ_chk2 (fun ha2191_o hb2192_o => ?_)
      exact gQ_ret (Rt_fw hp2182_o.1 (Fw_w (Fw_w (Fw_rf (W := WR) hp2182_o.2.2) (fr_r (Fw_rf (W := WR) hp2182_o.2.2) (fr_r (Fw_rf (W := WR) hp2182_o.2.2) rfl (rr_0_5 hp2182_o.2.1)) (rr_15_1 hp2182_o.2.1)) (ud 17 _ rfl)) (fr_r (Fw_w (Fw_rf (W := WR) hp2182_o.2.2) (fr_r (Fw_rf (W := WR) hp2182_o.2.2) (fr_r (Fw_rf (W := WR) hp2182_o.2.2) rfl (rr_0_5 hp2182_o.2.1)) (rr_15_1 hp2182_o.2.1)) (ud 17 _ rfl)) (fr_r (Fw_w (Fw_rf (W := WR) hp2182_o.2.2) (fr_r (Fw_rf (W := WR) hp2182_o.2.2) (fr_r (Fw_rf (W := WR) hp2182_o.2.2) rfl (rr_0_5 hp2182_o.2.1)) (rr_15_1 hp2182_o.2.1)) (ud 17 _ rfl)) rfl (rr_0_5 hp2182_o.2.1)) (rr_15_2 hp2182_o.2.1)) (ud 18 _ rfl)))
  · unfold fb_100_40
    exact gQ_ret (Rt_fw h_o (Fw_n h2177_o))

theorem rt_101 {s : gS} {a0 : Nat} {a1 : Int} (hg_o : RF s) (hn_o : 232 ≤ gn s) (e0_o : a0 = 0) (h_o : Rt s) : gQ (f_101 a0 a1 s) (fun r => Rt r.2.2.2) := by
  subst e0_o
  unfold f_101
  dsimp only
  refine gQ_t0 (A := Fw WR s) (o_138 hg_o (qd_o ud) rfl (Fw_rf (W := WR) hn_o)) (fun s1_l h2193_o => ?_) (fun _ _ hz_o => (Rt_fw h_o hz_o))
  refine gQ_v0 (A := fun u_o => Rt u_o ∧ RF u_o ∧ 232 ≤ gn u_o) (rt_140 (RF_fw hg_o h2193_o) (Fw_232 h2193_o) rfl (Rt_fw h_o h2193_o)) (fun s3_l hp2194_o => ?_)
  exact gQ_ret (Rt_fw hp2194_o.1 (Fw_w (Fw_w (Fw_rf (W := WR) hp2194_o.2.2) (fr_r (Fw_rf (W := WR) hp2194_o.2.2) rfl (rr_0_5 hp2194_o.2.1)) (ud 15 _ rfl)) (fr_r (Fw_w (Fw_rf (W := WR) hp2194_o.2.2) (fr_r (Fw_rf (W := WR) hp2194_o.2.2) rfl (rr_0_5 hp2194_o.2.1)) (ud 15 _ rfl)) rfl (rr_0_5 hp2194_o.2.1)) (ud 15 _ rfl)))

theorem rt_102 {s : gS} {a0 : Nat} {a1 : Int} (hg_o : RF s) (hn_o : 232 ≤ gn s) (e0_o : a0 = 0) (h_o : Rt s) : gQ (f_102 a0 a1 s) (fun r => Rt r.2.2.2) := by
  subst e0_o
  unfold f_102
  refine gQ_t0 (A := Fw WR s) (o_138 hg_o (qd_o ud) rfl (Fw_rf (W := WR) hn_o)) (fun s1_l h2195_o => ?_) (fun _ _ hz_o => (Rt_fw h_o hz_o))
  refine gQ_v0 (A := fun u_o => Rt u_o ∧ RF u_o ∧ 232 ≤ gn u_o) (rt_140 (RF_fw hg_o h2195_o) (Fw_232 h2195_o) rfl (Rt_fw h_o h2195_o)) (fun s3_l hp2196_o => ?_)
  refine gQ_loop (fun y_l => y_l.1 = 0 ∧ Fw WR s3_l (y_l.2.2.2.2)) (fun y_l hy_o => ?_) ⟨rfl, (Fw_rf (W := WR) hp2196_o.2.2)⟩
  obtain ⟨x2197_o, x2198_o, x2199_o, x2200_o, x2201_o⟩ := y_l
  obtain ⟨e2203_o, h2202_o⟩ := hy_o
  dsimp only at e2203_o h2202_o
  subst e2203_o
  show gQ (sb_102_17 0 x2198_o x2199_o x2200_o x2201_o) _
  unfold sb_102_17
  refine gQ_ite ?_ ?_
  · refine gQ_v1 (A := Fw WR s3_l) (o_27d hp2196_o.2.1 ud (fr_r h2202_o rfl (rr_0_5 hp2196_o.2.1)) (fr_r h2202_o rfl (rr_0_4 hp2196_o.2.1)) (fr_r h2202_o rfl (rr_0_1 hp2196_o.2.1)) h2202_o) (fun v6 s5 h2204_o => ?_)
    exact gQ_ret ⟨rfl, h2204_o⟩
  · refine gQ_map ?_
    exact gQ_ret (Rt_fw hp2196_o.1 h2202_o)

theorem rt_129 {s : gS} {a0 : Nat} {a1 : Int} (hg_o : RF s) (hn_o : 232 ≤ gn s) (e0_o : a0 = 0) (h_o : Rt s) : gQ (f_129 a0 a1 s) (fun r => Rt r.2.2.2) := by
  subst e0_o
  unfold f_129
  dsimp only
  exact gQ_ret (Rt_fw h_o (Fw_w (Fw_rf (W := WR) hn_o) (fr_r (Fw_rf (W := WR) hn_o) rfl (rr_0_5 hg_o)) (ud 15 _ rfl)))

end
section
section Ma
variable {s u : gS}
theorem b_209 {A : Nat} (hA : A < 12) (hu : gI u 217 6 = (A : Int)) (r1 : gR u 217 1 = 218) (r5 : gR u 217 5 = 221) : gQ (fb_209_50 217 u) (fun r => Sm u r.2.2.2 ∧ gI r.2.2.2 217 6 = (A : Int) + 1 ∧ (∀ a k, a ≠ 221 → ¬ (a = 217 ∧ k = 6) → gI r.2.2.2 a k = gI u a k) ∧ (∀ k, k < 340 → gI r.2.2.2 221 (340 * A + k) = gI u 218 k) ∧ ∀ k, k < 340 * A → gI r.2.2.2 221 k = gI u 221 k) := by
  unfold fb_209_50
  refine gQ_loop (fun y_l => y_l.1 = 217 ∧ (0 ≤ y_l.2.1 ∧ y_l.2.1 ≤ 340) ∧ Sm u y_l.2.2 ∧ (∀ a k, a ≠ 221 → gI y_l.2.2 a k = gI u a k) ∧ (∀ k : Nat, (k : Int) < y_l.2.1 → gI y_l.2.2 221 (340 * A + k) = gI u 218 k) ∧ ∀ k, k < 340 * A → gI y_l.2.2 221 k = gI u 221 k) (fun y_l hy => ?_) ⟨rfl, ⟨Int.le_refl 0, (by decide : (0 : Int) ≤ 340)⟩, ⟨rfl, rfl, rfl⟩, fun _ _ _ => rfl, fun k hk => by dsimp only at hk; omega, fun _ _ => rfl⟩
  obtain ⟨x0_l, x1_l, y1⟩ := y_l
  obtain ⟨q0, hb_l, hs, h5, h6, h7⟩ := hy
  dsimp only at q0 hb_l hs h5 h6 h7
  subst q0
  have t1_l : gR y1 217 1 = 218 := by
    show y1.2.2.2 217 1 = 218
    rw [hs.2.2]
    exact r1
  have t5_l : gR y1 217 5 = 221 := by
    show y1.2.2.2 217 5 = 221
    rw [hs.2.2]
    exact r5
  have e6_l : gI y1 217 6 = (A : Int) := (h5 217 6 (by decide)).trans hu
  show gQ (sb_209_52 217 x1_l y1) _
  unfold sb_209_52
  rw [e6_l, t1_l, t5_l, g32_eq (v := 340 * (A : Int)) (by omega) (by omega)]
  by_cases c : x1_l < 340
  · rw [if_pos c, g32_eq (v := 340 * (A : Int) + x1_l) (by omega) (by omega), g32_eq (v := x1_l + 1) (by omega) (by omega), show (340 * (A : Int) + x1_l).toNat = 340 * A + x1_l.toNat by omega]
    refine gQ_chk (gQ_chk (gQ_ret ⟨rfl, ?_, hs, fun a k ha_l => ?_, fun k hk => ?_, fun k hk => ?_⟩))
    · dsimp only
      omega
    · dsimp only
      exact (rd_a rfl ha_l).trans (h5 a k ha_l)
    · dsimp only at hk ⊢
      show (if 221 = 221 ∧ 340 * A + k = 340 * A + x1_l.toNat then gI y1 218 x1_l.toNat else gI y1 221 (340 * A + k)) = _
      by_cases ck : k = x1_l.toNat
      · rw [if_pos ⟨rfl, by omega⟩, ck]
        exact h5 218 _ (by decide)
      · rw [if_neg (by omega)]
        exact h6 k (by omega)
    · dsimp only
      show (if 221 = 221 ∧ k = 340 * A + x1_l.toNat then gI y1 218 x1_l.toNat else gI y1 221 k) = _
      rw [if_neg (by omega)]
      exact h7 k hk
  · rw [if_neg c, g32_eq (v := (A : Int) + 1) (by omega) (by omega)]
    refine gQ_map (gQ_ret ⟨hs, rd_same rfl, fun a k ha_l hz => ?_, fun k hk => ?_, fun k hk => ?_⟩)
    · dsimp only
      show (if a = 217 ∧ k = 6 then _ else gI y1 a k) = _
      rw [if_neg hz]
      exact h5 a k ha_l
    · dsimp only
      exact (rd_a rfl (by decide)).trans (h6 k (by omega))
    · dsimp only
      exact (rd_a rfl (by decide)).trans (h7 k hk)
theorem rt_m {t : gS} (h : Rt s) (h6 : ∀ a k, a ≠ 221 → ¬ (a = 217 ∧ k = 6) → gI t a k = gI s a k) (hc : (0 ≤ gI t 217 6 ∧ gI t 217 6 ≤ 12) ∧ ∀ j : Nat, (j : Int) < gI t 217 6 → ∀ k, k < 340 → mnt k = false → gI t 221 (340 * j + k) = gI t 218 k) : Rt t := by
  obtain ⟨h1, h2, h3, ⟨h4, h5, h7⟩, -, -⟩ := h
  have hp : ∀ k, k < 100 → cv t 9 15 k = cv s 9 15 k ∧ cv t 54 60 k = cv s 54 60 k := fun k hk => by
    have := pa_15 k hk
    exact ⟨h6 _ _ (by omega) (by omega), h6 _ _ (by omega) (by omega)⟩
  have e13_l := h6 0 13 (by decide) (by decide)
  have e14_l := h6 0 14 (by decide) (by decide)
  refine ⟨fun k hk => ?_, fun k => ?_, fun he k hk => ?_, ⟨?_, ?_, fun j hj k hk => ?_⟩, hc⟩
  · rw [h6 218 k (by decide) (by omega), (hp k hk.1.1).1]
    exact h1 k hk
  · rw [h6 2 k (by decide) (by omega), h6 222 k (by decide) (by omega)]
    exact h2 k
  · rw [h6 219 k (by decide) (by omega), (hp k hk.1.1).2]
    exact h3 (by rw [← h6 217 3 (by decide) (by decide)]; exact he) k hk
  · rw [e13_l]; exact h4
  · rw [e14_l]; exact h5
  · rw [e13_l, (hp k (Tc_x hk).1.1).1]
    rw [e14_l] at hj
    refine Eq.trans ?_ (h7 j hj k hk)
    have hl : ((gI s 0 13).toNat + 12 - j) % 12 < 12 := Nat.mod_lt _ (by decide)
    obtain ⟨o, q_l, o1, o2, o3_l, o4_l⟩ := Tc_c hk
    refine h6 _ _ ?_ ?_
    · rw [o2]; unfold pst; omega
    · rw [o2]; unfold pst; omega
theorem rx_209 {a0 : Nat} (hg : RF s) (hn : 232 ≤ gn s) (e0 : a0 = 217) (h : Rt s) : gQ (f_209 a0 s) (fun r => (Rt r.2.2.2 ∧ RF r.2.2.2 ∧ 232 ≤ gn r.2.2.2) ∧ ∀ k, gI r.2.2.2 218 k = gI s 218 k) := by
  subst e0
  have hc_l := h.2.2.2.2
  have r1_l : gR s 217 1 = 218 := (rr_217_1 hg).2
  have r5_l : gR s 217 5 = 221 := (rr_217_5 hg).2
  have hfin : ∀ (t_l : gS) (A_l : Nat), A_l < 12 → gI t_l 217 6 = (A_l : Int) → Sm s t_l → (∀ a_l k, a_l ≠ 221 → ¬ (a_l = 217 ∧ k = 6) → gI t_l a_l k = gI s a_l k) → (∀ j_l, j_l < A_l → ∀ k, k < 340 → mnt k = false → gI t_l 221 (340 * j_l + k) = gI s 218 k) → gQ (fb_209_50 217 t_l) (fun r => (Rt r.2.2.2 ∧ RF r.2.2.2 ∧ 232 ≤ gn r.2.2.2) ∧ ∀ k, gI r.2.2.2 218 k = gI s 218 k) := by
    intro t_l A_l hA ht hs ho hj
    have t1_l : gR t_l 217 1 = 218 := by
      show t_l.2.2.2 217 1 = 218
      rw [hs.2.2]
      exact r1_l
    have t5_l : gR t_l 217 5 = 221 := by
      show t_l.2.2.2 217 5 = 221
      rw [hs.2.2]
      exact r5_l
    intro r hr
    obtain ⟨b1, b2, b3, b4, b5⟩ := b_209 hA ht t1_l t5_l r hr
    have hss : Sm s r.2.2.2 := ⟨b1.1.trans hs.1, b1.2.1.trans hs.2.1, b1.2.2.trans hs.2.2⟩
    refine ⟨⟨rt_m h (fun a_l k ha_l hz => (b3 a_l k ha_l hz).trans (ho a_l k ha_l hz)) ⟨by rw [b2]; omega, fun j_l hj2 k hk hm_l => ?_⟩, RF_sm hg hss.2.2, by show 232 ≤ r.2.2.2.1; rw [hss.1]; exact hn⟩, fun k => (b3 218 k (by decide) (by omega)).trans (ho 218 k (by decide) (by omega))⟩
    rw [b2] at hj2
    rw [b3 218 k (by decide) (by omega), ho 218 k (by decide) (by omega)]
    by_cases cj : j_l = A_l
    · rw [cj, b4 k hk]
      exact ho 218 k (by decide) (by omega)
    · rw [b5 _ (by omega)]
      exact hj j_l (by omega) k hk hm_l
  unfold f_209
  by_cases c12 : gI s 217 6 = 12
  · rw [if_pos c12]
    refine gQ_loop (fun y_l => y_l.1 = 217 ∧ (0 ≤ y_l.2.1 ∧ y_l.2.1 ≤ 3740) ∧ Sm s y_l.2.2 ∧ (∀ a_l k, a_l ≠ 221 → gI y_l.2.2 a_l k = gI s a_l k) ∧ (∀ k : Nat, (k : Int) < y_l.2.1 → gI y_l.2.2 221 k = gI s 221 (k + 340)) ∧ ∀ k : Nat, y_l.2.1 ≤ (k : Int) → gI y_l.2.2 221 k = gI s 221 k) (fun y_l hy => ?_) ⟨rfl, ⟨Int.le_refl 0, (by decide : (0 : Int) ≤ 3740)⟩, ⟨rfl, rfl, rfl⟩, fun _ _ _ => rfl, fun k hk => by dsimp only at hk; omega, fun _ _ => rfl⟩
    obtain ⟨x0_l, x1_l, y1⟩ := y_l
    obtain ⟨q0, hb_l, hs, h5, h6, h7⟩ := hy
    dsimp only at q0 hb_l hs h5 h6 h7
    subst q0
    have t5_l : gR y1 217 5 = 221 := by
      show y1.2.2.2 217 5 = 221
      rw [hs.2.2]
      exact r5_l
    show gQ (sb_209_11 217 x1_l y1) _
    unfold sb_209_11
    by_cases c : x1_l < 3740
    · rw [if_pos c, t5_l, g32_eq (v := x1_l + 340) (by omega) (by omega), g32_eq (v := x1_l + 1) (by omega) (by omega)]
      refine gQ_chk (gQ_chk (gQ_ret ⟨rfl, ?_, hs, fun a_l k ha_l => ?_, fun k hk => ?_, fun k hk => ?_⟩))
      · dsimp only
        omega
      · dsimp only
        exact (rd_a rfl ha_l).trans (h5 a_l k ha_l)
      · dsimp only at hk ⊢
        show (if 221 = 221 ∧ k = x1_l.toNat then gI y1 221 (x1_l + 340).toNat else gI y1 221 k) = _
        by_cases ck : k = x1_l.toNat
        · rw [if_pos ⟨rfl, ck⟩, h7 _ (by omega), show (x1_l + 340).toNat = k + 340 by omega]
        · rw [if_neg (by omega)]
          exact h6 k (by omega)
      · dsimp only at hk ⊢
        show (if 221 = 221 ∧ k = x1_l.toNat then gI y1 221 (x1_l + 340).toNat else gI y1 221 k) = _
        rw [if_neg (by omega)]
        exact h7 k (by omega)
    · rw [if_neg c]
      refine gQ_map ?_
      have e6_l : gI y1 217 6 = 12 := (h5 217 6 (by decide)).trans c12
      rw [e6_l, g32_eq (v := (12 : Int) - 1) (by omega) (by omega)]
      refine hfin (gw y1 217 6 (12 - 1)) 11 (by decide) (rd_same rfl) hs (fun a_l k ha_l hz => ?_) (fun j_l hj k hk hm_l => ?_)
      · show (if a_l = 217 ∧ k = 6 then _ else gI y1 a_l k) = _
        rw [if_neg hz]
        exact h5 a_l k ha_l
      · rw [rd_a (a := 221) rfl (by decide), h6 _ (by omega), show 340 * j_l + k + 340 = 340 * (j_l + 1) + k by omega]
        exact hc_l.2 (j_l + 1) (by omega) k hk hm_l
  · rw [if_neg c12]
    exact hfin s (gI s 217 6).toNat (by omega) (by omega) ⟨rfl, rfl, rfl⟩ (fun _ _ _ _ => rfl) (fun j_l hj k hk hm_l => hc_l.2 j_l (by omega) k hk hm_l)
end Ma

end
section
section Mc
variable {W : Nat → Nat → Bool} {g s u : gS} {p : gP} {Q : Type} {P : Q → Prop}
theorem gQ_w1 {z : Option gO} {A : Int → gS → Prop} {E : Int → gS → Option Q} (h : gQ z (fun r => A r.2.1 r.2.2.2)) (k : ∀ v s, A v s → gQ (E v s) P) : gQ (z.bind (gv1 E)) P := by
  cases z with
  | none => exact gQ_none
  | some r =>
    have hA := h r rfl
    show gQ (gv1 E r) P
    unfold gv1
    exact gQ_ite (k _ _ hA) gQ_none
theorem qv_150 {x y z : Int} : gQ (f_150 x y z s) (fun r => r.2.2.2 = s ∧ (r.2.1 = 0 ∨ (y ≤ x ∧ x ≤ z))) := fun r hr => by
  obtain ⟨-, h2, h3⟩ := gQ_T (w_150 (s := s) (x := x) (y := y) (z := z)) r hr
  exact ⟨h3, by omega⟩
theorem qv_162 {x : Int} (r1 : gR s 217 1 = 218) (hm : 0 ≤ gI s 218 4 ∧ gI s 218 4 ≤ 6) : gQ (f_162 217 x s) (fun r => r.2.2.2 = s ∧ (r.2.1 = 0 ∨ (0 ≤ x ∧ x < 6))) := by
  unfold f_162
  rw [r1, g32_eq (v := gI s 218 4 - 1) (by omega) (by omega)]
  refine gQ_w1 (A := fun v_l z_l => z_l = s ∧ (v_l = 0 ∨ (0 ≤ x ∧ x ≤ gI s 218 4 - 1))) qv_150 (fun v2 s1_l h1 => gQ_ret ⟨h1.1, ?_⟩)
  have := h1.2
  dsimp only
  omega
theorem qv_164 {x : Int} (r1 : gR s 217 1 = 218) (hm : 0 ≤ gI s 218 6 ∧ gI s 218 6 ≤ 6) : gQ (f_164 217 x s) (fun r => r.2.2.2 = s ∧ (r.2.1 = 0 ∨ (0 ≤ x ∧ x < 6))) := by
  unfold f_164
  rw [r1, g32_eq (v := gI s 218 6 - 1) (by omega) (by omega)]
  refine gQ_w1 (A := fun v_l z_l => z_l = s ∧ (v_l = 0 ∨ (0 ≤ x ∧ x ≤ gI s 218 6 - 1))) qv_150 (fun v2 s1_l h1 => gQ_ret ⟨h1.1, ?_⟩)
  have := h1.2
  dsimp only
  omega
theorem mnt_l : ∀ k, k < 340 → 88 ≤ k → mnt k = true := by decide +kernel
/-- logs -/
theorem om_210 {a0 : Nat} {a1 a2 : Int} (hg : RF g) (hU : ∀ a k, msd a k = true → W a k = true) (e0 : a0 = 217) (h : Fw W g s) : gQ (f_210 a0 a1 a2 s) (fun r => Fw W g r.2.2.2) := by
  subst e0
  have hr : ∀ {t : gS}, Fw W g t → gR t 217 1 = 218 := fun ht => fr_r ht rfl (rr_217_1 hg)
  have hl : ∀ k, k < 340 → 88 ≤ k → W 218 k = true := fun k h1 h2 => hU _ _ (msd_8 (mnt_l k h1 h2))
  unfold f_210
  refine gQ_loop (fun y_l => y_l.1 = 217 ∧ (3 ≤ y_l.2.2.2.1 ∧ y_l.2.2.2.1 ≤ 239) ∧ Fw W g y_l.2.2.2.2) (fun y_l hy => ?_) ⟨rfl, ⟨(by decide : (3 : Int) ≤ 239), Int.le_refl 239⟩, h⟩
  obtain ⟨x0_l, x1_l, x2_l, x3, y1⟩ := y_l
  obtain ⟨q0, hb_l, h1⟩ := hy
  dsimp only at q0 hb_l h1
  subst q0
  show gQ (sb_210_4 217 x1_l x2_l x3 y1) _
  unfold sb_210_4
  by_cases c : x3 < 4
  · rw [if_pos c]
    refine gQ_map ?_
    dsimp only
    have w1_l : Fw W g (gw y1 (gR y1 217 1) 100 (gI y1 (gR y1 217 1) 7)) := Fw_w h1 (hr h1) (hl 100 (by decide) (by decide))
    have w2_l := Fw_w (v := x1_l) w1_l (hr w1_l) (hl 101 (by decide) (by decide))
    have w3_l := Fw_w (v := x2_l) w2_l (hr w2_l) (hl 102 (by decide) (by decide))
    refine gQ_v1 (A := Fw W g) (om_156 hg (mqd_o hU) rfl w3_l) (fun v5 s4_l h4 => ?_)
    have w4_l := Fw_w (v := v5) h4 (hr w3_l) (hl 103 (by decide) (by decide))
    refine gQ_v1 (A := Fw W g) (om_151 hg (mqd_o hU) w4_l) (fun v8 s7 h7 => ?_)
    exact gQ_ret (Fw_w h7 (hr w4_l) (hU 218 13 rfl))
  · rw [if_neg c, g32_eq (v := 100 + x3) (by omega) (by omega), g32_eq (v := x3 + -1) (by omega) (by omega)]
    refine gQ_chk (gQ_chk (gQ_ret ⟨rfl, by dsimp only; omega, ?_⟩))
    exact Fw_w h1 (hr h1) (hl _ (by omega) (by omega))
theorem z0 {w0 : Int} (hw : 0 < w0) : 0 < gI (gw s 217 0 w0) 217 0 := by
  rw [rd_same rfl]
  exact hw
theorem Jr (h : J p s) : (0 ≤ gI s 218 4 ∧ gI s 218 4 ≤ 6) ∧ (0 ≤ gI s 218 6 ∧ gI s 218 6 ≤ 6) := ⟨J_ra h (a := 218) (k := 4) (by decide) (by rw [k0_sp.2.2.2.1]; decide) rfl, J_ra h (a := 218) (k := 6) (by decide) (by rw [k0_sp.2.2.2.1]; decide) rfl⟩
/-- thrown is noted -/
theorem Fw_0 {w0 : Int} (hn : 232 ≤ gn s) : Fw WR s (gw s 217 0 w0) := Fw_w (Fw_rf hn) rfl (um 217 0 rfl)
/-- an act of the model: what is thrown, or what comes behind remembers -/
theorem rt_act {w0 : Int} {E : gS → Option gO} (hg : RF s) (hn : 232 ≤ gn s) (h : Rt s) (hm : gI s 218 4 ≤ 6) (k : ∀ t, RF t → 232 ≤ gn t → gI t 218 4 ≤ 6 → gQ (E t) (fun r => Fw WR t r.2.2.2)) : gQ (if 0 < gI (gw s 217 0 w0) 217 0 then some ((1, 0, 0, gw s 217 0 w0) : gO) else (f_209 217 (gw s 217 0 w0)).bind (gv0 E)) (fun r => Rt r.2.2.2) := by
  have hf : Fw WR s (gw s 217 0 w0) := Fw_0 hn
  refine gQ_ite (gQ_ret (Rt_fw h hf)) ?_
  refine gQ_v0 (A := fun t => (Rt t ∧ RF t ∧ 232 ≤ gn t) ∧ ∀ k, gI t 218 k = gI (gw s 217 0 w0) 218 k) (rx_209 (RF_fw hg hf) (Fw_232 hf) rfl (Rt_fw h hf)) (fun s5 h5 => ?_)
  have h4 : gI s5 218 4 ≤ 6 := by
    rw [h5.2 4, rd_a (a := 218) rfl (by decide)]
    exact hm
  exact fun r hr => Rt_fw h5.1.1 (k s5 h5.1.2.1 h5.1.2.2 h4 r hr)
theorem rt_thr {w0 : Int} {z : Option gO} (hw : 0 < w0) (hn : 232 ≤ gn s) (h : Rt s) : gQ (if 0 < gI (gw s 217 0 w0) 217 0 then some ((1, 0, 0, gw s 217 0 w0) : gO) else z) (fun r => Rt r.2.2.2) := by
  rw [if_pos (z0 hw)]
  exact gQ_ret (Rt_fw h (Fw_0 hn))
theorem rt_259 {a0 : Nat} {a1 : Int} (hg : RF s) (hn : 232 ≤ gn s) (e0 : a0 = 217) (h : Rt s) : gQ (f_259 a0 a1 s) (fun r => Rt r.2.2.2) := by
  subst e0
  unfold f_259
  exact gQ_ret (Rt_fw h (Fw_w (Fw_0 hn) (fr_r (Fw_0 (w0 := 0) hn) rfl (rr_217_1 hg)) (umd 218 14 rfl)))
theorem rt_218 {a0 : Nat} {a1 : Int} (hJ : J p s) (e0 : a0 = 217) (h : Rt s) : gQ (f_218 a0 a1 s) (fun r => Rt r.2.2.2) := by
  subst e0
  have hg := J_RF hJ
  have hn := hJ.1.1
  have hb_l : ∀ w0_l, gQ (fb_218_17 217 a1 w0_l 217 s) (fun r => Rt r.2.2.2) := by
    intro w0_l
    unfold fb_218_17
    refine rt_act hg hn h (Jr hJ).1.2 (fun t_l tg tn_l tm => ?_)
    refine gQ_v1 (A := Fw WR t_l) (om_202 tg umd tm rfl rfl (Fw_rf tn_l)) (fun v8 s7 h7 => gQ_ret h7)
  unfold f_218
  refine gQ_w1 (A := fun _ z_l => z_l = s) (fun r hr => (qv_150 r hr).1) (fun v2 s1_l h1 => ?_)
  rw [h1]
  exact gQ_ite (hb_l _) (hb_l _)
theorem rt_217 {a0 : Nat} {a1 : Int} (hJ : J p s) (e0 : a0 = 217) (h : Rt s) : gQ (f_217 a0 a1 s) (fun r => Rt r.2.2.2) := by
  subst e0
  have hg := J_RF hJ
  have hn := hJ.1.1
  have hb_l : ∀ (w0_l : Int) (t_l : gS), Fw WR s t_l → gQ (fb_217_31 217 a1 w0_l 217 t_l) (fun r => Rt r.2.2.2) := by
    intro w0_l t_l ht
    have h4 : gI t_l 218 4 ≤ 6 := by
      rw [ht.2.2 218 4 (Nat.lt_of_lt_of_le (by decide) ht.1.1) rfl]
      exact (Jr hJ).1.2
    unfold fb_217_31
    refine rt_act (RF_fw hg ht) (Fw_232 ht) (Rt_fw h ht) h4 (fun t1_l tg tn_l tm => ?_)
    have w1_l : Fw WR t1_l (gw t1_l (gR t1_l 217 1) 8 (g32 (gI t1_l (gR t1_l 217 1) 8 - a1))) := Fw_w (Fw_rf tn_l) (rr_217_1 tg).2 (umd 218 8 rfl)
    exact gQ_ret (Fw_w w1_l (fr_r w1_l rfl (rr_217_1 tg)) (umd 218 9 rfl))
  unfold f_217
  refine gQ_v1 (A := Fw WR s) (om_151 hg um (Fw_rf hn)) (fun v2 s1_l h1 => ?_)
  refine gQ_v1 (A := Fw WR s) (om_150 hg um h1) (fun v4_l s3_l h3 => ?_)
  exact gQ_ite (hb_l _ _ h3) (hb_l _ _ h3)
theorem rt_214 {a0 : Nat} {a1 : Int} (hJ : J p s) (e0 : a0 = 217) (h : Rt s) : gQ (f_214 a0 a1 s) (fun r => Rt r.2.2.2) := by
  subst e0
  have hg := J_RF hJ
  have hn := hJ.1.1
  have hb_l : ∀ (w0_l : Int) (t_l : gS), 0 ≤ a1 ∧ a1 < 6 → Fw WR s t_l → gQ (fb_214_35 217 a1 w0_l 217 t_l) (fun r => Rt r.2.2.2) := by
    intro w0_l t_l hx ht
    have h4 : gI t_l 218 4 ≤ 6 := by
      rw [ht.2.2 218 4 (Nat.lt_of_lt_of_le (by decide) ht.1.1) rfl]
      exact (Jr hJ).1.2
    unfold fb_214_35
    refine rt_act (RF_fw hg ht) (Fw_232 ht) (Rt_fw h ht) h4 (fun t1_l tg tn_l tm => ?_)
    refine gQ_v0 (A := Fw WR t1_l) (om_157 tg umd rfl hx (by decide) (Fw_rf tn_l)) (fun s7 h7 => ?_)
    exact gQ_v1 (A := Fw WR t1_l) (om_156 tg um rfl h7) (fun v10 s9 h9 => gQ_ret h9)
  unfold f_214
  refine gQ_w1 (A := fun v_l z_l => z_l = s ∧ (v_l = 0 ∨ (0 ≤ a1 ∧ a1 < 6))) (qv_162 (rr_217_1 hg).2 (Jr hJ).1) (fun v2 s1_l h1 => ?_)
  rw [h1.1]
  by_cases c : v2 = 0
  · rw [if_pos c]
    unfold fb_214_35
    exact rt_thr (by decide) hn h
  rw [if_neg c]
  have hx : 0 ≤ a1 ∧ a1 < 6 := h1.2.resolve_left c
  refine gQ_v1 (A := Fw WR s) (om_165 hg um rfl (Fw_rf hn)) (fun v12 s11 h11 => ?_)
  refine gQ_ite (hb_l _ _ hx h11) ?_
  refine gQ_v1 (A := Fw WR s) (om_156 hg um rfl h11) (fun v15 s14 h14 => ?_)
  exact gQ_ite (hb_l _ _ hx h14) (hb_l _ _ hx h14)
theorem rt_211 {a0 : Nat} {a1 : Int} (hJ : J p s) (e0 : a0 = 217) (h : Rt s) : gQ (f_211 a0 a1 s) (fun r => Rt r.2.2.2) := by
  subst e0
  have hg := J_RF hJ
  have hn := hJ.1.1
  have hb_l : ∀ (w0_l : Int) (t_l : gS), 0 ≤ a1 ∧ a1 < 6 → Fw WR s t_l → gQ (fb_211_35 217 a1 w0_l 217 t_l) (fun r => Rt r.2.2.2) := by
    intro w0_l t_l hx ht
    have h4 : gI t_l 218 4 ≤ 6 := by
      rw [ht.2.2 218 4 (Nat.lt_of_lt_of_le (by decide) ht.1.1) rfl]
      exact (Jr hJ).1.2
    unfold fb_211_35
    refine rt_act (RF_fw hg ht) (Fw_232 ht) (Rt_fw h ht) h4 (fun t1_l tg tn_l tm => ?_)
    refine gQ_v1 (A := Fw WR t1_l) (om_156 tg um rfl (Fw_rf tn_l)) (fun v8 s7 h7 => ?_)
    refine gQ_v0 (A := Fw WR t1_l) (om_157 tg umd rfl hx (by decide) h7) (fun s9 h9 => ?_)
    refine gQ_v1 (A := Fw WR t1_l) (om_156 tg um rfl h9) (fun v12 s11 h11 => ?_)
    refine gQ_v1 (A := Fw WR t1_l) (om_151 tg um h11) (fun v14 s13 h13 => ?_)
    refine gQ_v0 (A := Fw WR t1_l) (om_157 tg umd rfl hx (by decide) h13) (fun s15 h15 => ?_)
    refine gQ_v0 (A := Fw WR t1_l) (om_210 tg umd rfl h15) (fun s17 h17 => ?_)
    exact gQ_v1 (A := Fw WR t1_l) (om_156 tg um rfl h17) (fun v20 s19 h19 => gQ_ret h19)
  unfold f_211
  refine gQ_w1 (A := fun v_l z_l => z_l = s ∧ (v_l = 0 ∨ (0 ≤ a1 ∧ a1 < 6))) (qv_162 (rr_217_1 hg).2 (Jr hJ).1) (fun v2 s1_l h1 => ?_)
  rw [h1.1]
  by_cases c : v2 = 0
  · rw [if_pos c]
    unfold fb_211_35
    exact rt_thr (by decide) hn h
  rw [if_neg c]
  have hx : 0 ≤ a1 ∧ a1 < 6 := h1.2.resolve_left c
  refine gQ_v1 (A := Fw WR s) (om_165 hg um rfl (Fw_rf hn)) (fun v22 s21 h21 => ?_)
  refine gQ_ite (hb_l _ _ hx h21) ?_
  refine gQ_v1 (A := Fw WR s) (om_156 hg um rfl h21) (fun v25 s24 h24 => ?_)
  exact gQ_ite (hb_l _ _ hx h24) (hb_l _ _ hx h24)
end Mc

end
section
section Md
variable {s t : gS} {p : gP}
theorem h4_f (hJ : J p s) (ht : Fw WR s t) : gI t 218 4 ≤ 6 := by
  rw [ht.2.2 218 4 (Nat.lt_of_lt_of_le (by decide) ht.1.1) rfl]
  exact (Jr hJ).1.2
theorem rt_213 {a0 : Nat} {a1 a2 : Int} (hJ : J p s) (e0 : a0 = 217) (h : Rt s) : gQ (f_213 a0 a1 a2 s) (fun r => Rt r.2.2.2) := by
  subst e0
  have hg := J_RF hJ
  have hn := hJ.1.1
  have hb_l : ∀ (w0_l : Int) (t_l : gS), 0 ≤ a1 ∧ a1 < 6 → Fw WR s t_l → gQ (fb_213_34 217 a1 a2 w0_l 217 t_l) (fun r => Rt r.2.2.2) := by
    intro w0_l t_l hx ht
    unfold fb_213_34
    refine rt_act (RF_fw hg ht) (Fw_232 ht) (Rt_fw h ht) (h4_f hJ ht) (fun t1_l tg tn_l tm => ?_)
    have h128 : ∀ (x3 : Int) (u1_l : gS), Fw WR t1_l u1_l → gQ (fb_213_128 217 a1 x3 u1_l) (fun r => Fw WR t1_l r.2.2.2) := by
      intro x3 u1_l hu
      unfold fb_213_128 fb_213_139
      refine gQ_ite ?_ ?_
      · exact gQ_v0 (A := Fw WR t1_l) (om_210 tg umd rfl hu) (fun s26 h26 => gQ_bool (gQ_ret h26))
      · exact gQ_v0 (A := Fw WR t1_l) (om_210 tg umd rfl hu) (fun s26 h26 => gQ_bool (gQ_ret h26))
    have h102 : ∀ (x3 w0_l : Int) (u1_l : gS), Fw WR t1_l u1_l → gQ (fb_213_102 217 a1 x3 w0_l 0 a1 217 u1_l) (fun r => Fw WR t1_l r.2.2.2) := by
      intro x3 w0_l u1_l hu
      unfold fb_213_102
      refine gQ_v0 (A := Fw WR t1_l) (om_157 tg umd rfl hx (by decide) hu) (fun s20 h20 => ?_)
      refine gQ_v1 (A := Fw WR t1_l) (om_156 tg um rfl h20) (fun v23 s22 h22 => ?_)
      refine gQ_ite ?_ (h128 _ _ h22)
      exact gQ_v0 (A := Fw WR t1_l) (om_157 tg umd rfl hx (by decide) h22) (fun s24 h24 => h128 _ _ h24)
    refine gQ_v1 (A := Fw WR t1_l) (om_158 tg um rfl (Fw_rf tn_l)) (fun v8 s7 h7 => ?_)
    refine gQ_v0 (A := Fw WR t1_l) (om_200 tg umd rfl h7) (fun s9 h9 => ?_)
    refine gQ_v1 (A := Fw WR t1_l) (om_156 tg um rfl h9) (fun v12 s11 h11 => ?_)
    refine gQ_v1 (A := Fw WR t1_l) (om_212 tg um rfl h11) (fun v14 s13 h13 => ?_)
    refine gQ_ite ?_ ?_
    · refine gQ_v1 (A := Fw WR t1_l) (om_156 tg um rfl h13) (fun v17 s16 h16_l => ?_)
      exact gQ_v1 (A := Fw WR t1_l) (om_151 tg um h16_l) (fun v19 s18 h18 => h102 _ _ _ h18)
    · exact gQ_v1 (A := Fw WR t1_l) (om_156 tg um rfl h13) (fun v29 s28 h28 => h102 _ _ _ h28)
  unfold f_213
  refine gQ_w1 (A := fun v_l z_l => z_l = s ∧ (v_l = 0 ∨ (0 ≤ a1 ∧ a1 < 6))) (qv_162 (rr_217_1 hg).2 (Jr hJ).1) (fun v2 s1_l h1 => ?_)
  rw [h1.1]
  by_cases c : v2 = 0
  · rw [if_pos c]
    unfold fb_213_34
    exact rt_thr (by decide) hn h
  rw [if_neg c]
  have hx : 0 ≤ a1 ∧ a1 < 6 := h1.2.resolve_left c
  refine gQ_v1 (A := Fw WR s) (om_163 hg um rfl (Fw_rf hn)) (fun v31 s30 h30 => ?_)
  refine gQ_ite (hb_l _ _ hx h30) ?_
  refine gQ_v1 (A := Fw WR s) (om_165 hg um rfl h30) (fun v34 s33 h33 => ?_)
  exact gQ_ite (hb_l _ _ hx h33) (hb_l _ _ hx h33)
theorem w88 {x j : Int} (hx : 0 ≤ x ∧ x < 6) (hj : 0 ≤ j ∧ j ≤ 1) : WR 218 (g32 (g32 (88 + g32 (2 * x)) + j)).toNat = true := by
  rw [(ix2 (m := 88) (c := x) (j := j) (by omega) (by omega) hj).2]
  exact umd _ _ (msd_8 (mnt_l _ (by omega) (by omega)))
theorem rt_215 {a0 : Nat} {a1 a2 a3 : Int} (hJ : J p s) (e0 : a0 = 217) (h : Rt s) : gQ (f_215 a0 a1 a2 a3 s) (fun r => Rt r.2.2.2) := by
  subst e0
  have hg := J_RF hJ
  have hn := hJ.1.1
  have hb_l : ∀ (w0_l : Int) (t_l : gS), 0 ≤ a1 ∧ a1 < 6 → 0 ≤ a2 ∧ a2 < 6 → Fw WR s t_l → gQ (fb_215_52 217 a1 a2 a3 w0_l 217 t_l) (fun r => Rt r.2.2.2) := by
    intro w0_l t_l hx hy ht
    unfold fb_215_52
    refine rt_act (RF_fw hg ht) (Fw_232 ht) (Rt_fw h ht) (h4_f hJ ht) (fun t1_l tg tn_l tm => ?_)
    have hr : ∀ {u : gS}, Fw WR t1_l u → gR u 217 1 = 218 := fun hu => fr_r hu rfl (rr_217_1 tg)
    refine gQ_chk (gQ_chk ?_)
    dsimp only
    have w1_l := Fw_w (v := g32 (gI t1_l (gR t1_l 217 1) (g32 (g32 (88 + g32 (2 * a2)) + 0)).toNat - a3)) (Fw_rf (W := WR) tn_l) (hr (Fw_rf tn_l)) (w88 hy (j := 0) (by decide))
    refine gQ_chk ?_
    refine gQ_v1 (A := Fw WR t1_l) (om_156 tg um rfl w1_l) (fun v9 s8 h8 => ?_)
    refine gQ_chk ?_
    have w2_l := Fw_w (v := gor (gI (gw t1_l (gR t1_l 217 1) (g32 (g32 (88 + g32 (2 * a2)) + 0)).toNat (g32 (gI t1_l (gR t1_l 217 1) (g32 (g32 (88 + g32 (2 * a2)) + 0)).toNat - a3))) (gR t1_l 217 1) (g32 (g32 (88 + g32 (2 * a2)) + 1)).toNat) (g32 (gshl 1 v9 - 1))) h8 (hr (Fw_rf tn_l)) (w88 hy (j := 1) (by decide))
    refine gQ_v1 (A := Fw WR t1_l) (om_151 tg um w2_l) (fun v12 s11 h11 => ?_)
    have w3_l := Fw_w (v := v12) h11 (hr w2_l) (umd 218 8 rfl)
    exact gQ_v0 (A := Fw WR t1_l) (om_157 tg umd rfl hx (by decide) w3_l) (fun s14 h14 => gQ_ret h14)
  unfold f_215
  refine gQ_w1 (A := fun v_l z_l => z_l = s ∧ (v_l = 0 ∨ (0 ≤ a1 ∧ a1 < 6))) (qv_162 (rr_217_1 hg).2 (Jr hJ).1) (fun v2 s1_l h1 => ?_)
  rw [h1.1]
  by_cases c : v2 = 0
  · rw [if_pos c]
    unfold fb_215_52
    exact rt_thr (by decide) hn h
  rw [if_neg c]
  have hx : 0 ≤ a1 ∧ a1 < 6 := h1.2.resolve_left c
  refine gQ_w1 (A := fun v_l z_l => z_l = s ∧ (v_l = 0 ∨ (0 ≤ a2 ∧ a2 < 6))) (qv_164 (rr_217_1 hg).2 (Jr hJ).2) (fun v17 s16 h16_l => ?_)
  rw [h16_l.1]
  by_cases c2 : v17 = 0
  · rw [if_pos c2]
    unfold fb_215_52
    exact rt_thr (by decide) hn h
  rw [if_neg c2]
  have hy : 0 ≤ a2 ∧ a2 < 6 := h16_l.2.resolve_left c2
  refine gQ_v1 (A := Fw WR s) (om_160 hg um rfl (Fw_rf hn)) (fun v20 s19 h19 => ?_)
  refine gQ_v1 (A := Fw WR s) (om_150 hg um h19) (fun v22 s21 h21 => ?_)
  refine gQ_ite (hb_l _ _ hx hy h21) ?_
  refine gQ_v1 (A := Fw WR s) (om_165 hg um rfl h21) (fun v25 s24 h24 => ?_)
  exact gQ_ite (hb_l _ _ hx hy h24) (hb_l _ _ hx hy h24)
theorem rt_216 {a0 : Nat} {a1 a2 : Int} (hJ : J p s) (e0 : a0 = 217) (h : Rt s) : gQ (f_216 a0 a1 a2 s) (fun r => Rt r.2.2.2) := by
  subst e0
  have hg := J_RF hJ
  have hn := hJ.1.1
  have hb_l : ∀ (w0_l : Int) (t_l : gS), 0 ≤ a2 ∧ a2 < 6 → Fw WR s t_l → gQ (fb_216_50 217 a1 a2 w0_l 217 t_l) (fun r => Rt r.2.2.2) := by
    intro w0_l t_l hy ht
    unfold fb_216_50
    refine rt_act (RF_fw hg ht) (Fw_232 ht) (Rt_fw h ht) (h4_f hJ ht) (fun t1_l tg tn_l tm => ?_)
    have hr : ∀ {u : gS}, Fw WR t1_l u → gR u 217 1 = 218 := fun hu => fr_r hu rfl (rr_217_1 tg)
    refine gQ_chk (gQ_chk ?_)
    dsimp only
    have w1_l := Fw_w (v := g32 (gI t1_l (gR t1_l 217 1) (g32 (g32 (88 + g32 (2 * a2)) + 0)).toNat - 20)) (Fw_rf (W := WR) tn_l) (hr (Fw_rf tn_l)) (w88 hy (j := 0) (by decide))
    refine gQ_chk (gQ_chk ?_)
    refine gQ_v1 (A := Fw WR t1_l) (om_160 tg um rfl (Fw_w w1_l (hr w1_l) (w88 hy (j := 1) (by decide)))) (fun v10 s9 h9 => gQ_ret h9)
  unfold f_216
  refine gQ_v1 (A := Fw WR s) (om_161 hg um rfl (Fw_rf hn)) (fun v2 s1_l h1 => ?_)
  have hthr : ∀ {u : gS}, Fw WR s u → gQ (fb_216_50 217 a1 a2 1 217 u) (fun r => Rt r.2.2.2) := fun {u} hu => by
    unfold fb_216_50
    exact rt_thr (by decide) (Fw_232 hu) (Rt_fw h hu)
  refine gQ_ite (hthr h1) ?_
  have m6_l : 0 ≤ gI s1_l 218 6 ∧ gI s1_l 218 6 ≤ 6 := by
    rw [h1.2.2 218 6 (Nat.lt_of_lt_of_le (by decide) h1.1.1) rfl]
    exact (Jr hJ).2
  refine gQ_w1 (A := fun v_l z_l => z_l = s1_l ∧ (v_l = 0 ∨ (0 ≤ a2 ∧ a2 < 6))) (qv_164 (fr_r h1 rfl (rr_217_1 hg)) m6_l) (fun v12 s11 h11 => ?_)
  rw [h11.1]
  by_cases c2 : v12 = 0
  · rw [if_pos c2]
    exact hthr h1
  rw [if_neg c2]
  have hy : 0 ≤ a2 ∧ a2 < 6 := h11.2.resolve_left c2
  refine gQ_v1 (A := Fw WR s) (om_160 hg um rfl h1) (fun v15 s14 h14 => ?_)
  refine gQ_v1 (A := Fw WR s) (om_153 hg um h14) (fun v17 s16 h16_l => ?_)
  refine gQ_ite ?_ (hb_l _ _ hy h16_l)
  refine gQ_v1 (A := Fw WR s) (om_160 hg um rfl h16_l) (fun v20 s19 h19 => ?_)
  exact gQ_ite (hb_l _ _ hy h19) (hb_l _ _ hy h19)
/-- span -/
theorem om_255 {W : Nat → Nat → Bool} {g : gS} {a0 : Nat} {a1 a2 : Int} (hg : RF g) (hU : ∀ a k, mss a k = true → W a k = true) (hA : ∀ k, W 220 k = true) (hm : gI g 218 4 ≤ 6) (h4 : W 218 4 = false) (e0 : a0 = 217) (h : Fw W g s) : gQ (f_255 a0 a1 a2 s) (fun r => Fw W g r.2.2.2) := by
  subst e0
  have hb_l : ∀ (w0_l : Int) (t_l : gS), Fw W g t_l → gQ (fb_255_17 217 a1 a2 w0_l 217 t_l) (fun r => Fw W g r.2.2.2) := by
    intro w0_l t_l ht
    unfold fb_255_17
    dsimp only
    have w1_l : Fw W g (gw t_l 217 0 w0_l) := Fw_w ht rfl (hU 217 0 rfl)
    refine gQ_ite (gQ_ret w1_l) ?_
    refine gQ_v0 (A := fun z_l => Fw W g z_l ∧ Asd z_l) (pa_185 hg hA rfl w1_l) (fun s5 h5 => ?_)
    have hg5 := RF_fw hg h5.1
    have hm5 : gI s5 218 4 ≤ 6 := by
      rw [h5.1.2.2 218 4 (Nat.lt_of_lt_of_le (by decide) h5.1.1.1) h4]
      exact hm
    have hn5 := Fw_232 h5.1
    refine gQ_loop (fun y_l => y_l.1 = 217 ∧ Fw mss s5 y_l.2.2.2.2.2) (fun y_l hy => ?_) ⟨rfl, Fw_rf hn5⟩
    obtain ⟨x0_l, x1_l, x2_l, x3, x4_l, y1⟩ := y_l
    obtain ⟨q0, h6⟩ := hy
    dsimp only at q0 h6
    subst q0
    show gQ (sb_255_38 217 x1_l x2_l x3 x4_l y1) _
    unfold sb_255_38
    refine gQ_ite (gQ_map (gQ_ret (Fw_tr h5.1 h6 hU))) ?_
    dsimp only
    have hd_l : Fw msd s5 y1 := Fw_tr (Fw_rf hn5) h6 (mqd_o id_U)
    have w2_l : Fw msd s5 (gw y1 (gR y1 217 1) 14 x4_l) := Fw_w hd_l (fr_r hd_l rfl (rr_217_1 hg5)) rfl
    refine gQ_v1 (A := Fw msd s5) (om_202 hg5 id_U hm5 rfl rfl w2_l) (fun v9 s8 h8 => ?_)
    refine gQ_v0 (A := Fw mss s5) (pa_186 hg5 h5.2 rfl h8) (fun s11 h11 => ?_)
    refine gQ_ite (gQ_ret ⟨rfl, h11⟩) (gQ_ite ?_ ?_)
    · exact gQ_v1 (A := Fw mss s5) (om_151 hg5 (fun _ _ hh => hh) h11) (fun v14 s13 h13 => gQ_ret ⟨rfl, h13⟩)
    · exact gQ_v1 (A := Fw mss s5) (om_152 hg5 (fun _ _ hh => hh) h11) (fun v16 s15 h15 => gQ_ret ⟨rfl, h15⟩)
  unfold f_255
  refine gQ_v1 (A := Fw W g) (om_150 hg hU h) (fun v2 s1_l h1 => ?_)
  exact gQ_ite (hb_l _ _ h1) (hb_l _ _ h1)
end Md

end
section
section Un
variable {s t : gS} {p : gP}
theorem Rt_acted {A : Int} (h : Rt s) (hA : 0 ≤ A ∧ A ≤ gI s 217 6) : Rt (gw s 217 6 A) := by
  have h8 := h.2.2.2.2
  refine rt_m h (fun a_l k_l ha_l hz => ?_) ⟨?_, fun j_l hj k_l hk hm_l => ?_⟩
  · show (if a_l = 217 ∧ k_l = 6 then _ else gI s a_l k_l) = _
    rw [if_neg hz]
  · rw [rd_same rfl]
    omega
  · rw [rd_same rfl] at hj
    rw [rd_a (a := 221) rfl (by decide), rd_a (a := 218) rfl (by decide)]
    exact h8.2 j_l (by omega) k_l hk hm_l
theorem WR_8 {k : Nat} (h : mnt k = true) : WR 218 k = true := umd _ _ (msd_8 h)
theorem rt_260 {a0 : Nat} (hg : RF s) (hn : 232 ≤ gn s) (e0 : a0 = 217) (h : Rt s) : gQ (f_260 a0 s) (fun r => Rt r.2.2.2) := by
  subst e0
  have hh := Rt_fw h (Fw_0 (w0 := 0) hn)
  have e6_l : gI (gw s 217 0 0) 217 6 = gI s 217 6 := rd_k (a := 217) (k := 6) rfl (by decide)
  have h8 := h.2.2.2.2
  have r1_l : gR s 217 1 = 218 := (rr_217_1 hg).2
  have r5_l : gR s 217 5 = 221 := (rr_217_5 hg).2
  unfold f_260
  dsimp only
  rw [e6_l]
  by_cases c0 : gI s 217 6 = 0
  · rw [if_pos c0]
    exact gQ_ret hh
  rw [if_neg c0, g32_eq (v := gI s 217 6 - 1) (by omega) (by omega)]
  have hR : Rt (gw (gw s 217 0 0) 217 6 (gI s 217 6 - 1)) := Rt_acted hh (by rw [e6_l]; omega)
  have s6_l : gI (gw (gw s 217 0 0) 217 6 (gI s 217 6 - 1)) 217 6 = gI s 217 6 - 1 := rd_same rfl
  have hc_l : ∀ k_l, gI (gw (gw s 217 0 0) 217 6 (gI s 217 6 - 1)) 218 k_l = gI s 218 k_l ∧ gI (gw (gw s 217 0 0) 217 6 (gI s 217 6 - 1)) 221 k_l = gI s 221 k_l := fun k_l => ⟨(rd_a rfl (by decide)).trans (rd_a rfl (by decide)), (rd_a rfl (by decide)).trans (rd_a rfl (by decide))⟩
  have hn2 : 232 ≤ gn (gw (gw s 217 0 0) 217 6 (gI s 217 6 - 1)) := hn
  have b1 : gR (gw (gw s 217 0 0) 217 6 (gI s 217 6 - 1)) 217 1 = 218 := r1_l
  have b5 : gR (gw (gw s 217 0 0) 217 6 (gI s 217 6 - 1)) 217 5 = 221 := r5_l
  generalize gw (gw s 217 0 0) 217 6 (gI s 217 6 - 1) = t at *
  refine gQ_loop (fun y_l => y_l.1 = 217 ∧ (0 ≤ y_l.2.1 ∧ y_l.2.1 ≤ 340) ∧ Fw WR t y_l.2.2 ∧ gI y_l.2.2 217 6 = gI t 217 6 ∧ (∀ k_l, gI y_l.2.2 221 k_l = gI t 221 k_l)) (fun y_l hy => ?_) ⟨rfl, ⟨Int.le_refl 0, (by decide : (0 : Int) ≤ 340)⟩, Fw_rf hn2, rfl, fun _ => rfl⟩
  obtain ⟨x0_l, x1_l, y1⟩ := y_l
  obtain ⟨q0, hb_l, h5, h6, h7⟩ := hy
  dsimp only at q0 hb_l h5 h6 h7
  subst q0
  have t1_l : gR y1 217 1 = 218 := (h5.2.1 217 1 (Nat.lt_of_lt_of_le (by decide) h5.1.1)).trans b1
  have t5_l : gR y1 217 5 = 221 := (h5.2.1 217 5 (Nat.lt_of_lt_of_le (by decide) h5.1.1)).trans b5
  show gQ (sb_260_26 217 x1_l y1) _
  unfold sb_260_26
  by_cases c : x1_l < 340
  · have hA : 0 ≤ gI s 217 6 - 1 ∧ gI s 217 6 - 1 ≤ 11 := by omega
    rw [if_pos c, t1_l, t5_l, h6, s6_l, g32_eq (v := 340 * (gI s 217 6 - 1)) (by omega) (by omega), g32_eq (v := 340 * (gI s 217 6 - 1) + x1_l) (by omega) (by omega), g32_eq (v := x1_l + 1) (by omega) (by omega)]
    have hv : (340 * (gI s 217 6 - 1) + x1_l).toNat = 340 * (gI s 217 6 - 1).toNat + x1_l.toNat := by omega
    have e21_l : gI y1 221 (340 * (gI s 217 6 - 1) + x1_l).toNat = gI s 221 (340 * (gI s 217 6 - 1).toNat + x1_l.toNat) := by rw [h7, (hc_l _).2, hv]
    refine gQ_chk (gQ_chk (gQ_ret ⟨rfl, by dsimp only; omega, ?_, (rd_a (a := 217) rfl (by decide)).trans (h6.trans s6_l), fun k_l => (rd_a (a := 221) rfl (by decide)).trans (h7 k_l)⟩))
    dsimp only
    rw [e21_l]
    cases hm : mnt x1_l.toNat with
    | true => exact Fw_wv h5 (WR_8 hm)
    | false =>
      have e8 := h8.2 (gI s 217 6 - 1).toNat (by omega) x1_l.toNat (by omega) hm
      refine ⟨h5.1, h5.2.1, fun a_l k_l ha_l hf => ?_⟩
      show (if a_l = 218 ∧ k_l = x1_l.toNat then _ else gI y1 a_l k_l) = _
      by_cases ck : a_l = 218 ∧ k_l = x1_l.toNat
      · rw [if_pos ck, e8, ck.1, ck.2]
        exact (hc_l _).1.symm
      · rw [if_neg ck]
        exact h5.2.2 a_l k_l ha_l hf
  · rw [if_neg c]
    exact gQ_map (gQ_ret (Rt_fw hR h5))
end Un

end
