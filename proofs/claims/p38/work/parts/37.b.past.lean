section Pt
variable {s s' u : gS} {p : gP}
theorem gQ_T {Q : Type} {x : Option Q} {P : Q → Prop} (h : gT x P) : gQ x P := by
  obtain ⟨r_l, h1, h2⟩ := h
  intro r1_l e_l
  rw [h1] at e_l
  cases e_l
  exact h2
theorem Tc_c {k : Nat} (hk : Tc k) : ∃ o q, o < 12 ∧ (∀ C, pa 9 C k = C + o) ∧ pj k = q ∧ ∀ C, CCr C (C + o) q := by
  rcases hk with rfl | rfl | ⟨x_l, hx, rfl⟩
  · exact ⟨0, 4, by decide, fun C => rfl, rfl, fun C => Or.inl ⟨rfl, by decide, by decide⟩⟩
  · exact ⟨0, 5, by decide, fun C => rfl, rfl, fun C => Or.inl ⟨rfl, by decide, by decide⟩⟩
  · have h6 : x_l = 0 ∨ x_l = 1 ∨ x_l = 2 ∨ x_l = 3 ∨ x_l = 4 ∨ x_l = 5 := by omega
    have hr : ∀ C o, 6 ≤ o → o < 12 → CCr C (C + o) 2 := fun C o h1 h2 => Or.inr (Or.inr ⟨by omega, by omega, by decide⟩)
    rcases h6 with rfl | rfl | rfl | rfl | rfl | rfl
    · exact ⟨6, 2, by decide, fun C => rfl, rfl, fun C => hr C 6 (by decide) (by decide)⟩
    · exact ⟨7, 2, by decide, fun C => rfl, rfl, fun C => hr C 7 (by decide) (by decide)⟩
    · exact ⟨8, 2, by decide, fun C => rfl, rfl, fun C => hr C 8 (by decide) (by decide)⟩
    · exact ⟨9, 2, by decide, fun C => rfl, rfl, fun C => hr C 9 (by decide) (by decide)⟩
    · exact ⟨10, 2, by decide, fun C => rfl, rfl, fun C => hr C 10 (by decide) (by decide)⟩
    · exact ⟨11, 2, by decide, fun C => rfl, rfl, fun C => hr C 11 (by decide) (by decide)⟩
theorem pa_15 : ∀ k, k < 100 → 9 ≤ pa 9 15 k ∧ pa 9 15 k < 27 ∧ 54 ≤ pa 54 60 k ∧ pa 54 60 k < 72 := by decide +kernel
theorem r0_72 : ∀ i, i < 12 → r0 72 i = 73 + 12 * i ∧ k0 (73 + 12 * i) = 2 := by decide +kernel
theorem k0_72 : k0 72 = 199 ∧ k0 15 = 2 := by decide +kernel
theorem blk {a b j : Nat} (h : CCr a b j ∨ LCr a b j) : a ≤ b ∧ b < a + 12 := by
  unfold CCr LCr at h
  omega
/-- the act before is remembered -/
theorem rt_140 {a0 : Nat} (hg : RF s) (hn : 232 ≤ gn s) (e0 : a0 = 0) (h : Rt s) : gQ (f_140 a0 s) (fun r => Rt r.2.2.2 ∧ RF r.2.2.2 ∧ 232 ≤ gn r.2.2.2) := by
  subst e0
  obtain ⟨h1, h2, h3, ⟨h4, h5, h6⟩, h7, h8⟩ := h
  have hm_l : grem (g32 (gI s 0 13 + 1)) 12 = (((gI s 0 13).toNat + 1) % 12 : Nat) := by
    rw [g32_eq (v := gI s 0 13 + 1) (by omega) (by omega), grem_eq (x := gI s 0 13 + 1) (c := 12) (by omega) (by decide)]
    omega
  generalize hi : ((gI s 0 13).toNat + 1) % 12 = i at hm_l
  have hi12 : i < 12 := by omega
  unfold f_140
  rw [hm_l]
  dsimp only
  have c13_l : gI (gw s 0 13 ((i : Nat) : Int)) 0 13 = ((i : Nat) : Int) := rd_same rfl
  have r12 : gR (gw s 0 13 ((i : Nat) : Int)) 0 12 = 72 := (rr_0_12 hg).2
  have r5_l : gR (gw s 0 13 ((i : Nat) : Int)) 0 5 = 15 := (rr_0_5 hg).2
  have rp : gR (gw s 0 13 ((i : Nat) : Int)) 72 i = 73 + 12 * i := (hg 72 i (by decide) (fun z_l => by rw [k0_72.1] at z_l; omega)).trans (r0_72 i hi12).1
  rw [c13_l, r12, r5_l, Int.toNat_natCast, rp]
  refine gQ_chk ?_
  have hgw : RF (gw s 0 13 ((i : Nat) : Int)) := RF_sm hg rfl
  refine gQ_v0 (A := fun z_l => FC (73 + 12 * i) 15 (gw s 0 13 ((i : Nat) : Int)) z_l) (fun r hr => (gQ_T (s_22 hgw ⟨by omega, (r0_72 i hi12).2⟩ ⟨by decide, k0_72.2⟩ (by omega)) r hr).2) (fun s2_l hF => ?_)
  refine gQ_ret ?_
  dsimp only
  have hb_l : ∀ a_l k_l, ¬ (73 + 12 * i ≤ a_l ∧ a_l < 73 + 12 * i + 12) → ¬ (a_l = 0 ∧ (k_l = 13 ∨ k_l = 14)) → gI (gw s2_l 0 14 (min 12 (g32 (gI s2_l 0 14 + 1)))) a_l k_l = gI s a_l k_l := fun a_l k_l hx hz => by
    have q1_l : gI (gw s2_l 0 14 (min 12 (g32 (gI s2_l 0 14 + 1)))) a_l k_l = gI s2_l a_l k_l := by
      show (if a_l = 0 ∧ k_l = 14 then _ else gI s2_l a_l k_l) = _
      rw [if_neg (by omega)]
    rw [q1_l, (hF.2 a_l k_l).2 (fun z_l => hx (blk z_l))]
    show (if a_l = 0 ∧ k_l = 13 then _ else gI s a_l k_l) = _
    rw [if_neg (by omega)]
  have v13 : gI (gw s2_l 0 14 (min 12 (g32 (gI s2_l 0 14 + 1)))) 0 13 = ((i : Nat) : Int) := by
    have q1_l : gI (gw s2_l 0 14 (min 12 (g32 (gI s2_l 0 14 + 1)))) 0 13 = gI s2_l 0 13 := rd_k rfl (by decide)
    rw [q1_l, (hF.2 0 13).2 (fun z_l => by have := blk z_l; omega)]
    exact c13_l
  have v14 : gI (gw s2_l 0 14 (min 12 (g32 (gI s2_l 0 14 + 1)))) 0 14 = min 12 (gI s 0 14 + 1) := by
    have q1_l : gI s2_l 0 14 = gI s 0 14 := by
      rw [(hF.2 0 14).2 (fun z_l => by have := blk z_l; omega)]
      exact rd_k rfl (by decide)
    rw [rd_same rfl, q1_l, g32_eq (v := gI s 0 14 + 1) (by omega) (by omega)]
  have hRF : RF (gw s2_l 0 14 (min 12 (g32 (gI s2_l 0 14 + 1)))) := RF_sm hgw hF.1.2.2
  have hgn : 232 ≤ gn (gw s2_l 0 14 (min 12 (g32 (gI s2_l 0 14 + 1)))) := by
    show 232 ≤ s2_l.1
    rw [hF.1.1]
    exact hn
  have hmin : min 12 (gI s 0 14 + 1) ≤ gI s 0 14 + 1 ∧ min 12 (gI s 0 14 + 1) ≤ 12 ∧ 0 ≤ min 12 (gI s 0 14 + 1) := by omega
  have hs2 : ∀ a_l k_l, a_l ≠ 0 → gI (gw s2_l 0 14 (min 12 (g32 (gI s2_l 0 14 + 1)))) a_l k_l = gI s2_l a_l k_l := fun a_l k_l ha_l => rd_a rfl ha_l
  generalize gw s2_l 0 14 (min 12 (g32 (gI s2_l 0 14 + 1))) = t at *
  have hc15 : ∀ k_l, k_l < 100 → cv t 9 15 k_l = cv s 9 15 k_l := fun k_l hk => by
    have := pa_15 k_l hk
    exact hb_l _ _ (by omega) (by omega)
  refine ⟨⟨fun k_l hk => ?_, fun k_l => ?_, fun he k_l hk => ?_, ⟨?_, ?_, fun j_l hj k_l hk => ?_⟩, ?_, fun j_l hj k_l hk hm2 => ?_⟩, hRF, hgn⟩
  · rw [hb_l 218 k_l (by omega) (by omega), hc15 k_l hk.1.1]
    exact h1 k_l hk
  · rw [hb_l 2 k_l (by omega) (by omega), hb_l 222 k_l (by omega) (by omega)]
    exact h2 k_l
  · have := pa_15 k_l hk.1.1
    have e1_l : cv t 54 60 k_l = cv s 54 60 k_l := hb_l _ _ (by omega) (by omega)
    rw [hb_l 219 k_l (by omega) (by omega), e1_l]
    exact h3 (by rw [← hb_l 217 3 (by omega) (by omega)]; exact he) k_l hk
  · rw [v13]; omega
  · rw [v14]; omega
  · have hk9 := (Tc_x hk).1.1
    rw [hc15 k_l hk9, v13]
    rw [v14] at hj
    obtain ⟨o, q_l, o1, o2, o3_l, o4_l⟩ := Tc_c hk
    by_cases cj : j_l = 0
    · have e1_l : pst ((i : Nat) : Int) j_l = 73 + 12 * i := by
        unfold pst
        rw [Int.toNat_natCast, cj]
        omega
      rw [e1_l]
      show gI t (pa 9 (73 + 12 * i) k_l) (pj k_l) = gI s (pa 9 15 k_l) (pj k_l)
      rw [o2, o2, o3_l]
      have e2_l : gI t (73 + 12 * i + o) q_l = gI s2_l (73 + 12 * i + o) q_l := hs2 _ _ (by omega)
      rw [e2_l, (hF.2 _ q_l).1 (Or.inl (o4_l _)), show 73 + 12 * i + o - (73 + 12 * i) + 15 = 15 + o by omega]
      exact rd_a rfl (by omega)
    · have e1_l : pst ((i : Nat) : Int) j_l = pst (gI s 0 13) (j_l - 1) := by
        unfold pst
        rw [Int.toNat_natCast]
        omega
      rw [e1_l]
      have e3_l : cv t 9 (pst (gI s 0 13) (j_l - 1)) k_l = cv s 9 (pst (gI s 0 13) (j_l - 1)) k_l := by
        refine hb_l _ _ ?_ ?_
        · rw [o2]
          unfold pst
          omega
        · rw [o2]
          unfold pst
          omega
      rw [e3_l]
      exact h6 (j_l - 1) (by omega) k_l hk
  · rw [hb_l 217 6 (by omega) (by omega)]; exact h7
  · rw [hb_l 217 6 (by omega) (by omega)] at hj
    rw [hb_l 221 _ (by omega) (by omega), hb_l 218 k_l (by omega) (by omega)]
    exact h8 j_l hj k_l hk hm2
theorem tx_c0 : ∀ k, k < 100 → (k ≠ 1 ∧ k ≠ 2 ∧ k ≠ 15) → mnt k = false → (k = 4 ∨ k = 6 ∨ (42 ≤ k ∧ k ≤ 72 ∧ k % 6 = 0)) ∨ pa 9 15 k < 15 := by decide +kernel
theorem tx_cut (k : Nat) (hk : Tx k) : Tc k ∨ (9 ≤ pa 9 15 k ∧ pa 9 15 k < 15) := by
  rcases tx_c0 k hk.1.1 hk.1.2 hk.2 with (c_l | c_l | c_l) | c_l
  · exact Or.inl (Or.inl c_l)
  · exact Or.inl (Or.inr (Or.inl c_l))
  · exact Or.inl (Or.inr (Or.inr ⟨(k - 42) / 6, by omega, by omega⟩))
  · exact Or.inr ⟨(pa_15 k hk.1.1).1, c_l⟩
/-- undo -/
theorem rt_130 {a0 : Nat} (hg : RF s) (hn : 232 ≤ gn s) (e0 : a0 = 0) (h : Rt s) : gQ (f_130 a0 s) (fun r => Rt r.2.2.2) := by
  subst e0
  have hh := h
  obtain ⟨h1, h2, h3, ⟨h4, h5, h6⟩, h7, h8⟩ := h
  unfold f_130
  by_cases c1 : gI s 0 14 < 1
  · rw [if_pos c1]
    exact gQ_ret hh
  rw [if_neg c1]
  obtain ⟨i_l, hi_l⟩ : ∃ i_l : Nat, gI s 0 13 = (i_l : Int) := ⟨(gI s 0 13).toNat, by omega⟩
  have hi12 : i_l < 12 := by omega
  have r12 : gR s 0 12 = 72 := (rr_0_12 hg).2
  have r5_l : gR s 0 5 = 15 := (rr_0_5 hg).2
  have rp : gR s 72 i_l = 73 + 12 * i_l := (hg 72 i_l (by decide) (fun z_l => by rw [k0_72.1] at z_l; omega)).trans (r0_72 i_l hi12).1
  rw [r12, r5_l, hi_l, Int.toNat_natCast, rp]
  refine gQ_chk ?_
  refine gQ_v0 (A := fun z_l => FC 15 (73 + 12 * i_l) s z_l) (fun r hr => (gQ_T (s_22 hg ⟨by decide, k0_72.2⟩ ⟨by omega, (r0_72 i_l hi12).2⟩ (by omega)) r hr).2) (fun s2_l hF => ?_)
  have w13_l : gI s2_l 0 13 = (i_l : Int) := by
    rw [(hF.2 0 13).2 (fun z_l => by have := blk z_l; omega)]
    exact hi_l
  have w14_l : gI s2_l 0 14 = gI s 0 14 := (hF.2 0 14).2 (fun z_l => by have := blk z_l; omega)
  have hm_l : grem (g32 (g32 ((i_l : Int) + 12) - 1)) 12 = (((i_l + 11) % 12 : Nat) : Int) := by
    rw [g32_eq (v := (i_l : Int) + 12) (by omega) (by omega), g32_eq (v := (i_l : Int) + 12 - 1) (by omega) (by omega), grem_eq (x := (i_l : Int) + 12 - 1) (c := 12) (by omega) (by decide)]
    omega
  rw [w13_l, hm_l]
  clear hm_l
  dsimp only
  have x14 : gI (gw s2_l 0 13 (((i_l + 11) % 12 : Nat) : Int)) 0 14 = gI s 0 14 := (rd_k rfl (by decide)).trans w14_l
  rw [x14, g32_eq (v := gI s 0 14 - 1) (by omega) (by omega)]
  refine gQ_ret ?_
  dsimp only
  have y13 : gI (gw (gw s2_l 0 13 (((i_l + 11) % 12 : Nat) : Int)) 0 14 (gI s 0 14 - 1)) 0 13 = (((i_l + 11) % 12 : Nat) : Int) := (rd_k rfl (by decide)).trans (rd_same rfl)
  have y14 : gI (gw (gw s2_l 0 13 (((i_l + 11) % 12 : Nat) : Int)) 0 14 (gI s 0 14 - 1)) 0 14 = gI s 0 14 - 1 := rd_same rfl
  have hs2 : ∀ a_l k_l, ¬ (a_l = 0 ∧ (k_l = 13 ∨ k_l = 14)) → gI (gw (gw s2_l 0 13 (((i_l + 11) % 12 : Nat) : Int)) 0 14 (gI s 0 14 - 1)) a_l k_l = gI s2_l a_l k_l := fun a_l k_l ha_l => by
    show (if a_l = 0 ∧ k_l = 14 then _ else if a_l = 0 ∧ k_l = 13 then _ else gI s2_l a_l k_l) = _
    rw [if_neg (by omega), if_neg (by omega)]
  generalize gw (gw s2_l 0 13 (((i_l + 11) % 12 : Nat) : Int)) 0 14 (gI s 0 14 - 1) = t at *
  have hb_l : ∀ a_l k_l, ¬ (15 ≤ a_l ∧ a_l < 27) → ¬ (a_l = 0 ∧ (k_l = 13 ∨ k_l = 14)) → gI t a_l k_l = gI s a_l k_l := fun a_l k_l hx hz => (hs2 a_l k_l hz).trans ((hF.2 a_l k_l).2 (fun z_l => hx (blk z_l)))
  have htc : ∀ k_l, Tc k_l → cv t 9 15 k_l = cv s 9 15 k_l := fun k_l hk => by
    obtain ⟨o, q_l, o1, o2, o3_l, o4_l⟩ := Tc_c hk
    have e0 := h6 0 (by omega) k_l hk
    have e1_l : pst (gI s 0 13) 0 = 73 + 12 * i_l := by
      unfold pst
      rw [hi_l, Int.toNat_natCast]
      omega
    rw [e1_l] at e0
    refine Eq.trans ?_ e0
    show gI t (pa 9 15 k_l) (pj k_l) = gI s (pa 9 (73 + 12 * i_l) k_l) (pj k_l)
    rw [o2, o2, o3_l, hs2 _ _ (by omega), (hF.2 _ q_l).1 (Or.inl (o4_l _)), show 15 + o - 15 + (73 + 12 * i_l) = 73 + 12 * i_l + o by omega]
  have hc15 : ∀ k_l, Tx k_l → cv t 9 15 k_l = cv s 9 15 k_l := fun k_l hk => by
    rcases tx_cut k_l hk with c_l | c_l
    · exact htc k_l c_l
    · exact hb_l _ _ (by omega) (by omega)
  refine ⟨fun k_l hk => ?_, fun k_l => ?_, fun he k_l hk => ?_, ⟨?_, ?_, fun j_l hj k_l hk => ?_⟩, ?_, fun j_l hj k_l hk hm2 => ?_⟩
  · rw [hb_l 218 k_l (by omega) (by omega), hc15 k_l hk]
    exact h1 k_l hk
  · rw [hb_l 2 k_l (by omega) (by omega), hb_l 222 k_l (by omega) (by omega)]
    exact h2 k_l
  · have := pa_15 k_l hk.1.1
    have e1_l : cv t 54 60 k_l = cv s 54 60 k_l := hb_l _ _ (by omega) (by omega)
    rw [hb_l 219 k_l (by omega) (by omega), e1_l]
    exact h3 (by rw [← hb_l 217 3 (by omega) (by omega)]; exact he) k_l hk
  · rw [y13]; omega
  · rw [y14]; omega
  · rw [y13]
    rw [y14] at hj
    have e1_l : pst ((((i_l + 11) % 12 : Nat) : Int)) j_l = pst (gI s 0 13) (j_l + 1) := by
      unfold pst
      rw [Int.toNat_natCast, hi_l, Int.toNat_natCast]
      omega
    obtain ⟨o, q_l, o1, o2, o3_l, o4_l⟩ := Tc_c hk
    have e3_l : cv t 9 (pst (gI s 0 13) (j_l + 1)) k_l = cv s 9 (pst (gI s 0 13) (j_l + 1)) k_l := by
      refine hb_l _ _ ?_ ?_
      · rw [o2]
        unfold pst
        omega
      · rw [o2]
        unfold pst
        omega
    rw [e1_l, e3_l, htc k_l hk]
    exact h6 (j_l + 1) (by omega) k_l hk
  · rw [hb_l 217 6 (by omega) (by omega)]; exact h7
  · rw [hb_l 217 6 (by omega) (by omega)] at hj
    rw [hb_l 221 _ (by omega) (by omega), hb_l 218 k_l (by omega) (by omega)]
    exact h8 j_l hj k_l hk hm2
end Pt
