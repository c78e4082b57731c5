/-! acts: what is remembered, on both sides -/
noncomputable def pn (n : Nat) : Nat := if n < 12 then n + 1 else 12
noncomputable def psh (c : gCt) (P : Nat → gCt) (j : Nat) : gCt := if j = 0 then c else P (j - 1)
/-- cells that the class's acts change; the model's -/
noncomputable def WC (a k : Nat) : Bool := csa a || ((Nat.ble 15 a && Nat.ble a 26) || ((Nat.ble 73 a && Nat.ble a 216) || ((Nat.beq a 0 && (Nat.beq k 13 || Nat.beq k 14)) || Nat.beq a 231)))
noncomputable def WM (a k : Nat) : Bool := msd a k || (Nat.beq a 221 || (Nat.beq a 220 || (Nat.beq a 217 && Nat.beq k 6)))
section Cm
variable {s t u : gS} {c : gCt} {n i : Nat} {P : Nat → gCt} {p : gP} {V : Nat → Int} {L : Nat → Nat → Int} {A C R O a k : Nat}
theorem WC_t (h : (15 ≤ a ∧ a ≤ 26) ∨ (73 ≤ a ∧ a ≤ 216) ∨ (a = 0 ∧ (k = 13 ∨ k = 14)) ∨ a = 231) : WC a k = true := by
  unfold WC
  simp only [Bool.or_eq_true, Bool.and_eq_true, Nat.ble_eq, es_beq]
  exact Or.inr (by omega)
theorem csa_n (h : (9 ≤ a ∧ a < 27) ∨ (36 ≤ a ∧ a < 42) ∨ 54 ≤ a) : csa a = false := by
  cases hc : csa a with
  | false => rfl
  | true =>
    unfold csa at hc
    simp only [Bool.or_eq_true, Bool.and_eq_true, es_beq, Nat.ble_eq] at hc
    omega
theorem WC_n (h : (9 ≤ a ∧ a < 15) ∨ (54 ≤ a ∧ a < 73) ∨ (217 ≤ a ∧ a ≠ 231)) : WC a k = false := by
  cases hc : WC a k with
  | false => rfl
  | true =>
    unfold WC at hc
    rw [csa_n (by omega)] at hc
    simp only [Bool.false_or, Bool.or_eq_true, Bool.and_eq_true, es_beq, Nat.ble_eq] at hc
    omega
theorem WM_n (h : a < 217 ∨ (a = 217 ∧ k = 3) ∨ (a = 218 ∧ mnt k = false) ∨ a = 219 ∨ 231 ≤ a) : WM a k = false := by
  cases hc_l : WM a k with
  | false => rfl
  | true =>
    unfold WM msd mss at hc_l
    simp only [Bool.or_eq_true, Bool.and_eq_true, es_beq, Nat.ble_eq, Bool.not_eq_true', Bool.or_eq_false_iff, es_beqf] at hc_l
    rcases hc_l with ((hc_l | hc_l) | ⟨e1_l, e2_l⟩) | hc_l | hc_l | hc_l
    · omega
    · omega
    · rcases h with h | h | ⟨h, h9⟩ | h | h
      · omega
      · omega
      · rw [h9] at e2_l
        cases e2_l
      · omega
      · omega
    · omega
    · omega
    · omega
theorem uM : ∀ a k, msd a k = true → WM a k = true := fun a k h_l => by
  unfold WM
  rw [h_l]
  rfl
/-- a cell of a row: in the book, or in the court -/
theorem pa_c (hk : KK k) : (∃ o, o < 6 ∧ ∀ C, pa 9 C k = 9 + o) ∨ (∃ o, o < 12 ∧ (∀ C, pa 9 C k = C + o) ∧ ∀ C, CCr C (C + o) (pj k) ∨ LCr C (C + o) (pj k)) := by
  obtain ⟨h1, h2, h3, h4⟩ := hk
  by_cases c1 : k < 16
  · have hc_l : (k = 0 ∨ k = 3 ∨ k = 5 ∨ k = 10 ∨ k = 11 ∨ k = 12) ∨ k = 13 ∨ (k = 4 ∨ k = 6 ∨ k = 7 ∨ k = 8 ∨ k = 9 ∨ k = 14) := by omega
    rcases hc_l with hc_l | hc_l | hc_l
    · rcases hc_l with rfl | rfl | rfl | rfl | rfl | rfl <;> exact Or.inl ⟨0, by decide, fun C => rfl⟩
    · subst hc_l
      exact Or.inr ⟨4, by decide, fun C => rfl, fun C => Or.inr (Or.inl ⟨rfl, rfl⟩)⟩
    · rcases hc_l with rfl | rfl | rfl | rfl | rfl | rfl <;> exact Or.inr ⟨0, by decide, fun C => rfl, fun C => Or.inl (Or.inl ⟨rfl, by decide, by decide⟩)⟩
  by_cases c2 : k < 40
  · refine Or.inl ⟨1 + (k - 16) % 3, by omega, fun C => ?_⟩
    unfold pa
    rw [if_neg (by omega), if_pos (by omega)]
    omega
  by_cases c3 : k < 76
  · refine Or.inr ⟨6 + (k - 40) / 6, by omega, fun C => ?_, fun C => Or.inl (Or.inr (Or.inr ⟨by omega, by omega, ?_⟩))⟩
    · unfold pa
      rw [if_neg (by omega), if_neg (by omega), if_pos (by omega)]
      omega
    · unfold pj
      rw [if_neg (by omega), if_neg (by omega), if_pos (by omega)]
      omega
  by_cases c4 : k < 88
  · refine Or.inl ⟨4 + (k - 76) % 2, by omega, fun C => ?_⟩
    unfold pa
    rw [if_neg (by omega), if_neg (by omega), if_neg (by omega), if_pos (by omega)]
    omega
  · refine Or.inr ⟨2 + (k - 88) % 2, by omega, fun C => ?_, fun C => Or.inl (Or.inr (Or.inl ⟨by omega, ?_⟩))⟩
    · unfold pa
      rw [if_neg (by omega), if_neg (by omega), if_neg (by omega), if_neg (by omega)]
      omega
    · unfold pj
      rw [if_neg (by omega), if_neg (by omega), if_neg (by omega), if_neg (by omega)]
      omega
/-- a court that was copied -/
theorem Csw_FC (hF : FC A C s t) (hA : 15 ≤ A) (h : Csw s 9 C V L) (h13 : V 13 ≤ 60) : Csw t 9 A V L := by
  refine ⟨fun k_l hk => ?_, fun i_l j_l hi_l hj => ?_⟩
  · refine Eq.trans ?_ (h.1 k_l hk)
    show gI t (pa 9 A k_l) (pj k_l) = gI s (pa 9 C k_l) (pj k_l)
    rcases pa_c hk with ⟨o, ho, e_l⟩ | ⟨o, ho, e_l, hw⟩
    · rw [e_l, e_l]
      exact (hF.2 _ _).2 (fun z_l => by have := blk z_l; omega)
    · rw [e_l, e_l, (hF.2 _ _).1 (hw A), show A + o - A + C = C + o by omega]
  · refine Eq.trans ?_ (h.2 i_l j_l hi_l hj)
    rw [(hF.2 (A + 5) _).1 (Or.inr (Or.inr ⟨rfl, by omega⟩)), show A + 5 - A + C = C + 5 by omega]
theorem pn_b : n ≤ 12 → pn n ≤ 12 ∧ 1 ≤ pn n ∧ pn n ≤ n + 1 := fun h_l => by
  unfold pn
  split <;> omega
theorem ct_140 (hg : RF s) (hn : 232 ≤ gn s) (h13 : c.1 13 ≤ 60) (hp : n ≤ 12) (h : Cs s c n P) : gQ (f_140 0 s) (fun r => Cs r.2.2.2 c (pn n) (psh c P) ∧ Fw WC s r.2.2.2) := by
  obtain ⟨c1_l, c2_l, c3_l, c4_l⟩ := h
  have hm_l : grem (g32 (gI s 0 13 + 1)) 12 = (((gI s 0 13).toNat + 1) % 12 : Nat) := by
    rw [g32_eq (v := gI s 0 13 + 1) (by omega) (by omega), grem_eq (x := gI s 0 13 + 1) (c := 12) (by omega) (by decide)]
    omega
  generalize hi : ((gI s 0 13).toNat + 1) % 12 = i at hm_l
  have hi12 : i < 12 := by omega
  unfold f_140
  rw [hm_l]
  dsimp only
  have c13_l : gI (gw s 0 13 ((i : Nat) : Int)) 0 13 = ((i : Nat) : Int) := rd_same rfl
  have r12 : gR (gw s 0 13 ((i : Nat) : Int)) 0 12 = 72 := (rr_0_12 hg).2
  have r5_l : gR (gw s 0 13 ((i : Nat) : Int)) 0 5 = 15 := (rr_0_5 hg).2
  have rp : gR (gw s 0 13 ((i : Nat) : Int)) 72 i = 73 + 12 * i := (hg 72 i (by decide) (fun z_l => by rw [k0_72.1] at z_l; omega)).trans (r0_72 i hi12).1
  rw [c13_l, r12, r5_l, Int.toNat_natCast, rp]
  refine gQ_chk ?_
  have hgw : RF (gw s 0 13 ((i : Nat) : Int)) := RF_sm hg rfl
  refine gQ_v0 (A := fun z_l => FC (73 + 12 * i) 15 (gw s 0 13 ((i : Nat) : Int)) z_l) (fun r hr => (gQ_T (s_22 hgw ⟨by omega, (r0_72 i hi12).2⟩ ⟨by decide, k0_72.2⟩ (by omega)) r hr).2) (fun s2_l hF => ?_)
  refine gQ_ret ?_
  dsimp only
  have hb_l : ∀ a_l k_l, ¬ (73 + 12 * i ≤ a_l ∧ a_l < 73 + 12 * i + 12) → ¬ (a_l = 0 ∧ (k_l = 13 ∨ k_l = 14)) → gI (gw s2_l 0 14 (min 12 (g32 (gI s2_l 0 14 + 1)))) a_l k_l = gI s a_l k_l := fun a_l k_l hx hz => by
    have q1_l : gI (gw s2_l 0 14 (min 12 (g32 (gI s2_l 0 14 + 1)))) a_l k_l = gI s2_l a_l k_l := by
      show (if a_l = 0 ∧ k_l = 14 then _ else gI s2_l a_l k_l) = _
      rw [if_neg (by omega)]
    rw [q1_l, (hF.2 a_l k_l).2 (fun z_l => hx (blk z_l))]
    show (if a_l = 0 ∧ k_l = 13 then _ else gI s a_l k_l) = _
    rw [if_neg (by omega)]
  have v13 : gI (gw s2_l 0 14 (min 12 (g32 (gI s2_l 0 14 + 1)))) 0 13 = ((i : Nat) : Int) := by
    have q1_l : gI (gw s2_l 0 14 (min 12 (g32 (gI s2_l 0 14 + 1)))) 0 13 = gI s2_l 0 13 := rd_k rfl (by decide)
    rw [q1_l, (hF.2 0 13).2 (fun z_l => by have := blk z_l; omega)]
    exact c13_l
  have v14 : gI (gw s2_l 0 14 (min 12 (g32 (gI s2_l 0 14 + 1)))) 0 14 = min 12 (gI s 0 14 + 1) := by
    have q1_l : gI s2_l 0 14 = gI s 0 14 := by
      rw [(hF.2 0 14).2 (fun z_l => by have := blk z_l; omega)]
      exact rd_k rfl (by decide)
    rw [rd_same rfl, q1_l, g32_eq (v := gI s 0 14 + 1) (by omega) (by omega)]
  have hs : Sm s (gw s2_l 0 14 (min 12 (g32 (gI s2_l 0 14 + 1)))) := hF.1
  have hs2 : ∀ a_l k_l, a_l ≠ 0 → gI (gw s2_l 0 14 (min 12 (g32 (gI s2_l 0 14 + 1)))) a_l k_l = gI s2_l a_l k_l := fun a_l k_l ha_l => rd_a rfl ha_l
  have f1_l : Csw (gw s 0 13 ((i : Nat) : Int)) 9 15 c.1 c.2 := Csw_e c1_l (fun a_l k_l ha_l _ => rd_a rfl (by omega)) (fun a_l k_l ha_l _ => rd_a rfl (by omega))
  have f2_l : Csw s2_l 9 (73 + 12 * i) c.1 c.2 := Csw_FC hF (by omega) f1_l h13
  generalize gw s2_l 0 14 (min 12 (g32 (gI s2_l 0 14 + 1))) = t at *
  refine ⟨⟨Csw_e c1_l (fun a_l k_l ha_l hb2 => hb_l a_l k_l (by omega) (by omega)) (fun a_l k_l ha_l hb2 => hb_l a_l k_l (by omega) (by omega)), ?_, by rw [v13]; omega, fun j_l hj => ?_⟩, Fw_sm (Fw_rf hn) hs (fun a_l k_l _ hf => hb_l a_l k_l (fun z_l => ?_) (fun z_l => ?_))⟩
  · rw [v14, c2_l]
    unfold pn
    split <;> omega
  · have hj2 : j_l < 12 ∧ j_l - 1 < 12 ∧ (j_l ≠ 0 → j_l - 1 < n) := by
      unfold pn at hj
      split at hj <;> omega
    by_cases cj : j_l = 0
    · have e1_l : pst ((i : Nat) : Int) j_l = 73 + 12 * i := by
        unfold pst
        rw [Int.toNat_natCast, cj]
        omega
      have e2_l : psh c P j_l = c := if_pos cj
      rw [v13, e1_l, e2_l]
      exact Csw_e f2_l (fun a_l k_l ha_l _ => hs2 a_l k_l (by omega)) (fun a_l k_l ha_l _ => hs2 a_l k_l (by omega))
    · have e1_l : pst ((i : Nat) : Int) j_l = pst (gI s 0 13) (j_l - 1) := by
        unfold pst
        rw [Int.toNat_natCast]
        omega
      have e2_l : psh c P j_l = P (j_l - 1) := if_neg cj
      rw [v13, e1_l, e2_l]
      exact Csw_e (c4_l (j_l - 1) (hj2.2.2 cj)) (fun a_l k_l ha_l hb2 => hb_l a_l k_l (by omega) (by omega)) (fun a_l k_l ha_l hb2 => by
        unfold pst at ha_l hb2
        exact hb_l a_l k_l (by omega) (by omega))
  · rw [WC_t (by omega)] at hf
    cases hf
  · rw [WC_t (by omega)] at hf
    cases hf
/-- a row that was copied -/
theorem Msw_m {R' O' : Nat} (h : Msw s R O V L) (h13 : V 13 ≤ 60) (h1 : ∀ k, k < 340 → gI t R' (O' + k) = gI s R (O + k)) : Msw t R' O' V L := by
  refine ⟨fun k hk => (h1 k (by have := hk.1; omega)).trans (h.1 k hk), fun i_l j_l hi_l hj => ?_⟩
  rw [show O' + 100 + 4 * i_l + j_l = O' + (100 + 4 * i_l + j_l) by omega, h1 _ (by omega), show O + (100 + 4 * i_l + j_l) = O + 100 + 4 * i_l + j_l by omega]
  exact h.2 i_l j_l hi_l hj
theorem mt_209 (hg : RF s) (h13 : c.1 13 ≤ 60) (hp : n ≤ 12) (hP : ∀ j, j < n → (P j).1 13 ≤ 60) (h : Ms s c n P) : gQ (f_209 217 s) (fun r => Ms r.2.2.2 c (pn n) (psh c P) ∧ Sm s r.2.2.2 ∧ ∀ a k, a ≠ 221 → ¬ (a = 217 ∧ k = 6) → gI r.2.2.2 a k = gI s a k) := by
  obtain ⟨m1_l, m2_l, m3_l⟩ := h
  have r1_l : gR s 217 1 = 218 := (rr_217_1 hg).2
  have r5_l : gR s 217 5 = 221 := (rr_217_5 hg).2
  have hfin : ∀ (t_l : gS) (A_l : Nat), A_l < 12 → A_l + 1 = pn n → A_l ≤ n → gI t_l 217 6 = (A_l : Int) → Sm s t_l → (∀ a k, a ≠ 221 → ¬ (a = 217 ∧ k = 6) → gI t_l a k = gI s a k) → (∀ j, j < A_l → Msw t_l 221 (340 * (A_l - 1 - j)) (P j).1 (P j).2) → gQ (fb_209_50 217 t_l) (fun r => Ms r.2.2.2 c (pn n) (psh c P) ∧ Sm s r.2.2.2 ∧ ∀ a k, a ≠ 221 → ¬ (a = 217 ∧ k = 6) → gI r.2.2.2 a k = gI s a k) := by
    intro t_l A_l hA hA1 hAn ht hs ho hj
    have t1_l : gR t_l 217 1 = 218 := by
      show t_l.2.2.2 217 1 = 218
      rw [hs.2.2]
      exact r1_l
    have t5_l : gR t_l 217 5 = 221 := by
      show t_l.2.2.2 217 5 = 221
      rw [hs.2.2]
      exact r5_l
    intro r hr
    obtain ⟨b1, b2, b3, b4, b5⟩ := b_209 hA ht t1_l t5_l r hr
    have hss : Sm s r.2.2.2 := ⟨b1.1.trans hs.1, b1.2.1.trans hs.2.1, b1.2.2.trans hs.2.2⟩
    refine ⟨⟨Msw_m m1_l h13 (fun k hk => (b3 218 _ (by decide) (by omega)).trans (ho 218 _ (by decide) (by omega))), by rw [b2]; omega, fun j hj2 => ?_⟩, hss, fun a k ha_l hz => (b3 a k ha_l hz).trans (ho a k ha_l hz)⟩
    by_cases cj : j = 0
    · have e2_l : psh c P j = c := if_pos cj
      rw [e2_l, show 340 * (pn n - 1 - j) = 340 * A_l by omega]
      refine Msw_m m1_l h13 (fun k hk => ?_)
      rw [b4 k hk, Nat.zero_add]
      exact ho 218 k (by decide) (by omega)
    · have e2_l : psh c P j = P (j - 1) := if_neg cj
      rw [e2_l, show 340 * (pn n - 1 - j) = 340 * (A_l - 1 - (j - 1)) by omega]
      exact Msw_m (hj (j - 1) (by omega)) (hP (j - 1) (by omega)) (fun k hk => b5 _ (by omega))
  unfold f_209
  by_cases c12 : gI s 217 6 = 12
  · rw [if_pos c12]
    have n12 : n = 12 := by omega
    refine gQ_loop (fun y_l => y_l.1 = 217 ∧ (0 ≤ y_l.2.1 ∧ y_l.2.1 ≤ 3740) ∧ Sm s y_l.2.2 ∧ (∀ a k, a ≠ 221 → gI y_l.2.2 a k = gI s a k) ∧ (∀ k : Nat, (k : Int) < y_l.2.1 → gI y_l.2.2 221 k = gI s 221 (k + 340)) ∧ ∀ k : Nat, y_l.2.1 ≤ (k : Int) → gI y_l.2.2 221 k = gI s 221 k) (fun y_l hy => ?_) ⟨rfl, ⟨Int.le_refl 0, (by decide : (0 : Int) ≤ 3740)⟩, ⟨rfl, rfl, rfl⟩, fun _ _ _ => rfl, fun k hk => by dsimp only at hk; omega, fun _ _ => rfl⟩
    obtain ⟨x0_l, x1_l, y1⟩ := y_l
    obtain ⟨q0, hb_l, hs, h5, h6, h7⟩ := hy
    dsimp only at q0 hb_l hs h5 h6 h7
    subst q0
    have t5_l : gR y1 217 5 = 221 := by
      show y1.2.2.2 217 5 = 221
      rw [hs.2.2]
      exact r5_l
    show gQ (sb_209_11 217 x1_l y1) _
    unfold sb_209_11
    by_cases c : x1_l < 3740
    · rw [if_pos c, t5_l, g32_eq (v := x1_l + 340) (by omega) (by omega), g32_eq (v := x1_l + 1) (by omega) (by omega)]
      refine gQ_chk (gQ_chk (gQ_ret ⟨rfl, ?_, hs, fun a k ha_l => ?_, fun k hk => ?_, fun k hk => ?_⟩))
      · dsimp only
        omega
      · dsimp only
        exact (rd_a rfl ha_l).trans (h5 a k ha_l)
      · dsimp only at hk ⊢
        show (if 221 = 221 ∧ k = x1_l.toNat then gI y1 221 (x1_l + 340).toNat else gI y1 221 k) = _
        by_cases ck : k = x1_l.toNat
        · rw [if_pos ⟨rfl, ck⟩, h7 _ (by omega), show (x1_l + 340).toNat = k + 340 by omega]
        · rw [if_neg (by omega)]
          exact h6 k (by omega)
      · dsimp only at hk ⊢
        show (if 221 = 221 ∧ k = x1_l.toNat then gI y1 221 (x1_l + 340).toNat else gI y1 221 k) = _
        rw [if_neg (by omega)]
        exact h7 k (by omega)
    · rw [if_neg c]
      refine gQ_map ?_
      have e6_l : gI y1 217 6 = 12 := (h5 217 6 (by decide)).trans c12
      rw [e6_l, g32_eq (v := (12 : Int) - 1) (by omega) (by omega)]
      refine hfin (gw y1 217 6 (12 - 1)) 11 (by decide) (by rw [n12]; rfl) (by omega) (rd_same rfl) hs (fun a k ha_l hz => ?_) (fun j hj => ?_)
      · show (if a = 217 ∧ k = 6 then _ else gI y1 a k) = _
        rw [if_neg hz]
        exact h5 a k ha_l
      · refine Msw_m (m3_l j (by omega)) (hP j (by omega)) (fun k hk => ?_)
        rw [rd_a (a := 221) rfl (by decide), h6 _ (by omega), show 340 * (11 - 1 - j) + k + 340 = 340 * (n - 1 - j) + k by omega]
  · rw [if_neg c12]
    have n11 : n < 12 := by omega
    exact hfin s n n11 (if_pos n11).symm (Nat.le_refl n) m2_l ⟨rfl, rfl, rfl⟩ (fun _ _ _ _ => rfl) (fun j hj => m3_l j hj)
end Cm
