/-! the full relation: rows of the model and courts of the class -/
/-- a row of the model (at O of the array R), and the book B with the court C and its log -/
noncomputable def RW (s : gS) (R O B C : Nat) : Prop := (∀ k, KK k → gI s R (O + k) = cv s B C k) ∧ Vq (fun k => gI s R (O + k)) ∧ (0 ≤ gI s R (O + 13) ∧ gI s R (O + 13) ≤ 60) ∧ ∀ i j : Nat, (i : Int) < gI s R (O + 13) → j < 4 → gI s R (O + 100 + 4 * i + j) = gI s (C + 5) (4 * ((gI s R (O + 13)).toNat - 1 - i) + j)
/-- what is more than texts -/
noncomputable def Rx (s : gS) : Prop := RW s 218 0 9 15 ∧ (gI s 217 3 = 1 → RW s 219 0 54 60 ∧ ∃ T, Tlw s 219 54 T) ∧ (gI s 0 14 = gI s 217 6 ∧ (0 ≤ gI s 0 13 ∧ gI s 0 13 ≤ 11) ∧ (0 ≤ gI s 0 14 ∧ gI s 0 14 ≤ 12) ∧ ∀ j : Nat, (j : Int) < gI s 0 14 → RW s 221 (340 * ((gI s 0 14).toNat - 1 - j)) 9 (pst (gI s 0 13) j)) ∧ ∃ T, Tlw s 218 9 T
/-- cells that no such row holds -/
noncomputable def WX (a k : Nat) : Bool := csa a || (mss a k || (Nat.beq a 220 || ((Nat.beq a 0 && Nat.beq k 16) || Nat.beq a 231)))
section Rx1
variable {s t u : gS} {V W : Nat → Int} {R O B C : Nat} {p : gP} {T : (Nat → Int) → Int}
theorem Vg_e (h : Vg V) (he : ∀ k, k < 100 → V k = W k) : Vg W := by
  obtain ⟨⟨h1, h2⟩, h3, h4⟩ := h
  refine ⟨⟨?_, ?_⟩, fun i_l hi_l => ?_, fun i_l hi_l => ?_⟩
  · rw [← he 3 (by decide)]
    exact h1
  · rw [← he 4 (by decide)]
    exact h2
  · rw [← he (40 + 6 * i_l) (by omega), ← he (43 + 6 * i_l) (by omega), ← he (44 + 6 * i_l) (by omega)]
    exact h3 i_l hi_l
  · rw [← he (16 + 3 * i_l) (by omega), ← he (16 + 3 * i_l + 2) (by omega)]
    exact h4 i_l hi_l
theorem pa_in {k : Nat} (hk : k < 100) : (B ≤ pa B C k ∧ pa B C k < B + 6) ∨ (C ≤ pa B C k ∧ pa B C k < C + 12) := by
  unfold pa
  repeat' split
  all_goals omega
theorem RW_e (h : RW s R O B C) (h1 : ∀ k, k < 340 → gI t R (O + k) = gI s R (O + k)) (h2 : ∀ a k, B ≤ a → a < B + 6 → gI t a k = gI s a k) (h3 : ∀ a k, C ≤ a → a < C + 12 → gI t a k = gI s a k) : RW t R O B C := by
  obtain ⟨g1, g2, g3_l, g4⟩ := h
  have e13_l := h1 13 (by decide)
  refine ⟨fun k hk => ?_, ⟨Vg_e g2.1 (fun k hk => (h1 k (by omega)).symm), Vp_k g2.2 (fun k hk => (h1 k (by have := hk.1; omega)).symm)⟩, by rw [e13_l]; exact g3_l, fun i_l j_l hi_l hj => ?_⟩
  · have e1_l : cv t B C k = cv s B C k := by
      rcases pa_in (B := B) (C := C) hk.1 with c_l | c_l
      · exact h2 _ _ c_l.1 c_l.2
      · exact h3 _ _ c_l.1 c_l.2
    rw [h1 k (by have := hk.1; omega), e1_l]
    exact g1 k hk
  · rw [e13_l] at hi_l ⊢
    rw [h3 (C + 5) _ (by omega) (by omega), show O + 100 + 4 * i_l + j_l = O + (100 + 4 * i_l + j_l) by omega, h1 _ (by omega), show O + (100 + 4 * i_l + j_l) = O + 100 + 4 * i_l + j_l by omega]
    exact g4 i_l j_l hi_l hj
theorem Tlw_e (hJ : J p s) (hB : B < 232 ∧ k0 B = 0) (h : Tlw s R B T) (h1 : ∀ k, k = 1 ∨ k = 2 ∨ 340 ≤ k → gI t R k = gI s R k) (h2 : ∀ a k, a < gn s → gR t a k = gR s a k) (h3 : ∀ a, a < gn s → gK t a = gK s a) (h4 : ∀ a k, a < gn s → 232 ≤ a → gI t a k = gI s a k) : Tlw t R B T := by
  have hn := hJ.1.1
  have rB_l : gR t B 11 = gR s B 11 := h2 B 11 (by omega)
  rcases h with ⟨t1_l, t2_l, t3_l⟩ | ⟨y_l, k, t1_l, ⟨L_l, e_l, ⟨l1, l2, l3⟩, l4, l5, l6⟩, ⟨t3_l, t4_l⟩, t5_l, t6⟩
  · exact Or.inl ⟨t1_l, (h1 1 (by omega)).trans t2_l, rB_l.trans t3_l⟩
  · obtain ⟨⟨a1_l, a2⟩, ⟨a3, a4⟩, -⟩ := (hJ.1.2.2.2 B hB.1 hB.2).resolve_left (by omega)
    have rA : gR t (gR s B 11) 1 = gR s (gR s B 11) 1 := h2 _ 1 a2
    refine Or.inr ⟨y_l, k, t1_l, ⟨L_l, e_l, ⟨(h1 1 (by omega)).trans l1, (h1 2 (by omega)).trans l2, l3⟩, l4, fun j_l hj => (h1 _ (by omega)).trans (l5 j_l hj), l6⟩, ?_, ?_, t6⟩
    · rw [rB_l, rA]
      exact ⟨t3_l, t4_l⟩
    · rw [rB_l]
      obtain ⟨b1, b2, b3, b4⟩ := t5_l
      refine ⟨(h4 _ 0 a2 a1_l).trans b1, ?_, ?_, ?_⟩
      · rw [rA]
        exact Eq.trans (List.map_congr_left (fun j_l _ => h4 _ j_l a4 a3)) b2
      · rw [rA, h3 _ a4]
        exact b3
      · rw [rA]
        exact b4
theorem WX_f : ∀ a, a < 232 → ((9 ≤ a ∧ a < 27) ∨ (54 ≤ a ∧ a < 217) ∨ a = 218 ∨ a = 219 ∨ a = 221) → csa a = false := by decide +kernel
theorem WX_n {a k : Nat} (h : (9 ≤ a ∧ a < 27) ∨ (54 ≤ a ∧ a < 217) ∨ a = 218 ∨ a = 219 ∨ a = 221) : WX a k = false := by
  have h1 := WX_f a (by omega) h
  unfold WX mss
  rw [h1]
  simp only [Bool.false_or, Bool.or_eq_false_iff, Bool.and_eq_false_iff, Bool.not_eq_false', es_beqf]
  refine ⟨⟨?_, Or.inl (by omega)⟩, by omega, Or.inl (by omega), by omega⟩
  by_cases c : Nat.ble 223 a = true
  · have := Nat.le_of_ble_eq_true c
    omega
  · exact Or.inl (by
      cases hb : Nat.ble 223 a with
      | true => exact absurd hb c
      | false => rfl)
theorem WX_2 {a k : Nat} (h : 232 ≤ a) : WX a k = false := by
  have h1 : csa a = false := by
    unfold csa
    simp only [Bool.or_eq_false_iff, Bool.and_eq_false_iff, es_beqf]
    have hb_l : ∀ n_l, n_l < a → Nat.ble a n_l = false := fun n_l hn => by
      cases hx : Nat.ble a n_l with
      | true =>
        have := Nat.le_of_ble_eq_true hx
        omega
      | false => rfl
    exact ⟨by omega, by omega, by omega, by omega, by omega, by omega, Or.inr (hb_l 35 (by omega)), Or.inr (hb_l 53 (by omega))⟩
  have hb_l : Nat.ble a 230 = false := by
    cases hx : Nat.ble a 230 with
    | true =>
      have := Nat.le_of_ble_eq_true hx
      omega
    | false => rfl
  unfold WX mss
  rw [h1, hb_l]
  simp only [Bool.false_or, Bool.and_false, Bool.or_eq_false_iff, Bool.and_eq_false_iff, es_beqf]
  exact ⟨Or.inl (by omega), by omega, Or.inl (by omega), by omega⟩
/-- what touches none of it keeps the full relation -/
theorem Rx_fw (hJ : J p s) (h : Rx s) (hf : Fw WX s t) : Rx t := by
  obtain ⟨h1, h2, ⟨h3, h4, h5, h6⟩, T, hT_l⟩ := h
  have hn := hJ.1.1
  have e_l : ∀ a_l k_l, ((9 ≤ a_l ∧ a_l < 27) ∨ (54 ≤ a_l ∧ a_l < 217) ∨ a_l = 218 ∨ a_l = 219 ∨ a_l = 221) → gI t a_l k_l = gI s a_l k_l := fun a_l k_l ha_l => hf.2.2 a_l k_l (by omega) (WX_n ha_l)
  have e13_l : gI t 0 13 = gI s 0 13 := hf.2.2 0 13 (by omega) rfl
  have e14_l : gI t 0 14 = gI s 0 14 := hf.2.2 0 14 (by omega) rfl
  have e3_l : gI t 217 3 = gI s 217 3 := hf.2.2 217 3 (by omega) rfl
  have e6_l : gI t 217 6 = gI s 217 6 := hf.2.2 217 6 (by omega) rfl
  have law_l : ∀ (R_l B_l : Nat) (T : (Nat → Int) → Int), R_l = 218 ∨ R_l = 219 → (B_l = 9 ∨ B_l = 54) → Tlw s R_l B_l T → Tlw t R_l B_l T := fun R_l B_l T hR hB_l hx => by
    refine Tlw_e hJ ?_ hx (fun k_l _ => e_l R_l k_l (by omega)) (fun a_l k_l ha_l => hf.2.1 a_l k_l ha_l) (fun a_l ha_l => hf.1.2.2 a_l ha_l) (fun a_l k_l ha_l h2 => hf.2.2 a_l k_l ha_l (WX_2 h2))
    obtain ⟨b1, b2, b3, -⟩ := k0_b
    rcases hB_l with rfl | rfl
    · exact ⟨by decide, b1⟩
    · exact ⟨by decide, b3⟩
  refine ⟨RW_e h1 (fun k_l _ => e_l 218 _ (by omega)) (fun a_l k_l _ _ => e_l a_l k_l (by omega)) (fun a_l k_l _ _ => e_l a_l k_l (by omega)), fun hi_l => ?_, ⟨by rw [e14_l, e6_l]; exact h3, by rw [e13_l]; exact h4, by rw [e14_l]; exact h5, fun j_l hj => ?_⟩, T, law_l 218 9 T (Or.inl rfl) (Or.inl rfl) hT_l⟩
  · obtain ⟨x1_l, T2, x2_l⟩ := h2 (by rw [← e3_l]; exact hi_l)
    exact ⟨RW_e x1_l (fun k_l _ => e_l 219 _ (by omega)) (fun a_l k_l _ _ => e_l a_l k_l (by omega)) (fun a_l k_l _ _ => e_l a_l k_l (by omega)), T2, law_l 219 54 T2 (Or.inr rfl) (Or.inr rfl) x2_l⟩
  · rw [e14_l] at hj ⊢
    rw [e13_l]
    refine RW_e (h6 j_l hj) (fun k_l _ => e_l 221 _ (by omega)) (fun a_l k_l _ _ => e_l a_l k_l (by omega)) (fun a_l k_l ha_l hb_l => e_l a_l k_l ?_)
    unfold pst at ha_l hb_l
    omega
end Rx1
