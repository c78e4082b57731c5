section
/-! the full relation: rows of the model and courts of the class -/
/-- a row of the model (at O of the array R), and the book B with the court C and its log -/
noncomputable def RW (s : gS) (R O B C : Nat) : Prop := (∀ k, KK k → gI s R (O + k) = cv s B C k) ∧ Vq (fun k => gI s R (O + k)) ∧ (0 ≤ gI s R (O + 13) ∧ gI s R (O + 13) ≤ 60) ∧ ∀ i j : Nat, (i : Int) < gI s R (O + 13) → j < 4 → gI s R (O + 100 + 4 * i + j) = gI s (C + 5) (4 * ((gI s R (O + 13)).toNat - 1 - i) + j)
/-- what is more than texts -/
noncomputable def Rx (s : gS) : Prop := RW s 218 0 9 15 ∧ (gI s 217 3 = 1 → RW s 219 0 54 60 ∧ ∃ T, Tlw s 219 54 T) ∧ (gI s 0 14 = gI s 217 6 ∧ (0 ≤ gI s 0 13 ∧ gI s 0 13 ≤ 11) ∧ (0 ≤ gI s 0 14 ∧ gI s 0 14 ≤ 12) ∧ ∀ j : Nat, (j : Int) < gI s 0 14 → RW s 221 (340 * ((gI s 0 14).toNat - 1 - j)) 9 (pst (gI s 0 13) j)) ∧ ∃ T, Tlw s 218 9 T
/-- cells that no such row holds -/
noncomputable def WX (a k : Nat) : Bool := csa a || (mss a k || (Nat.beq a 220 || ((Nat.beq a 0 && Nat.beq k 16) || Nat.beq a 231)))
section Rx1
variable {s t u : gS} {V W : Nat → Int} {R O B C : Nat} {p : gP} {T : (Nat → Int) → Int}
theorem Vg_e (h : Vg V) (he : ∀ k, k < 100 → V k = W k) : Vg W := by
  obtain ⟨⟨h1, h2⟩, h3, h4⟩ := h
  refine ⟨⟨?_, ?_⟩, fun i_l hi_l => ?_, fun i_l hi_l => ?_⟩
  · rw [← he 3 (by decide)]
    exact h1
  · rw [← he 4 (by decide)]
    exact h2
  · rw [← he (40 + 6 * i_l) (by omega), ← he (43 + 6 * i_l) (by omega), ← he (44 + 6 * i_l) (by omega)]
    exact h3 i_l hi_l
  · rw [← he (16 + 3 * i_l) (by omega), ← he (16 + 3 * i_l + 2) (by omega)]
    exact h4 i_l hi_l
theorem pa_in {k : Nat} (hk : k < 100) : (B ≤ pa B C k ∧ pa B C k < B + 6) ∨ (C ≤ pa B C k ∧ pa B C k < C + 12) := by
  unfold pa
  repeat' split
  all_goals omega
theorem RW_e (h : RW s R O B C) (h1 : ∀ k, k < 340 → gI t R (O + k) = gI s R (O + k)) (h2 : ∀ a k, B ≤ a → a < B + 6 → gI t a k = gI s a k) (h3 : ∀ a k, C ≤ a → a < C + 12 → gI t a k = gI s a k) : RW t R O B C := by
  obtain ⟨g1, g2, g3_l, g4⟩ := h
  have e13_l := h1 13 (by decide)
  refine ⟨fun k hk => ?_, ⟨Vg_e g2.1 (fun k hk => (h1 k (by omega)).symm), Vp_k g2.2 (fun k hk => (h1 k (by have := hk.1; omega)).symm)⟩, by rw [e13_l]; exact g3_l, fun i_l j_l hi_l hj => ?_⟩
  · have e1_l : cv t B C k = cv s B C k := by
      rcases pa_in (B := B) (C := C) hk.1 with c_l | c_l
      · exact h2 _ _ c_l.1 c_l.2
      · exact h3 _ _ c_l.1 c_l.2
    rw [h1 k (by have := hk.1; omega), e1_l]
    exact g1 k hk
  · rw [e13_l] at hi_l ⊢
    rw [h3 (C + 5) _ (by omega) (by omega), show O + 100 + 4 * i_l + j_l = O + (100 + 4 * i_l + j_l) by omega, h1 _ (by omega), show O + (100 + 4 * i_l + j_l) = O + 100 + 4 * i_l + j_l by omega]
    exact g4 i_l j_l hi_l hj
theorem Tlw_e (hJ : J p s) (hB : B < 232 ∧ k0 B = 0) (h : Tlw s R B T) (h1 : ∀ k, k = 1 ∨ k = 2 ∨ 340 ≤ k → gI t R k = gI s R k) (h2 : ∀ a k, a < gn s → gR t a k = gR s a k) (h3 : ∀ a, a < gn s → gK t a = gK s a) (h4 : ∀ a k, a < gn s → 232 ≤ a → gI t a k = gI s a k) : Tlw t R B T := by
  have hn := hJ.1.1
  have rB_l : gR t B 11 = gR s B 11 := h2 B 11 (by omega)
  rcases h with ⟨t1_l, t2_l, t3_l⟩ | ⟨y_l, k, t1_l, ⟨L_l, e_l, ⟨l1, l2, l3⟩, l4, l5, l6⟩, ⟨t3_l, t4_l⟩, t5_l, t6⟩
  · exact Or.inl ⟨t1_l, (h1 1 (by omega)).trans t2_l, rB_l.trans t3_l⟩
  · obtain ⟨⟨a1_l, a2⟩, ⟨a3, a4⟩, -⟩ := (hJ.1.2.2.2 B hB.1 hB.2).resolve_left (by omega)
    have rA : gR t (gR s B 11) 1 = gR s (gR s B 11) 1 := h2 _ 1 a2
    refine Or.inr ⟨y_l, k, t1_l, ⟨L_l, e_l, ⟨(h1 1 (by omega)).trans l1, (h1 2 (by omega)).trans l2, l3⟩, l4, fun j_l hj => (h1 _ (by omega)).trans (l5 j_l hj), l6⟩, ?_, ?_, t6⟩
    · rw [rB_l, rA]
      exact ⟨t3_l, t4_l⟩
    · rw [rB_l]
      obtain ⟨b1, b2, b3, b4⟩ := t5_l
      refine ⟨(h4 _ 0 a2 a1_l).trans b1, ?_, ?_, ?_⟩
      · rw [rA]
        exact Eq.trans (List.map_congr_left (fun j_l _ => h4 _ j_l a4 a3)) b2
      · rw [rA, h3 _ a4]
        exact b3
      · rw [rA]
        exact b4
theorem WX_f : ∀ a, a < 232 → ((9 ≤ a ∧ a < 27) ∨ (54 ≤ a ∧ a < 217) ∨ a = 218 ∨ a = 219 ∨ a = 221) → csa a = false := by decide +kernel
theorem WX_n {a k : Nat} (h : (9 ≤ a ∧ a < 27) ∨ (54 ≤ a ∧ a < 217) ∨ a = 218 ∨ a = 219 ∨ a = 221) : WX a k = false := by
  have h1 := WX_f a (by omega) h
  unfold WX mss
  rw [h1]
  simp only [Bool.false_or, Bool.or_eq_false_iff, Bool.and_eq_false_iff, Bool.not_eq_false', es_beqf]
  refine ⟨⟨?_, Or.inl (by omega)⟩, by omega, Or.inl (by omega), by omega⟩
  by_cases c : Nat.ble 223 a = true
  · have := Nat.le_of_ble_eq_true c
    omega
  · exact Or.inl (by
      cases hb : Nat.ble 223 a with
      | true => exact absurd hb c
      | false => rfl)
theorem WX_2 {a k : Nat} (h : 232 ≤ a) : WX a k = false := by
  have h1 : csa a = false := by
    unfold csa
    simp only [Bool.or_eq_false_iff, Bool.and_eq_false_iff, es_beqf]
    have hb_l : ∀ n_l, n_l < a → Nat.ble a n_l = false := fun n_l hn => by
      cases hx : Nat.ble a n_l with
      | true =>
        have := Nat.le_of_ble_eq_true hx
        omega
      | false => rfl
    exact ⟨by omega, by omega, by omega, by omega, by omega, by omega, Or.inr (hb_l 35 (by omega)), Or.inr (hb_l 53 (by omega))⟩
  have hb_l : Nat.ble a 230 = false := by
    cases hx : Nat.ble a 230 with
    | true =>
      have := Nat.le_of_ble_eq_true hx
      omega
    | false => rfl
  unfold WX mss
  rw [h1, hb_l]
  simp only [Bool.false_or, Bool.and_false, Bool.or_eq_false_iff, Bool.and_eq_false_iff, es_beqf]
  exact ⟨Or.inl (by omega), by omega, Or.inl (by omega), by omega⟩
/-- what touches none of it keeps the full relation -/
theorem Rx_fw (hJ : J p s) (h : Rx s) (hf : Fw WX s t) : Rx t := by
  obtain ⟨h1, h2, ⟨h3, h4, h5, h6⟩, T, hT_l⟩ := h
  have hn := hJ.1.1
  have e_l : ∀ a_l k_l, ((9 ≤ a_l ∧ a_l < 27) ∨ (54 ≤ a_l ∧ a_l < 217) ∨ a_l = 218 ∨ a_l = 219 ∨ a_l = 221) → gI t a_l k_l = gI s a_l k_l := fun a_l k_l ha_l => hf.2.2 a_l k_l (by omega) (WX_n ha_l)
  have e13_l : gI t 0 13 = gI s 0 13 := hf.2.2 0 13 (by omega) rfl
  have e14_l : gI t 0 14 = gI s 0 14 := hf.2.2 0 14 (by omega) rfl
  have e3_l : gI t 217 3 = gI s 217 3 := hf.2.2 217 3 (by omega) rfl
  have e6_l : gI t 217 6 = gI s 217 6 := hf.2.2 217 6 (by omega) rfl
  have law_l : ∀ (R_l B_l : Nat) (T : (Nat → Int) → Int), R_l = 218 ∨ R_l = 219 → (B_l = 9 ∨ B_l = 54) → Tlw s R_l B_l T → Tlw t R_l B_l T := fun R_l B_l T hR hB_l hx => by
    refine Tlw_e hJ ?_ hx (fun k_l _ => e_l R_l k_l (by omega)) (fun a_l k_l ha_l => hf.2.1 a_l k_l ha_l) (fun a_l ha_l => hf.1.2.2 a_l ha_l) (fun a_l k_l ha_l h2 => hf.2.2 a_l k_l ha_l (WX_2 h2))
    obtain ⟨b1, b2, b3, -⟩ := k0_b
    rcases hB_l with rfl | rfl
    · exact ⟨by decide, b1⟩
    · exact ⟨by decide, b3⟩
  refine ⟨RW_e h1 (fun k_l _ => e_l 218 _ (by omega)) (fun a_l k_l _ _ => e_l a_l k_l (by omega)) (fun a_l k_l _ _ => e_l a_l k_l (by omega)), fun hi_l => ?_, ⟨by rw [e14_l, e6_l]; exact h3, by rw [e13_l]; exact h4, by rw [e14_l]; exact h5, fun j_l hj => ?_⟩, T, law_l 218 9 T (Or.inl rfl) (Or.inl rfl) hT_l⟩
  · obtain ⟨x1_l, T2, x2_l⟩ := h2 (by rw [← e3_l]; exact hi_l)
    exact ⟨RW_e x1_l (fun k_l _ => e_l 219 _ (by omega)) (fun a_l k_l _ _ => e_l a_l k_l (by omega)) (fun a_l k_l _ _ => e_l a_l k_l (by omega)), T2, law_l 219 54 T2 (Or.inr rfl) (Or.inr rfl) x2_l⟩
  · rw [e14_l] at hj ⊢
    rw [e13_l]
    refine RW_e (h6 j_l hj) (fun k_l _ => e_l 221 _ (by omega)) (fun a_l k_l _ _ => e_l a_l k_l (by omega)) (fun a_l k_l ha_l hb_l => e_l a_l k_l ?_)
    unfold pst at ha_l hb_l
    omega
end Rx1

end
section
/-! each query keeps the full relation -/
section Rx2
variable {p : gP} {s : gS}
theorem uqX : ∀ a k, csq a k = true → WX a k = true := fun a k h_l => by
  unfold WX
  unfold csq at h_l
  rw [h_l]
  rfl
theorem umX : ∀ a k, mss a k = true → WX a k = true := fun a k h_l => by
  unfold WX
  rw [h_l]
  simp only [Bool.true_or, Bool.or_true]
theorem uAX : ∀ k, WX 220 k = true := fun k => rfl
theorem JFX (h : J p s) : Fw WX s s := Fw_rf h.1.1
theorem RqX {z : Option gO} (hJ : J p s) (h : Rx s) (hq : gQ z (fun r => Fw WX s r.2.2.2)) : gQ z (fun r => Rx r.2.2.2) := fun r hr => Rx_fw hJ h (hq r hr)
theorem rx_91 (hJ : J p s) (h : Rx s) : gQ (f_91 0 s) (fun r => Rx r.2.2.2) := RqX hJ h (o_91 hJ.1.2.1 uqX rfl (JFX hJ))
theorem rx_118 {a1 : Int} (hJ : J p s) (h : Rx s) : gQ (f_118 0 a1 s) (fun r => Rx r.2.2.2) := RqX hJ h (o_118 hJ.1.2.1 uqX rfl (JFX hJ))
theorem rx_120 (hJ : J p s) (h : Rx s) : gQ (f_120 0 s) (fun r => Rx r.2.2.2) := RqX hJ h (o_120 hJ.1.2.1 uqX rfl (JFX hJ))
theorem rx_121 (hJ : J p s) (h : Rx s) : gQ (f_121 0 s) (fun r => Rx r.2.2.2) := RqX hJ h (o_121 hJ.1.2.1 uqX rfl (JFX hJ))
theorem rx_123 (hJ : J p s) (h : Rx s) : gQ (f_123 0 s) (fun r => Rx r.2.2.2) := RqX hJ h (o_123 hJ.1.2.1 uqX rfl (JFX hJ))
theorem rx_124 {a1 : Int} (hJ : J p s) (h : Rx s) : gQ (f_124 0 a1 s) (fun r => Rx r.2.2.2) := RqX hJ h (o_124 hJ.1.2.1 uqX rfl (JFX hJ))
theorem rx_133 {a1 : Int} (hJ : J p s) (h : Rx s) : gQ (f_133 0 a1 s) (fun r => Rx r.2.2.2) := RqX hJ h (o_133 hJ.1.2.1 uqX rfl (JFX hJ))
theorem rx_196 (hJ : J p s) (h : Rx s) : gQ (f_196 217 s) (fun r => Rx r.2.2.2) := RqX hJ h (om_196 hJ.1.2.1 umX rfl (JFX hJ))
theorem rx_203 {a1 : Int} {a2 : Int} (hJ : J p s) (h : Rx s) : gQ (f_203 217 a1 a2 s) (fun r => Rx r.2.2.2) := RqX hJ h (om_203 hJ.1.2.1 umX rfl (JFX hJ))
theorem rx_206 {a1 : Int} {a2 : Int} (hJ : J p s) (h : Rx s) : gQ (f_206 217 a1 a2 s) (fun r => Rx r.2.2.2) := RqX hJ h (om_206 hJ.1.2.1 umX rfl (JFX hJ))
theorem rx_207 {a1 : Int} {a2 : Int} (hJ : J p s) (h : Rx s) : gQ (f_207 217 a1 a2 s) (fun r => Rx r.2.2.2) := RqX hJ h (om_207 hJ.1.2.1 umX rfl (JFX hJ))
theorem rx_208 {a1 : Int} {a2 : Int} (hJ : J p s) (h : Rx s) : gQ (f_208 217 a1 a2 s) (fun r => Rx r.2.2.2) := RqX hJ h (om_208 hJ.1.2.1 umX rfl (JFX hJ))
theorem rx_219 {a1 : Int} {a2 : Int} {a3 : Int} (hJ : J p s) (h : Rx s) : gQ (f_219 217 a1 a2 a3 s) (fun r => Rx r.2.2.2) := RqX hJ h (om_219 hJ.1.2.1 umX uAX (Jm hJ) rfl rfl (JFX hJ))
theorem rx_220 {a1 : Int} (hJ : J p s) (h : Rx s) : gQ (f_220 217 a1 s) (fun r => Rx r.2.2.2) := RqX hJ h (om_220 hJ.1.2.1 umX uAX (Jm hJ) rfl rfl (JFX hJ))
theorem rx_221 {a1 : Int} (hJ : J p s) (h : Rx s) : gQ (f_221 217 a1 s) (fun r => Rx r.2.2.2) := RqX hJ h (om_221 hJ.1.2.1 umX uAX (Jm hJ) rfl rfl (JFX hJ))
theorem rx_223 {a1 : Int} (hJ : J p s) (h : Rx s) : gQ (f_223 217 a1 s) (fun r => Rx r.2.2.2) := RqX hJ h (om_223 hJ.1.2.1 umX uAX (Jm hJ) rfl rfl (JFX hJ))
theorem rx_224 {a1 : Int} (hJ : J p s) (h : Rx s) : gQ (f_224 217 a1 s) (fun r => Rx r.2.2.2) := RqX hJ h (om_224 hJ.1.2.1 umX uAX (Jm hJ) rfl rfl (JFX hJ))
theorem rx_229 {a1 : Int} {a2 : Int} (hJ : J p s) (h : Rx s) : gQ (f_229 217 a1 a2 s) (fun r => Rx r.2.2.2) := RqX hJ h (om_229 hJ.1.2.1 umX uAX (Jm hJ) rfl rfl (JFX hJ))
theorem rx_230 {a1 : Int} {a2 : Int} (hJ : J p s) (h : Rx s) : gQ (f_230 217 a1 a2 s) (fun r => Rx r.2.2.2) := RqX hJ h (om_230 hJ.1.2.1 umX uAX (Jm hJ) rfl rfl (JFX hJ))
theorem rx_233 {a1 : Int} {a2 : Int} (hJ : J p s) (h : Rx s) : gQ (f_233 217 a1 a2 s) (fun r => Rx r.2.2.2) := RqX hJ h (om_233 hJ.1.2.1 umX rfl (JFX hJ))
theorem rx_235 {a1 : Int} (hJ : J p s) (h : Rx s) : gQ (f_235 217 a1 s) (fun r => Rx r.2.2.2) := RqX hJ h (om_235 hJ.1.2.1 umX rfl (JFX hJ))
theorem rx_236 {a1 : Int} {a2 : Int} (hJ : J p s) (h : Rx s) : gQ (f_236 217 a1 a2 s) (fun r => Rx r.2.2.2) := RqX hJ h (om_236 hJ.1.2.1 umX rfl (JFX hJ))
theorem rx_237 {a1 : Int} (hJ : J p s) (h : Rx s) : gQ (f_237 217 a1 s) (fun r => Rx r.2.2.2) := RqX hJ h (om_237 hJ.1.2.1 umX rfl (JFX hJ))
theorem rx_239 {a1 : Int} (hJ : J p s) (h : Rx s) : gQ (f_239 217 a1 s) (fun r => Rx r.2.2.2) := RqX hJ h (om_239 hJ.1.2.1 umX rfl (JFX hJ))
theorem rx_240 (hJ : J p s) (h : Rx s) : gQ (f_240 217 s) (fun r => Rx r.2.2.2) := RqX hJ h (om_240 hJ.1.2.1 umX rfl (JFX hJ))
theorem rx_243 {a1 : Int} {a2 : Int} (hJ : J p s) (h : Rx s) : gQ (f_243 217 a1 a2 s) (fun r => Rx r.2.2.2) := RqX hJ h (om_243 hJ.1.2.1 umX rfl (JFX hJ))
theorem rx_244 {a1 : Int} {a2 : Int} (hJ : J p s) (h : Rx s) : gQ (f_244 217 a1 a2 s) (fun r => Rx r.2.2.2) := RqX hJ h (om_244 hJ.1.2.1 umX rfl (JFX hJ))
theorem rx_245 {a1 : Int} (hJ : J p s) (h : Rx s) : gQ (f_245 217 a1 s) (fun r => Rx r.2.2.2) := RqX hJ h (om_245 hJ.1.2.1 umX rfl (JFX hJ))
theorem rx_247 {a1 : Int} (hJ : J p s) (h : Rx s) : gQ (f_247 217 a1 s) (fun r => Rx r.2.2.2) := RqX hJ h (om_247 hJ.1.2.1 umX rfl (JFX hJ))
theorem rx_248 (hJ : J p s) (h : Rx s) : gQ (f_248 217 s) (fun r => Rx r.2.2.2) := RqX hJ h (om_248 hJ.1.2.1 umX rfl (JFX hJ))
theorem rx_249 (hJ : J p s) (h : Rx s) : gQ (f_249 217 s) (fun r => Rx r.2.2.2) := RqX hJ h (om_249 hJ.1.2.1 umX rfl (JFX hJ))
theorem rx_250 {a1 : Int} (hJ : J p s) (h : Rx s) : gQ (f_250 217 a1 s) (fun r => Rx r.2.2.2) := RqX hJ h (om_250 hJ.1.2.1 umX rfl (JFX hJ))
theorem rx_251 (hJ : J p s) (h : Rx s) : gQ (f_251 217 s) (fun r => Rx r.2.2.2) := RqX hJ h (om_251 hJ.1.2.1 umX rfl (JFX hJ))
theorem rx_253 {a1 : Int} (hJ : J p s) (h : Rx s) : gQ (f_253 217 a1 s) (fun r => Rx r.2.2.2) := RqX hJ h (om_253 hJ.1.2.1 umX rfl (JFX hJ))
theorem rx_254 {a1 : Int} {a2 : Int} (hJ : J p s) (h : Rx s) : gQ (f_254 217 a1 a2 s) (fun r => Rx r.2.2.2) := RqX hJ h (om_254 hJ.1.2.1 umX uAX (Jm hJ) rfl rfl (JFX hJ))
theorem rx_255 {a1 : Int} {a2 : Int} (hJ : J p s) (h : Rx s) : gQ (f_255 217 a1 a2 s) (fun r => Rx r.2.2.2) := RqX hJ h (om_255 hJ.1.2.1 umX uAX (Jm hJ) rfl rfl (JFX hJ))
theorem rx_257 {a1 : Int} {a2 : Int} (hJ : J p s) (h : Rx s) : gQ (f_257 217 a1 a2 s) (fun r => Rx r.2.2.2) := RqX hJ h (om_257 hJ.1.2.1 umX rfl (JFX hJ))
theorem rx_258 {a1 : Int} {a2 : Int} (hJ : J p s) (h : Rx s) : gQ (f_258 217 a1 a2 s) (fun r => Rx r.2.2.2) := RqX hJ h (om_258 hJ.1.2.1 umX rfl (JFX hJ))
theorem rx_263 {a1 : Int} (hJ : J p s) (h : Rx s) : gQ (f_263 217 a1 s) (fun r => Rx r.2.2.2) := RqX hJ h (om_263 hJ.1.2.1 umX rfl (JFX hJ))
theorem rx_278 {a1 : Int} {a2 : Int} (hJ : J p s) (h : Rx s) : gQ (f_278 0 a1 a2 231 s) (fun r => Rx r.2.2.2) := by
  unfold f_278
  refine RqX hJ h (gQ_c1 (A := Fw WX s) (o_92 hJ.1.2.1 uqX rfl (JFX hJ)) (fun v_l t_l ht => ?_) (fun k_l t_l ht => ?_))
  · exact gQ_chk (gQ_ret (Fw_w ht rfl rfl))
  · exact gQ_ite (gQ_ret ht) (gQ_ite (gQ_ret ht) gQ_none)
theorem rx_279 {a1 : Int} {a2 : Int} (hJ : J p s) (h : Rx s) : gQ (f_279 0 a1 a2 231 s) (fun r => Rx r.2.2.2) := by
  unfold f_279
  refine RqX hJ h (gQ_c1 (A := Fw WX s) (o_93 hJ.1.2.1 uqX rfl (JFX hJ)) (fun v_l t_l ht => ?_) (fun k_l t_l ht => ?_))
  · exact gQ_chk (gQ_ret (Fw_w ht rfl rfl))
  · exact gQ_ite (gQ_ret ht) (gQ_ite (gQ_ret ht) gQ_none)
theorem rx_280 {a1 : Int} {a2 : Int} (hJ : J p s) (h : Rx s) : gQ (f_280 0 a1 a2 231 s) (fun r => Rx r.2.2.2) := by
  unfold f_280
  refine RqX hJ h (gQ_c1 (A := Fw WX s) (o_94 hJ.1.2.1 uqX rfl (JFX hJ)) (fun v_l t_l ht => ?_) (fun k_l t_l ht => ?_))
  · exact gQ_chk (gQ_ret (Fw_w ht rfl rfl))
  · exact gQ_ite (gQ_ret ht) gQ_none
theorem rx_281 {a1 : Int} {a2 : Int} (hJ : J p s) (h : Rx s) : gQ (f_281 0 a1 a2 231 s) (fun r => Rx r.2.2.2) := by
  unfold f_281
  refine RqX hJ h (gQ_c1 (A := Fw WX s) (o_95 hJ.1.2.1 uqX rfl (JFX hJ)) (fun v_l t_l ht => ?_) (fun k_l t_l ht => ?_))
  · exact gQ_chk (gQ_ret (Fw_w ht rfl rfl))
  · exact gQ_ite (gQ_ret ht) gQ_none
theorem rx_289 {a1 : Int} {a2 : Int} {a3 : Int} (hJ : J p s) (h : Rx s) : gQ (f_289 0 a1 a2 a3 231 s) (fun r => Rx r.2.2.2) := by
  unfold f_289
  refine RqX hJ h (gQ_c1 (A := Fw WX s) (o_103 hJ.1.2.1 uqX rfl (JFX hJ)) (fun v_l t_l ht => ?_) (fun k_l t_l ht => ?_))
  · exact gQ_chk (gQ_ret (Fw_w ht rfl rfl))
  · exact gQ_ite (gQ_ret ht) (gQ_ite (gQ_ret ht) (gQ_ite (gQ_ret ht) gQ_none))
theorem rx_290 {a1 : Int} (hJ : J p s) (h : Rx s) : gQ (f_290 0 a1 231 s) (fun r => Rx r.2.2.2) := by
  unfold f_290
  refine RqX hJ h (gQ_c1 (A := Fw WX s) (o_104 hJ.1.2.1 uqX rfl (JFX hJ)) (fun v_l t_l ht => ?_) (fun k_l t_l ht => ?_))
  · exact gQ_chk (gQ_ret (Fw_w ht rfl rfl))
  · exact gQ_ite (gQ_ret ht) gQ_none
theorem rx_291 {a1 : Int} (hJ : J p s) (h : Rx s) : gQ (f_291 0 a1 231 s) (fun r => Rx r.2.2.2) := by
  unfold f_291
  refine RqX hJ h (gQ_c1 (A := Fw WX s) (o_105 hJ.1.2.1 uqX rfl (JFX hJ)) (fun v_l t_l ht => ?_) (fun k_l t_l ht => ?_))
  · exact gQ_chk (gQ_ret (Fw_w ht rfl rfl))
  · exact gQ_ite (gQ_ret ht) gQ_none
theorem rx_292 {a1 : Int} (hJ : J p s) (h : Rx s) : gQ (f_292 0 a1 231 s) (fun r => Rx r.2.2.2) := by
  unfold f_292
  refine RqX hJ h (gQ_c1 (A := Fw WX s) (o_106 hJ.1.2.1 uqX rfl (JFX hJ)) (fun v_l t_l ht => ?_) (fun k_l t_l ht => ?_))
  · exact gQ_chk (gQ_ret (Fw_w ht rfl rfl))
  · exact gQ_ite (gQ_ret ht) gQ_none
theorem rx_293 {a1 : Int} (hJ : J p s) (h : Rx s) : gQ (f_293 0 a1 231 s) (fun r => Rx r.2.2.2) := by
  unfold f_293
  refine RqX hJ h (gQ_c1 (A := Fw WX s) (o_107 hJ.1.2.1 uqX rfl (JFX hJ)) (fun v_l t_l ht => ?_) (fun k_l t_l ht => ?_))
  · exact gQ_chk (gQ_ret (Fw_w ht rfl rfl))
  · exact gQ_ite (gQ_ret ht) gQ_none
theorem rx_294 {a1 : Int} {a2 : Int} (hJ : J p s) (h : Rx s) : gQ (f_294 0 a1 a2 231 s) (fun r => Rx r.2.2.2) := by
  unfold f_294
  refine RqX hJ h (gQ_c1 (A := Fw WX s) (o_108 hJ.1.2.1 uqX rfl (JFX hJ)) (fun v_l t_l ht => ?_) (fun k_l t_l ht => ?_))
  · exact gQ_chk (gQ_ret (Fw_w ht rfl rfl))
  · exact gQ_ite (gQ_ret ht) (gQ_ite (gQ_ret ht) gQ_none)
theorem rx_295 {a1 : Int} {a2 : Int} (hJ : J p s) (h : Rx s) : gQ (f_295 0 a1 a2 231 s) (fun r => Rx r.2.2.2) := by
  unfold f_295
  refine RqX hJ h (gQ_c1 (A := Fw WX s) (o_109 hJ.1.2.1 uqX rfl (JFX hJ)) (fun v_l t_l ht => ?_) (fun k_l t_l ht => ?_))
  · exact gQ_chk (gQ_ret (Fw_w ht rfl rfl))
  · exact gQ_ite (gQ_ret ht) (gQ_ite (gQ_ret ht) gQ_none)
theorem rx_296 {a1 : Int} {a2 : Int} (hJ : J p s) (h : Rx s) : gQ (f_296 0 a1 a2 231 s) (fun r => Rx r.2.2.2) := by
  unfold f_296
  refine RqX hJ h (gQ_c1 (A := Fw WX s) (o_110 hJ.1.2.1 uqX rfl (JFX hJ)) (fun v_l t_l ht => ?_) (fun k_l t_l ht => ?_))
  · exact gQ_ite (gQ_chk (gQ_ret (Fw_w ht rfl rfl))) (gQ_chk (gQ_ret (Fw_w ht rfl rfl)))
  · exact gQ_ite (gQ_ret ht) gQ_none
theorem rx_297 {a1 : Int} (hJ : J p s) (h : Rx s) : gQ (f_297 0 a1 231 s) (fun r => Rx r.2.2.2) := by
  unfold f_297
  refine RqX hJ h (gQ_c1 (A := Fw WX s) (o_111 hJ.1.2.1 uqX rfl (JFX hJ)) (fun v_l t_l ht => ?_) (fun k_l t_l ht => ?_))
  · exact gQ_chk (gQ_ret (Fw_w ht rfl rfl))
  · exact gQ_ite (gQ_ret ht) gQ_none
theorem rx_298 {a1 : Int} {a2 : Int} (hJ : J p s) (h : Rx s) : gQ (f_298 0 a1 a2 231 s) (fun r => Rx r.2.2.2) := by
  unfold f_298
  refine RqX hJ h (gQ_c1 (A := Fw WX s) (o_112 hJ.1.2.1 uqX rfl (JFX hJ)) (fun v_l t_l ht => ?_) (fun k_l t_l ht => ?_))
  · exact gQ_chk (gQ_ret (Fw_w ht rfl rfl))
  · exact gQ_ite (gQ_ret ht) gQ_none
theorem rx_299 {a1 : Int} (hJ : J p s) (h : Rx s) : gQ (f_299 0 a1 231 s) (fun r => Rx r.2.2.2) := by
  unfold f_299
  refine RqX hJ h (gQ_c1 (A := Fw WX s) (o_113 hJ.1.2.1 uqX rfl (JFX hJ)) (fun v_l t_l ht => ?_) (fun k_l t_l ht => ?_))
  · exact gQ_chk (gQ_ret (Fw_w ht rfl rfl))
  · exact gQ_ite (gQ_ret ht) gQ_none
theorem rx_300 {a1 : Int} (hJ : J p s) (h : Rx s) : gQ (f_300 0 a1 231 s) (fun r => Rx r.2.2.2) := by
  unfold f_300
  refine RqX hJ h (gQ_c1 (A := Fw WX s) (o_114 hJ.1.2.1 uqX rfl (JFX hJ)) (fun v_l t_l ht => ?_) (fun k_l t_l ht => ?_))
  · exact gQ_chk (gQ_ret (Fw_w ht rfl rfl))
  · exact gQ_ite (gQ_ret ht) gQ_none
theorem rx_301 (hJ : J p s) (h : Rx s) : gQ (f_301 0 231 s) (fun r => Rx r.2.2.2) := by
  unfold f_301
  refine RqX hJ h (gQ_c1 (A := Fw WX s) (o_115 hJ.1.2.1 uqX rfl (JFX hJ)) (fun v_l t_l ht => ?_) (fun k_l t_l ht => ?_))
  · exact gQ_chk (gQ_ret (Fw_w ht rfl rfl))
  · exact gQ_ite (gQ_ret ht) gQ_none
theorem rx_302 {a1 : Int} {a2 : Int} (hJ : J p s) (h : Rx s) : gQ (f_302 0 a1 a2 231 s) (fun r => Rx r.2.2.2) := by
  unfold f_302
  refine RqX hJ h (gQ_c1 (A := Fw WX s) (o_116 hJ.1.2.1 uqX rfl (JFX hJ)) (fun v_l t_l ht => ?_) (fun k_l t_l ht => ?_))
  · exact gQ_chk (gQ_ret (Fw_w ht rfl rfl))
  · exact gQ_ite (gQ_ret ht) gQ_none
theorem rx_303 {a1 : Int} {a2 : Int} (hJ : J p s) (h : Rx s) : gQ (f_303 0 a1 a2 231 s) (fun r => Rx r.2.2.2) := by
  unfold f_303
  refine RqX hJ h (gQ_c1 (A := Fw WX s) (o_117 hJ.1.2.1 uqX rfl (JFX hJ)) (fun v_l t_l ht => ?_) (fun k_l t_l ht => ?_))
  · exact gQ_chk (gQ_ret (Fw_w ht rfl rfl))
  · exact gQ_ite (gQ_ret ht) gQ_none
theorem rx_304 {a1 : Int} (hJ : J p s) (h : Rx s) : gQ (f_304 0 a1 231 s) (fun r => Rx r.2.2.2) := by
  unfold f_304
  refine RqX hJ h (gQ_c1 (A := Fw WX s) (o_119 hJ.1.2.1 uqX rfl (JFX hJ)) (fun v_l t_l ht => ?_) (fun k_l t_l ht => ?_))
  · exact gQ_chk (gQ_ret (Fw_w ht rfl rfl))
  · exact gQ_ite (gQ_ret ht) gQ_none
theorem rx_305 {a1 : Int} (hJ : J p s) (h : Rx s) : gQ (f_305 0 a1 231 s) (fun r => Rx r.2.2.2) := by
  unfold f_305
  refine RqX hJ h (gQ_c1 (A := Fw WX s) (o_122 hJ.1.2.1 uqX rfl (JFX hJ)) (fun v_l t_l ht => ?_) (fun k_l t_l ht => ?_))
  · exact gQ_chk (gQ_ret (Fw_w ht rfl rfl))
  · exact gQ_ite (gQ_ret ht) gQ_none
theorem rx_306 {a1 : Int} {a2 : Int} (hJ : J p s) (h : Rx s) : gQ (f_306 0 a1 a2 231 s) (fun r => Rx r.2.2.2) := by
  unfold f_306
  refine RqX hJ h (gQ_c1 (A := Fw WX s) (o_125 hJ.1.2.1 uqX rfl (JFX hJ)) (fun v_l t_l ht => ?_) (fun k_l t_l ht => ?_))
  · exact gQ_chk (gQ_ret (Fw_w ht rfl rfl))
  · exact gQ_ite (gQ_ret ht) gQ_none
theorem rx_307 {a1 : Int} {a2 : Int} (hJ : J p s) (h : Rx s) : gQ (f_307 0 a1 a2 231 s) (fun r => Rx r.2.2.2) := by
  unfold f_307
  refine RqX hJ h (gQ_c1 (A := Fw WX s) (o_126 hJ.1.2.1 uqX rfl (JFX hJ)) (fun v_l t_l ht => ?_) (fun k_l t_l ht => ?_))
  · exact gQ_chk (gQ_ret (Fw_w ht rfl rfl))
  · exact gQ_ite (gQ_ret ht) gQ_none
theorem rx_308 {a1 : Int} {a2 : Int} (hJ : J p s) (h : Rx s) : gQ (f_308 0 a1 a2 231 s) (fun r => Rx r.2.2.2) := by
  unfold f_308
  refine RqX hJ h (gQ_c1 (A := Fw WX s) (o_127 hJ.1.2.1 uqX rfl (JFX hJ)) (fun v_l t_l ht => ?_) (fun k_l t_l ht => ?_))
  · exact gQ_chk (gQ_ret (Fw_w ht rfl rfl))
  · exact gQ_ite (gQ_ret ht) gQ_none
theorem rx_309 {a1 : Int} {a2 : Int} (hJ : J p s) (h : Rx s) : gQ (f_309 0 a1 a2 231 s) (fun r => Rx r.2.2.2) := by
  unfold f_309
  refine RqX hJ h (gQ_c1 (A := Fw WX s) (o_128 hJ.1.2.1 uqX rfl (JFX hJ)) (fun v_l t_l ht => ?_) (fun k_l t_l ht => ?_))
  · exact gQ_chk (gQ_ret (Fw_w ht rfl rfl))
  · exact gQ_ite (gQ_ret ht) gQ_none
end Rx2

end
section
/-! the full relation at the start -/
theorem x_kk : ∀ k, k < 100 → (k ≠ 1 ∧ k ≠ 2 ∧ k ≠ 15) → (gI lw_s0 218 k == cv lw_s0 9 15 k) = true := by decide +kernel
theorem x_v : (gI lw_s0 218 3 = 0 ∧ gI lw_s0 218 4 = 0) ∧ (∀ i, i < 6 → gI lw_s0 218 (40 + 6 * i) = 0 ∧ gI lw_s0 218 (43 + 6 * i) = 0 ∧ gI lw_s0 218 (44 + 6 * i) = 0) ∧ ∀ i, i < 8 → gI lw_s0 218 (16 + 3 * i) = 0 ∧ gI lw_s0 218 (16 + 3 * i + 2) = 0 := by decide +kernel
theorem x_c : gI lw_s0 218 13 = 0 ∧ gI lw_s0 217 3 = 0 ∧ (0 ≤ gI lw_s0 0 13 ∧ gI lw_s0 0 13 ≤ 11) ∧ gI lw_s0 0 14 = 0 ∧ gI lw_s0 217 6 = 0 ∧ gI lw_s0 218 1 = -1 ∧ gR lw_s0 9 11 = 0 := by decide +kernel
theorem x_6 : gI lw_s0 218 6 = 0 := by decide +kernel
theorem Rx_start : Rx lw_s0 := by
  obtain ⟨e1_l, e2_l, e3_l, e4_l, e5_l, e6_l, e7_l⟩ := x_c
  obtain ⟨⟨v3, v4_l⟩, v5, v6⟩ := x_v
  refine ⟨⟨fun k_l hk => ?_, ⟨⟨⟨?_, ?_⟩, fun i_l hi_l => ?_, fun i_l hi_l => ?_⟩, fun i_l hi_l h4 => ?_, fun r_l hr h6 => ?_⟩, ?_, fun i_l j_l hi_l hj => ?_⟩, fun hz => ?_, ⟨e4_l.trans e5_l.symm, e3_l, by rw [e4_l]; decide, fun j_l hj => ?_⟩, fun _ => -1, Or.inl ⟨rfl, e6_l, e7_l⟩⟩
  · rw [Nat.zero_add]
    exact eq_of_beq (x_kk k_l hk.1 hk.2)
  · simp only [Nat.zero_add]
    rw [v3]; decide
  · simp only [Nat.zero_add]
    rw [v4_l]; decide
  · simp only [Nat.zero_add]
    obtain ⟨a1_l, a2, a3⟩ := v5 i_l hi_l
    rw [a1_l, a2, a3]; decide
  · simp only [Nat.zero_add]
    obtain ⟨a1_l, a2⟩ := v6 i_l hi_l
    rw [a1_l, a2]; decide
  · simp only [Nat.zero_add] at h4
    rw [v4_l] at h4
    omega
  · simp only [Nat.zero_add] at h6
    rw [x_6] at h6
    omega
  · rw [Nat.zero_add, e1_l]; decide
  · rw [Nat.zero_add, e1_l] at hi_l
    omega
  · rw [e2_l] at hz
    omega
  · rw [e4_l] at hj
    omega

end
section
/-! both sides of the full relation, each over the same pure row V and log L -/
noncomputable def Csw (s : gS) (B C : Nat) (V : Nat → Int) (L : Nat → Nat → Int) : Prop := (∀ k, KK k → cv s B C k = V k) ∧ ∀ i j : Nat, (i : Int) < V 13 → j < 4 → gI s (C + 5) (4 * ((V 13).toNat - 1 - i) + j) = L i j
noncomputable def Msw (s : gS) (R O : Nat) (V : Nat → Int) (L : Nat → Nat → Int) : Prop := (∀ k, KK k → gI s R (O + k) = V k) ∧ ∀ i j : Nat, (i : Int) < V 13 → j < 4 → gI s R (O + 100 + 4 * i + j) = L i j
section Sd
variable {s t : gS} {V W : Nat → Int} {L : Nat → Nat → Int} {R O B C : Nat}
theorem Vg_k (h : Vg V) (he : ∀ k, KK k → V k = W k) : Vg W := by
  obtain ⟨⟨h1, h2⟩, h3, h4⟩ := h
  refine ⟨⟨?_, ?_⟩, fun i_l hi_l => ?_, fun i_l hi_l => ?_⟩
  · rw [← he 3 (by unfold KK; decide)]
    exact h1
  · rw [← he 4 (by unfold KK; decide)]
    exact h2
  · rw [← he (40 + 6 * i_l) (by unfold KK; omega), ← he (43 + 6 * i_l) (by unfold KK; omega), ← he (44 + 6 * i_l) (by unfold KK; omega)]
    exact h3 i_l hi_l
  · rw [← he (16 + 3 * i_l) (by unfold KK; omega), ← he (16 + 3 * i_l + 2) (by unfold KK; omega)]
    exact h4 i_l hi_l
theorem sides_RW (hc : Csw s B C V L) (hm : Msw s R O V L) (hg : Vq V) (h13 : 0 ≤ V 13 ∧ V 13 ≤ 60) : RW s R O B C := by
  have e13_l : gI s R (O + 13) = V 13 := hm.1 13 (by unfold KK; decide)
  refine ⟨fun k_l hk => (hm.1 k_l hk).trans (hc.1 k_l hk).symm, ⟨Vg_k hg.1 (fun k_l hk => (hm.1 k_l hk).symm), Vp_k hg.2 (fun k_l hk => (hm.1 k_l hk).symm)⟩, by rw [e13_l]; exact h13, fun i_l j_l hi_l hj => ?_⟩
  rw [e13_l] at hi_l ⊢
  rw [hm.2 i_l j_l hi_l hj, hc.2 i_l j_l hi_l hj]
/-- what leaves a side alone keeps it -/
theorem Csw_e (h : Csw s B C V L) (h2 : ∀ a k, B ≤ a → a < B + 6 → gI t a k = gI s a k) (h3 : ∀ a k, C ≤ a → a < C + 12 → gI t a k = gI s a k) : Csw t B C V L := by
  refine ⟨fun k hk => ?_, fun i_l j_l hi_l hj => (h3 (C + 5) _ (by omega) (by omega)).trans (h.2 i_l j_l hi_l hj)⟩
  have e1_l : cv t B C k = cv s B C k := by
    rcases pa_in (B := B) (C := C) hk.1 with c_l | c_l
    · exact h2 _ _ c_l.1 c_l.2
    · exact h3 _ _ c_l.1 c_l.2
  rw [e1_l]
  exact h.1 k hk
theorem Msw_e (h : Msw s R O V L) (h13 : V 13 ≤ 60) (h1 : ∀ k, k < 340 → gI t R (O + k) = gI s R (O + k)) : Msw t R O V L := by
  refine ⟨fun k hk => (h1 k (by have := hk.1; omega)).trans (h.1 k hk), fun i_l j_l hi_l hj => ?_⟩
  rw [show O + 100 + 4 * i_l + j_l = O + (100 + 4 * i_l + j_l) by omega, h1 _ (by omega), show O + (100 + 4 * i_l + j_l) = O + 100 + 4 * i_l + j_l by omega]
  exact h.2 i_l j_l hi_l hj
end Sd

end
section
/-! the full relation over pure courts: now, and remembered (newest first) -/
noncomputable def gCt : Type := (Nat → Int) × (Nat → Nat → Int)
noncomputable def Okc (c : gCt) : Prop := Vq c.1 ∧ 0 ≤ c.1 13 ∧ c.1 13 ≤ 60
noncomputable def Pc (s : gS) (n : Nat) (P : Nat → gCt) : Prop := gI s 0 14 = (n : Int) ∧ (0 ≤ gI s 0 13 ∧ gI s 0 13 ≤ 11) ∧ ∀ j, j < n → Csw s 9 (pst (gI s 0 13) j) (P j).1 (P j).2
noncomputable def Pm (s : gS) (n : Nat) (P : Nat → gCt) : Prop := gI s 217 6 = (n : Int) ∧ ∀ j, j < n → Msw s 221 (340 * (n - 1 - j)) (P j).1 (P j).2
noncomputable def Pok (n : Nat) (P : Nat → gCt) : Prop := n ≤ 12 ∧ ∀ j, j < n → Okc (P j)
/-- image and law -/
noncomputable def Rr (s : gS) : Prop := (gI s 217 3 = 1 → RW s 219 0 54 60 ∧ ∃ T, Tlw s 219 54 T) ∧ ∃ T, Tlw s 218 9 T
noncomputable def Cs (s : gS) (c : gCt) (n : Nat) (P : Nat → gCt) : Prop := Csw s 9 15 c.1 c.2 ∧ Pc s n P
noncomputable def Ms (s : gS) (c : gCt) (n : Nat) (P : Nat → gCt) : Prop := Msw s 218 0 c.1 c.2 ∧ Pm s n P
section Dt
variable {s t : gS} {c : gCt} {n : Nat} {P : Nat → gCt}
theorem Rx_data (h : Rx s) : ∃ c n P, Cs s c n P ∧ Ms s c n P ∧ Okc c ∧ Pok n P ∧ Rr s ∧ ∀ k, gI s 218 k = c.1 k := by
  obtain ⟨h1, h2, ⟨h3, h4, h5, h6⟩, hT_l⟩ := h
  have en : gI s 0 14 = ((gI s 0 14).toNat : Int) := by omega
  obtain ⟨a1_l, a2, a3, a4⟩ := h1
  refine ⟨(fun k => gI s 218 (0 + k), fun i_l j_l => gI s 218 (0 + 100 + 4 * i_l + j_l)), (gI s 0 14).toNat, fun j_l => (fun k => gI s 221 (340 * ((gI s 0 14).toNat - 1 - j_l) + k), fun i_l l => gI s 221 (340 * ((gI s 0 14).toNat - 1 - j_l) + 100 + 4 * i_l + l)), ⟨⟨fun k hk => (a1_l k hk).symm, fun i_l j_l hi_l hj => (a4 i_l j_l hi_l hj).symm⟩, en, h4, fun j_l hj => ?_⟩, ⟨⟨fun k _ => rfl, fun i_l j_l _ _ => rfl⟩, by rw [← h3]; exact en, fun j_l hj => ⟨fun k _ => rfl, fun i_l l _ _ => rfl⟩⟩, ⟨a2, a3⟩, ⟨by omega, fun j_l hj => ?_⟩, ⟨h2, hT_l⟩, fun k => by
    show gI s 218 k = gI s 218 (0 + k)
    rw [Nat.zero_add]⟩
  · obtain ⟨b1, b2, b3, b4⟩ := h6 j_l (by omega)
    exact ⟨fun k hk => (b1 k hk).symm, fun i_l l hi_l hl => (b4 i_l l hi_l hl).symm⟩
  · obtain ⟨b1, b2, b3, b4⟩ := h6 j_l (by omega)
    exact ⟨b2, b3⟩
theorem data_Rx (hc : Cs s c n P) (hm : Ms s c n P) (ho : Okc c) (hp : Pok n P) (hr : Rr s) : Rx s := by
  obtain ⟨c1_l, c2_l, c3_l, c4_l⟩ := hc
  obtain ⟨m1_l, m2_l, m3_l⟩ := hm
  have en : (gI s 0 14).toNat = n := by omega
  refine ⟨sides_RW c1_l m1_l ho.1 ho.2, hr.1, ⟨c2_l.trans m2_l.symm, c3_l, ?_, fun j_l hj => ?_⟩, hr.2⟩
  · have := hp.1
    omega
  · have hj2 : j_l < n := by omega
    rw [en]
    exact sides_RW (c4_l j_l hj2) (m3_l j_l hj2) (hp.2 j_l hj2).1 (hp.2 j_l hj2).2
/-- what leaves the model's rows alone; what leaves the class's courts alone -/
theorem Ms_e (h : Ms s c n P) (ho : Okc c) (hp : Pok n P) (e1 : ∀ k, k < 340 → gI t 218 k = gI s 218 k) (e2 : ∀ k, gI t 221 k = gI s 221 k) (e3 : gI t 217 6 = gI s 217 6) : Ms t c n P := by
  obtain ⟨m1_l, m2_l, m3_l⟩ := h
  refine ⟨Msw_e m1_l ho.2.2 (fun k hk => ?_), e3.trans m2_l, fun j_l hj => Msw_e (m3_l j_l hj) (hp.2 j_l hj).2.2 (fun k _ => e2 _)⟩
  rw [Nat.zero_add]
  exact e1 k hk
theorem Cs_e (h : Cs s c n P) (e1 : ∀ a k, (9 ≤ a ∧ a < 27) ∨ (73 ≤ a ∧ a < 217) → gI t a k = gI s a k) (e2 : gI t 0 13 = gI s 0 13) (e3 : gI t 0 14 = gI s 0 14) : Cs t c n P := by
  obtain ⟨c1_l, c2_l, c3_l, c4_l⟩ := h
  refine ⟨Csw_e c1_l (fun a k _ _ => e1 a k (by omega)) (fun a k _ _ => e1 a k (by omega)), e3.trans c2_l, by rw [e2]; exact c3_l, fun j_l hj => ?_⟩
  rw [e2]
  refine Csw_e (c4_l j_l hj) (fun a k _ _ => e1 a k (by omega)) (fun a k ha_l hb_l => e1 a k ?_)
  unfold pst at ha_l hb_l
  omega
end Dt

end
section
/-! acts: what is remembered, on both sides -/
noncomputable def pn (n : Nat) : Nat := if n < 12 then n + 1 else 12
noncomputable def psh (c : gCt) (P : Nat → gCt) (j : Nat) : gCt := if j = 0 then c else P (j - 1)
/-- cells that the class's acts change; the model's -/
noncomputable def WC (a k : Nat) : Bool := csa a || ((Nat.ble 15 a && Nat.ble a 26) || ((Nat.ble 73 a && Nat.ble a 216) || ((Nat.beq a 0 && (Nat.beq k 13 || Nat.beq k 14)) || Nat.beq a 231)))
noncomputable def WM (a k : Nat) : Bool := msd a k || (Nat.beq a 221 || (Nat.beq a 220 || (Nat.beq a 217 && Nat.beq k 6)))
section Cm
variable {s t u : gS} {c : gCt} {n i : Nat} {P : Nat → gCt} {p : gP} {V : Nat → Int} {L : Nat → Nat → Int} {A C R O a k : Nat}
theorem WC_t (h : (15 ≤ a ∧ a ≤ 26) ∨ (73 ≤ a ∧ a ≤ 216) ∨ (a = 0 ∧ (k = 13 ∨ k = 14)) ∨ a = 231) : WC a k = true := by
  unfold WC
  simp only [Bool.or_eq_true, Bool.and_eq_true, Nat.ble_eq, es_beq]
  exact Or.inr (by omega)
theorem uC : ∀ a k, csq a k = true → WC a k = true := fun a k h_l => by
  unfold WC
  unfold csq at h_l
  rw [h_l]
  rfl
theorem csa_n (h : (9 ≤ a ∧ a < 27) ∨ (36 ≤ a ∧ a < 42) ∨ 54 ≤ a) : csa a = false := by
  cases hc : csa a with
  | false => rfl
  | true =>
    unfold csa at hc
    simp only [Bool.or_eq_true, Bool.and_eq_true, es_beq, Nat.ble_eq] at hc
    omega
theorem WC_n (h : (9 ≤ a ∧ a < 15) ∨ (54 ≤ a ∧ a < 73) ∨ (217 ≤ a ∧ a ≠ 231)) : WC a k = false := by
  cases hc : WC a k with
  | false => rfl
  | true =>
    unfold WC at hc
    rw [csa_n (by omega)] at hc
    simp only [Bool.false_or, Bool.or_eq_true, Bool.and_eq_true, es_beq, Nat.ble_eq] at hc
    omega
theorem WM_n (h : a < 217 ∨ (a = 217 ∧ k = 3) ∨ (a = 218 ∧ mnt k = false) ∨ a = 219 ∨ 231 ≤ a) : WM a k = false := by
  cases hc_l : WM a k with
  | false => rfl
  | true =>
    unfold WM msd mss at hc_l
    simp only [Bool.or_eq_true, Bool.and_eq_true, es_beq, Nat.ble_eq, Bool.not_eq_true', Bool.or_eq_false_iff, es_beqf] at hc_l
    rcases hc_l with ((hc_l | hc_l) | ⟨e1_l, e2_l⟩) | hc_l | hc_l | hc_l
    · omega
    · omega
    · rcases h with h | h | ⟨h, h9⟩ | h | h
      · omega
      · omega
      · rw [h9] at e2_l
        cases e2_l
      · omega
      · omega
    · omega
    · omega
    · omega
theorem uM : ∀ a k, msd a k = true → WM a k = true := fun a k h_l => by
  unfold WM
  rw [h_l]
  rfl
/-- a cell of a row: in the book, or in the court -/
theorem pa_c (hk : KK k) : (∃ o, o < 6 ∧ ∀ C, pa 9 C k = 9 + o) ∨ (∃ o, o < 12 ∧ (∀ C, pa 9 C k = C + o) ∧ ∀ C, CCr C (C + o) (pj k) ∨ LCr C (C + o) (pj k)) := by
  obtain ⟨h1, h2, h3, h4⟩ := hk
  by_cases c1 : k < 16
  · have hc_l : (k = 0 ∨ k = 3 ∨ k = 5 ∨ k = 10 ∨ k = 11 ∨ k = 12) ∨ k = 13 ∨ (k = 4 ∨ k = 6 ∨ k = 7 ∨ k = 8 ∨ k = 9 ∨ k = 14) := by omega
    rcases hc_l with hc_l | hc_l | hc_l
    · rcases hc_l with rfl | rfl | rfl | rfl | rfl | rfl <;> exact Or.inl ⟨0, by decide, fun C => rfl⟩
    · subst hc_l
      exact Or.inr ⟨4, by decide, fun C => rfl, fun C => Or.inr (Or.inl ⟨rfl, rfl⟩)⟩
    · rcases hc_l with rfl | rfl | rfl | rfl | rfl | rfl <;> exact Or.inr ⟨0, by decide, fun C => rfl, fun C => Or.inl (Or.inl ⟨rfl, by decide, by decide⟩)⟩
  by_cases c2 : k < 40
  · refine Or.inl ⟨1 + (k - 16) % 3, by omega, fun C => ?_⟩
    unfold pa
    rw [if_neg (by omega), if_pos (by omega)]
    omega
  by_cases c3 : k < 76
  · refine Or.inr ⟨6 + (k - 40) / 6, by omega, fun C => ?_, fun C => Or.inl (Or.inr (Or.inr ⟨by omega, by omega, ?_⟩))⟩
    · unfold pa
      rw [if_neg (by omega), if_neg (by omega), if_pos (by omega)]
      omega
    · unfold pj
      rw [if_neg (by omega), if_neg (by omega), if_pos (by omega)]
      omega
  by_cases c4 : k < 88
  · refine Or.inl ⟨4 + (k - 76) % 2, by omega, fun C => ?_⟩
    unfold pa
    rw [if_neg (by omega), if_neg (by omega), if_neg (by omega), if_pos (by omega)]
    omega
  · refine Or.inr ⟨2 + (k - 88) % 2, by omega, fun C => ?_, fun C => Or.inl (Or.inr (Or.inl ⟨by omega, ?_⟩))⟩
    · unfold pa
      rw [if_neg (by omega), if_neg (by omega), if_neg (by omega), if_neg (by omega)]
      omega
    · unfold pj
      rw [if_neg (by omega), if_neg (by omega), if_neg (by omega), if_neg (by omega)]
      omega
/-- a court that was copied -/
theorem Csw_FC (hF : FC A C s t) (hA : 15 ≤ A) (h : Csw s 9 C V L) (h13 : V 13 ≤ 60) : Csw t 9 A V L := by
  refine ⟨fun k_l hk => ?_, fun i_l j_l hi_l hj => ?_⟩
  · refine Eq.trans ?_ (h.1 k_l hk)
    show gI t (pa 9 A k_l) (pj k_l) = gI s (pa 9 C k_l) (pj k_l)
    rcases pa_c hk with ⟨o, ho, e_l⟩ | ⟨o, ho, e_l, hw⟩
    · rw [e_l, e_l]
      exact (hF.2 _ _).2 (fun z_l => by have := blk z_l; omega)
    · rw [e_l, e_l, (hF.2 _ _).1 (hw A), show A + o - A + C = C + o by omega]
  · refine Eq.trans ?_ (h.2 i_l j_l hi_l hj)
    rw [(hF.2 (A + 5) _).1 (Or.inr (Or.inr ⟨rfl, by omega⟩)), show A + 5 - A + C = C + 5 by omega]
theorem pn_b : n ≤ 12 → pn n ≤ 12 ∧ 1 ≤ pn n ∧ pn n ≤ n + 1 := fun h_l => by
  unfold pn
  split <;> omega
theorem ct_140 (hg : RF s) (hn : 232 ≤ gn s) (h13 : c.1 13 ≤ 60) (hp : n ≤ 12) (h : Cs s c n P) : gQ (f_140 0 s) (fun r => Cs r.2.2.2 c (pn n) (psh c P) ∧ Fw WC s r.2.2.2) := by
  obtain ⟨c1_l, c2_l, c3_l, c4_l⟩ := h
  have hm_l : grem (g32 (gI s 0 13 + 1)) 12 = (((gI s 0 13).toNat + 1) % 12 : Nat) := by
    rw [g32_eq (v := gI s 0 13 + 1) (by omega) (by omega), grem_eq (x := gI s 0 13 + 1) (c := 12) (by omega) (by decide)]
    omega
  generalize hi : ((gI s 0 13).toNat + 1) % 12 = i at hm_l
  have hi12 : i < 12 := by omega
  unfold f_140
  rw [hm_l]
  dsimp only
  have c13_l : gI (gw s 0 13 ((i : Nat) : Int)) 0 13 = ((i : Nat) : Int) := rd_same rfl
  have r12 : gR (gw s 0 13 ((i : Nat) : Int)) 0 12 = 72 := (rr_0_12 hg).2
  have r5_l : gR (gw s 0 13 ((i : Nat) : Int)) 0 5 = 15 := (rr_0_5 hg).2
  have rp : gR (gw s 0 13 ((i : Nat) : Int)) 72 i = 73 + 12 * i := (hg 72 i (by decide) (fun z_l => by rw [k0_72.1] at z_l; omega)).trans (r0_72 i hi12).1
  rw [c13_l, r12, r5_l, Int.toNat_natCast, rp]
  refine gQ_chk ?_
  have hgw : RF (gw s 0 13 ((i : Nat) : Int)) := RF_sm hg rfl
  refine gQ_v0 (A := fun z_l => FC (73 + 12 * i) 15 (gw s 0 13 ((i : Nat) : Int)) z_l) (fun r hr => (gQ_T (s_22 hgw ⟨by omega, (r0_72 i hi12).2⟩ ⟨by decide, k0_72.2⟩ (by omega)) r hr).2) (fun s2_l hF => ?_)
  refine gQ_ret ?_
  dsimp only
  have hb_l : ∀ a_l k_l, ¬ (73 + 12 * i ≤ a_l ∧ a_l < 73 + 12 * i + 12) → ¬ (a_l = 0 ∧ (k_l = 13 ∨ k_l = 14)) → gI (gw s2_l 0 14 (min 12 (g32 (gI s2_l 0 14 + 1)))) a_l k_l = gI s a_l k_l := fun a_l k_l hx hz => by
    have q1_l : gI (gw s2_l 0 14 (min 12 (g32 (gI s2_l 0 14 + 1)))) a_l k_l = gI s2_l a_l k_l := by
      show (if a_l = 0 ∧ k_l = 14 then _ else gI s2_l a_l k_l) = _
      rw [if_neg (by omega)]
    rw [q1_l, (hF.2 a_l k_l).2 (fun z_l => hx (blk z_l))]
    show (if a_l = 0 ∧ k_l = 13 then _ else gI s a_l k_l) = _
    rw [if_neg (by omega)]
  have v13 : gI (gw s2_l 0 14 (min 12 (g32 (gI s2_l 0 14 + 1)))) 0 13 = ((i : Nat) : Int) := by
    have q1_l : gI (gw s2_l 0 14 (min 12 (g32 (gI s2_l 0 14 + 1)))) 0 13 = gI s2_l 0 13 := rd_k rfl (by decide)
    rw [q1_l, (hF.2 0 13).2 (fun z_l => by have := blk z_l; omega)]
    exact c13_l
  have v14 : gI (gw s2_l 0 14 (min 12 (g32 (gI s2_l 0 14 + 1)))) 0 14 = min 12 (gI s 0 14 + 1) := by
    have q1_l : gI s2_l 0 14 = gI s 0 14 := by
      rw [(hF.2 0 14).2 (fun z_l => by have := blk z_l; omega)]
      exact rd_k rfl (by decide)
    rw [rd_same rfl, q1_l, g32_eq (v := gI s 0 14 + 1) (by omega) (by omega)]
  have hs : Sm s (gw s2_l 0 14 (min 12 (g32 (gI s2_l 0 14 + 1)))) := hF.1
  have hs2 : ∀ a_l k_l, a_l ≠ 0 → gI (gw s2_l 0 14 (min 12 (g32 (gI s2_l 0 14 + 1)))) a_l k_l = gI s2_l a_l k_l := fun a_l k_l ha_l => rd_a rfl ha_l
  have f1_l : Csw (gw s 0 13 ((i : Nat) : Int)) 9 15 c.1 c.2 := Csw_e c1_l (fun a_l k_l ha_l _ => rd_a rfl (by omega)) (fun a_l k_l ha_l _ => rd_a rfl (by omega))
  have f2_l : Csw s2_l 9 (73 + 12 * i) c.1 c.2 := Csw_FC hF (by omega) f1_l h13
  generalize gw s2_l 0 14 (min 12 (g32 (gI s2_l 0 14 + 1))) = t at *
  refine ⟨⟨Csw_e c1_l (fun a_l k_l ha_l hb2 => hb_l a_l k_l (by omega) (by omega)) (fun a_l k_l ha_l hb2 => hb_l a_l k_l (by omega) (by omega)), ?_, by rw [v13]; omega, fun j_l hj => ?_⟩, Fw_sm (Fw_rf hn) hs (fun a_l k_l _ hf => hb_l a_l k_l (fun z_l => ?_) (fun z_l => ?_))⟩
  · rw [v14, c2_l]
    unfold pn
    split <;> omega
  · have hj2 : j_l < 12 ∧ j_l - 1 < 12 ∧ (j_l ≠ 0 → j_l - 1 < n) := by
      unfold pn at hj
      split at hj <;> omega
    by_cases cj : j_l = 0
    · have e1_l : pst ((i : Nat) : Int) j_l = 73 + 12 * i := by
        unfold pst
        rw [Int.toNat_natCast, cj]
        omega
      have e2_l : psh c P j_l = c := if_pos cj
      rw [v13, e1_l, e2_l]
      exact Csw_e f2_l (fun a_l k_l ha_l _ => hs2 a_l k_l (by omega)) (fun a_l k_l ha_l _ => hs2 a_l k_l (by omega))
    · have e1_l : pst ((i : Nat) : Int) j_l = pst (gI s 0 13) (j_l - 1) := by
        unfold pst
        rw [Int.toNat_natCast]
        omega
      have e2_l : psh c P j_l = P (j_l - 1) := if_neg cj
      rw [v13, e1_l, e2_l]
      exact Csw_e (c4_l (j_l - 1) (hj2.2.2 cj)) (fun a_l k_l ha_l hb2 => hb_l a_l k_l (by omega) (by omega)) (fun a_l k_l ha_l hb2 => by
        unfold pst at ha_l hb2
        exact hb_l a_l k_l (by omega) (by omega))
  · rw [WC_t (by omega)] at hf
    cases hf
  · rw [WC_t (by omega)] at hf
    cases hf
/-- a row that was copied -/
theorem Msw_m {R' O' : Nat} (h : Msw s R O V L) (h13 : V 13 ≤ 60) (h1 : ∀ k, k < 340 → gI t R' (O' + k) = gI s R (O + k)) : Msw t R' O' V L := by
  refine ⟨fun k hk => (h1 k (by have := hk.1; omega)).trans (h.1 k hk), fun i_l j_l hi_l hj => ?_⟩
  rw [show O' + 100 + 4 * i_l + j_l = O' + (100 + 4 * i_l + j_l) by omega, h1 _ (by omega), show O + (100 + 4 * i_l + j_l) = O + 100 + 4 * i_l + j_l by omega]
  exact h.2 i_l j_l hi_l hj
theorem mt_209 (hg : RF s) (h13 : c.1 13 ≤ 60) (hp : n ≤ 12) (hP : ∀ j, j < n → (P j).1 13 ≤ 60) (h : Ms s c n P) : gQ (f_209 217 s) (fun r => Ms r.2.2.2 c (pn n) (psh c P) ∧ Sm s r.2.2.2 ∧ ∀ a k, a ≠ 221 → ¬ (a = 217 ∧ k = 6) → gI r.2.2.2 a k = gI s a k) := by
  obtain ⟨m1_l, m2_l, m3_l⟩ := h
  have r1_l : gR s 217 1 = 218 := (rr_217_1 hg).2
  have r5_l : gR s 217 5 = 221 := (rr_217_5 hg).2
  have hfin : ∀ (t_l : gS) (A_l : Nat), A_l < 12 → A_l + 1 = pn n → A_l ≤ n → gI t_l 217 6 = (A_l : Int) → Sm s t_l → (∀ a k, a ≠ 221 → ¬ (a = 217 ∧ k = 6) → gI t_l a k = gI s a k) → (∀ j, j < A_l → Msw t_l 221 (340 * (A_l - 1 - j)) (P j).1 (P j).2) → gQ (fb_209_50 217 t_l) (fun r => Ms r.2.2.2 c (pn n) (psh c P) ∧ Sm s r.2.2.2 ∧ ∀ a k, a ≠ 221 → ¬ (a = 217 ∧ k = 6) → gI r.2.2.2 a k = gI s a k) := by
    intro t_l A_l hA hA1 hAn ht hs ho hj
    have t1_l : gR t_l 217 1 = 218 := by
      show t_l.2.2.2 217 1 = 218
      rw [hs.2.2]
      exact r1_l
    have t5_l : gR t_l 217 5 = 221 := by
      show t_l.2.2.2 217 5 = 221
      rw [hs.2.2]
      exact r5_l
    intro r hr
    obtain ⟨b1, b2, b3, b4, b5⟩ := b_209 hA ht t1_l t5_l r hr
    have hss : Sm s r.2.2.2 := ⟨b1.1.trans hs.1, b1.2.1.trans hs.2.1, b1.2.2.trans hs.2.2⟩
    refine ⟨⟨Msw_m m1_l h13 (fun k hk => (b3 218 _ (by decide) (by omega)).trans (ho 218 _ (by decide) (by omega))), by rw [b2]; omega, fun j hj2 => ?_⟩, hss, fun a k ha_l hz => (b3 a k ha_l hz).trans (ho a k ha_l hz)⟩
    by_cases cj : j = 0
    · have e2_l : psh c P j = c := if_pos cj
      rw [e2_l, show 340 * (pn n - 1 - j) = 340 * A_l by omega]
      refine Msw_m m1_l h13 (fun k hk => ?_)
      rw [b4 k hk, Nat.zero_add]
      exact ho 218 k (by decide) (by omega)
    · have e2_l : psh c P j = P (j - 1) := if_neg cj
      rw [e2_l, show 340 * (pn n - 1 - j) = 340 * (A_l - 1 - (j - 1)) by omega]
      exact Msw_m (hj (j - 1) (by omega)) (hP (j - 1) (by omega)) (fun k hk => b5 _ (by omega))
  unfold f_209
  by_cases c12 : gI s 217 6 = 12
  · rw [if_pos c12]
    have n12 : n = 12 := by omega
    refine gQ_loop (fun y_l => y_l.1 = 217 ∧ (0 ≤ y_l.2.1 ∧ y_l.2.1 ≤ 3740) ∧ Sm s y_l.2.2 ∧ (∀ a k, a ≠ 221 → gI y_l.2.2 a k = gI s a k) ∧ (∀ k : Nat, (k : Int) < y_l.2.1 → gI y_l.2.2 221 k = gI s 221 (k + 340)) ∧ ∀ k : Nat, y_l.2.1 ≤ (k : Int) → gI y_l.2.2 221 k = gI s 221 k) (fun y_l hy => ?_) ⟨rfl, ⟨Int.le_refl 0, (by decide : (0 : Int) ≤ 3740)⟩, ⟨rfl, rfl, rfl⟩, fun _ _ _ => rfl, fun k hk => by dsimp only at hk; omega, fun _ _ => rfl⟩
    obtain ⟨x0_l, x1_l, y1⟩ := y_l
    obtain ⟨q0, hb_l, hs, h5, h6, h7⟩ := hy
    dsimp only at q0 hb_l hs h5 h6 h7
    subst q0
    have t5_l : gR y1 217 5 = 221 := by
      show y1.2.2.2 217 5 = 221
      rw [hs.2.2]
      exact r5_l
    show gQ (sb_209_11 217 x1_l y1) _
    unfold sb_209_11
    by_cases c : x1_l < 3740
    · rw [if_pos c, t5_l, g32_eq (v := x1_l + 340) (by omega) (by omega), g32_eq (v := x1_l + 1) (by omega) (by omega)]
      refine gQ_chk (gQ_chk (gQ_ret ⟨rfl, ?_, hs, fun a k ha_l => ?_, fun k hk => ?_, fun k hk => ?_⟩))
      · dsimp only
        omega
      · dsimp only
        exact (rd_a rfl ha_l).trans (h5 a k ha_l)
      · dsimp only at hk ⊢
        show (if 221 = 221 ∧ k = x1_l.toNat then gI y1 221 (x1_l + 340).toNat else gI y1 221 k) = _
        by_cases ck : k = x1_l.toNat
        · rw [if_pos ⟨rfl, ck⟩, h7 _ (by omega), show (x1_l + 340).toNat = k + 340 by omega]
        · rw [if_neg (by omega)]
          exact h6 k (by omega)
      · dsimp only at hk ⊢
        show (if 221 = 221 ∧ k = x1_l.toNat then gI y1 221 (x1_l + 340).toNat else gI y1 221 k) = _
        rw [if_neg (by omega)]
        exact h7 k (by omega)
    · rw [if_neg c]
      refine gQ_map ?_
      have e6_l : gI y1 217 6 = 12 := (h5 217 6 (by decide)).trans c12
      rw [e6_l, g32_eq (v := (12 : Int) - 1) (by omega) (by omega)]
      refine hfin (gw y1 217 6 (12 - 1)) 11 (by decide) (by rw [n12]; rfl) (by omega) (rd_same rfl) hs (fun a k ha_l hz => ?_) (fun j hj => ?_)
      · show (if a = 217 ∧ k = 6 then _ else gI y1 a k) = _
        rw [if_neg hz]
        exact h5 a k ha_l
      · refine Msw_m (m3_l j (by omega)) (hP j (by omega)) (fun k hk => ?_)
        rw [rd_a (a := 221) rfl (by decide), h6 _ (by omega), show 340 * (11 - 1 - j) + k + 340 = 340 * (n - 1 - j) + k by omega]
  · rw [if_neg c12]
    have n11 : n < 12 := by omega
    exact hfin s n n11 (if_pos n11).symm (Nat.le_refl n) m2_l ⟨rfl, rfl, rfl⟩ (fun _ _ _ _ => rfl) (fun j hj => m3_l j hj)
end Cm

end
section
/-! a row more in the log, on both sides -/
noncomputable def lgL (d x w y : Int) (L : Nat → Nat → Int) (i j : Nat) : Int := if i = 0 then (if j = 0 then d else if j = 1 then x else if j = 2 then w else y) else L (i - 1) j
section Lg
variable {s t u : gS} {i m k a : Nat} {V W : Nat → Int} {L : Nat → Nat → Int} {d x w y v : Int} {R O k0 j : Nat}
theorem rgw {b : Nat} : gR (gw s a k v) b j = gR s b j := rfl
theorem b_55 (hm : m < 60) (h1 : gI t 19 1 = (m : Int)) (hr : gR t 19 0 = 20) : gQ (fb_55_31 19 d x w y t) (fun r => Sm t r.2.2.2 ∧ gI r.2.2.2 19 1 = (m : Int) + 1 ∧ (∀ j, j < 4 → gI r.2.2.2 20 (4 * m + j) = if j = 0 then d else if j = 1 then x else if j = 2 then w else y) ∧ ∀ a k, ¬ (a = 20 ∧ 4 * m ≤ k ∧ k < 4 * m + 4) → ¬ (a = 19 ∧ k = 1) → gI r.2.2.2 a k = gI t a k) := by
  have e0_l : g32 ((m : Int) * 4) = ((4 * m : Nat) : Int) := by
    rw [g32_eq (by omega) (by omega)]
    omega
  have e1_l : g32 (((4 * m : Nat) : Int) + 1) = ((4 * m + 1 : Nat) : Int) := by
    rw [g32_eq (by omega) (by omega)]
    omega
  have e2_l : g32 (((4 * m : Nat) : Int) + 2) = ((4 * m + 2 : Nat) : Int) := by
    rw [g32_eq (by omega) (by omega)]
    omega
  have e3_l : g32 (((4 * m : Nat) : Int) + 3) = ((4 * m + 3 : Nat) : Int) := by
    rw [g32_eq (by omega) (by omega)]
    omega
  have e4_l : g32 ((m : Int) + 1) = (m : Int) + 1 := g32_eq (by omega) (by omega)
  have e9_l : ∀ (q : gS) (k : Nat) (v : Int), gI (gw q 20 k v) 19 1 = gI q 19 1 := fun _ _ _ => rd_a rfl (by decide)
  unfold fb_55_31
  dsimp only
  simp only [h1, e0_l, e1_l, e2_l, e3_l, Int.toNat_natCast, rgw, hr]
  refine gQ_chk (gQ_chk (gQ_chk (gQ_chk (gQ_ret ⟨⟨rfl, rfl, rfl⟩, ?_, fun j hj => ?_, fun a k ha_l hb_l => ?_⟩))))
  · dsimp only
    rw [rd_same rfl, e9_l, e9_l, e9_l, e9_l, h1, e4_l]
  · dsimp only
    rw [rd_a (a := 20) rfl (by decide)]
    simp only [rdw]
    have hj4 : j = 0 ∨ j = 1 ∨ j = 2 ∨ j = 3 := by omega
    rcases hj4 with rfl | rfl | rfl | rfl
    · rw [if_neg (by omega), if_neg (by omega), if_neg (by omega), if_pos ⟨trivial, by omega⟩, if_pos rfl]
    · rw [if_neg (by omega), if_neg (by omega), if_pos ⟨trivial, by omega⟩, if_neg (by decide), if_pos rfl]
    · rw [if_neg (by omega), if_pos ⟨trivial, by omega⟩, if_neg (by decide), if_neg (by decide), if_pos rfl]
    · rw [if_pos ⟨trivial, by omega⟩, if_neg (by decide), if_neg (by decide), if_neg (by decide)]
  · dsimp only
    simp only [rdw]
    rw [if_neg hb_l, if_neg (by omega), if_neg (by omega), if_neg (by omega), if_neg (by omega)]
theorem c15_20 : ∀ k, k < 100 → (k ≠ 1 ∧ k ≠ 2 ∧ k ≠ 15) → pa 9 15 k ≠ 20 ∧ (pa 9 15 k = 19 ∧ pj k = 1 ↔ k = 13) := by decide +kernel
/-- the class's log -/
theorem ct_55 (hg : RF s) (h : Csw s 9 15 V L) (h13 : 0 ≤ V 13 ∧ V 13 ≤ 60) : gQ (f_55 19 d x w y s) (fun r => Csw r.2.2.2 9 15 (up V 13 (min 60 (V 13 + 1))) (lgL d x w y L) ∧ Sm s r.2.2.2 ∧ ∀ a k, a ≠ 20 → ¬ (a = 19 ∧ k = 1) → gI r.2.2.2 a k = gI s a k) := by
  have e13_l : gI s 19 1 = V 13 := h.1 13 (by unfold KK; decide)
  have hr : gR s 19 0 = 20 := (rr_19_0 hg).2
  have fin_l : ∀ (t_l : gS) (m_l : Nat), m_l < 60 → gI t_l 19 1 = (m_l : Int) → ((m_l : Int) + 1 = min 60 (V 13 + 1)) → Sm s t_l → (∀ a k, a ≠ 20 → ¬ (a = 19 ∧ k = 1) → gI t_l a k = gI s a k) → (∀ i_l j_l : Nat, i_l < m_l → j_l < 4 → gI t_l 20 (4 * (m_l - 1 - i_l) + j_l) = L i_l j_l) → gQ (fb_55_31 19 d x w y t_l) (fun r => Csw r.2.2.2 9 15 (up V 13 (min 60 (V 13 + 1))) (lgL d x w y L) ∧ Sm s r.2.2.2 ∧ ∀ a k, a ≠ 20 → ¬ (a = 19 ∧ k = 1) → gI r.2.2.2 a k = gI s a k) := by
    intro t_l m_l hm_l ht hv hs ho hl r hr2
    have tr_l : gR t_l 19 0 = 20 := by
      show t_l.2.2.2 19 0 = 20
      rw [hs.2.2]
      exact hr
    obtain ⟨b1, b2, b3, b4⟩ := b_55 hm_l ht tr_l r hr2
    refine ⟨⟨fun k hk => ?_, fun i_l j_l hi_l hj => ?_⟩, ⟨b1.1.trans hs.1, b1.2.1.trans hs.2.1, b1.2.2.trans hs.2.2⟩, fun a k ha_l hz => (b4 a k (fun z_l => ha_l z_l.1) hz).trans (ho a k ha_l hz)⟩
    · obtain ⟨c1_l, c2_l⟩ := c15_20 k hk.1 hk.2
      by_cases ck : k = 13
      · subst ck
        rw [up_s, ← hv]
        exact b2
      · rw [up_n ck]
        refine Eq.trans ?_ (h.1 k hk)
        show gI r.2.2.2 (pa 9 15 k) (pj k) = gI s (pa 9 15 k) (pj k)
        rw [b4 _ _ (fun z_l => c1_l z_l.1) (fun z_l => ck (c2_l.mp z_l))]
        exact ho _ _ c1_l (fun z_l => ck (c2_l.mp z_l))
    · rw [up_s, ← hv] at hi_l ⊢
      have en : ((m_l : Int) + 1).toNat = m_l + 1 := by omega
      rw [en]
      unfold lgL
      by_cases ci : i_l = 0
      · rw [if_pos ci, show 4 * (m_l + 1 - 1 - i_l) + j_l = 4 * m_l + j_l by omega]
        exact b3 j_l hj
      · rw [if_neg ci, show 4 * (m_l + 1 - 1 - i_l) + j_l = 4 * (m_l - 1 - (i_l - 1)) + j_l by omega]
        rw [show (15 : Nat) + 5 = 20 from rfl, b4 20 _ (by omega) (by omega)]
        exact hl (i_l - 1) j_l (by omega) hj
  unfold f_55
  rw [e13_l, hr]
  by_cases c : V 13 < 60
  · rw [if_pos c]
    refine fin_l s (V 13).toNat (by omega) (by rw [e13_l]; omega) (by omega) ⟨rfl, rfl, rfl⟩ (fun _ _ _ _ => rfl) (fun i_l j_l hi_l hj => ?_)
    exact h.2 i_l j_l (by omega) hj
  · rw [if_neg c]
    dsimp only
    refine fin_l _ 59 (by decide) (rd_same rfl) (by omega) ⟨rfl, rfl, rfl⟩ (fun a k ha_l hz => ?_) (fun i_l j_l hi_l hj => ?_)
    · show (if a = 19 ∧ k = 1 then _ else if a = 20 ∧ 0 ≤ k ∧ k < 0 + 236 then _ else gI s a k) = _
      rw [if_neg hz, if_neg (fun z_l => ha_l z_l.1)]
    · show (if (20 : Nat) = 19 ∧ 4 * (59 - 1 - i_l) + j_l = 1 then (59 : Int) else if (20 : Nat) = 20 ∧ 0 ≤ 4 * (59 - 1 - i_l) + j_l ∧ 4 * (59 - 1 - i_l) + j_l < 0 + 236 then gI s 20 (4 + (4 * (59 - 1 - i_l) + j_l - 0)) else gI s 20 (4 * (59 - 1 - i_l) + j_l)) = _
      rw [if_neg (by omega), if_pos ⟨rfl, by omega, by omega⟩]
      have h9 := h.2 i_l j_l (by omega) hj
      rw [show (V 13).toNat = 60 by omega] at h9
      rw [show 4 + (4 * (59 - 1 - i_l) + j_l - 0) = 4 * (60 - 1 - i_l) + j_l by omega]
      exact h9
/-- the model's log -/
theorem mt_210 (hg : RF s) (h : Msw s 218 0 V L) (h13 : 0 ≤ V 13 ∧ V 13 ≤ 60) (hi : i < 6) : gQ (f_210 217 (i : Int) w s) (fun r => Msw r.2.2.2 218 0 (up V 13 (min 60 (V 13 + 1))) (lgL (V 7) (i : Int) w (V (40 + 6 * i)) L) ∧ Sm s r.2.2.2 ∧ ∀ a k, ¬ (a = 218 ∧ (k = 13 ∨ (100 ≤ k ∧ k < 340))) → gI r.2.2.2 a k = gI s a k) := by
  have r1_l : gR s 217 1 = 218 := (rr_217_1 hg).2
  have hc_l : ∀ k, KK k → gI s 218 k = V k := fun k hk => by
    have := h.1 k hk
    rw [Nat.zero_add] at this
    exact this
  unfold f_210
  refine gQ_loop (fun y_l => (y_l.1 = 217 ∧ y_l.2.1 = (i : Int) ∧ y_l.2.2.1 = w) ∧ (3 ≤ y_l.2.2.2.1 ∧ y_l.2.2.2.1 ≤ 239) ∧ Sm s y_l.2.2.2.2 ∧ (∀ q_l : Nat, y_l.2.2.2.1 < (q_l : Int) → q_l < 240 → gI y_l.2.2.2.2 218 (100 + q_l) = gI s 218 (100 + q_l - 4)) ∧ (∀ q_l : Nat, (q_l : Int) ≤ y_l.2.2.2.1 → gI y_l.2.2.2.2 218 (100 + q_l) = gI s 218 (100 + q_l)) ∧ ∀ a k, ¬ (a = 218 ∧ 100 ≤ k ∧ k < 340) → gI y_l.2.2.2.2 a k = gI s a k) (fun z_l hz => ?_) ⟨⟨rfl, rfl, rfl⟩, ⟨(by decide : (3 : Int) ≤ 239), Int.le_refl 239⟩, ⟨rfl, rfl, rfl⟩, fun q_l h1 h2 => by dsimp only at h1; omega, fun _ _ => rfl, fun _ _ _ => rfl⟩
  obtain ⟨x0_l, x1_l, x2_l, x3, y1⟩ := z_l
  obtain ⟨⟨q0, q1_l, q2_l⟩, hb_l, hs, h5, h6, h7⟩ := hz
  dsimp only at q0 q1_l q2_l hb_l hs h5 h6 h7
  subst q0 q1_l q2_l
  have t1_l : gR y1 217 1 = 218 := by
    show y1.2.2.2 217 1 = 218
    rw [hs.2.2]
    exact r1_l
  show gQ (sb_210_4 217 (i : Int) x2_l x3 y1) _
  unfold sb_210_4
  by_cases c : x3 < 4
  · rw [if_pos c]
    refine gQ_map ?_
    dsimp only
    simp only [rgw, t1_l]
    have e7_l : gI y1 218 7 = V 7 := (h7 218 7 (by omega)).trans (hc_l 7 (by unfold KK; decide))
    rw [e7_l]
    have hw1 : ∀ k, k < 100 → gI (gw (gw (gw y1 218 100 (V 7)) 218 101 (i : Int)) 218 102 x2_l) 218 k = gI s 218 k := fun k hk => by
      rw [rd_k rfl (by omega), rd_k rfl (by omega), rd_k rfl (by omega)]
      exact h7 218 k (by omega)
    refine gQ_w1 (A := fun v_l z_l => v_l = V (40 + 6 * i) ∧ z_l = gw (gw (gw y1 218 100 (V 7)) 218 101 (i : Int)) 218 102 x2_l) (fun r hr => ?_) (fun v_l z_l hz => ?_)
    · obtain ⟨e1_l, e2_l⟩ := m_156 (hr := by simp only [rgw]; exact t1_l) (by omega) (by decide) r hr
      rw [Int.toNat_natCast, show (0 : Int).toNat = 0 from rfl, Nat.add_zero, hw1 _ (by omega), hc_l _ (by unfold KK; omega)] at e1_l
      exact ⟨e1_l, e2_l⟩
    · obtain ⟨z1, z2⟩ := hz
      rw [z1, z2]
      have e13_l : gI (gw (gw (gw (gw y1 218 100 (V 7)) 218 101 (i : Int)) 218 102 x2_l) 218 103 (V (40 + 6 * i))) 218 13 = V 13 := by
        rw [rd_k rfl (by decide), hw1 13 (by decide)]
        exact hc_l 13 (by unfold KK; decide)
      simp only [rgw, t1_l]
      rw [e13_l, g32_eq (v := V 13 + 1) (by omega) (by omega)]
      refine gQ_w1 (A := fun v_l z_l => v_l = min 60 (V 13 + 1) ∧ z_l = gw (gw (gw (gw y1 218 100 (V 7)) 218 101 (i : Int)) 218 102 x2_l) 218 103 (V (40 + 6 * i))) dm_151 (fun v2 z2 hz2 => ?_)
      obtain ⟨p1_l, p2_l⟩ := hz2
      rw [p1_l, p2_l]
      refine gQ_ret ⟨⟨fun k hk => ?_, fun a j_l ha_l hj => ?_⟩, ⟨hs.1, hs.2.1, hs.2.2⟩, fun a k hak => ?_⟩
      · rw [Nat.zero_add]
        dsimp only
        by_cases ck : k = 13
        · rw [ck, up_s, rd_same rfl]
        · rw [up_n ck, rd_k rfl ck, rd_k rfl (by have := hk.1; omega), hw1 k hk.1]
          exact hc_l k hk
      · rw [up_s] at ha_l
        dsimp only
        rw [rd_k rfl (by omega), Nat.zero_add]
        unfold lgL
        simp only [rdw]
        by_cases ca : a = 0
        · rw [if_pos ca]
          have hj4 : j_l = 0 ∨ j_l = 1 ∨ j_l = 2 ∨ j_l = 3 := by omega
          rcases hj4 with rfl | rfl | rfl | rfl
          · rw [if_neg (by omega), if_neg (by omega), if_neg (by omega), if_pos ⟨trivial, by omega⟩, if_pos rfl]
          · rw [if_neg (by omega), if_neg (by omega), if_pos ⟨trivial, by omega⟩, if_neg (by decide), if_pos rfl]
          · rw [if_neg (by omega), if_pos ⟨trivial, by omega⟩, if_neg (by decide), if_neg (by decide), if_pos rfl]
          · rw [if_pos ⟨trivial, by omega⟩, if_neg (by decide), if_neg (by decide), if_neg (by decide)]
        · rw [if_neg ca, if_neg (by omega), if_neg (by omega), if_neg (by omega), if_neg (by omega)]
          have h9 := h5 (4 * a + j_l) (by omega) (by omega)
          rw [show 100 + 4 * a + j_l = 100 + (4 * a + j_l) by omega, h9, ← h.2 (a - 1) j_l (by omega) hj]
          congr 1
          omega
      · dsimp only
        simp only [rdw]
        rw [if_neg (by omega), if_neg (by omega), if_neg (by omega), if_neg (by omega), if_neg (by omega)]
        exact h7 a k (by omega)
  · rw [if_neg c, t1_l, g32_eq (v := 100 + x3) (by omega) (by omega), g32_eq (v := 100 + x3 - 4) (by omega) (by omega), g32_eq (v := x3 + -1) (by omega) (by omega)]
    have n1_l : (100 + x3).toNat = 100 + x3.toNat := by omega
    have n2_l : (100 + x3 - 4).toNat = 100 + (x3.toNat - 4) := by omega
    rw [n1_l, n2_l]
    refine gQ_chk (gQ_chk (gQ_ret ⟨⟨rfl, rfl, rfl⟩, by dsimp only; omega, hs, fun q_l h8 h9 => ?_, fun q_l h8 => ?_, fun a k hak => ?_⟩))
    · dsimp only at h8 ⊢
      show (if 218 = 218 ∧ 100 + q_l = 100 + x3.toNat then gI y1 218 (100 + (x3.toNat - 4)) else gI y1 218 (100 + q_l)) = _
      by_cases cq : q_l = x3.toNat
      · rw [if_pos ⟨rfl, by omega⟩, h6 _ (by omega), cq]
        congr 1
        omega
      · rw [if_neg (by omega)]
        exact h5 q_l (by omega) h9
    · dsimp only at h8 ⊢
      show (if 218 = 218 ∧ 100 + q_l = 100 + x3.toNat then gI y1 218 (100 + (x3.toNat - 4)) else gI y1 218 (100 + q_l)) = _
      rw [if_neg (by omega)]
      exact h6 q_l (by omega)
    · dsimp only
      show (if a = 218 ∧ k = 100 + x3.toNat then gI y1 218 (100 + (x3.toNat - 4)) else gI y1 a k) = _
      rw [if_neg (by omega)]
      exact h7 a k hak
end Lg

end
section
/-! acts: from both halves to the full relation -/
noncomputable def stA (n : Nat) : Int := if n = 5 then 1 else if n = 6 then 2 else 0
noncomputable def stB (n : Nat) : Int := if n = 5 then 1 else if n = 2 then 2 else if n = 6 then 3 else 0
/-- behind the class's half: the model's half leads back, with this answer -/
noncomputable def Xn (F : gS → Option gO) (w : Int) (u : gS) : Prop := ∀ p, J p u → Rt u → gQ (F u) (fun q => Rx q.2.2.2 ∧ gI q.2.2.2 217 0 = w ∧ (w = 0 → gI q.2.2.2 231 0 = q.2.1))
noncomputable def Xd (F : gS → Option gO) (w : Int) (u : gS) : Prop := ∀ p, J p u → Rt u → gQ (F u) (fun q => Rx q.2.2.2 ∧ q.2.1 = w)
abbrev gY : Type := Int × Int × gCt
noncomputable def Cres (st : Nat → Int) (s : gS) (c : gCt) (n : Nat) (P : Nat → gCt) (y : gY) (r : gO) : Prop := Fw WC s r.2.2.2 ∧ st r.1 = y.1 ∧ (y.1 = 0 → r.2.1 = y.2.1 ∧ Cs r.2.2.2 y.2.2 (pn n) (psh c P)) ∧ (y.1 ≠ 0 → Cs r.2.2.2 c n P)
noncomputable def Mres (s : gS) (c : gCt) (n : Nat) (P : Nat → gCt) (y : gY) (r : gO) : Prop := Fw WM s r.2.2.2 ∧ gI r.2.2.2 217 0 = y.1 ∧ (y.1 = 0 → r.2.1 = y.2.1 ∧ Ms r.2.2.2 y.2.2 (pn n) (psh c P)) ∧ (y.1 ≠ 0 → Ms r.2.2.2 c n P)
section Gl
variable {s t u : gS} {c c' : gCt} {n : Nat} {P : Nat → gCt} {p : gP} {y : gY} {W : Nat → Nat → Bool} {F : gS → Option gO} {st : Nat → Int} {a k : Nat}
theorem mnt_340 (h : 340 ≤ k) : mnt k = false := by
  cases hm : mnt k with
  | false => rfl
  | true =>
    have := mnt_4 hm
    omega
theorem Rr_fw (hJ : J p s) (h : Rr s) (hf : Fw W s t) (hW : ∀ a k, ((54 ≤ a ∧ a < 73) ∨ a = 219 ∨ (a = 217 ∧ k = 3) ∨ (a = 218 ∧ (k = 1 ∨ k = 2 ∨ 340 ≤ k)) ∨ 232 ≤ a) → W a k = false) : Rr t := by
  obtain ⟨h2, T, hT_l⟩ := h
  have hn := hJ.1.1
  have e_l : ∀ a k, a < 232 → ((54 ≤ a ∧ a < 73) ∨ a = 219 ∨ (a = 217 ∧ k = 3) ∨ (a = 218 ∧ (k = 1 ∨ k = 2 ∨ 340 ≤ k)) ∨ 232 ≤ a) → gI t a k = gI s a k := fun a k ha_l hx => hf.2.2 a k (by omega) (hW a k hx)
  have law_l : ∀ (R_l B_l : Nat) (T : (Nat → Int) → Int), R_l = 218 ∨ R_l = 219 → (B_l = 9 ∨ B_l = 54) → Tlw s R_l B_l T → Tlw t R_l B_l T := fun R_l B_l T hR hB_l hx => by
    refine Tlw_e hJ ?_ hx (fun k hk => e_l R_l k (by omega) (by omega)) (fun a k ha_l => hf.2.1 a k ha_l) (fun a ha_l => hf.1.2.2 a ha_l) (fun a k ha_l h2 => hf.2.2 a k ha_l (hW a k (by omega)))
    obtain ⟨b1, b2, b3, -⟩ := k0_b
    rcases hB_l with rfl | rfl
    · exact ⟨by decide, b1⟩
    · exact ⟨by decide, b3⟩
  refine ⟨fun hi_l => ?_, T, law_l 218 9 T (Or.inl rfl) (Or.inl rfl) hT_l⟩
  obtain ⟨x1_l, T2, x2_l⟩ := h2 (by rw [← e_l 217 3 (by decide) (by decide)]; exact hi_l)
  exact ⟨RW_e x1_l (fun k _ => e_l 219 _ (by decide) (by omega)) (fun a k _ _ => e_l a k (by omega) (by omega)) (fun a k _ _ => e_l a k (by omega) (by omega)), T2, law_l 219 54 T2 (Or.inr rfl) (Or.inr rfl) x2_l⟩
theorem law_C {T : (Nat → Int) → Int} (hJ : J p s) (hT : Tlw s 218 9 T) (hf : Fw WC s t) : Tlw t 218 9 T := by
  have hn := hJ.1.1
  exact Tlw_e hJ ⟨by decide, k0_b.1⟩ hT (fun k_l _ => hf.2.2 218 k_l (by omega) (WC_n (by omega))) (fun a_l k_l ha_l => hf.2.1 a_l k_l ha_l) (fun a_l ha_l => hf.1.2.2 a_l ha_l) (fun a_l k_l ha_l h2 => hf.2.2 a_l k_l ha_l (WC_n (by omega)))
theorem law_M {T : (Nat → Int) → Int} (hJ : J p s) (hT : Tlw s 218 9 T) (hf : Fw WM s t) : Tlw t 218 9 T := by
  have hn := hJ.1.1
  refine Tlw_e hJ ⟨by decide, k0_b.1⟩ hT (fun k_l hk => hf.2.2 218 k_l (by omega) (WM_n (Or.inr (Or.inr (Or.inl ⟨rfl, ?_⟩))))) (fun a_l k_l ha_l => hf.2.1 a_l k_l ha_l) (fun a_l ha_l => hf.1.2.2 a_l ha_l) (fun a_l k_l ha_l h2 => hf.2.2 a_l k_l ha_l (WM_n (by omega)))
  rcases hk with rfl | rfl | hk
  · rfl
  · rfl
  · exact mnt_340 hk
theorem Rr_C (hJ : J p s) (h : Rr s) (hf : Fw WC s t) : Rr t := Rr_fw hJ h hf (fun a_l k_l hx => by
  by_cases c : 217 ≤ a_l
  · by_cases c2 : a_l = 231
    · omega
    · exact WC_n (by omega)
  · exact WC_n (by omega))
theorem Rr_M (hJ : J p s) (h : Rr s) (hf : Fw WM s t) : Rr t := Rr_fw hJ h hf (fun a_l k_l hx => by
  rcases hx with hx | hx | hx | ⟨hx, hk⟩ | hx
  · exact WM_n (Or.inl (by omega))
  · exact WM_n (Or.inr (Or.inr (Or.inr (Or.inl hx))))
  · exact WM_n (Or.inr (Or.inl hx))
  · refine WM_n (Or.inr (Or.inr (Or.inl ⟨hx, ?_⟩)))
    rcases hk with rfl | rfl | hk
    · rfl
    · rfl
    · exact mnt_340 hk
  · exact WM_n (Or.inr (Or.inr (Or.inr (Or.inr (by omega))))))
theorem Cs_M (h : Cs s c n P) (hf : Fw WM s t) : Cs t c n P := by
  have hn := hf.1.1
  exact Cs_e h (fun a_l k_l ha_l => hf.2.2 a_l k_l (by omega) (WM_n (Or.inl (by omega)))) (hf.2.2 0 13 (by omega) (WM_n (Or.inl (by omega)))) (hf.2.2 0 14 (by omega) (WM_n (Or.inl (by omega))))
theorem Ms_C (h : Ms s c n P) (ho : Okc c) (hp : Pok n P) (hf : Fw WC s t) : Ms t c n P := by
  have hn := hf.1.1
  exact Ms_e h ho hp (fun k_l _ => hf.2.2 218 k_l (by omega) (WC_n (by omega))) (fun k_l => hf.2.2 221 k_l (by omega) (WC_n (by omega))) (hf.2.2 217 6 (by omega) (WC_n (by omega)))
theorem Pok_n (ho : Okc c) (hp : Pok n P) : Pok (pn n) (psh c P) := by
  have hb_l := pn_b hp.1
  refine ⟨hb_l.1, fun j_l hj => ?_⟩
  unfold psh
  by_cases cj : j_l = 0
  · rw [if_pos cj]
    exact ho
  · rw [if_neg cj]
    exact hp.2 (j_l - 1) (by omega)
theorem aX {v : Int} {t : gS} (_ : True) : gQ (gchk 0 1 (some ((1, 0, 0, gw t 231 (0 : Int).toNat v) : gO))) (fun r => r.2.1 = 0 ∧ gI r.2.2.2 231 0 = v ∧ Sm t r.2.2.2 ∧ ∀ a k, a ≠ 231 → gI r.2.2.2 a k = gI t a k) := gQ_chk (gQ_ret ⟨rfl, rd_same rfl, ⟨rfl, rfl, rfl⟩, fun a k ha_l => rd_a rfl ha_l⟩)
theorem aXb {v : Int} {t : gS} (h : v = 0 ∨ v = 1) : gQ (if v = 0 then gchk 0 1 (some ((1, 0, 0, gw t 231 (0 : Int).toNat 0) : gO)) else gchk 0 1 (some ((1, 0, 0, gw t 231 (0 : Int).toNat 1)))) (fun r => r.2.1 = 0 ∧ gI r.2.2.2 231 0 = v ∧ Sm t r.2.2.2 ∧ ∀ a k, a ≠ 231 → gI r.2.2.2 a k = gI t a k) := by
  rcases h with rfl | rfl
  · rw [if_pos rfl]
    exact aX trivial
  · rw [if_neg (by decide)]
    exact aX trivial
/-- an act that may be refused -/
theorem ax2 {z : Option gO} {K : Nat → gS → Option gO} {E : Int → gS → Option gO} (hJ : J p s) (hm : Ms s c n P) (ho : Okc c) (hp : Pok n P) (hr : Rr s) (hk8 : ∀ k, gI s 218 k = c.1 k) (hy : y.1 = 0 → Okc y.2.2) (hz : gQ z (Cres st s c n P y)) (h1 : st 1 = 0) (hE : ∀ t, (y.1 = 0) → gQ (E y.2.1 t) (fun r => r.2.1 = 0 ∧ gI r.2.2.2 231 0 = y.2.1 ∧ Sm t r.2.2.2 ∧ ∀ a k, a ≠ 231 → gI r.2.2.2 a k = gI t a k)) (hC : ∀ k t, gQ (K k t) (fun r => r.2.1 = st (k + 2) ∧ r.2.1 ≠ 0 ∧ r.2.2.2 = t)) (hF : ∀ u p, J p u → Rt u → Fw WC s u → Ms u c n P → (∀ k, gI u 218 k = c.1 k) → gQ (F u) (Mres u c n P y)) : gQ (z.bind (gc1 K E)) (fun r => Xn F r.2.1 r.2.2.2) := by
  refine gQ_d1 (A := Cres st s c n P y) hz (fun r hr2 e1_l => ?_) (fun r hr2 e2_l => ?_)
  · obtain ⟨x1_l, x2_l, x3, x4_l⟩ := hr2
    rw [e1_l, h1] at x2_l
    obtain ⟨x5_l, x6⟩ := x3 x2_l.symm
    rw [x5_l]
    intro t ht
    obtain ⟨e3_l, e4_l, e5_l, e6_l⟩ := hE _ x2_l.symm t ht
    intro p2_l hJ2 hR2
    have f1_l : Fw WC s t.2.2.2 := Fw_sm x1_l e5_l (fun a k _ hw => e6_l a k (fun z => by rw [WC_t (by omega)] at hw; cases hw))
    have hn := hJ.1.1
    have g8 : ∀ k, gI t.2.2.2 218 k = c.1 k := fun k => (f1_l.2.2 218 k (by omega) (WC_n (by omega))).trans (hk8 k)
    refine fun q_l hq => ?_
    obtain ⟨y1, y2, y3, y4⟩ := hF _ p2_l hJ2 hR2 f1_l (Ms_C hm ho hp f1_l) g8 q_l hq
    obtain ⟨y5, y6⟩ := y3 x2_l.symm
    have hc2 : Cs t.2.2.2 y.2.2 (pn n) (psh c P) := Cs_e x6 (fun a k ha_l => e6_l a k (by omega)) (e6_l 0 13 (by decide)) (e6_l 0 14 (by decide))
    refine ⟨data_Rx (Cs_M hc2 y1) y6 (hy x2_l.symm) (Pok_n ho hp) (Rr_M hJ2 (Rr_C hJ hr f1_l) y1), ?_, fun _ => ?_⟩
    · rw [e3_l, y2, ← x2_l]
    · have hn2 := hJ2.1.1
      rw [y1.2.2 231 0 (by omega) (WM_n (by omega)), e4_l, y5]
  · obtain ⟨x1_l, x2_l, x3, x4_l⟩ := hr2
    intro t ht
    obtain ⟨e3_l, e4_l, e5_l⟩ := hC _ _ t ht
    rw [show r.1 - 2 + 2 = r.1 by omega, x2_l] at e3_l
    have y0 : y.1 ≠ 0 := fun z => e4_l (e3_l.trans z)
    intro p2_l hJ2 hR2
    rw [e5_l] at hJ2 hR2 ⊢
    have hn := hJ.1.1
    have g8 : ∀ k, gI r.2.2.2 218 k = c.1 k := fun k => (x1_l.2.2 218 k (by omega) (WC_n (by omega))).trans (hk8 k)
    refine fun q_l hq => ?_
    obtain ⟨y1, y2, y3, y4⟩ := hF _ p2_l hJ2 hR2 x1_l (Ms_C hm ho hp x1_l) g8 q_l hq
    refine ⟨data_Rx (Cs_M (x4_l y0) y1) (y4 y0) ho hp (Rr_M hJ2 (Rr_C hJ hr x1_l) y1), ?_, fun z => absurd z e4_l⟩
    rw [e3_l, y2]
end Gl
/-! a court in the midst of an act -/
noncomputable def Cst (g s : gS) (V : Nat → Int) (L : Nat → Nat → Int) (n : Nat) (P : Nat → gCt) : Prop := (Csw s 9 15 V L ∧ Pc s n P) ∧ Fw WC g s ∧ RF s
noncomputable def Mst (g s : gS) (V : Nat → Int) (L : Nat → Nat → Int) (n : Nat) (P : Nat → gCt) : Prop := (Msw s 218 0 V L ∧ Pm s n P) ∧ Fw WM g s ∧ RF s ∧ gI s 217 0 = 0
section Ms
variable {g s t u : gS} {V W : Nat → Int} {L L' : Nat → Nat → Int} {n i j a k k0 q : Nat} {P : Nat → gCt} {v x y w d : Int} {c : gCt}
theorem Csw_w (h : Csw s 9 15 V L) (hi : Ci 15 a j k0) (h13 : k0 ≠ 13) (ha : a ≠ 20) : Csw (gw s a j v) 9 15 (up V k0 v) L := ⟨Cr_w h.1 hi, fun i_l q_l hi2 hq => by
  rw [up_n (Ne.symm h13)] at hi2 ⊢
  exact (rd_a rfl (fun z_l => ha z_l.symm)).trans (h.2 i_l q_l hi2 hq)⟩
theorem Pc_e (h : Pc s n P) (e1 : ∀ a k, (9 ≤ a ∧ a < 15) ∨ (73 ≤ a ∧ a < 217) → gI t a k = gI s a k) (e2 : gI t 0 13 = gI s 0 13) (e3 : gI t 0 14 = gI s 0 14) : Pc t n P := by
  obtain ⟨c2_l, c3_l, c4_l⟩ := h
  refine ⟨e3.trans c2_l, by rw [e2]; exact c3_l, fun j_l hj => ?_⟩
  rw [e2]
  refine Csw_e (c4_l j_l hj) (fun a k _ _ => e1 a k (by omega)) (fun a k ha_l hb_l => e1 a k ?_)
  unfold pst at ha_l hb_l
  omega
theorem Cst_w (h : Cst g s V L n P) (hi : Ci 15 a j k0) (h13 : k0 ≠ 13) (ha : (15 ≤ a ∧ a < 27) ∧ a ≠ 20) : Cst g (gw s a j v) (up V k0 v) L n P := by
  obtain ⟨⟨h1, h2⟩, h3, h4⟩ := h
  exact ⟨⟨Csw_w h1 hi h13 ha.2, Pc_e h2 (fun b_l k_l hb_l => rd_a rfl (by omega)) (rd_a rfl (by omega)) (rd_a rfl (by omega))⟩, Fw_wv h3 (WC_t (by omega)), RF_sm h4 rfl⟩
theorem Cst_55 (h : Cst g s V L n P) (h13 : 0 ≤ V 13 ∧ V 13 ≤ 60) : gQ (f_55 19 d x w y s) (fun r => Cst g r.2.2.2 (up V 13 (min 60 (V 13 + 1))) (lgL d x w y L) n P) := by
  obtain ⟨⟨h1, h2⟩, h3, h4⟩ := h
  intro r hr
  obtain ⟨q1_l, q2_l, q3_l⟩ := ct_55 h4 h1 h13 r hr
  exact ⟨⟨q1_l, Pc_e h2 (fun a_l k_l ha_l => q3_l a_l k_l (by omega) (by omega)) (q3_l 0 13 (by decide) (by decide)) (q3_l 0 14 (by decide) (by decide))⟩, Fw_sm h3 q2_l (fun a_l k_l _ hf => q3_l a_l k_l (fun z_l => by rw [WC_t (by omega)] at hf; cases hf) (fun z_l => by rw [WC_t (by omega)] at hf; cases hf)), RF_sm h4 q2_l.2.2⟩
theorem Msw_w (h : Msw s 218 0 V L) (hk : k0 < 100) (h13 : k0 ≠ 13) : Msw (gw s 218 k0 v) 218 0 (up V k0 v) L := by
  refine ⟨fun k_l hk2 => ?_, fun i_l j_l hi_l hj => ?_⟩
  · have h1 := h.1 k_l hk2
    rw [Nat.zero_add] at h1 ⊢
    unfold up
    by_cases c : k_l = k0
    · rw [if_pos c, c]
      exact rd_same rfl
    · rw [if_neg c]
      exact (rd_k rfl c).trans h1
  · rw [up_n (Ne.symm h13)] at hi_l
    exact (rd_k rfl (by omega)).trans (h.2 i_l j_l hi_l hj)
theorem Pm_q (h : Pm s n P) (e2 : ∀ k, gI t 221 k = gI s 221 k) (e3 : gI t 217 6 = gI s 217 6) : Pm t n P := ⟨e3.trans h.1, fun j_l hj => ⟨fun k hk => (e2 _).trans ((h.2 j_l hj).1 k hk), fun i_l l hi_l hl => (e2 _).trans ((h.2 j_l hj).2 i_l l hi_l hl)⟩⟩
theorem WM_8 (h : mnt k = true) : WM 218 k = true := uM _ _ (msd_8 h)
theorem Mst_w (h : Mst g s V L n P) (hk : k0 < 100) (h13 : k0 ≠ 13) (hm : mnt k0 = true) : Mst g (gw s 218 k0 v) (up V k0 v) L n P := by
  obtain ⟨⟨h1, h2⟩, h3, h4, h5⟩ := h
  exact ⟨⟨Msw_w h1 hk h13, Pm_q h2 (fun k_l => rd_a rfl (by decide)) (rd_a rfl (by decide))⟩, Fw_wv h3 (WM_8 hm), RF_sm h4 rfl, (rd_a rfl (by decide)).trans h5⟩
theorem Mst_210 (h : Mst g s V L n P) (h13 : 0 ≤ V 13 ∧ V 13 ≤ 60) (hi : i < 6) : gQ (f_210 217 (i : Int) w s) (fun r => Mst g r.2.2.2 (up V 13 (min 60 (V 13 + 1))) (lgL (V 7) (i : Int) w (V (40 + 6 * i)) L) n P) := by
  obtain ⟨⟨h1, h2⟩, h3, h4, h5⟩ := h
  intro r hr
  obtain ⟨q1_l, q2_l, q3_l⟩ := mt_210 h4 h1 h13 hi r hr
  exact ⟨⟨q1_l, Pm_q h2 (fun k_l => q3_l 221 k_l (by omega)) (q3_l 217 6 (by omega))⟩, Fw_sm h3 q2_l (fun a_l k_l _ hf => q3_l a_l k_l (fun z_l => by
    rw [z_l.1, WM_8 ?_] at hf
    · cases hf
    · rcases z_l.2 with e_l | e_l
      · rw [e_l]
        rfl
      · exact mnt_l k_l (by omega) (by omega))), RF_sm h4 q2_l.2.2, (q3_l 217 0 (by omega)).trans h5⟩
/-- reading -/
theorem Cst_r (h : Cst g s V L n P) (hi : Ci 15 a j k0) (hk : KK k0) : gI s a j = V k0 := rd_ci (C := 15) h.1.1.1 hi hk
theorem Mst_r (h : Mst g s V L n P) (hk : KK k) : gI s 218 k = V k := by
  have := h.1.1.1 k hk
  rw [Nat.zero_add] at this
  exact this
theorem cjm (hn : i < 6) (hj : j < 6) : Ci 15 (21 + i) j (40 + 6 * i + j) := by
  have h_l := cj_m (C := 15) (j := j) (Or.inl rfl) hn hj
  rw [show 15 + 6 + i = 21 + i by omega] at h_l
  exact h_l
theorem c15v : ∀ k, k < 100 → ∀ r, r < 6 → ∀ q, q < 2 → (pa 9 15 k = 17 + q ∧ pj k = r ↔ k = 88 + 2 * r + q) := by decide +kernel
theorem cjv (hn : i < 6) (hj : j < 2) : Ci 15 (17 + j) i (88 + 2 * i + j) := fun k_l hk => c15v k_l hk.1 i hn j hj
theorem c15b : ∀ k, k < 100 → (k ≠ 1 ∧ k ≠ 2 ∧ k ≠ 15) → (pa 9 15 k = 9 ∧ pj k = 9 ↔ k = 12) ∧ (pa 9 15 k = 9 ∧ pj k = 7 ↔ k = 10) ∧ (pa 9 15 k = 9 ∧ pj k = 8 ↔ k = 11) ∧ (pa 9 15 k = 9 ∧ pj k = 5 ↔ k = 3) := by decide +kernel
theorem cjb : Ci 15 9 9 12 ∧ Ci 15 9 7 10 ∧ Ci 15 9 8 11 ∧ Ci 15 9 5 3 := ⟨fun k_l hk => (c15b k_l hk.1 hk.2).1, fun k_l hk => (c15b k_l hk.1 hk.2).2.1, fun k_l hk => (c15b k_l hk.1 hk.2).2.2.1, fun k_l hk => (c15b k_l hk.1 hk.2).2.2.2⟩
theorem c15t : ∀ k, k < 100 → ∀ r, r < 6 → ∀ q, q < 2 → (pa 9 15 k = 13 + q ∧ pj k = r ↔ k = 76 + 2 * r + q) := by decide +kernel
theorem cjt (hn : i < 6) (hj : j < 2) : Ci 15 (13 + j) i (76 + 2 * i + j) := fun k_l hk => c15t k_l hk.1 i hn j hj
theorem cjc : Ci 15 15 6 8 ∧ Ci 15 15 7 9 ∧ Ci 15 15 8 7 ∧ Ci 15 15 9 14 := cj_c (Or.inl rfl)
/-- behind what is remembered -/
theorem Cst_140 (hg : RF s) (hn : 232 ≤ gn s) (ho : Okc c) (hp : Pok n P) (h : Cs s c n P) : gQ (f_140 0 s) (fun r => Cst s r.2.2.2 c.1 c.2 (pn n) (psh c P)) := fun r hr => by
  obtain ⟨q1_l, q2_l⟩ := ct_140 hg hn ho.2.2 hp.1 h r hr
  exact ⟨q1_l, q2_l, RF_fw hg q2_l⟩
theorem KK_m (hi : i < 6) (hj : j < 6) : KK (40 + 6 * i + j) := by unfold KK; omega
theorem KK_v (hi : i < 6) (hj : j < 2) : KK (88 + 2 * i + j) := by unfold KK; omega
theorem KK_t (hi : i < 6) (hj : j < 2) : KK (76 + 2 * i + j) := by unfold KK; omega
theorem KK_c : KK 3 ∧ KK 4 ∧ KK 5 ∧ KK 6 ∧ KK 7 ∧ KK 8 ∧ KK 9 ∧ KK 10 ∧ KK 11 ∧ KK 12 ∧ KK 13 ∧ KK 14 := by unfold KK; exact ⟨by decide, by decide, by decide, by decide, by decide, by decide, by decide, by decide, by decide, by decide, by decide, by decide⟩
/-- more ranges -/
noncomputable def Jn (V : Nat → Int) : Prop := (0 ≤ V 12 ∧ V 12 ≤ 50) ∧ ((0 ≤ V 5 ∧ V 5 ≤ 6) ∧ (0 ≤ V 6 ∧ V 6 ≤ 6)) ∧ ∀ i, i < 6 → 0 ≤ V (40 + 6 * i + 1) ∧ V (40 + 6 * i + 1) ≤ 9
theorem J_Jn {p : gP} (hJ : J p s) (h8 : ∀ k, gI s 218 k = V k) : Jn V := by
  have m_l : ∀ k x_l y_l, arn 218 k = some (x_l, y_l) → x_l ≤ V k ∧ V k ≤ y_l := fun k x_l y_l hk => by
    rw [← h8 k]
    exact J_ra hJ (a := 218) (k := k) (by decide) (by rw [k0_sp.2.2.2.1]; decide) hk
  refine ⟨m_l 12 0 50 rfl, ⟨m_l 5 0 6 rfl, m_l 6 0 6 rfl⟩, fun i_l hi_l => ?_⟩
  have h6 : i_l = 0 ∨ i_l = 1 ∨ i_l = 2 ∨ i_l = 3 ∨ i_l = 4 ∨ i_l = 5 := by omega
  rcases h6 with rfl | rfl | rfl | rfl | rfl | rfl
  · exact m_l 41 0 9 rfl
  · exact m_l 47 0 9 rfl
  · exact m_l 53 0 9 rfl
  · exact m_l 59 0 9 rfl
  · exact m_l 65 0 9 rfl
  · exact m_l 71 0 9 rfl
theorem n_139 (hg : RF s) (h : Cs s c n P) {x : Int} (hx : 0 ≤ x ∧ x < 6) : f_139 0 x s = if c.1 (40 + 6 * x.toNat + 5) = 0 then some (0, 0, 0, s) else some (6, 0, 0, gnw s 99) := by
  have e_l : gI s (21 + x.toNat) 5 = c.1 (40 + 6 * x.toNat + 5) := rd_ci (C := 15) h.1.1 (cjm (by omega) (by decide)) (KK_m (by omega) (by decide))
  unfold f_139 gchk
  rw [if_pos hx, (rr_0_5 hg).2, (rr_15_0 hg).2, rr_16 hg (by omega), e_l]
theorem n_137 (hg : RF s) (h : Rt s) {a1 : Int} : f_137 0 a1 s = if 0 ≤ a1 ∧ a1 < gI s 218 6 then some (0, 0, 0, s) else some (5, 0, 0, gnw s 99) := by
  unfold f_137 fb_137_15
  rw [(rr_0_5 hg).2, (ce_n h).2.2.2.1]
  by_cases c1 : a1 < 0
  · rw [if_pos c1, if_neg (by omega)]
  · rw [if_neg c1]
    by_cases c2 : a1 < gI s 218 6
    · rw [if_pos c2, if_pos (by omega)]
    · rw [if_neg c2, if_neg (by omega)]
theorem q_60 {b : Nat} : gQ (f_60 b v s) (fun r => r.2.2.2 = gw s b 0 (max 0 (min 99 (g32 (gI s b 0 + v))))) := by
  unfold f_60
  exact gQ_ret rfl
theorem Fw_nw {U : Nat → Nat → Bool} (hn : 232 ≤ gn s) : Fw U s (gnw s 99) := Fw_n (Fw_rf hn)
theorem Cs_nw (hn : 232 ≤ gn s) (h : Cs s c n P) : Cs (gnw s 99) c n P := Cs_e h (fun a_l k_l ha_l => gI_nw hn (by omega)) (gI_nw hn (by decide)) (gI_nw hn (by decide))
/-- refused: nothing is changed but an object more -/
theorem Cres_n {st : Nat → Int} {k : Nat} {T v : Int} {c' : gCt} (hn : 232 ≤ gn s) (h : Cs s c n P) (h1 : st k = T) (h0 : T ≠ 0) : Cres st s c n P (T, v, c') (k, 0, 0, gnw s 99) := ⟨Fw_nw hn, h1, fun z_l => absurd z_l h0, fun _ => Cs_nw hn h⟩
end Ms

end
section
/-! the acts as functions of a court -/
noncomputable def logY (x w : Int) (i : Nat) (V : Nat → Int) (L : Nat → Nat → Int) : gCt := (up V 13 (min 60 (V 13 + 1)), lgL (V 7) x w (V (40 + 6 * i)) L)
noncomputable def trV (i : Nat) (v : Int) (V : Nat → Int) : Nat → Int := up V (40 + 6 * i) (min 99 (g32 (V (40 + 6 * i) + v)))
noncomputable def nlV (i : Nat) (V : Nat → Int) : Nat → Int := up V (40 + 6 * i + 1) (g32 (V (40 + 6 * i + 1) - 1))
noncomputable def barV (i : Nat) (V : Nat → Int) : Nat → Int := if V (40 + 6 * i) < V 10 then up V (40 + 6 * i + 5) 1 else V
noncomputable def pfV (i : Nat) (V : Nat → Int) : Nat → Int := trV i (V 12) (nlV i V)
noncomputable def aPf (x : Int) (c : gCt) : gY := if 0 ≤ x ∧ x < c.1 4 then (if c.1 (40 + 6 * x.toNat + 5) = 0 ∧ c.1 (40 + 6 * x.toNat + 1) ≠ 0 then (0, pfV x.toNat c.1 (40 + 6 * x.toNat), logY x 0 x.toNat (pfV x.toNat c.1) c.2) else (2, 0, c)) else (1, 0, c)
noncomputable def cgt (i j : Nat) (V : Nat → Int) : Int := if gand (V (40 + 6 * i + 2)) (gxor (V (76 + 2 * j + 1)) (-1)) = 0 then 1 else 0
noncomputable def trC (i : Nat) (v : Int) (V : Nat → Int) : Nat → Int := if v = 0 then trV i 5 V else up V (40 + 6 * i) (gdiv (V (40 + 6 * i)) 2)
noncomputable def trdV (i j : Nat) (V : Nat → Int) : Nat → Int := barV i (trC i (cgt i j V) (paysF (V (76 + 2 * j)) V))
noncomputable def aTr (x t : Int) (c : gCt) : gY := if (0 ≤ x ∧ x < c.1 4) ∧ (0 ≤ t ∧ t < c.1 5) then (if c.1 (40 + 6 * x.toNat + 5) = 0 then (0, cgt x.toNat t.toNat c.1, logY x (if cgt x.toNat t.toNat c.1 = 0 then 1 else 2) x.toNat (trdV x.toNat t.toNat c.1) c.2) else (2, 0, c)) else (1, 0, c)
noncomputable def aFl (x : Int) (c : gCt) : gY := if 0 ≤ x ∧ x < c.1 4 then (if c.1 (40 + 6 * x.toNat + 5) = 0 ∧ ¬ 0 < c.1 (40 + 6 * x.toNat + 4) then (0, c.1 (40 + 6 * x.toNat), (up c.1 (40 + 6 * x.toNat + 5) 2, c.2)) else (2, 0, c)) else (1, 0, c)
noncomputable def slV (i j : Nat) (v : Int) (V : Nat → Int) : Nat → Int := up (up (up (up V (88 + 2 * j) (g32 (V (88 + 2 * j) - v))) (88 + 2 * j + 1) (gor (V (88 + 2 * j + 1)) (g32 (gshl 1 (V (40 + 6 * i + 3)) - 1)))) 8 (min 9999 (g32 (V 8 + v)))) (40 + 6 * i + 5) 3
noncomputable def aSl (x r v : Int) (c : gCt) : gY := if (0 ≤ x ∧ x < c.1 4) ∧ (0 ≤ r ∧ r < c.1 6) then (if 0 ≤ v ∧ v ≤ c.1 (88 + 2 * r.toNat) then (if c.1 (40 + 6 * x.toNat + 5) = 0 then (0, min 9999 (g32 (c.1 8 + v)), (slV x.toNat r.toNat v c.1, c.2)) else (3, 0, c)) else (2, 0, c)) else (1, 0, c)
noncomputable def ptV (x : Int) (j : Nat) (V : Nat → Int) : Nat → Int := up (up V (88 + 2 * j) (g32 (V (88 + 2 * j) - 20))) (88 + 2 * j + 1) (gor (V (88 + 2 * j + 1)) (gshl 1 x))
noncomputable def aPt (x r : Int) (c : gCt) : gY := if (0 ≤ x ∧ x < c.1 3) ∧ (0 ≤ r ∧ r < c.1 6) then (if gand (gshr (c.1 (88 + 2 * r.toNat + 1)) x) 1 = 0 ∧ ¬ c.1 (88 + 2 * r.toNat) < 20 then (0, gor (c.1 (88 + 2 * r.toNat + 1)) (gshl 1 x), (ptV x r.toNat c.1, c.2)) else (2, 0, c)) else (1, 0, c)
noncomputable def aPy (x : Int) (c : gCt) : gY := if 1 ≤ x ∧ x ≤ min (c.1 9) (c.1 8) then (0, g32 (c.1 9 - x), (up (up c.1 8 (g32 (c.1 8 - x))) 9 (g32 (c.1 9 - x)), c.2)) else (1, 0, c)
noncomputable def aDy (T : (Nat → Int) → Int) (x : Int) (c : gCt) : gY := if 1 ≤ x ∧ x ≤ 200 then (0, fallD T 1 x.toNat c.1, (daysF T 1 x.toNat c.1, c.2)) else (1, 0, c)
section Ac
variable {g s t u : gS} {V W : Nat → Int} {L : Nat → Nat → Int} {n i j a k : Nat} {P : Nat → gCt} {v x y w d : Int} {c : gCt} {p : gP} {T : (Nat → Int) → Int}
theorem cjm0 (hn : i < 6) : Ci 15 (21 + i) 0 (40 + 6 * i) := cjm hn (by decide)
theorem KK_0 (hi : i < 6) : KK (40 + 6 * i) := KK_m (j := 0) hi (by decide)
theorem cjv0 (hn : i < 6) : Ci 15 17 i (88 + 2 * i) := cjv (j := 0) hn (by decide)
theorem KK_v0 (hi : i < 6) : KK (88 + 2 * i) := KK_v (j := 0) hi (by decide)
theorem mx0 {a b : Int} (ha : 0 ≤ a ∧ a ≤ 99) (hb : 0 ≤ b ∧ b ≤ 50) : max 0 (min 99 (g32 (a + b))) = min 99 (g32 (a + b)) := by
  rw [g32_eq (by omega) (by omega)]
  omega
theorem up_c {b : Nat} (h : a ≠ b) : up (up V a x) b y = up (up V b y) a x := by
  funext q
  unfold up
  by_cases c1 : q = b
  · rw [if_pos c1, if_neg (by omega), if_pos c1]
  · rw [if_neg c1]
    by_cases c2 : q = a
    · rw [if_pos c2, if_pos c2]
    · rw [if_neg c2, if_neg c2, if_neg c1]
theorem trC_n (h : k ≠ 40 + 6 * i) : trC i v V k = V k := by
  unfold trC trV
  split <;> exact up_n h
theorem barV_n (h : k ≠ 40 + 6 * i + 5) : barV i V k = V k := by
  unfold barV
  split
  · exact up_n h
  · rfl
theorem cgt_b : cgt i j V = 0 ∨ cgt i j V = 1 := by
  unfold cgt
  split
  · exact Or.inr rfl
  · exact Or.inl rfl
theorem Cst_26 (h : Cst g s V L n P) : gQ (f_26 15 v s) (fun r => Cst g r.2.2.2 (paysF v V) L n P) := by
  have e6_l : gI s 15 6 = V 8 := Cst_r h cjc.1 KK_c.2.2.2.2.2.1
  have h1 : Cst g (gw s 15 6 (g32 (V 8 - min (V 8) v))) (up V 8 (g32 (V 8 - min (V 8) v))) L n P := Cst_w h cjc.1 (by decide) (by decide)
  have e7_l : gI (gw s 15 6 (g32 (V 8 - min (V 8) v))) 15 7 = V 9 := (Cst_r h1 cjc.2.1 KK_c.2.2.2.2.2.2.1).trans (up_n (by decide))
  unfold f_26
  dsimp only
  rw [e6_l, e7_l]
  exact gQ_ret (Cst_w h1 cjc.2.1 (by decide) (by decide))
/-- the class's proof -/
theorem ca_96 (hJ : J p s) (hR : Rt s) (h8 : ∀ k, gI s 218 k = c.1 k) (ho : Okc c) (hp : Pok n P) (h : Cs s c n P) : gQ (f_96 0 x s) (Cres stA s c n P (aPf x c)) := by
  have hg := J_RF hJ
  have hn := hJ.1.1
  have hj := J_Jn hJ h8
  have hj5 := hj.2.1.1
  have hj6 := hj.2.1.2
  have h4 := ho.1.1.1.2
  unfold f_96
  refine n_gt (by decide) (n_135 hg hR) (fun hx => ?_) (fun hx => ?_)
  · rw [h8] at hx
    obtain ⟨i_l, rfl⟩ : ∃ i_l : Nat, x = (i_l : Int) := ⟨x.toNat, by omega⟩
    have hi_l : i_l < 6 := by omega
    have et : ((i_l : Nat) : Int).toNat = i_l := Int.toNat_natCast i_l
    refine n_gt (by decide) (n_139 hg h (by omega)) (fun h5 => ?_) (fun h5 => ?_)
    · rw [et] at h5
      refine gQ_chk ?_
      dsimp only
      have e1_l : gI s (21 + i_l) 1 = c.1 (40 + 6 * i_l + 1) := rd_ci (C := 15) h.1.1 (cjm hi_l (by decide)) (KK_m hi_l (by decide))
      rw [(rr_0_5 hg).2, (rr_15_0 hg).2, et, rr_16 hg hi_l, e1_l]
      have hn9 := hj.2.2 i_l hi_l
      by_cases c1 : c.1 (40 + 6 * i_l + 1) < 1
      · have ey : aPf (i_l : Int) c = (2, 0, c) := by
          unfold aPf
          rw [et, if_pos hx, if_neg (fun z_l => z_l.2 (by omega))]
        rw [if_pos c1, ey]
        exact gQ_ret (Cres_n hn h rfl (by decide))
      · have ey : aPf (i_l : Int) c = (0, pfV i_l c.1 (40 + 6 * i_l), logY (i_l : Int) 0 i_l (pfV i_l c.1) c.2) := by
          unfold aPf
          rw [et, if_pos hx, if_pos ⟨h5, by omega⟩]
        rw [if_neg c1, ey]
        refine gQ_v0 (A := fun u_l => Cst s u_l c.1 c.2 (pn n) (psh c P)) (Cst_140 hg hn ho hp h) (fun s6_l h6 => ?_)
        have e6_l : gI s6_l (21 + i_l) 1 = c.1 (40 + 6 * i_l + 1) := Cst_r h6 (cjm hi_l (by decide)) (KK_m hi_l (by decide))
        rw [e6_l]
        have h7 : Cst s (gw s6_l (21 + i_l) 1 (g32 (c.1 (40 + 6 * i_l + 1) - 1))) (nlV i_l c.1) c.2 (pn n) (psh c P) := Cst_w h6 (cjm hi_l (by decide)) (by omega) (by omega)
        generalize gw s6_l (21 + i_l) 1 (g32 (c.1 (40 + 6 * i_l + 1) - 1)) = s8 at h7 ⊢
        have v0_l : gI s8 (21 + i_l) 0 = nlV i_l c.1 (40 + 6 * i_l) := Cst_r h7 (cjm0 hi_l) (KK_0 hi_l)
        have v9 : gI s8 9 9 = c.1 12 := (Cst_r h7 cjb.1 KK_c.2.2.2.2.2.2.2.2.2.1).trans (up_n (by omega))
        have t0_l : nlV i_l c.1 (40 + 6 * i_l) = c.1 (40 + 6 * i_l) := up_n (by omega)
        have hb0 := (ho.1.1.2.1 i_l hi_l).1
        rw [(rr_0_4 h7.2.2).2, v9]
        refine gQ_v0 (A := fun u_l => Cst s u_l (pfV i_l c.1) c.2 (pn n) (psh c P)) (fun r_l hr => ?_) (fun s9 h9 => ?_)
        · have hq := q_60 r_l hr
          rw [v0_l, mx0 (by rw [t0_l]; exact hb0) hj.1] at hq
          show Cst s r_l.2.2.2 _ _ _ _
          rw [hq]
          exact Cst_w h7 (cjm0 hi_l) (by omega) (by omega)
        · have d8_l : gI s9 15 8 = pfV i_l c.1 7 := Cst_r h9 cjc.2.2.1 KK_c.2.2.2.2.1
          have d0_l : gI s9 (21 + i_l) 0 = pfV i_l c.1 (40 + 6 * i_l) := Cst_r h9 (cjm0 hi_l) (KK_0 hi_l)
          have t13 : pfV i_l c.1 13 = c.1 13 := (up_n (by omega)).trans (up_n (by omega))
          rw [(rr_0_5 h9.2.2).2, (rr_15_3 h9.2.2).2, d8_l, d0_l]
          refine gQ_v0 (A := fun u_l => Cst s u_l (up (pfV i_l c.1) 13 (min 60 (pfV i_l c.1 13 + 1))) (lgL (pfV i_l c.1 7) (i_l : Int) 0 (pfV i_l c.1 (40 + 6 * i_l)) c.2) (pn n) (psh c P)) (Cst_55 h9 (by rw [t13]; exact ho.2)) (fun s11 h11 => ?_)
          refine gQ_ret ⟨h11.2.1, rfl, fun _ => ⟨?_, h11.1⟩, fun z_l => absurd rfl z_l⟩
          exact (Cst_r h11 (cjm0 hi_l) (KK_0 hi_l)).trans (up_n (by omega))
    · have ey : aPf (i_l : Int) c = (2, 0, c) := by
        unfold aPf
        rw [if_pos hx, if_neg (fun z_l => h5 z_l.1)]
      rw [ey]
      exact Cres_n hn h rfl (by decide)
  · rw [h8] at hx
    have ey : aPf x c = (1, 0, c) := by
      unfold aPf
      rw [if_neg hx]
    rw [ey]
    exact Cres_n hn h rfl (by decide)
/-- the class's test of a man -/
theorem ca_97t (h : Cst g s V L n P) (hi : i < 6) (h13 : 0 ≤ V 13 ∧ V 13 ≤ 60) (hv : v = 0 ∨ v = 1) : gQ (fb_97_82 0 (i : Int) (21 + i) v s) (fun r => (r.1 = 1 ∧ r.2.1 = v) ∧ Cst g r.2.2.2 (logY (i : Int) (if v = 0 then 1 else 2) i (barV i V) L).1 (logY (i : Int) (if v = 0 then 1 else 2) i (barV i V) L).2 n P) := by
  have fin_l : ∀ (z_l : gS), Cst g z_l (barV i V) L n P → gQ (fb_97_101 0 (i : Int) (21 + i) v z_l) (fun r => (r.1 = 1 ∧ r.2.1 = v) ∧ Cst g r.2.2.2 (logY (i : Int) (if v = 0 then 1 else 2) i (barV i V) L).1 (logY (i : Int) (if v = 0 then 1 else 2) i (barV i V) L).2 n P) := fun z_l hz => by
    have d8_l : gI z_l 15 8 = barV i V 7 := Cst_r hz cjc.2.2.1 KK_c.2.2.2.2.1
    have d0_l : gI z_l (21 + i) 0 = barV i V (40 + 6 * i) := Cst_r hz (cjm0 hi) (KK_0 hi)
    have t13 : barV i V 13 = V 13 := barV_n (by omega)
    unfold fb_97_101
    rw [(rr_0_5 hz.2.2).2, (rr_15_3 hz.2.2).2, d8_l]
    by_cases c0 : v = 0
    · rw [if_pos c0, if_pos c0]
      unfold fb_97_126
      rw [d0_l]
      refine gQ_v0 (A := fun u_l => Cst g u_l (up (barV i V) 13 (min 60 (barV i V 13 + 1))) (lgL (barV i V 7) (i : Int) 1 (barV i V (40 + 6 * i)) L) n P) (Cst_55 hz (by rw [t13]; exact h13)) (fun u_l hu => ?_)
      exact gQ_bool (gQ_ret ⟨⟨rfl, rfl⟩, hu⟩)
    · rw [if_neg c0, if_neg c0]
      unfold fb_97_126
      rw [d0_l]
      refine gQ_v0 (A := fun u_l => Cst g u_l (up (barV i V) 13 (min 60 (barV i V 13 + 1))) (lgL (barV i V 7) (i : Int) 2 (barV i V (40 + 6 * i)) L) n P) (Cst_55 hz (by rw [t13]; exact h13)) (fun u_l hu => ?_)
      exact gQ_bool (gQ_ret ⟨⟨rfl, rfl⟩, hu⟩)
  have d0_l : gI s (21 + i) 0 = V (40 + 6 * i) := Cst_r h (cjm0 hi) (KK_0 hi)
  have d7_l : gI s 9 7 = V 10 := Cst_r h cjb.2.1 KK_c.2.2.2.2.2.2.2.1
  unfold fb_97_82
  dsimp only
  rw [(rr_0_4 h.2.2).2, d0_l, d7_l]
  by_cases c1 : V (40 + 6 * i) < V 10
  · rw [if_pos c1]
    refine fin_l _ ?_
    have e_l : barV i V = up V (40 + 6 * i + 5) 1 := if_pos c1
    rw [e_l]
    exact Cst_w h (cjm hi (by decide)) (by omega) (by omega)
  · rw [if_neg c1]
    refine fin_l _ ?_
    have e_l : barV i V = V := if_neg c1
    rw [e_l]
    exact h
theorem ca_97 (hJ : J p s) (hR : Rt s) (h8 : ∀ k, gI s 218 k = c.1 k) (ho : Okc c) (hp : Pok n P) (h : Cs s c n P) : gQ (f_97 0 x y s) (Cres stA s c n P (aTr x y c)) := by
  have hg := J_RF hJ
  have hn := hJ.1.1
  have hj := J_Jn hJ h8
  have hj5 := hj.2.1.1
  have hj6 := hj.2.1.2
  have h4 := ho.1.1.1.2
  unfold f_97
  refine n_gt (by decide) (n_135 hg hR) (fun hx => ?_) (fun hx => ?_)
  · rw [h8] at hx
    refine n_gt (by decide) (n_136 hg hR) (fun hy => ?_) (fun hy => ?_)
    · rw [h8] at hy
      obtain ⟨i_l, rfl⟩ : ∃ i_l : Nat, x = (i_l : Int) := ⟨x.toNat, by omega⟩
      obtain ⟨j_l, rfl⟩ : ∃ j_l : Nat, y = (j_l : Int) := ⟨y.toNat, by omega⟩
      have hi_l : i_l < 6 := by omega
      have hjj : j_l < 6 := by omega
      have et : ((i_l : Nat) : Int).toNat = i_l := Int.toNat_natCast i_l
      have ej : ((j_l : Nat) : Int).toNat = j_l := Int.toNat_natCast j_l
      refine n_gt (by decide) (n_139 hg h (by omega)) (fun h5 => ?_) (fun h5 => ?_)
      · rw [et] at h5
        have ey : aTr (i_l : Int) (j_l : Int) c = (0, cgt i_l j_l c.1, logY (i_l : Int) (if cgt i_l j_l c.1 = 0 then 1 else 2) i_l (trdV i_l j_l c.1) c.2) := by
          unfold aTr
          rw [et, ej, if_pos ⟨hx, hy⟩, if_pos h5]
        rw [ey]
        refine gQ_v0 (A := fun u_l => Cst s u_l c.1 c.2 (pn n) (psh c P)) (Cst_140 hg hn ho hp h) (fun s7 h7 => ?_)
        refine gQ_chk ?_
        have e7_l : gI s7 13 j_l = c.1 (76 + 2 * j_l) := Cst_r h7 (cjt (j := 0) hjj (by decide)) (KK_t (j := 0) hjj (by decide))
        rw [(rr_0_5 h7.2.2).2, (rr_0_4 h7.2.2).2, (rr_9 h7.2.2).2.2.2.1, ej, e7_l]
        refine gQ_v0 (A := fun u_l => Cst s u_l (paysF (c.1 (76 + 2 * j_l)) c.1) c.2 (pn n) (psh c P)) (Cst_26 h7) (fun s9 h9 => ?_)
        refine gQ_chk ?_
        dsimp only
        have pw : ∀ k, k ≠ 8 → k ≠ 9 → paysF (c.1 (76 + 2 * j_l)) c.1 k = c.1 k := fun k a_l b_l => pays_n ⟨a_l, b_l⟩
        have v2 : gI s9 (21 + i_l) 2 = c.1 (40 + 6 * i_l + 2) := (Cst_r h9 (cjm hi_l (by decide)) (KK_m hi_l (by decide))).trans (pw _ (by omega) (by omega))
        have vt : gI s9 14 j_l = c.1 (76 + 2 * j_l + 1) := (Cst_r h9 (cjt (j := 1) hjj (by decide)) (KK_t (j := 1) hjj (by decide))).trans (pw _ (by omega) (by omega))
        have q13_l : ∀ v_l, trC i_l v_l (paysF (c.1 (76 + 2 * j_l)) c.1) 13 = c.1 13 := fun v_l => (trC_n (by omega)).trans (pw _ (by decide) (by decide))
        rw [(rr_0_5 h9.2.2).2, (rr_15_0 h9.2.2).2, et, rr_16 h9.2.2 hi_l, (rr_0_4 h9.2.2).2, v2]
        have q4_l : gQ (f_4 9 ((j_l : Nat) : Int) (c.1 (40 + 6 * i_l + 2)) s9) (fun r_l => r_l.2.1 = cgt i_l j_l c.1 ∧ r_l.2.2.2 = s9) := by
          unfold f_4
          rw [(rr_9 h9.2.2).2.2.2.2, ej, vt]
          refine gQ_chk ?_
          unfold cgt
          by_cases c1 : gand (c.1 (40 + 6 * i_l + 2)) (gxor (c.1 (76 + 2 * j_l + 1)) (-1)) = 0
          · rw [if_pos c1, if_pos c1]
            exact gQ_ret ⟨rfl, rfl⟩
          · rw [if_neg c1, if_neg c1]
            exact gQ_ret ⟨rfl, rfl⟩
        refine gQ_w1 (A := fun v_l z_l => v_l = cgt i_l j_l c.1 ∧ z_l = s9) q4_l (fun v13 s12 h12 => ?_)
        obtain ⟨w1_l, w2_l⟩ := h12
        rw [w1_l, w2_l]
        have d0_l : gI s9 (21 + i_l) 0 = paysF (c.1 (76 + 2 * j_l)) c.1 (40 + 6 * i_l) := Cst_r h9 (cjm0 hi_l) (KK_0 hi_l)
        have hb0 := (ho.1.1.2.1 i_l hi_l).1
        have fin_l : ∀ z_l, Cst s z_l (trC i_l (cgt i_l j_l c.1) (paysF (c.1 (76 + 2 * j_l)) c.1)) c.2 (pn n) (psh c P) → gQ (fb_97_82 0 (i_l : Int) (21 + i_l) (cgt i_l j_l c.1) z_l) (Cres stA s c n P (0, cgt i_l j_l c.1, logY (i_l : Int) (if cgt i_l j_l c.1 = 0 then 1 else 2) i_l (trdV i_l j_l c.1) c.2)) := fun z_l hz r_l hr => by
          obtain ⟨⟨r1_l, r2⟩, r3⟩ := ca_97t hz hi_l (by rw [q13_l]; exact ho.2) cgt_b r_l hr
          refine ⟨r3.2.1, by rw [r1_l]; rfl, fun _ => ⟨r2, r3.1⟩, fun z_l => absurd rfl z_l⟩
        by_cases c0 : cgt i_l j_l c.1 = 0
        · rw [if_pos c0]
          refine gQ_v0 (A := fun u_l => Cst s u_l (trC i_l (cgt i_l j_l c.1) (paysF (c.1 (76 + 2 * j_l)) c.1)) c.2 (pn n) (psh c P)) (fun r_l hr => ?_) (fun z_l hz => fin_l z_l hz)
          have hq := q_60 r_l hr
          rw [d0_l, mx0 (by rw [pw _ (by omega) (by omega)]; exact hb0) (by decide)] at hq
          have e_l : trC i_l (cgt i_l j_l c.1) (paysF (c.1 (76 + 2 * j_l)) c.1) = trV i_l 5 (paysF (c.1 (76 + 2 * j_l)) c.1) := if_pos c0
          show Cst s r_l.2.2.2 _ _ _ _
          rw [hq, e_l]
          exact Cst_w h9 (cjm0 hi_l) (by omega) (by omega)
        · rw [if_neg c0, d0_l]
          refine fin_l _ ?_
          have e_l : trC i_l (cgt i_l j_l c.1) (paysF (c.1 (76 + 2 * j_l)) c.1) = up (paysF (c.1 (76 + 2 * j_l)) c.1) (40 + 6 * i_l) (gdiv (paysF (c.1 (76 + 2 * j_l)) c.1 (40 + 6 * i_l)) 2) := if_neg c0
          rw [e_l]
          exact Cst_w h9 (cjm0 hi_l) (by omega) (by omega)
      · have ey : aTr (i_l : Int) (j_l : Int) c = (2, 0, c) := by
          unfold aTr
          rw [if_pos ⟨hx, hy⟩, if_neg h5]
        rw [ey]
        exact Cres_n hn h rfl (by decide)
    · rw [h8] at hy
      have ey : aTr x y c = (1, 0, c) := by
        unfold aTr
        rw [if_neg (fun z_l => hy z_l.2)]
      rw [ey]
      exact Cres_n hn h rfl (by decide)
  · rw [h8] at hx
    have ey : aTr x y c = (1, 0, c) := by
      unfold aTr
      rw [if_neg (fun z_l => hx z_l.1)]
    rw [ey]
    exact Cres_n hn h rfl (by decide)
/-- the class's flight -/
theorem ca_98 (hJ : J p s) (hR : Rt s) (h8 : ∀ k, gI s 218 k = c.1 k) (ho : Okc c) (hp : Pok n P) (h : Cs s c n P) : gQ (f_98 0 x s) (Cres stA s c n P (aFl x c)) := by
  have hg := J_RF hJ
  have hn := hJ.1.1
  have h4 := ho.1.1.1.2
  unfold f_98
  refine n_gt (by decide) (n_135 hg hR) (fun hx => ?_) (fun hx => ?_)
  · rw [h8] at hx
    obtain ⟨i_l, rfl⟩ : ∃ i_l : Nat, x = (i_l : Int) := ⟨x.toNat, by omega⟩
    have hi_l : i_l < 6 := by omega
    have et : ((i_l : Nat) : Int).toNat = i_l := Int.toNat_natCast i_l
    refine n_gt (by decide) (n_139 hg h (by omega)) (fun h5 => ?_) (fun h5 => ?_)
    · rw [et] at h5
      refine gQ_chk ?_
      dsimp only
      have e1_l : gI s (21 + i_l) 4 = c.1 (40 + 6 * i_l + 4) := rd_ci (C := 15) h.1.1 (cjm hi_l (by decide)) (KK_m hi_l (by decide))
      rw [(rr_0_5 hg).2, (rr_15_0 hg).2, et, rr_16 hg hi_l, e1_l]
      by_cases c1 : 0 < c.1 (40 + 6 * i_l + 4)
      · have ey : aFl (i_l : Int) c = (2, 0, c) := by
          unfold aFl
          rw [et, if_pos hx, if_neg (fun z_l => z_l.2 c1)]
        rw [if_pos c1, ey]
        exact gQ_ret (Cres_n hn h rfl (by decide))
      · have ey : aFl (i_l : Int) c = (0, c.1 (40 + 6 * i_l), (up c.1 (40 + 6 * i_l + 5) 2, c.2)) := by
          unfold aFl
          rw [et, if_pos hx, if_pos ⟨h5, c1⟩]
          rfl
        rw [if_neg c1, ey]
        refine gQ_v0 (A := fun u_l => Cst s u_l c.1 c.2 (pn n) (psh c P)) (Cst_140 hg hn ho hp h) (fun s6_l h6 => ?_)
        have h7 : Cst s (gw s6_l (21 + i_l) 5 2) (up c.1 (40 + 6 * i_l + 5) 2) c.2 (pn n) (psh c P) := Cst_w h6 (cjm hi_l (by decide)) (by omega) (by omega)
        refine gQ_ret ⟨h7.2.1, rfl, fun _ => ⟨?_, h7.1⟩, fun z_l => absurd rfl z_l⟩
        exact (Cst_r h7 (cjm0 hi_l) (KK_0 hi_l)).trans (up_n (by omega))
    · have ey : aFl (i_l : Int) c = (2, 0, c) := by
        unfold aFl
        rw [if_pos hx, if_neg (fun z_l => h5 z_l.1)]
      rw [ey]
      exact Cres_n hn h rfl (by decide)
  · rw [h8] at hx
    have ey : aFl x c = (1, 0, c) := by
      unfold aFl
      rw [if_neg hx]
    rw [ey]
    exact Cres_n hn h rfl (by decide)
/-- the class's sale -/
theorem ca_99 (hJ : J p s) (hR : Rt s) (h8 : ∀ k, gI s 218 k = c.1 k) (ho : Okc c) (hp : Pok n P) (h : Cs s c n P) : gQ (f_99 0 x y v s) (Cres stB s c n P (aSl x y v c)) := by
  have hg := J_RF hJ
  have hn := hJ.1.1
  have hj := J_Jn hJ h8
  have hj5 := hj.2.1.1
  have hj6 := hj.2.1.2
  have h4 := ho.1.1.1.2
  unfold f_99
  refine n_gt (by decide) (n_135 hg hR) (fun hx => ?_) (fun hx => ?_)
  · rw [h8] at hx
    refine n_gt (by decide) (n_137 hg hR) (fun hy => ?_) (fun hy => ?_)
    · rw [h8] at hy
      obtain ⟨i_l, rfl⟩ : ∃ i_l : Nat, x = (i_l : Int) := ⟨x.toNat, by omega⟩
      obtain ⟨j_l, rfl⟩ : ∃ j_l : Nat, y = (j_l : Int) := ⟨y.toNat, by omega⟩
      have hi_l : i_l < 6 := by omega
      have hjj : j_l < 6 := by omega
      have et : ((i_l : Nat) : Int).toNat = i_l := Int.toNat_natCast i_l
      have ej : ((j_l : Nat) : Int).toNat = j_l := Int.toNat_natCast j_l
      refine gQ_chk ?_
      have e7_l : gI s 17 j_l = c.1 (88 + 2 * j_l) := rd_ci (C := 15) h.1.1 (cjv0 hjj) (KK_v0 hjj)
      rw [(rr_0_5 hg).2, (rr_15_1 hg).2, ej, e7_l]
      refine n_gt (by decide) n_138 (fun hv => ?_) (fun hv => ?_)
      · refine n_gt (by decide) (n_139 hg h (by omega)) (fun h5 => ?_) (fun h5 => ?_)
        · rw [et] at h5
          have ey : aSl (i_l : Int) (j_l : Int) v c = (0, min 9999 (g32 (c.1 8 + v)), (slV i_l j_l v c.1, c.2)) := by
            unfold aSl
            rw [et, ej, if_pos ⟨hx, hy⟩, if_pos hv, if_pos h5]
            rfl
          rw [ey]
          refine gQ_v0 (A := fun u_l => Cst s u_l c.1 c.2 (pn n) (psh c P)) (Cst_140 hg hn ho hp h) (fun s9 h9 => ?_)
          refine gQ_chk ?_
          dsimp only
          refine gQ_chk (gQ_chk ?_)
          have r9 := h9.2.2
          have d1_l : gI s9 17 j_l = c.1 (88 + 2 * j_l) := Cst_r h9 (cjv0 hjj) (KK_v0 hjj)
          simp only [rgw, (rr_0_5 r9).2, (rr_15_0 r9).2, (rr_15_1 r9).2, (rr_15_2 r9).2, et, ej, rr_16 r9 hi_l, d1_l]
          have w1_l : Cst s (gw s9 17 j_l (g32 (c.1 (88 + 2 * j_l) - v))) (up c.1 (88 + 2 * j_l) (g32 (c.1 (88 + 2 * j_l) - v))) c.2 (pn n) (psh c P) := Cst_w h9 (cjv0 hjj) (by omega) (by omega)
          generalize gw s9 17 j_l (g32 (c.1 (88 + 2 * j_l) - v)) = s12 at w1_l ⊢
          have d2_l : gI s12 15 6 = c.1 8 := (Cst_r w1_l cjc.1 KK_c.2.2.2.2.2.1).trans (up_n (by omega))
          rw [d2_l]
          have w2_l := Cst_w (v := min 9999 (g32 (c.1 8 + v))) w1_l cjc.1 (by decide) (by decide)
          generalize gw s12 15 6 (min 9999 (g32 (c.1 8 + v))) = s13 at w2_l ⊢
          refine gQ_chk (gQ_chk ?_)
          have d3_l : gI s13 18 j_l = c.1 (88 + 2 * j_l + 1) := (Cst_r w2_l (cjv (j := 1) hjj (by decide)) (KK_v (j := 1) hjj (by decide))).trans ((up_n (by omega)).trans (up_n (by omega)))
          have d4_l : gI s13 (21 + i_l) 3 = c.1 (40 + 6 * i_l + 3) := (Cst_r w2_l (cjm hi_l (by decide)) (KK_m hi_l (by decide))).trans ((up_n (by omega)).trans (up_n (by omega)))
          rw [d3_l, d4_l]
          have w3_l := Cst_w (v := gor (c.1 (88 + 2 * j_l + 1)) (g32 (gshl 1 (c.1 (40 + 6 * i_l + 3)) - 1))) w2_l (cjv (j := 1) hjj (by decide)) (by omega) (by omega)
          have w4_l := Cst_w (v := 3) w3_l (cjm (j := 5) hi_l (by decide)) (by omega) (by omega)
          have eV : up (up (up (up c.1 (88 + 2 * j_l) (g32 (c.1 (88 + 2 * j_l) - v))) 8 (min 9999 (g32 (c.1 8 + v)))) (88 + 2 * j_l + 1) (gor (c.1 (88 + 2 * j_l + 1)) (g32 (gshl 1 (c.1 (40 + 6 * i_l + 3)) - 1)))) (40 + 6 * i_l + 5) 3 = slV i_l j_l v c.1 := by
            unfold slV
            rw [up_c (a := 8) (b := 88 + 2 * j_l + 1) (by omega)]
          rw [eV] at w4_l
          refine gQ_ret ⟨w4_l.2.1, rfl, fun _ => ⟨?_, w4_l.1⟩, fun z_l => absurd rfl z_l⟩
          refine (Cst_r w4_l cjc.1 KK_c.2.2.2.2.2.1).trans ?_
          unfold slV
          rw [up_n (by omega), up_s]
        · have ey : aSl (i_l : Int) (j_l : Int) v c = (3, 0, c) := by
            unfold aSl
            rw [ej, if_pos ⟨hx, hy⟩, if_pos hv, if_neg h5]
          rw [ey]
          exact Cres_n hn h rfl (by decide)
      · have ey : aSl (i_l : Int) (j_l : Int) v c = (2, 0, c) := by
          unfold aSl
          rw [ej, if_pos ⟨hx, hy⟩, if_neg hv]
        rw [ey]
        exact Cres_n hn h rfl (by decide)
    · rw [h8] at hy
      have ey : aSl x y v c = (1, 0, c) := by
        unfold aSl
        rw [if_neg (fun z_l => hy z_l.2)]
      rw [ey]
      exact Cres_n hn h rfl (by decide)
  · rw [h8] at hx
    have ey : aSl x y v c = (1, 0, c) := by
      unfold aSl
      rw [if_neg (fun z_l => hx z_l.1)]
    rw [ey]
    exact Cres_n hn h rfl (by decide)
/-- the class's part -/
theorem ca_100 (hJ : J p s) (hR : Rt s) (h8 : ∀ k, gI s 218 k = c.1 k) (ho : Okc c) (hp : Pok n P) (h : Cs s c n P) : gQ (f_100 0 x y s) (Cres stA s c n P (aPt x y c)) := by
  have hg := J_RF hJ
  have hn := hJ.1.1
  have hj := J_Jn hJ h8
  have hj5 := hj.2.1.1
  have hj6 := hj.2.1.2
  unfold f_100
  refine n_gt (by decide) (n_134 hg hR) (fun hx => ?_) (fun hx => ?_)
  · rw [h8] at hx
    refine n_gt (by decide) (n_137 hg hR) (fun hy => ?_) (fun hy => ?_)
    · rw [h8] at hy
      obtain ⟨j_l, rfl⟩ : ∃ j_l : Nat, y = (j_l : Int) := ⟨y.toNat, by omega⟩
      have hjj : j_l < 6 := by omega
      have ej : ((j_l : Nat) : Int).toNat = j_l := Int.toNat_natCast j_l
      refine gQ_chk ?_
      have e7_l : gI s 17 j_l = c.1 (88 + 2 * j_l) := rd_ci (C := 15) h.1.1 (cjv0 hjj) (KK_v0 hjj)
      have e8 : gI s 18 j_l = c.1 (88 + 2 * j_l + 1) := rd_ci (C := 15) h.1.1 (cjv (j := 1) hjj (by decide)) (KK_v (j := 1) hjj (by decide))
      rw [(rr_0_5 hg).2, (rr_15_1 hg).2, (rr_15_2 hg).2, ej, e7_l, e8]
      by_cases c1 : gand (gshr (c.1 (88 + 2 * j_l + 1)) x) 1 = 0
      · rw [if_pos c1]
        refine gQ_chk ?_
        by_cases c2 : c.1 (88 + 2 * j_l) < 20
        · have ey : aPt x (j_l : Int) c = (2, 0, c) := by
            unfold aPt
            rw [ej, if_pos ⟨hx, hy⟩, if_neg (fun z_l => z_l.2 c2)]
          rw [if_pos c2, ey]
          unfold fb_100_40
          exact gQ_ret (Cres_n hn h rfl (by decide))
        · have ey : aPt x (j_l : Int) c = (0, gor (c.1 (88 + 2 * j_l + 1)) (gshl 1 x), (ptV x j_l c.1, c.2)) := by
            unfold aPt
            rw [ej, if_pos ⟨hx, hy⟩, if_pos ⟨c1, c2⟩]
            rfl
          rw [if_neg c2, ey]
          refine gQ_v0 (A := fun u_l => Cst s u_l c.1 c.2 (pn n) (psh c P)) (Cst_140 hg hn ho hp h) (fun s5 h5 => ?_)
          refine gQ_chk (gQ_chk ?_)
          dsimp only
          have r5_l := h5.2.2
          have d1_l : gI s5 17 j_l = c.1 (88 + 2 * j_l) := Cst_r h5 (cjv0 hjj) (KK_v0 hjj)
          simp only [rgw, (rr_0_5 r5_l).2, (rr_15_1 r5_l).2, (rr_15_2 r5_l).2, d1_l]
          have w1_l : Cst s (gw s5 17 j_l (g32 (c.1 (88 + 2 * j_l) - 20))) (up c.1 (88 + 2 * j_l) (g32 (c.1 (88 + 2 * j_l) - 20))) c.2 (pn n) (psh c P) := Cst_w h5 (cjv0 hjj) (by omega) (by omega)
          generalize gw s5 17 j_l (g32 (c.1 (88 + 2 * j_l) - 20)) = s7 at w1_l ⊢
          refine gQ_chk (gQ_chk (gQ_chk ?_))
          have d2_l : gI s7 18 j_l = c.1 (88 + 2 * j_l + 1) := (Cst_r w1_l (cjv (j := 1) hjj (by decide)) (KK_v (j := 1) hjj (by decide))).trans (up_n (by omega))
          rw [d2_l]
          have w2_l : Cst s (gw s7 18 j_l (gor (c.1 (88 + 2 * j_l + 1)) (gshl 1 x))) (ptV x j_l c.1) c.2 (pn n) (psh c P) := Cst_w w1_l (cjv (j := 1) hjj (by decide)) (by omega) (by omega)
          refine gQ_ret ⟨w2_l.2.1, rfl, fun _ => ⟨rd_same rfl, w2_l.1⟩, fun z_l => absurd rfl z_l⟩
      · have ey : aPt x (j_l : Int) c = (2, 0, c) := by
          unfold aPt
          rw [ej, if_pos ⟨hx, hy⟩, if_neg (fun z_l => c1 z_l.1)]
        rw [if_neg c1, ey]
        unfold fb_100_40
        exact gQ_ret (Cres_n hn h rfl (by decide))
    · rw [h8] at hy
      have ey : aPt x y c = (1, 0, c) := by
        unfold aPt
        rw [if_neg (fun z_l => hy z_l.2)]
      rw [ey]
      exact Cres_n hn h rfl (by decide)
  · rw [h8] at hx
    have ey : aPt x y c = (1, 0, c) := by
      unfold aPt
      rw [if_neg (fun z_l => hx z_l.1)]
    rw [ey]
    exact Cres_n hn h rfl (by decide)
/-- the class's payment -/
theorem ca_101 (hJ : J p s) (ho : Okc c) (hp : Pok n P) (h : Cs s c n P) : gQ (f_101 0 x s) (Cres st2 s c n P (aPy x c)) := by
  have hg := J_RF hJ
  have hn := hJ.1.1
  have e8 : gI s 15 6 = c.1 8 := rd_ci (C := 15) h.1.1 cjc.1 KK_c.2.2.2.2.2.1
  have e9_l : gI s 15 7 = c.1 9 := rd_ci (C := 15) h.1.1 cjc.2.1 KK_c.2.2.2.2.2.2.1
  unfold f_101
  rw [(rr_0_5 hg).2, e8, e9_l]
  refine n_gt (by decide) n_138 (fun hx => ?_) (fun hx => ?_)
  · have ey : aPy x c = (0, g32 (c.1 9 - x), (up (up c.1 8 (g32 (c.1 8 - x))) 9 (g32 (c.1 9 - x)), c.2)) := if_pos hx
    rw [ey]
    refine gQ_v0 (A := fun u_l => Cst s u_l c.1 c.2 (pn n) (psh c P)) (Cst_140 hg hn ho hp h) (fun s3_l h3 => ?_)
    dsimp only
    have r3 := h3.2.2
    have d9_l : gI s3_l 15 7 = c.1 9 := Cst_r h3 cjc.2.1 KK_c.2.2.2.2.2.2.1
    simp only [rgw, (rr_0_5 r3).2, d9_l]
    have w1_l := Cst_w (v := g32 (c.1 9 - x)) h3 cjc.2.1 (by decide) (by decide)
    generalize gw s3_l 15 7 (g32 (c.1 9 - x)) = s5 at w1_l ⊢
    have d8_l : gI s5 15 6 = c.1 8 := (Cst_r w1_l cjc.1 KK_c.2.2.2.2.2.1).trans (up_n (by decide))
    rw [d8_l]
    have w2_l := Cst_w (v := g32 (c.1 8 - x)) w1_l cjc.1 (by decide) (by decide)
    rw [up_c (by decide)] at w2_l
    refine gQ_ret ⟨w2_l.2.1, rfl, fun _ => ⟨?_, w2_l.1⟩, fun z_l => absurd rfl z_l⟩
    exact (Cst_r w2_l cjc.2.1 KK_c.2.2.2.2.2.2.1).trans up_s
  · have ey : aPy x c = (1, 0, c) := if_neg hx
    rw [ey]
    exact Cres_n hn h rfl (by decide)
end Ac

end
section
/-! the model's acts are the same functions -/
section Am
variable {g s t u z : gS} {V W : Nat → Int} {L : Nat → Nat → Int} {n i a k : Nat} {P : Nat → gCt} {v x y w d I : Int} {c : gCt} {p : gP} {T : (Nat → Int) → Int} {yy : gY}
theorem Ms_0 (h : Ms s c n P) : Ms (gw s 217 0 v) c n P := ⟨⟨fun k_l hk => (rd_a rfl (by decide)).trans (h.1.1 k_l hk), fun i_l j_l hi_l hj => (rd_a rfl (by decide)).trans (h.1.2 i_l j_l hi_l hj)⟩, Pm_q h.2 (fun k_l => rd_a rfl (by decide)) (rd_k rfl (by decide))⟩
theorem Fw_m0 (hn : 232 ≤ gn s) : Fw WM s (gw s 217 0 v) := Fw_wv (Fw_rf hn) (uM 217 0 rfl)
theorem ma_thr {E : Option gO} (hv : 0 < v) (hn : 232 ≤ gn s) (h : Ms s c n P) (e : yy.1 = v) : gQ (if 0 < gI (gw s 217 0 v) 217 0 then some ((1, 0, 0, gw s 217 0 v) : gO) else E) (Mres s c n P yy) := by
  rw [if_pos (z0 hv)]
  refine gQ_ret ⟨Fw_m0 hn, ?_, fun q_l => by omega, fun _ => Ms_0 h⟩
  rw [e]
  exact rd_same rfl
theorem ma_go {E : gS → Option gO} {Q : gO → Prop} (hg : RF s) (hn : 232 ≤ gn s) (ho : Okc c) (hp : Pok n P) (h : Ms s c n P) (k : ∀ t, Mst s t c.1 c.2 (pn n) (psh c P) → (∀ k, gI t 218 k = gI s 218 k) → gQ (E t) Q) : gQ (if 0 < gI (gw s 217 0 0) 217 0 then some ((1, 0, 0, gw s 217 0 0) : gO) else (f_209 217 (gw s 217 0 0)).bind (gv0 E)) Q := by
  rw [if_neg (by rw [rd_same rfl]; decide)]
  have hg0 : RF (gw s 217 0 0) := RF_sm hg rfl
  refine gQ_v0 (A := fun t => Mst s t c.1 c.2 (pn n) (psh c P) ∧ ∀ k, gI t 218 k = gI s 218 k) (fun r_l hr => ?_) (fun t ht => k t ht.1 ht.2)
  obtain ⟨q1_l, q2_l, q3_l⟩ := mt_209 hg0 ho.2.2 hp.1 (fun j_l hj => (hp.2 j_l hj).2.2) (Ms_0 (v := 0) h) r_l hr
  refine ⟨⟨q1_l, Fw_sm (Fw_m0 hn) q2_l (fun a_l k _ hf => q3_l a_l k (fun z_l => ?_) (fun z_l => ?_)), RF_sm hg0 q2_l.2.2, (q3_l 217 0 (by decide) (by decide)).trans (rd_same rfl)⟩, fun k => (q3_l 218 k (by decide) (by omega)).trans (rd_a rfl (by decide))⟩
  · rw [z_l] at hf
    cases hf
  · rw [z_l.1, z_l.2] at hf
    cases hf
theorem ma_end (h : Mst s z V L (pn n) (psh c P)) (e0 : yy.1 = 0) (e1 : v = yy.2.1) (e2 : V = yy.2.2.1) (e3 : L = yy.2.2.2) : Mres s c n P yy (1, v, 0, z) := by
  refine ⟨h.2.1, by rw [e0]; exact h.2.2.2, fun _ => ⟨e1, ?_⟩, fun q_l => absurd e0 q_l⟩
  rw [e2, e3] at h
  exact h.1
theorem v156 {j : Nat} (hr : gR z 217 1 = 218) (hi : i < 6) (hj : j < 6) (eI : I = (j : Int)) : gQ (f_156 217 (i : Int) I z) (fun r => r.2.1 = gI z 218 (40 + 6 * i + j) ∧ r.2.2.2 = z) := fun r hr2 => by
  subst eI
  have h1 := m_156 (s := z) (x := (i : Int)) (j := (j : Int)) hr (by omega) (by omega) r hr2
  rw [Int.toNat_natCast, Int.toNat_natCast] at h1
  exact h1
theorem u156 {j : Nat} (h : Mst g z V L n P) (hi : i < 6) (hj : j < 6) (eI : I = (j : Int)) : gQ (f_156 217 (i : Int) I z) (fun r => r.2.1 = V (40 + 6 * i + j) ∧ r.2.2.2 = z) := fun r hr => by
  obtain ⟨q1_l, q2_l⟩ := v156 (rr_217_1 h.2.2.1).2 hi hj eI r hr
  exact ⟨q1_l.trans (Mst_r h (KK_m hi hj)), q2_l⟩
theorem u157 {j : Nat} (h : Mst g z V L n P) (hi : i < 6) (hj : j < 6) (hj2 : j ≠ 2) (eI : I = (j : Int)) : gQ (f_157 217 (i : Int) I v z) (fun r => Mst g r.2.2.2 (up V (40 + 6 * i + j) v) L n P) := fun r hr => by
  subst eI
  rw [dm_157 (rr_217_1 h.2.2.1).2 hi hj r hr]
  exact Mst_w h (by omega) (by omega) (mnt_p i hi j hj hj2)
theorem u157_0 (h : Mst g z V L n P) (hi : i < 6) : gQ (f_157 217 (i : Int) 0 v z) (fun r => Mst g r.2.2.2 (up V (40 + 6 * i) v) L n P) := u157 (j := 0) h hi (by decide) (by decide) rfl
theorem u156_0 (h : Mst g z V L n P) (hi : i < 6) : gQ (f_156 217 (i : Int) 0 z) (fun r => r.2.1 = V (40 + 6 * i) ∧ r.2.2.2 = z) := u156 (j := 0) h hi (by decide) rfl
/-- is he kept -/
theorem v165 (hr : gR s 217 1 = 218) (h8 : ∀ k, gI s 218 k = c.1 k) (hi : i < 6) : gQ (f_165 217 (i : Int) s) (fun r => r.2.1 = (if c.1 (40 + 6 * i + 5) = 0 then 1 else 0) ∧ r.2.2.2 = s) := fun r hr2 => by
  have h1 := dm_165 (V := c.1) hr (fun k _ => h8 k) hi r hr2
  rw [show 45 + 6 * i = 40 + 6 * i + 5 by omega] at h1
  exact h1
theorem Mst_200 (h : Mst g s V L n P) : gQ (f_200 217 v s) (fun r => Mst g r.2.2.2 (paysF v V) L n P) := by
  have hr := (rr_217_1 h.2.2.1).2
  have e8 : gI s 218 8 = V 8 := Mst_r h KK_c.2.2.2.2.2.1
  unfold f_200
  rw [hr, e8]
  refine gQ_w1 (A := fun w_l z_l => w_l = min v (V 8) ∧ z_l = s) dm_151 (fun w_l z_l hz => ?_)
  obtain ⟨z1, z2⟩ := hz
  rw [z1, z2, show min v (V 8) = min (V 8) v from Int.min_comm _ _]
  dsimp only
  simp only [rgw, hr, e8]
  have w1_l := Mst_w (v := g32 (V 8 - min (V 8) v)) h (k0 := 8) (by decide) (by decide) rfl
  generalize gw s 218 8 (g32 (V 8 - min (V 8) v)) = s3 at w1_l ⊢
  have e9_l : gI s3 218 9 = V 9 := (Mst_r w1_l KK_c.2.2.2.2.2.2.1).trans (up_n (by decide))
  rw [e9_l]
  refine gQ_w1 (A := fun w_l z_l => w_l = min 9999 (g32 (g32 (V 9 + v) - min (V 8) v)) ∧ z_l = s3) dm_151 (fun w_l z_l hz => ?_)
  obtain ⟨z1, z2⟩ := hz
  rw [z1, z2]
  exact gQ_ret (Mst_w w1_l (by decide) (by decide) rfl)
theorem rv {X : Int} {j : Nat} (hj : j < 6) (q : Int) (hq : 0 ≤ q ∧ q ≤ 1) (e : X = (j : Int)) : g32 (g32 (88 + g32 (2 * X)) + q) = ((88 + 2 * j + q.toNat : Nat) : Int) := by
  subst e
  rw [g32_eq (v := 2 * (j : Int)) (by omega) (by omega), g32_eq (v := 88 + 2 * (j : Int)) (by omega) (by omega), g32_eq (by omega) (by omega)]
  omega
theorem mnt_v : ∀ r, r < 6 → ∀ q, q < 2 → mnt (88 + 2 * r + q) = true := by decide +kernel
theorem v160 {j : Nat} {q : Nat} (hr : gR z 217 1 = 218) (hj : j < 6) (hq : q < 2) (eI : I = (q : Int)) : gQ (f_160 217 (j : Int) I z) (fun r => r.2.1 = gI z 218 (88 + 2 * j + q) ∧ r.2.2.2 = z) := by
  subst eI
  unfold f_160
  rw [rv hj (q : Int) (by omega) rfl, hr, Int.toNat_natCast, Int.toNat_natCast]
  exact gQ_chk (gQ_ret ⟨rfl, rfl⟩)
/-- the model's proof -/
theorem ma_211 (hJ : J p s) (h8 : ∀ k, gI s 218 k = c.1 k) (ho : Okc c) (hp : Pok n P) (h : Ms s c n P) : gQ (f_211 217 x s) (Mres s c n P (aPf x c)) := by
  have hg := J_RF hJ
  have hn := hJ.1.1
  have r1_l := (rr_217_1 hg).2
  have jv := Jv hJ
  unfold f_211 f_162
  rw [r1_l]
  refine m_n (by omega) (fun hx => ?_) (fun hx => ?_)
  · rw [h8] at hx
    have h4 := ho.1.1.1.2
    obtain ⟨i_l, rfl⟩ : ∃ i_l : Nat, x = (i_l : Int) := ⟨x.toNat, by omega⟩
    have hi_l : i_l < 6 := by omega
    have et : ((i_l : Nat) : Int).toNat = i_l := Int.toNat_natCast i_l
    rw [if_neg (by decide)]
    refine gQ_w1 (A := fun v_l z_l => v_l = (if c.1 (40 + 6 * i_l + 5) = 0 then 1 else 0) ∧ z_l = s) (v165 r1_l h8 hi_l) (fun v_l z_l hz => ?_)
    obtain ⟨z1, z2⟩ := hz
    rw [z1, z2]
    by_cases h5 : c.1 (40 + 6 * i_l + 5) = 0
    · rw [if_pos h5, if_neg (by decide)]
      refine gQ_w1 (A := fun v_l z_l => v_l = c.1 (40 + 6 * i_l + 1) ∧ z_l = s) (fun r_l hr => by
        obtain ⟨q1_l, q2_l⟩ := v156 (j := 1) r1_l hi_l (by decide) rfl r_l hr
        exact ⟨q1_l.trans (h8 _), q2_l⟩) (fun v_l z_l hz => ?_)
      obtain ⟨z3, z4⟩ := hz
      rw [z3, z4]
      by_cases c1 : c.1 (40 + 6 * i_l + 1) = 0
      · have ey : aPf (i_l : Int) c = (2, 0, c) := by
          unfold aPf
          rw [et, if_pos hx, if_neg (fun z_l => z_l.2 c1)]
        rw [if_pos c1, ey]
        unfold fb_211_35
        exact ma_thr (by decide) hn h rfl
      · have ey : aPf (i_l : Int) c = (0, pfV i_l c.1 (40 + 6 * i_l), logY (i_l : Int) 0 i_l (pfV i_l c.1) c.2) := by
          unfold aPf
          rw [et, if_pos hx, if_pos ⟨h5, c1⟩]
        rw [if_neg c1, ey]
        unfold fb_211_35
        refine ma_go hg hn ho hp h (fun t_l ht _ => ?_)
        refine gQ_w1 (A := fun v_l z_l => v_l = c.1 (40 + 6 * i_l + 1) ∧ z_l = t_l) (u156 ht hi_l (by decide) rfl) (fun v_l z_l hz => ?_)
        obtain ⟨z5, z6⟩ := hz
        rw [z5, z6]
        refine gQ_v0 (A := fun u_l => Mst s u_l (nlV i_l c.1) c.2 (pn n) (psh c P)) (u157 ht hi_l (by decide) (by decide) rfl) (fun s9 h9 => ?_)
        refine gQ_w1 (A := fun v_l z_l => v_l = nlV i_l c.1 (40 + 6 * i_l) ∧ z_l = s9) (u156_0 h9 hi_l) (fun v_l z_l hz => ?_)
        obtain ⟨z7, z8⟩ := hz
        have e12_l : gI s9 218 12 = c.1 12 := (Mst_r h9 KK_c.2.2.2.2.2.2.2.2.2.1).trans (up_n (by omega))
        rw [z7, z8, (rr_217_1 h9.2.2.1).2, e12_l]
        refine gQ_w1 (A := fun v_l z_l => v_l = min 99 (g32 (nlV i_l c.1 (40 + 6 * i_l) + c.1 12)) ∧ z_l = s9) dm_151 (fun v_l z_l hz => ?_)
        obtain ⟨z9, z10⟩ := hz
        rw [z9, z10]
        refine gQ_v0 (A := fun u_l => Mst s u_l (pfV i_l c.1) c.2 (pn n) (psh c P)) (u157_0 h9 hi_l) (fun s15 h15 => ?_)
        have t13 : pfV i_l c.1 13 = c.1 13 := (up_n (by omega)).trans (up_n (by omega))
        refine gQ_v0 (A := fun u_l => Mst s u_l (up (pfV i_l c.1) 13 (min 60 (pfV i_l c.1 13 + 1))) (lgL (pfV i_l c.1 7) (i_l : Int) 0 (pfV i_l c.1 (40 + 6 * i_l)) c.2) (pn n) (psh c P)) (Mst_210 h15 (by rw [t13]; exact ho.2) hi_l) (fun s17 h17 => ?_)
        refine gQ_w1 (A := fun v_l z_l => v_l = pfV i_l c.1 (40 + 6 * i_l) ∧ z_l = s17) (fun r_l hr => by
          obtain ⟨q1_l, q2_l⟩ := u156_0 h17 hi_l r_l hr
          exact ⟨q1_l.trans (up_n (by omega)), q2_l⟩) (fun v_l z_l hz => ?_)
        obtain ⟨z11, z12⟩ := hz
        rw [z11, z12]
        exact gQ_ret (ma_end h17 rfl rfl rfl rfl)
    · have ey : aPf (i_l : Int) c = (2, 0, c) := by
        unfold aPf
        rw [et, if_pos hx, if_neg (fun z_l => h5 z_l.1)]
      rw [if_neg h5, if_pos rfl, ey]
      unfold fb_211_35
      exact ma_thr (by decide) hn h rfl
  · rw [h8] at hx
    have ey : aPf x c = (1, 0, c) := by
      unfold aPf
      rw [if_neg hx]
    rw [if_pos rfl, ey]
    unfold fb_211_35
    exact ma_thr (by decide) hn h rfl
/-- the model's test of a man -/
theorem ma_213t (h : Mst s z V L (pn n) (psh c P)) (hi : i < 6) (h13 : 0 ≤ V 13 ∧ V 13 ≤ 60) (hv : v = 0 ∨ v = 1) (e0 : yy.1 = 0) (e1 : v = yy.2.1) (e2 : logY (i : Int) (if v = 0 then 1 else 2) i (barV i (up V (40 + 6 * i) w)) L = yy.2.2) : gQ (fb_213_102 217 (i : Int) v w 0 (i : Int) 217 z) (Mres s c n P yy) := by
  have fin_l : ∀ (q_l : gS), Mst s q_l (barV i (up V (40 + 6 * i) w)) L (pn n) (psh c P) → gQ (fb_213_128 217 (i : Int) v q_l) (Mres s c n P yy) := fun q_l hq => by
    have t13 : barV i (up V (40 + 6 * i) w) 13 = V 13 := (barV_n (by omega)).trans (up_n (by omega))
    unfold fb_213_128
    by_cases c0 : v = 0
    · rw [if_pos c0] at e2 ⊢
      unfold fb_213_139
      refine gQ_v0 (A := fun u_l => Mst s u_l (up (barV i (up V (40 + 6 * i) w)) 13 (min 60 (barV i (up V (40 + 6 * i) w) 13 + 1))) (lgL (barV i (up V (40 + 6 * i) w) 7) (i : Int) 1 (barV i (up V (40 + 6 * i) w) (40 + 6 * i)) L) (pn n) (psh c P)) (Mst_210 hq (by rw [t13]; exact h13) hi) (fun u_l hu => ?_)
      exact gQ_bool (gQ_ret (ma_end hu e0 e1 (by rw [← e2]; rfl) (by rw [← e2]; rfl)))
    · rw [if_neg c0] at e2 ⊢
      unfold fb_213_139
      refine gQ_v0 (A := fun u_l => Mst s u_l (up (barV i (up V (40 + 6 * i) w)) 13 (min 60 (barV i (up V (40 + 6 * i) w) 13 + 1))) (lgL (barV i (up V (40 + 6 * i) w) 7) (i : Int) 2 (barV i (up V (40 + 6 * i) w) (40 + 6 * i)) L) (pn n) (psh c P)) (Mst_210 hq (by rw [t13]; exact h13) hi) (fun u_l hu => ?_)
      exact gQ_bool (gQ_ret (ma_end hu e0 e1 (by rw [← e2]; rfl) (by rw [← e2]; rfl)))
  unfold fb_213_102
  refine gQ_v0 (A := fun u_l => Mst s u_l (up V (40 + 6 * i) w) L (pn n) (psh c P)) (u157_0 h hi) (fun s20 h20 => ?_)
  refine gQ_w1 (A := fun v z => v = up V (40 + 6 * i) w (40 + 6 * i) ∧ z = s20) (u156_0 h20 hi) (fun v z hz => ?_)
  obtain ⟨z1, z2⟩ := hz
  have e10_l : gI s20 218 10 = up V (40 + 6 * i) w 10 := Mst_r h20 KK_c.2.2.2.2.2.2.2.1
  rw [z1, z2, (rr_217_1 h20.2.2.1).2, e10_l]
  by_cases c1 : up V (40 + 6 * i) w (40 + 6 * i) < up V (40 + 6 * i) w 10
  · rw [if_pos c1]
    have e_l : barV i (up V (40 + 6 * i) w) = up (up V (40 + 6 * i) w) (40 + 6 * i + 5) 1 := if_pos c1
    refine gQ_v0 (A := fun u_l => Mst s u_l (barV i (up V (40 + 6 * i) w)) L (pn n) (psh c P)) (fun r_l hr => ?_) (fun q_l hq => fin_l q_l hq)
    rw [e_l]
    exact u157 h20 hi (by decide) (by decide) rfl r_l hr
  · rw [if_neg c1]
    have e_l : barV i (up V (40 + 6 * i) w) = up V (40 + 6 * i) w := if_neg c1
    refine fin_l s20 ?_
    rw [e_l]
    exact h20
theorem ma_213 (hJ : J p s) (h8 : ∀ k, gI s 218 k = c.1 k) (ho : Okc c) (hp : Pok n P) (h : Ms s c n P) : gQ (f_213 217 x y s) (Mres s c n P (aTr x y c)) := by
  have hg := J_RF hJ
  have hn := hJ.1.1
  have r1_l := (rr_217_1 hg).2
  have jv := Jv hJ
  unfold f_213 f_162 f_163
  rw [r1_l]
  refine m_n (by omega) (fun hx => ?_) (fun hx => ?_)
  · rw [if_neg (by decide)]
    rw [r1_l]
    refine m_n (by omega) (fun hy => ?_) (fun hy => ?_)
    · rw [h8] at hx hy
      have h4 := ho.1.1.1.2
      have hj := (J_Jn hJ h8).2.1.1
      obtain ⟨i_l, rfl⟩ : ∃ i_l : Nat, x = (i_l : Int) := ⟨x.toNat, by omega⟩
      obtain ⟨j_l, rfl⟩ : ∃ j_l : Nat, y = (j_l : Int) := ⟨y.toNat, by omega⟩
      have hi_l : i_l < 6 := by omega
      have hjj : j_l < 6 := by omega
      have et : ((i_l : Nat) : Int).toNat = i_l := Int.toNat_natCast i_l
      have ej : ((j_l : Nat) : Int).toNat = j_l := Int.toNat_natCast j_l
      rw [if_neg (by decide)]
      refine gQ_w1 (A := fun v_l z_l => v_l = (if c.1 (40 + 6 * i_l + 5) = 0 then 1 else 0) ∧ z_l = s) (v165 r1_l h8 hi_l) (fun v_l z_l hz => ?_)
      obtain ⟨z1, z2⟩ := hz
      rw [z1, z2]
      by_cases h5 : c.1 (40 + 6 * i_l + 5) = 0
      · rw [if_pos h5, if_neg (by decide)]
        have ey : aTr (i_l : Int) (j_l : Int) c = (0, cgt i_l j_l c.1, logY (i_l : Int) (if cgt i_l j_l c.1 = 0 then 1 else 2) i_l (trdV i_l j_l c.1) c.2) := by
          unfold aTr
          rw [et, ej, if_pos ⟨hx, hy⟩, if_pos h5]
        rw [ey]
        unfold fb_213_34
        refine ma_go hg hn ho hp h (fun t_l ht _ => ?_)
        refine gQ_w1 (A := fun v_l z_l => v_l = c.1 (76 + 2 * j_l) ∧ z_l = t_l) (fun r_l hr => by
          obtain ⟨q1_l, q2_l⟩ := m_158 (x := (j_l : Int)) (rr_217_1 ht.2.2.1).2 (by omega) r_l hr
          rw [ej] at q1_l
          exact ⟨q1_l.trans (Mst_r ht (KK_t (j := 0) hjj (by decide))), q2_l⟩) (fun v_l z_l hz => ?_)
        obtain ⟨z3, z4⟩ := hz
        rw [z3, z4]
        refine gQ_v0 (A := fun u_l => Mst s u_l (paysF (c.1 (76 + 2 * j_l)) c.1) c.2 (pn n) (psh c P)) (Mst_200 ht) (fun s9 h9 => ?_)
        have pw : ∀ k, k ≠ 8 → k ≠ 9 → paysF (c.1 (76 + 2 * j_l)) c.1 k = c.1 k := fun k a_l b_l => pays_n ⟨a_l, b_l⟩
        have q13_l : 0 ≤ paysF (c.1 (76 + 2 * j_l)) c.1 13 ∧ paysF (c.1 (76 + 2 * j_l)) c.1 13 ≤ 60 := by
          rw [pw 13 (by decide) (by decide)]
          exact ho.2
        have r9 := (rr_217_1 h9.2.2.1).2
        refine gQ_w1 (A := fun v_l z_l => v_l = c.1 (40 + 6 * i_l + 2) ∧ z_l = s9) (fun r_l hr => by
          obtain ⟨q1_l, q2_l⟩ := u156 (j := 2) h9 hi_l (by decide) rfl r_l hr
          exact ⟨q1_l.trans (pw _ (by omega) (by omega)), q2_l⟩) (fun v_l z_l hz => ?_)
        obtain ⟨z5, z6⟩ := hz
        rw [z5, z6]
        refine gQ_w1 (A := fun v_l z_l => v_l = cgt i_l j_l c.1 ∧ z_l = s9) (by
          unfold f_212
          refine gQ_w1 (A := fun v_l z_l => v_l = c.1 (76 + 2 * j_l + 1) ∧ z_l = s9) (fun r_l hr => by
            obtain ⟨q1_l, q2_l⟩ := m_159 (x := (j_l : Int)) r9 (by omega) r_l hr
            rw [ej] at q1_l
            exact ⟨q1_l.trans ((Mst_r h9 (KK_t (j := 1) hjj (by decide))).trans (pw _ (by omega) (by omega))), q2_l⟩) (fun v_l z_l hz => ?_)
          obtain ⟨z7, z8⟩ := hz
          rw [z7, z8]
          unfold cgt
          by_cases c1 : gand (c.1 (40 + 6 * i_l + 2)) (gxor (c.1 (76 + 2 * j_l + 1)) (-1)) = 0
          · rw [if_pos c1, if_pos c1]
            exact gQ_ret ⟨rfl, rfl⟩
          · rw [if_neg c1, if_neg c1]
            exact gQ_ret ⟨rfl, rfl⟩) (fun v_l z_l hz => ?_)
        obtain ⟨z7, z8⟩ := hz
        rw [z7, z8]
        by_cases c0 : cgt i_l j_l c.1 = 0
        · rw [if_pos c0]
          refine gQ_w1 (A := fun v_l z_l => v_l = paysF (c.1 (76 + 2 * j_l)) c.1 (40 + 6 * i_l) ∧ z_l = s9) (u156_0 h9 hi_l) (fun v_l z_l hz => ?_)
          obtain ⟨y1, y2⟩ := hz
          rw [y1, y2]
          refine gQ_w1 (A := fun v_l z_l => v_l = min 99 (g32 (paysF (c.1 (76 + 2 * j_l)) c.1 (40 + 6 * i_l) + 5)) ∧ z_l = s9) dm_151 (fun v_l z_l hz => ?_)
          obtain ⟨y3, y4⟩ := hz
          rw [y3, y4]
          refine ma_213t h9 hi_l q13_l cgt_b rfl rfl ?_
          dsimp only
          have e_l : trdV i_l j_l c.1 = barV i_l (up (paysF (c.1 (76 + 2 * j_l)) c.1) (40 + 6 * i_l) (min 99 (g32 (paysF (c.1 (76 + 2 * j_l)) c.1 (40 + 6 * i_l) + 5)))) := by
            unfold trdV trC
            rw [if_pos c0]
            rfl
          rw [e_l]
        · rw [if_neg c0]
          refine gQ_w1 (A := fun v_l z_l => v_l = paysF (c.1 (76 + 2 * j_l)) c.1 (40 + 6 * i_l) ∧ z_l = s9) (u156_0 h9 hi_l) (fun v_l z_l hz => ?_)
          obtain ⟨y1, y2⟩ := hz
          rw [y1, y2]
          refine ma_213t h9 hi_l q13_l cgt_b rfl rfl ?_
          dsimp only
          have e_l : trdV i_l j_l c.1 = barV i_l (up (paysF (c.1 (76 + 2 * j_l)) c.1) (40 + 6 * i_l) (gdiv (paysF (c.1 (76 + 2 * j_l)) c.1 (40 + 6 * i_l)) 2)) := by
            unfold trdV trC
            rw [if_neg c0]
          rw [e_l]
      · have ey : aTr (i_l : Int) (j_l : Int) c = (2, 0, c) := by
          unfold aTr
          rw [et, if_pos ⟨hx, hy⟩, if_neg h5]
        rw [if_neg h5, if_pos rfl, ey]
        unfold fb_213_34
        exact ma_thr (by decide) hn h rfl
    · rw [h8] at hy
      have ey : aTr x y c = (1, 0, c) := by
        unfold aTr
        rw [if_neg (fun z_l => hy z_l.2)]
      rw [if_pos rfl, ey]
      unfold fb_213_34
      exact ma_thr (by decide) hn h rfl
  · rw [h8] at hx
    have ey : aTr x y c = (1, 0, c) := by
      unfold aTr
      rw [if_neg (fun z_l => hx z_l.1)]
    rw [if_pos rfl, ey]
    unfold fb_213_34
    exact ma_thr (by decide) hn h rfl
/-- the model's flight -/
theorem ma_214 (hJ : J p s) (h8 : ∀ k, gI s 218 k = c.1 k) (ho : Okc c) (hp : Pok n P) (h : Ms s c n P) : gQ (f_214 217 x s) (Mres s c n P (aFl x c)) := by
  have hg := J_RF hJ
  have hn := hJ.1.1
  have r1_l := (rr_217_1 hg).2
  have jv := Jv hJ
  unfold f_214 f_162
  rw [r1_l]
  refine m_n (by omega) (fun hx => ?_) (fun hx => ?_)
  · rw [h8] at hx
    have h4 := ho.1.1.1.2
    obtain ⟨i_l, rfl⟩ : ∃ i_l : Nat, x = (i_l : Int) := ⟨x.toNat, by omega⟩
    have hi_l : i_l < 6 := by omega
    have et : ((i_l : Nat) : Int).toNat = i_l := Int.toNat_natCast i_l
    rw [if_neg (by decide)]
    refine gQ_w1 (A := fun v_l z_l => v_l = (if c.1 (40 + 6 * i_l + 5) = 0 then 1 else 0) ∧ z_l = s) (v165 r1_l h8 hi_l) (fun v_l z_l hz => ?_)
    obtain ⟨z1, z2⟩ := hz
    rw [z1, z2]
    by_cases h5 : c.1 (40 + 6 * i_l + 5) = 0
    · rw [if_pos h5, if_neg (by decide)]
      refine gQ_w1 (A := fun v_l z_l => v_l = c.1 (40 + 6 * i_l + 4) ∧ z_l = s) (fun r_l hr => by
        obtain ⟨q1_l, q2_l⟩ := v156 (j := 4) r1_l hi_l (by decide) rfl r_l hr
        exact ⟨q1_l.trans (h8 _), q2_l⟩) (fun v_l z_l hz => ?_)
      obtain ⟨z3, z4⟩ := hz
      rw [z3, z4]
      by_cases c1 : 0 < c.1 (40 + 6 * i_l + 4)
      · have ey : aFl (i_l : Int) c = (2, 0, c) := by
          unfold aFl
          rw [et, if_pos hx, if_neg (fun z_l => z_l.2 c1)]
        rw [if_pos c1, ey]
        unfold fb_214_35
        exact ma_thr (by decide) hn h rfl
      · have ey : aFl (i_l : Int) c = (0, c.1 (40 + 6 * i_l), (up c.1 (40 + 6 * i_l + 5) 2, c.2)) := by
          unfold aFl
          rw [et, if_pos hx, if_pos ⟨h5, c1⟩]
          rfl
        rw [if_neg c1, ey]
        unfold fb_214_35
        refine ma_go hg hn ho hp h (fun t_l ht _ => ?_)
        refine gQ_v0 (A := fun u_l => Mst s u_l (up c.1 (40 + 6 * i_l + 5) 2) c.2 (pn n) (psh c P)) (u157 ht hi_l (by decide) (by decide) rfl) (fun s7 h7 => ?_)
        refine gQ_w1 (A := fun v_l z_l => v_l = c.1 (40 + 6 * i_l) ∧ z_l = s7) (fun r_l hr => by
          obtain ⟨q1_l, q2_l⟩ := u156_0 h7 hi_l r_l hr
          exact ⟨q1_l.trans (up_n (by omega)), q2_l⟩) (fun v_l z_l hz => ?_)
        obtain ⟨z5, z6⟩ := hz
        rw [z5, z6]
        exact gQ_ret (ma_end h7 rfl rfl rfl rfl)
    · have ey : aFl (i_l : Int) c = (2, 0, c) := by
        unfold aFl
        rw [et, if_pos hx, if_neg (fun z_l => h5 z_l.1)]
      rw [if_neg h5, if_pos rfl, ey]
      unfold fb_214_35
      exact ma_thr (by decide) hn h rfl
  · rw [h8] at hx
    have ey : aFl x c = (1, 0, c) := by
      unfold aFl
      rw [if_neg hx]
    rw [if_pos rfl, ey]
    unfold fb_214_35
    exact ma_thr (by decide) hn h rfl
/-- the model's sale -/
theorem ma_215 (hJ : J p s) (h8 : ∀ k, gI s 218 k = c.1 k) (ho : Okc c) (hp : Pok n P) (h : Ms s c n P) : gQ (f_215 217 x y v s) (Mres s c n P (aSl x y v c)) := by
  have hg := J_RF hJ
  have hn := hJ.1.1
  have r1_l := (rr_217_1 hg).2
  have jv := Jv hJ
  unfold f_215 f_162 f_164
  rw [r1_l]
  refine m_n (by omega) (fun hx => ?_) (fun hx => ?_)
  · rw [if_neg (by decide)]
    rw [r1_l]
    refine m_n (by omega) (fun hy => ?_) (fun hy => ?_)
    · rw [h8] at hx hy
      have h4 := ho.1.1.1.2
      have hj := (J_Jn hJ h8).2.1.2
      obtain ⟨i_l, rfl⟩ : ∃ i_l : Nat, x = (i_l : Int) := ⟨x.toNat, by omega⟩
      obtain ⟨j_l, rfl⟩ : ∃ j_l : Nat, y = (j_l : Int) := ⟨y.toNat, by omega⟩
      have hi_l : i_l < 6 := by omega
      have hjj : j_l < 6 := by omega
      have et : ((i_l : Nat) : Int).toNat = i_l := Int.toNat_natCast i_l
      have ej : ((j_l : Nat) : Int).toNat = j_l := Int.toNat_natCast j_l
      rw [if_neg (by decide)]
      refine gQ_w1 (A := fun v z_l => v = c.1 (88 + 2 * j_l) ∧ z_l = s) (fun r_l hr => by
        obtain ⟨q1_l, q2_l⟩ := v160 (q := 0) r1_l hjj (by decide) rfl r_l hr
        exact ⟨q1_l.trans (h8 _), q2_l⟩) (fun vv zz hz => ?_)
      obtain ⟨z1, z2⟩ := hz
      rw [z1, z2]
      refine gQ_w1 (A := fun w_l z_l => w_l = (if 0 ≤ v ∧ v ≤ c.1 (88 + 2 * j_l) then 1 else 0) ∧ z_l = s) m_150 (fun w_l z_l hz => ?_)
      obtain ⟨z3, z4⟩ := hz
      rw [z3, z4]
      by_cases hv : 0 ≤ v ∧ v ≤ c.1 (88 + 2 * j_l)
      · rw [if_pos hv, if_neg (by decide)]
        refine gQ_w1 (A := fun v z_l => v = (if c.1 (40 + 6 * i_l + 5) = 0 then 1 else 0) ∧ z_l = s) (v165 r1_l h8 hi_l) (fun vv zz hz => ?_)
        obtain ⟨z5, z6⟩ := hz
        rw [z5, z6]
        by_cases h5 : c.1 (40 + 6 * i_l + 5) = 0
        · rw [if_pos h5, if_neg (by decide)]
          have ey : aSl (i_l : Int) (j_l : Int) v c = (0, min 9999 (g32 (c.1 8 + v)), (slV i_l j_l v c.1, c.2)) := by
            unfold aSl
            rw [et, ej, if_pos ⟨hx, hy⟩, if_pos hv, if_pos h5]
            rfl
          rw [ey]
          unfold fb_215_52
          refine ma_go hg hn ho hp h (fun t_l ht _ => ?_)
          rw [rv hjj 0 (by decide) rfl, rv hjj 1 (by decide) rfl, Int.toNat_natCast, Int.toNat_natCast, show 88 + 2 * j_l + (0 : Int).toNat = 88 + 2 * j_l from rfl, show 88 + 2 * j_l + (1 : Int).toNat = 88 + 2 * j_l + 1 from rfl]
          have rt := (rr_217_1 ht.2.2.1).2
          have d1_l : gI t_l 218 (88 + 2 * j_l) = c.1 (88 + 2 * j_l) := Mst_r ht (KK_v0 hjj)
          refine gQ_chk (gQ_chk ?_)
          dsimp only
          simp only [rgw, rt, d1_l]
          have w1_l := Mst_w (v := g32 (c.1 (88 + 2 * j_l) - v)) ht (k0 := 88 + 2 * j_l) (by omega) (by omega) (mnt_v j_l hjj 0 (by decide))
          generalize gw t_l 218 (88 + 2 * j_l) (g32 (c.1 (88 + 2 * j_l) - v)) = s7 at w1_l ⊢
          refine gQ_chk ?_
          refine gQ_w1 (A := fun v z_l => v = c.1 (40 + 6 * i_l + 3) ∧ z_l = s7) (fun r_l hr => by
            obtain ⟨q1_l, q2_l⟩ := u156 (j := 3) w1_l hi_l (by decide) rfl r_l hr
            exact ⟨q1_l.trans (up_n (by omega)), q2_l⟩) (fun vv zz hz => ?_)
          obtain ⟨y1, y2⟩ := hz
          rw [y1, y2]
          refine gQ_chk ?_
          have d2_l : gI s7 218 (88 + 2 * j_l + 1) = c.1 (88 + 2 * j_l + 1) := (Mst_r w1_l (KK_v (j := 1) hjj (by decide))).trans (up_n (by omega))
          simp only [d2_l]
          have w2_l := Mst_w (v := gor (c.1 (88 + 2 * j_l + 1)) (g32 (gshl 1 (c.1 (40 + 6 * i_l + 3)) - 1))) w1_l (k0 := 88 + 2 * j_l + 1) (by omega) (by omega) (mnt_v j_l hjj 1 (by decide))
          generalize gw s7 218 (88 + 2 * j_l + 1) (gor (c.1 (88 + 2 * j_l + 1)) (g32 (gshl 1 (c.1 (40 + 6 * i_l + 3)) - 1))) = s10 at w2_l ⊢
          have d3_l : gI s10 218 8 = c.1 8 := (Mst_r w2_l KK_c.2.2.2.2.2.1).trans ((up_n (by omega)).trans (up_n (by omega)))
          rw [(rr_217_1 w1_l.2.2.1).2, d3_l]
          refine gQ_w1 (A := fun w_l z_l => w_l = min 9999 (g32 (c.1 8 + v)) ∧ z_l = s10) dm_151 (fun w_l z_l hz => ?_)
          obtain ⟨y3, y4⟩ := hz
          rw [y3, y4]
          have w3_l := Mst_w (v := min 9999 (g32 (c.1 8 + v))) w2_l (k0 := 8) (by decide) (by decide) rfl
          refine gQ_v0 (A := fun u_l => Mst s u_l (slV i_l j_l v c.1) c.2 (pn n) (psh c P)) (u157 (j := 5) w3_l hi_l (by decide) (by decide) rfl) (fun s14 h14 => ?_)
          have d4_l : gI s14 218 8 = min 9999 (g32 (c.1 8 + v)) := by
            refine (Mst_r h14 KK_c.2.2.2.2.2.1).trans ?_
            unfold slV
            rw [up_n (by omega), up_s]
          rw [(rr_217_1 h14.2.2.1).2, d4_l]
          exact gQ_ret (ma_end h14 rfl rfl rfl rfl)
        · have ey : aSl (i_l : Int) (j_l : Int) v c = (3, 0, c) := by
            unfold aSl
            rw [et, ej, if_pos ⟨hx, hy⟩, if_pos hv, if_neg h5]
          rw [if_neg h5, if_pos rfl, ey]
          unfold fb_215_52
          exact ma_thr (by decide) hn h rfl
      · have ey : aSl (i_l : Int) (j_l : Int) v c = (2, 0, c) := by
          unfold aSl
          rw [ej, if_pos ⟨hx, hy⟩, if_neg hv]
        rw [if_neg hv, if_pos rfl, ey]
        unfold fb_215_52
        exact ma_thr (by decide) hn h rfl
    · rw [h8] at hy
      have ey : aSl x y v c = (1, 0, c) := by
        unfold aSl
        rw [if_neg (fun z_l => hy z_l.2)]
      rw [if_pos rfl, ey]
      unfold fb_215_52
      exact ma_thr (by decide) hn h rfl
  · rw [h8] at hx
    have ey : aSl x y v c = (1, 0, c) := by
      unfold aSl
      rw [if_neg (fun z_l => hx z_l.1)]
    rw [if_pos rfl, ey]
    unfold fb_215_52
    exact ma_thr (by decide) hn h rfl
/-- the model's part -/
theorem ma_216 (hJ : J p s) (h8 : ∀ k, gI s 218 k = c.1 k) (ho : Okc c) (hp : Pok n P) (h : Ms s c n P) : gQ (f_216 217 x y s) (Mres s c n P (aPt x y c)) := by
  have hg := J_RF hJ
  have hn := hJ.1.1
  have r1_l := (rr_217_1 hg).2
  have jv := Jv hJ
  unfold f_216 f_161 f_164
  rw [r1_l]
  refine m_n (by omega) (fun hx => ?_) (fun hx => ?_)
  · rw [if_neg (by decide)]
    rw [r1_l]
    refine m_n (by omega) (fun hy => ?_) (fun hy => ?_)
    · rw [h8] at hx hy
      have hj := (J_Jn hJ h8).2.1.2
      obtain ⟨j_l, rfl⟩ : ∃ j_l : Nat, y = (j_l : Int) := ⟨y.toNat, by omega⟩
      have hjj : j_l < 6 := by omega
      have ej : ((j_l : Nat) : Int).toNat = j_l := Int.toNat_natCast j_l
      rw [if_neg (by decide)]
      refine gQ_w1 (A := fun v_l z_l => v_l = c.1 (88 + 2 * j_l + 1) ∧ z_l = s) (fun r_l hr => by
        obtain ⟨q1_l, q2_l⟩ := v160 (q := 1) r1_l hjj (by decide) rfl r_l hr
        exact ⟨q1_l.trans (h8 _), q2_l⟩) (fun v_l z_l hz => ?_)
      obtain ⟨z1, z2⟩ := hz
      rw [z1, z2]
      refine gQ_w1 (A := fun w_l z_l => w_l = (if gand (gshr (c.1 (88 + 2 * j_l + 1)) x) 1 = 1 then 1 else 0) ∧ z_l = s) m_153 (fun w_l z_l hz => ?_)
      obtain ⟨z3, z4⟩ := hz
      rw [z3, z4]
      rcases gand1 (x := gshr (c.1 (88 + 2 * j_l + 1)) x) with c1_l | c1_l
      · rw [c1_l, if_neg (show ¬ (0 : Int) = 1 by decide), if_pos (show (0 : Int) = 0 from rfl)]
        refine gQ_w1 (A := fun v_l z_l => v_l = c.1 (88 + 2 * j_l) ∧ z_l = s) (fun r_l hr => by
          obtain ⟨q1_l, q2_l⟩ := v160 (q := 0) r1_l hjj (by decide) rfl r_l hr
          exact ⟨q1_l.trans (h8 _), q2_l⟩) (fun v_l z_l hz => ?_)
        obtain ⟨z5, z6⟩ := hz
        rw [z5, z6]
        by_cases c2 : c.1 (88 + 2 * j_l) < 20
        · have ey : aPt x (j_l : Int) c = (2, 0, c) := by
            unfold aPt
            rw [ej, if_pos ⟨hx, hy⟩, if_neg (fun z_l => z_l.2 c2)]
          rw [if_pos c2, ey]
          unfold fb_216_50
          exact ma_thr (by decide) hn h rfl
        · have ey : aPt x (j_l : Int) c = (0, gor (c.1 (88 + 2 * j_l + 1)) (gshl 1 x), (ptV x j_l c.1, c.2)) := by
            unfold aPt
            rw [ej, if_pos ⟨hx, hy⟩, if_pos ⟨c1_l, c2⟩]
            rfl
          rw [if_neg c2, ey]
          unfold fb_216_50
          refine ma_go hg hn ho hp h (fun t_l ht _ => ?_)
          rw [rv hjj 0 (by decide) rfl, rv hjj 1 (by decide) rfl, Int.toNat_natCast, Int.toNat_natCast, show 88 + 2 * j_l + (0 : Int).toNat = 88 + 2 * j_l from rfl, show 88 + 2 * j_l + (1 : Int).toNat = 88 + 2 * j_l + 1 from rfl]
          have rt := (rr_217_1 ht.2.2.1).2
          have d1_l : gI t_l 218 (88 + 2 * j_l) = c.1 (88 + 2 * j_l) := Mst_r ht (KK_v0 hjj)
          refine gQ_chk (gQ_chk ?_)
          dsimp only
          simp only [rgw, rt, d1_l]
          have w1_l := Mst_w (v := g32 (c.1 (88 + 2 * j_l) - 20)) ht (k0 := 88 + 2 * j_l) (by omega) (by omega) (mnt_v j_l hjj 0 (by decide))
          generalize gw t_l 218 (88 + 2 * j_l) (g32 (c.1 (88 + 2 * j_l) - 20)) = s7 at w1_l ⊢
          refine gQ_chk (gQ_chk ?_)
          have d2_l : gI s7 218 (88 + 2 * j_l + 1) = c.1 (88 + 2 * j_l + 1) := (Mst_r w1_l (KK_v (j := 1) hjj (by decide))).trans (up_n (by omega))
          simp only [d2_l]
          have w2_l : Mst s (gw s7 218 (88 + 2 * j_l + 1) (gor (c.1 (88 + 2 * j_l + 1)) (gshl 1 x))) (ptV x j_l c.1) c.2 (pn n) (psh c P) := Mst_w w1_l (by omega) (by omega) (mnt_v j_l hjj 1 (by decide))
          generalize gw s7 218 (88 + 2 * j_l + 1) (gor (c.1 (88 + 2 * j_l + 1)) (gshl 1 x)) = s8 at w2_l ⊢
          refine gQ_w1 (A := fun v_l z_l => v_l = gor (c.1 (88 + 2 * j_l + 1)) (gshl 1 x) ∧ z_l = s8) (fun r_l hr => by
            obtain ⟨q1_l, q2_l⟩ := v160 (q := 1) (rr_217_1 w2_l.2.2.1).2 hjj (by decide) rfl r_l hr
            exact ⟨q1_l.trans ((Mst_r w2_l (KK_v (j := 1) hjj (by decide))).trans up_s), q2_l⟩) (fun v_l z_l hz => ?_)
          obtain ⟨y1, y2⟩ := hz
          rw [y1, y2]
          exact gQ_ret (ma_end w2_l rfl rfl rfl rfl)
      · have ey : aPt x (j_l : Int) c = (2, 0, c) := by
          unfold aPt
          rw [ej, if_pos ⟨hx, hy⟩, if_neg (fun z_l => by rw [c1_l] at z_l; exact absurd z_l.1 (by decide))]
        rw [c1_l, if_pos (show (1 : Int) = 1 from rfl), if_neg (show ¬ (1 : Int) = 0 by decide), ey]
        unfold fb_216_50
        exact ma_thr (by decide) hn h rfl
    · rw [h8] at hy
      have ey : aPt x y c = (1, 0, c) := by
        unfold aPt
        rw [if_neg (fun z_l => hy z_l.2)]
      rw [if_pos rfl, ey]
      unfold fb_216_50
      exact ma_thr (by decide) hn h rfl
  · rw [h8] at hx
    have ey : aPt x y c = (1, 0, c) := by
      unfold aPt
      rw [if_neg (fun z_l => hx z_l.1)]
    rw [if_pos rfl, ey]
    unfold fb_216_50
    exact ma_thr (by decide) hn h rfl
/-- the model's payment -/
theorem ma_217 (hJ : J p s) (h8 : ∀ k, gI s 218 k = c.1 k) (ho : Okc c) (hp : Pok n P) (h : Ms s c n P) : gQ (f_217 217 x s) (Mres s c n P (aPy x c)) := by
  have hg := J_RF hJ
  have hn := hJ.1.1
  have r1_l := (rr_217_1 hg).2
  unfold f_217
  rw [r1_l, h8, h8]
  refine gQ_w1 (A := fun w_l z_l => w_l = min (c.1 9) (c.1 8) ∧ z_l = s) dm_151 (fun w_l z_l hz => ?_)
  obtain ⟨z1, z2⟩ := hz
  rw [z1, z2]
  refine gQ_w1 (A := fun w_l z_l => w_l = (if 1 ≤ x ∧ x ≤ min (c.1 9) (c.1 8) then 1 else 0) ∧ z_l = s) m_150 (fun w_l z_l hz => ?_)
  obtain ⟨z3, z4⟩ := hz
  rw [z3, z4]
  by_cases hx : 1 ≤ x ∧ x ≤ min (c.1 9) (c.1 8)
  · have ey : aPy x c = (0, g32 (c.1 9 - x), (up (up c.1 8 (g32 (c.1 8 - x))) 9 (g32 (c.1 9 - x)), c.2)) := if_pos hx
    rw [if_pos hx, if_neg (by decide), ey]
    unfold fb_217_31
    refine ma_go hg hn ho hp h (fun t_l ht _ => ?_)
    have rt := (rr_217_1 ht.2.2.1).2
    have d8_l : gI t_l 218 8 = c.1 8 := Mst_r ht KK_c.2.2.2.2.2.1
    dsimp only
    simp only [rgw, rt, d8_l]
    have w1_l := Mst_w (v := g32 (c.1 8 - x)) ht (k0 := 8) (by decide) (by decide) rfl
    generalize gw t_l 218 8 (g32 (c.1 8 - x)) = s9 at w1_l ⊢
    have d9_l : gI s9 218 9 = c.1 9 := (Mst_r w1_l KK_c.2.2.2.2.2.2.1).trans (up_n (by decide))
    rw [d9_l]
    have w2_l := Mst_w (v := g32 (c.1 9 - x)) w1_l (k0 := 9) (by decide) (by decide) rfl
    refine gQ_ret (ma_end w2_l rfl (rd_same rfl) rfl rfl)
  · have ey : aPy x c = (1, 0, c) := if_neg hx
    rw [if_neg hx, if_pos rfl, ey]
    unfold fb_217_31
    exact ma_thr (by decide) hn h rfl
end Am

end
section
/-! days on both sides, and that acts stay within the ranges -/
noncomputable def Okg (c : gCt) : Prop := Vg c.1 ∧ 0 ≤ c.1 13 ∧ c.1 13 ≤ 60
section Da
variable {g s t u z : gS} {V W : Nat → Int} {L : Nat → Nat → Int} {n m i j a k : Nat} {P : Nat → gCt} {v x y w d lu : Int} {c : gCt} {p : gP} {T : (Nat → Int) → Int}
theorem day_n (hg : Vg V) {j : Nat} (hj : (j ≠ 7 ∧ j ≠ 8 ∧ j ≠ 9 ∧ j ≠ 14) ∧ (j < 40 ∨ 76 ≤ j)) : dayF T lu V j = V j := by
  have h4 := hg.1.2
  have em : menF T (V 4).toNat V j = V j := men_n (by omega) _ (by omega)
  unfold dayF nextF luckF
  rw [up_n (by omega)]
  split
  · exact em
  · split
    · rw [up_n (by omega), up_n (by omega)]
      exact em
    · rw [up_n (by omega)]
      exact em
theorem days_n (hg : Vg V) {j : Nat} (hj : (j ≠ 7 ∧ j ≠ 8 ∧ j ≠ 9 ∧ j ≠ 14) ∧ (j < 40 ∨ 76 ≤ j)) (m : Nat) : daysF T lu m V j = V j := by
  induction m with
  | zero => rfl
  | succ m ih_l => exact (day_n (Vg_days hg m) hj).trans ih_l
theorem r1_102 {Y : Nat × Int × Int × Int × gS} : gQ (gloop st_102_17 Y) (fun r => r.1 = 1) := by
  refine gQ_loop (fun _ => True) (fun y_l _ => ?_) trivial
  obtain ⟨x0_l, x1_l, x2_l, x3, y1⟩ := y_l
  show gQ (sb_102_17 x0_l x1_l x2_l x3 y1) _
  unfold sb_102_17
  refine gQ_ite ?_ (gQ_map (gQ_ret rfl))
  exact gQ_w1 (A := fun _ _ => True) (fun _ _ => trivial) (fun v_l z_l _ => gQ_ret trivial)
theorem Rc9_g (hg : RF s) : Rc9 15 s := ⟨⟨(rr_15_0 hg).2, fun i_l hi_l => rr_16 hg hi_l⟩, ⟨(rr_9 hg).1, (rr_9 hg).2.1, (rr_9 hg).2.2.1⟩, (rr_3_0 hg).2, (rr_3_1 hg).2⟩
theorem Fct_W (h : Fw WC g s) (hf : Fct 15 s t) : Fw WC g t := by
  obtain ⟨⟨f1_l, f2_l, f3_l⟩, f4_l⟩ := hf
  refine ⟨⟨h.1.1, by rw [f1_l]; exact h.1.2.1, fun a_l ha_l => (f2_l a_l).trans (h.1.2.2 a_l ha_l)⟩, fun a_l k_l ha_l => (f3_l a_l k_l).trans (h.2.1 a_l k_l ha_l), fun a_l k_l ha_l hw => (f4_l a_l k_l (fun e_l => ?_) (fun e_l => ?_) (fun e_l => ?_) (fun e_l => ?_)).trans (h.2.2 a_l k_l ha_l hw)⟩
  · rw [WC_t (by omega)] at hw
    cases hw
  · rw [e_l] at hw
    cases hw
  · rw [e_l] at hw
    cases hw
  · rw [e_l.1] at hw
    cases hw
theorem Cst_102 (hT : ∀ t, Fw WC g t → Tlw t 218 9 T) (h : Cst g s V L n P) (hV : Vg V) (hm : m ≤ 1000) : gQ (gloop st_102_17 (0, (m : Int), 0, 0, s)) (fun r => (r.1 = 1 ∧ r.2.1 = fallD T 1 m V) ∧ Cst g r.2.2.2 (daysF T 1 m V) L n P) := by
  intro r hr
  obtain ⟨⟨h1, h2⟩, h3, h4⟩ := h
  obtain ⟨q1_l, q2_l, q3_l⟩ := dc_102 ⟨(rr_0_5 h4).2, (rr_0_4 h4).2, (rr_0_1 h4).2⟩ (Rc9_g h4) (fun t ht => hT t (Fct_W h3 ht)) h1.1 hV hm r hr
  have q0 := r1_102 r hr
  have e13_l : daysF T 1 m V 13 = V 13 := days_n hV (by decide) m
  refine ⟨⟨q0, q1_l⟩, ⟨⟨q2_l, fun i_l j_l hi_l hj => ?_⟩, Pc_e h2 (fun a_l k_l ha_l => q3_l.2 a_l k_l (by omega) (by omega) (by omega) (by omega)) (q3_l.2 0 13 (by omega) (by decide) (by decide) (by omega)) (q3_l.2 0 14 (by omega) (by decide) (by decide) (by omega))⟩, Fct_W h3 q3_l, fun a_l k_l ha_l hz => (q3_l.1.2.2 a_l k_l).trans (h4 a_l k_l ha_l hz)⟩
  rw [e13_l] at hi_l ⊢
  exact (q3_l.2 (15 + 5) _ (by omega) (by omega) (by omega) (by omega)).trans (h1.2 i_l j_l hi_l hj)
/-- the class's days -/
theorem ca_102 (hJ : J p s) (hT : Tlw s 218 9 T) (ho : Okc c) (hp : Pok n P) (h : Cs s c n P) : gQ (f_102 0 x s) (Cres st2 s c n P (aDy T x c)) := by
  have hg := J_RF hJ
  have hn := hJ.1.1
  unfold f_102
  refine n_gt (by decide) n_138 (fun hx => ?_) (fun hx => ?_)
  · have ey : aDy T x c = (0, fallD T 1 x.toNat c.1, (daysF T 1 x.toNat c.1, c.2)) := if_pos hx
    rw [ey]
    refine gQ_v0 (A := fun u_l => Cst s u_l c.1 c.2 (pn n) (psh c P)) (Cst_140 hg hn ho hp h) (fun s3_l h3 => ?_)
    obtain ⟨m_l, hm_l⟩ : ∃ m_l : Nat, x = (m_l : Int) := ⟨x.toNat, by omega⟩
    rw [hm_l, Int.toNat_natCast]
    intro r_l hr
    obtain ⟨⟨q0, q1_l⟩, q2_l⟩ := Cst_102 (T := T) (fun t_l ht => law_C hJ hT ht) h3 ho.1.1 (m := m_l) (by omega) r_l hr
    exact ⟨q2_l.2.1, by rw [q0]; rfl, fun _ => ⟨q1_l, q2_l.1⟩, fun z_l => absurd rfl z_l⟩
  · have ey : aDy T x c = (1, 0, c) := if_neg hx
    rw [ey]
    exact Cres_n hn h rfl (by decide)
theorem Mst_202 (hJ : J p g) (hT : Tlw g 218 9 T) (h : Mst g s V L n P) (h8 : ∀ k, gI s 218 k = V k) (hV : Vg V) (hm : m ≤ 1000) : gQ (f_202 217 (m : Int) 1 s) (fun r => r.2.1 = fallD T 1 m V ∧ Mst g r.2.2.2 (daysF T 1 m V) L n P) := by
  intro r hr
  obtain ⟨⟨h1, h2⟩, h3, h4, h5⟩ := h
  have hTs : Tlw s 218 9 T := law_M hJ hT h3
  obtain ⟨q1_l, q2_l, q3_l⟩ := dm_202 (B := 9) (T := T) (lu := 1) (n := m) hm ⟨(rr_217_1 h4).2, (rr_217_7 h4).2, (rr_217_14 h4).2⟩ (fun t_l ht => Tlw_v hTs ht (by decide) (fun a_l k _ ha_l => ht.2 a_l k (by omega) (by omega) (by omega))) (fun k _ => h8 k) hV r hr
  have q4_l := om_202 (g := s) (W := WM) h4 uM (by rw [h8]; exact hV.1.2.2) rfl rfl (Fw_rf (Fw_232 h3)) r hr
  have e13_l : daysF T 1 m V 13 = V 13 := days_n hV (by decide) m
  refine ⟨q1_l, ⟨⟨fun k hk => ?_, fun i_l j_l hi_l hj => ?_⟩, Pm_q h2 (fun k => q3_l.2 221 k (by omega) (by decide) (by omega)) (q3_l.2 217 6 (by omega) (by decide) (by omega))⟩, Fw_tr h3 q4_l (fun _ _ z_l => z_l), RF_fw h4 q4_l, (q3_l.2 217 0 (by omega) (by decide) (by omega)).trans h5⟩
  · rw [Nat.zero_add]
    exact q2_l k hk.1
  · rw [e13_l] at hi_l
    refine (q3_l.2 218 _ (fun z_l => ?_) (by decide) (by omega)).trans (h1.2 i_l j_l hi_l hj)
    have := z_l.2
    unfold dyc at this
    omega
/-- the model's days -/
theorem ma_218 (hJ : J p s) (hT : Tlw s 218 9 T) (h8 : ∀ k, gI s 218 k = c.1 k) (ho : Okc c) (hp : Pok n P) (h : Ms s c n P) : gQ (f_218 217 x s) (Mres s c n P (aDy T x c)) := by
  have hg := J_RF hJ
  have hn := hJ.1.1
  unfold f_218
  refine gQ_w1 (A := fun w_l z_l => w_l = (if 1 ≤ x ∧ x ≤ 200 then 1 else 0) ∧ z_l = s) m_150 (fun w_l z_l hz => ?_)
  obtain ⟨z1, z2⟩ := hz
  rw [z1, z2]
  by_cases hx : 1 ≤ x ∧ x ≤ 200
  · have ey : aDy T x c = (0, fallD T 1 x.toNat c.1, (daysF T 1 x.toNat c.1, c.2)) := if_pos hx
    rw [if_pos hx, if_neg (by decide), ey]
    unfold fb_218_17
    refine ma_go hg hn ho hp h (fun t_l ht h8t => ?_)
    obtain ⟨m_l, hm_l⟩ : ∃ m_l : Nat, x = (m_l : Int) := ⟨x.toNat, by omega⟩
    rw [hm_l, Int.toNat_natCast]
    refine gQ_w1 (A := fun v_l z_l => v_l = fallD T 1 m_l c.1 ∧ Mst s z_l (daysF T 1 m_l c.1) c.2 (pn n) (psh c P)) (Mst_202 hJ hT ht (fun k => (h8t k).trans (h8 k)) ho.1.1 (by omega)) (fun v_l z_l hz => ?_)
    obtain ⟨y1, y2⟩ := hz
    rw [y1]
    exact gQ_ret (ma_end y2 rfl rfl rfl rfl)
  · have ey : aDy T x c = (1, 0, c) := if_neg hx
    rw [if_neg hx, if_pos rfl, ey]
    unfold fb_218_17
    exact ma_thr (by decide) hn h rfl
/-- ranges kept -/
theorem Vg_x (h : Vg V) (hk : k ≠ 3 ∧ k ≠ 4 ∧ (∀ i, i < 6 → k ≠ 40 + 6 * i ∧ k ≠ 43 + 6 * i ∧ k ≠ 44 + 6 * i) ∧ ∀ a, a < 8 → k ≠ 16 + 3 * a ∧ k ≠ 16 + 3 * a + 2) : Vg (up V k v) := by
  obtain ⟨h1, h2, h3⟩ := h
  obtain ⟨k3_l, k4_l, k5_l, k6_l⟩ := hk
  refine ⟨?_, fun i hi_l => ?_, fun i hi_l => ?_⟩
  · rw [up_n (Ne.symm k3_l), up_n (Ne.symm k4_l)]
    exact h1
  · obtain ⟨a1_l, a2, a3⟩ := k5_l i hi_l
    rw [up_n (Ne.symm a1_l), up_n (Ne.symm a2), up_n (Ne.symm a3)]
    exact h2 i hi_l
  · obtain ⟨a1_l, a2⟩ := k6_l i hi_l
    rw [up_n (Ne.symm a1_l), up_n (Ne.symm a2)]
    exact h3 i hi_l
theorem Vg_log (h : Vg V) (h13 : 0 ≤ V 13 ∧ V 13 ≤ 60) : Okg (logY x w i V L) := by
  refine ⟨Vg_x h ⟨by decide, by decide, fun i hi_l => by omega, fun a_l ha_l => by omega⟩, ?_⟩
  show 0 ≤ up V 13 (min 60 (V 13 + 1)) 13 ∧ up V 13 (min 60 (V 13 + 1)) 13 ≤ 60
  rw [up_s]
  omega
theorem n20 {c : gCt} {P : Prop} (z : ((2, 0, c) : gY).1 = 0) : P := absurd (show (2 : Int) = 0 from z) (by decide)
theorem n10 {c : gCt} {P : Prop} (z : ((1, 0, c) : gY).1 = 0) : P := absurd (show (1 : Int) = 0 from z) (by decide)
theorem n30 {c : gCt} {P : Prop} (z : ((3, 0, c) : gY).1 = 0) : P := absurd (show (3 : Int) = 0 from z) (by decide)
theorem ogPf (ho : Okg c) (hj : Jn c.1) : (aPf x c).1 = 0 → Okg (aPf x c).2.2 := by
  have h4 := ho.1.1.2
  unfold aPf
  by_cases hx : 0 ≤ x ∧ x < c.1 4
  · rw [if_pos hx]
    by_cases h5 : c.1 (40 + 6 * x.toNat + 5) = 0 ∧ c.1 (40 + 6 * x.toNat + 1) ≠ 0
    · rw [if_pos h5]
      intro _
      have hi_l : x.toNat < 6 := by omega
      have h1 : Vg (nlV x.toNat c.1) := Vg_x ho.1 ⟨by omega, by omega, fun i_l hi_l => by omega, fun a_l ha_l => by omega⟩
      have t0_l := (h1.2.1 x.toNat hi_l).1
      have hb_l := hj.1
      refine Vg_log (Vg_up0 h1 hi_l ?_) ?_
      · rw [g32_eq (by omega) (by omega)]
        omega
      · have e_l : pfV x.toNat c.1 13 = c.1 13 := (up_n (by omega)).trans (up_n (by omega))
        rw [e_l]
        exact ho.2
    · rw [if_neg h5]
      exact n20
  · rw [if_neg hx]
    exact n10
theorem Vg_trC (h : Vg V) (hi : i < 6) : Vg (trC i v V) := by
  have t0_l := (h.2.1 i hi).1
  unfold trC
  split
  · refine Vg_up0 h hi ?_
    rw [g32_eq (by omega) (by omega)]
    omega
  · refine Vg_up0 h hi ?_
    rw [gdiv_eq (x := V (40 + 6 * i)) (c := 2) (by omega) (by decide)]
    omega
theorem Vg_bar (h : Vg V) (hi : i < 6) : Vg (barV i V) := by
  unfold barV
  split
  · exact Vg_x h ⟨by omega, by omega, fun i hi => by omega, fun a_l ha_l => by omega⟩
  · exact h
theorem ogTr (ho : Okg c) : (aTr x y c).1 = 0 → Okg (aTr x y c).2.2 := by
  have h4 := ho.1.1.2
  unfold aTr
  by_cases hx : (0 ≤ x ∧ x < c.1 4) ∧ (0 ≤ y ∧ y < c.1 5)
  · rw [if_pos hx]
    by_cases h5 : c.1 (40 + 6 * x.toNat + 5) = 0
    · rw [if_pos h5]
      intro _
      have hi_l : x.toNat < 6 := by omega
      refine Vg_log (Vg_bar (Vg_trC (Vg_pays ho.1) hi_l) hi_l) ?_
      have e_l : trdV x.toNat y.toNat c.1 13 = c.1 13 := (barV_n (by omega)).trans ((trC_n (by omega)).trans (pays_n (by decide)))
      rw [e_l]
      exact ho.2
    · rw [if_neg h5]
      exact n20
  · rw [if_neg hx]
    exact n10
theorem ogFl (ho : Okg c) : (aFl x c).1 = 0 → Okg (aFl x c).2.2 := by
  have h4 := ho.1.1.2
  unfold aFl
  by_cases hx : 0 ≤ x ∧ x < c.1 4
  · rw [if_pos hx]
    by_cases h5 : c.1 (40 + 6 * x.toNat + 5) = 0 ∧ ¬ 0 < c.1 (40 + 6 * x.toNat + 4)
    · rw [if_pos h5]
      intro _
      refine ⟨Vg_x ho.1 ⟨by omega, by omega, fun i_l hi_l => by omega, fun a_l ha_l => by omega⟩, ?_⟩
      show 0 ≤ up c.1 (40 + 6 * x.toNat + 5) 2 13 ∧ up c.1 (40 + 6 * x.toNat + 5) 2 13 ≤ 60
      rw [up_n (by omega)]
      exact ho.2
    · rw [if_neg h5]
      exact n20
  · rw [if_neg hx]
    exact n10
theorem ogSl (ho : Okg c) : (aSl x y v c).1 = 0 → Okg (aSl x y v c).2.2 := by
  have h4 := ho.1.1.2
  unfold aSl
  by_cases hx : (0 ≤ x ∧ x < c.1 4) ∧ (0 ≤ y ∧ y < c.1 6)
  · rw [if_pos hx]
    by_cases hv : 0 ≤ v ∧ v ≤ c.1 (88 + 2 * y.toNat)
    · rw [if_pos hv]
      by_cases h5 : c.1 (40 + 6 * x.toNat + 5) = 0
      · rw [if_pos h5]
        intro _
        refine ⟨Vg_x (Vg_x (Vg_x (Vg_x ho.1 ⟨by omega, by omega, fun i_l hi_l => by omega, fun a_l ha_l => by omega⟩) ⟨by omega, by omega, fun i_l hi_l => by omega, fun a_l ha_l => by omega⟩) ⟨by decide, by decide, fun i_l hi_l => by omega, fun a_l ha_l => by omega⟩) ⟨by omega, by omega, fun i_l hi_l => by omega, fun a_l ha_l => by omega⟩, ?_⟩
        show 0 ≤ slV x.toNat y.toNat v c.1 13 ∧ slV x.toNat y.toNat v c.1 13 ≤ 60
        unfold slV
        rw [up_n (by omega), up_n (by omega), up_n (by omega), up_n (by omega)]
        exact ho.2
      · rw [if_neg h5]
        exact n30
    · rw [if_neg hv]
      exact n20
  · rw [if_neg hx]
    exact n10
theorem ogPt (ho : Okg c) : (aPt x y c).1 = 0 → Okg (aPt x y c).2.2 := by
  unfold aPt
  by_cases hx : (0 ≤ x ∧ x < c.1 3) ∧ (0 ≤ y ∧ y < c.1 6)
  · rw [if_pos hx]
    by_cases h5 : gand (gshr (c.1 (88 + 2 * y.toNat + 1)) x) 1 = 0 ∧ ¬ c.1 (88 + 2 * y.toNat) < 20
    · rw [if_pos h5]
      intro _
      refine ⟨Vg_x (Vg_x ho.1 ⟨by omega, by omega, fun i_l hi_l => by omega, fun a_l ha_l => by omega⟩) ⟨by omega, by omega, fun i_l hi_l => by omega, fun a_l ha_l => by omega⟩, ?_⟩
      show 0 ≤ ptV x y.toNat c.1 13 ∧ ptV x y.toNat c.1 13 ≤ 60
      unfold ptV
      rw [up_n (by omega), up_n (by omega)]
      exact ho.2
    · rw [if_neg h5]
      exact n20
  · rw [if_neg hx]
    exact n10
theorem ogPy (ho : Okg c) : (aPy x c).1 = 0 → Okg (aPy x c).2.2 := by
  unfold aPy
  by_cases hx : 1 ≤ x ∧ x ≤ min (c.1 9) (c.1 8)
  · rw [if_pos hx]
    intro _
    refine ⟨Vg_x (Vg_x ho.1 ⟨by decide, by decide, fun i_l hi_l => by omega, fun a_l ha_l => by omega⟩) ⟨by decide, by decide, fun i_l hi_l => by omega, fun a_l ha_l => by omega⟩, ?_⟩
    show 0 ≤ up (up c.1 8 (g32 (c.1 8 - x))) 9 (g32 (c.1 9 - x)) 13 ∧ up (up c.1 8 (g32 (c.1 8 - x))) 9 (g32 (c.1 9 - x)) 13 ≤ 60
    rw [up_n (by decide), up_n (by decide)]
    exact ho.2
  · rw [if_neg hx]
    exact n10
theorem ogDy (ho : Okg c) : (aDy T x c).1 = 0 → Okg (aDy T x c).2.2 := by
  unfold aDy
  by_cases hx : 1 ≤ x ∧ x ≤ 200
  · rw [if_pos hx]
    intro _
    refine ⟨Vg_days ho.1 _, ?_⟩
    show 0 ≤ daysF T 1 x.toNat c.1 13 ∧ daysF T 1 x.toNat c.1 13 ≤ 60
    rw [days_n ho.1 (by decide)]
    exact ho.2
  · rw [if_neg hx]
    exact n10
end Da

end
section
/-! acts keep the further ranges -/
section Va
variable {V W : Nat → Int} {i j k n m a : Nat} {T : (Nat → Int) → Int} {v c lu x y w : Int} {L : Nat → Nat → Int} {cc : gCt}
theorem p1_lt : ∀ b : Nat, b < 9 → ∀ n : Nat, n < b → 0 ≤ gshl 1 (n : Int) ∧ gshl 1 (n : Int) < 2 ^ b := by decide +kernel
theorem p1_le : ∀ b : Nat, b < 9 → ∀ n : Nat, n ≤ b → 0 ≤ g32 (gshl 1 (n : Int) - 1) ∧ g32 (gshl 1 (n : Int) - 1) < 2 ^ b := by decide +kernel
/-- a rival's purse is less, and he holds more -/
theorem Vp_r (h : Vp V) (hg : Vg V) (hj : j < 6) (hx : 0 ≤ x ∧ x ≤ 9999) (hy : 0 ≤ y ∧ y < 2 ^ (V 3).toNat) : Vp (up (up V (88 + 2 * j) x) (88 + 2 * j + 1) (gor (V (88 + 2 * j + 1)) y)) := by
  have h3 := hg.1.1
  have u4_l : up (up V (88 + 2 * j) x) (88 + 2 * j + 1) (gor (V (88 + 2 * j + 1)) y) 4 = V 4 := (up_n (by omega)).trans (up_n (by omega))
  have u6 : up (up V (88 + 2 * j) x) (88 + 2 * j + 1) (gor (V (88 + 2 * j + 1)) y) 6 = V 6 := (up_n (by omega)).trans (up_n (by omega))
  refine ⟨fun i_l hi_l h4 => ?_, fun r_l hr h6 => ?_⟩
  · rw [u4_l] at h4
    rw [up_n (k := 88 + 2 * j + 1) (j := 43 + 6 * i_l) (by omega), up_n (k := 88 + 2 * j) (j := 43 + 6 * i_l) (by omega), up_n (k := 88 + 2 * j + 1) (j := 3) (by omega), up_n (k := 88 + 2 * j) (j := 3) (by omega), up_n (k := 88 + 2 * j + 1) (j := 44 + 6 * i_l) (by omega), up_n (k := 88 + 2 * j) (j := 44 + 6 * i_l) (by omega)]
    exact h.1 i_l hi_l h4
  · rw [u6] at h6
    have h2 := h.2 r_l hr h6
    rw [up_n (k := 88 + 2 * j + 1) (j := 3) (by omega), up_n (k := 88 + 2 * j) (j := 3) (by omega)]
    by_cases e : r_l = j
    · rw [e] at h2 ⊢
      rw [up_n (k := 88 + 2 * j + 1) (j := 88 + 2 * j) (by omega), up_s, up_s]
      exact ⟨hx, gor_lt (V 3).toNat (by omega) h2.2 hy⟩
    · rw [up_n (k := 88 + 2 * j + 1) (j := 88 + 2 * r_l) (by omega), up_n (k := 88 + 2 * j) (j := 88 + 2 * r_l) (by omega), up_n (k := 88 + 2 * j + 1) (j := 88 + 2 * r_l + 1) (by omega), up_n (k := 88 + 2 * j) (j := 88 + 2 * r_l + 1) (by omega)]
      exact h2
theorem Vp_m (h : Vp V) (hi : i < 6) (hj : j = 0 ∨ j = 1 ∨ j = 2 ∨ j = 5) : Vp (up V (40 + 6 * i + j) v) := Vp_x h ⟨⟨by omega, by omega, by omega⟩, fun l hl => by omega, Or.inl (by omega)⟩
theorem Vp_log (h : Vp V) : Vp (logY x w i V L).1 := Vp_o h (by omega)
theorem qPf (hg : Vg cc.1) (h : Vp cc.1) : (aPf x cc).1 = 0 → Vp (aPf x cc).2.2.1 := by
  have h4 := hg.1.2
  unfold aPf
  by_cases hx : 0 ≤ x ∧ x < cc.1 4
  · rw [if_pos hx]
    by_cases h5 : cc.1 (40 + 6 * x.toNat + 5) = 0 ∧ cc.1 (40 + 6 * x.toNat + 1) ≠ 0
    · rw [if_pos h5]
      intro _
      exact Vp_log (Vp_m (j := 0) (Vp_m (j := 1) h (by omega) (by omega)) (by omega) (by omega))
    · rw [if_neg h5]
      exact n20
  · rw [if_neg hx]
    exact n10
theorem qTr (hg : Vg cc.1) (h : Vp cc.1) : (aTr x y cc).1 = 0 → Vp (aTr x y cc).2.2.1 := by
  have h4 := hg.1.2
  unfold aTr
  by_cases hx : (0 ≤ x ∧ x < cc.1 4) ∧ (0 ≤ y ∧ y < cc.1 5)
  · rw [if_pos hx]
    by_cases h5 : cc.1 (40 + 6 * x.toNat + 5) = 0
    · rw [if_pos h5]
      intro _
      have hi_l : x.toNat < 6 := by omega
      refine Vp_log ?_
      have h1 : Vp (trC x.toNat (cgt x.toNat y.toNat cc.1) (paysF (cc.1 (76 + 2 * y.toNat)) cc.1)) := by
        unfold trC
        split
        · exact Vp_m (j := 0) (Vp_pays h) hi_l (by omega)
        · exact Vp_m (j := 0) (Vp_pays h) hi_l (by omega)
      unfold trdV barV
      split
      · exact Vp_m (j := 5) h1 hi_l (by omega)
      · exact h1
    · rw [if_neg h5]
      exact n20
  · rw [if_neg hx]
    exact n10
theorem qFl (hg : Vg cc.1) (h : Vp cc.1) : (aFl x cc).1 = 0 → Vp (aFl x cc).2.2.1 := by
  have h4 := hg.1.2
  unfold aFl
  by_cases hx : 0 ≤ x ∧ x < cc.1 4
  · rw [if_pos hx]
    by_cases h5 : cc.1 (40 + 6 * x.toNat + 5) = 0 ∧ ¬ 0 < cc.1 (40 + 6 * x.toNat + 4)
    · rw [if_pos h5]
      intro _
      exact Vp_m (j := 5) h (by omega) (by omega)
    · rw [if_neg h5]
      exact n20
  · rw [if_neg hx]
    exact n10
theorem qSl (hg : Vg cc.1) (h : Vp cc.1) (h6 : cc.1 6 ≤ 6) : (aSl x y v cc).1 = 0 → Vp (aSl x y v cc).2.2.1 := by
  have h4 := hg.1
  unfold aSl
  by_cases hx : (0 ≤ x ∧ x < cc.1 4) ∧ (0 ≤ y ∧ y < cc.1 6)
  · rw [if_pos hx]
    by_cases hv : 0 ≤ v ∧ v ≤ cc.1 (88 + 2 * y.toNat)
    · rw [if_pos hv]
      by_cases h5 : cc.1 (40 + 6 * x.toNat + 5) = 0
      · rw [if_pos h5]
        intro _
        have hi_l : x.toNat < 6 := by omega
        have hj : y.toNat < 6 := by omega
        have hb_l := h.2 y.toNat hj (by omega)
        have hm_l := h.1 x.toNat hi_l (by omega)
        have hz := (hg.2.1 x.toNat hi_l).2.1
        have e3_l : cc.1 (40 + 6 * x.toNat + 3) = ((cc.1 (43 + 6 * x.toNat)).toNat : Int) := by
          rw [show 40 + 6 * x.toNat + 3 = 43 + 6 * x.toNat by omega]
          omega
        refine Vp_m (j := 5) (Vp_o (Vp_r h hg hj ?_ ?_) (by omega)) hi_l (by omega)
        · rw [g32_eq (by omega) (by omega)]
          omega
        · rw [e3_l]
          exact p1_le (cc.1 3).toNat (by omega) (cc.1 (43 + 6 * x.toNat)).toNat (by omega)
      · rw [if_neg h5]
        exact n30
    · rw [if_neg hv]
      exact n20
  · rw [if_neg hx]
    exact n10
theorem qPt (hg : Vg cc.1) (h : Vp cc.1) (h6 : cc.1 6 ≤ 6) : (aPt x y cc).1 = 0 → Vp (aPt x y cc).2.2.1 := by
  have h4 := hg.1
  unfold aPt
  by_cases hx : (0 ≤ x ∧ x < cc.1 3) ∧ (0 ≤ y ∧ y < cc.1 6)
  · rw [if_pos hx]
    by_cases h5 : gand (gshr (cc.1 (88 + 2 * y.toNat + 1)) x) 1 = 0 ∧ ¬ cc.1 (88 + 2 * y.toNat) < 20
    · rw [if_pos h5]
      intro _
      have hj : y.toNat < 6 := by omega
      have hb_l := h.2 y.toNat hj (by omega)
      have ex_l : x = ((x.toNat : Nat) : Int) := by omega
      refine Vp_r h hg hj ?_ ?_
      · rw [g32_eq (by omega) (by omega)]
        omega
      · rw [ex_l]
        exact p1_lt (cc.1 3).toNat (by omega) x.toNat (by omega)
    · rw [if_neg h5]
      exact n20
  · rw [if_neg hx]
    exact n10
theorem qPy (h : Vp cc.1) : (aPy x cc).1 = 0 → Vp (aPy x cc).2.2.1 := by
  unfold aPy
  by_cases hx : 1 ≤ x ∧ x ≤ min (cc.1 9) (cc.1 8)
  · rw [if_pos hx]
    intro _
    exact Vp_o (Vp_o h (by omega)) (by omega)
  · rw [if_neg hx]
    exact n10
theorem qDy (hg : Vg cc.1) (h : Vp cc.1) : (aDy T x cc).1 = 0 → Vp (aDy T x cc).2.2.1 := by
  unfold aDy
  by_cases hx : 1 ≤ x ∧ x ≤ 200
  · rw [if_pos hx]
    intro _
    exact Vp_days hg h _
  · rw [if_neg hx]
    exact n10
/-- both kinds of ranges -/
theorem okPf {c : gCt} (ho : Okc c) (hj : Jn c.1) : (aPf x c).1 = 0 → Okc (aPf x c).2.2 := fun z_l => ⟨⟨(ogPf ⟨ho.1.1, ho.2⟩ hj z_l).1, qPf ho.1.1 ho.1.2 z_l⟩, (ogPf ⟨ho.1.1, ho.2⟩ hj z_l).2⟩
theorem okTr {c : gCt} (ho : Okc c) : (aTr x y c).1 = 0 → Okc (aTr x y c).2.2 := fun z_l => ⟨⟨(ogTr ⟨ho.1.1, ho.2⟩ z_l).1, qTr ho.1.1 ho.1.2 z_l⟩, (ogTr ⟨ho.1.1, ho.2⟩ z_l).2⟩
theorem okFl {c : gCt} (ho : Okc c) : (aFl x c).1 = 0 → Okc (aFl x c).2.2 := fun z_l => ⟨⟨(ogFl ⟨ho.1.1, ho.2⟩ z_l).1, qFl ho.1.1 ho.1.2 z_l⟩, (ogFl ⟨ho.1.1, ho.2⟩ z_l).2⟩
theorem okSl {c : gCt} (ho : Okc c) (hj : Jn c.1) : (aSl x y v c).1 = 0 → Okc (aSl x y v c).2.2 := fun z_l => ⟨⟨(ogSl ⟨ho.1.1, ho.2⟩ z_l).1, qSl ho.1.1 ho.1.2 hj.2.1.2.2 z_l⟩, (ogSl ⟨ho.1.1, ho.2⟩ z_l).2⟩
theorem okPt {c : gCt} (ho : Okc c) (hj : Jn c.1) : (aPt x y c).1 = 0 → Okc (aPt x y c).2.2 := fun z_l => ⟨⟨(ogPt ⟨ho.1.1, ho.2⟩ z_l).1, qPt ho.1.1 ho.1.2 hj.2.1.2.2 z_l⟩, (ogPt ⟨ho.1.1, ho.2⟩ z_l).2⟩
theorem okPy {c : gCt} (ho : Okc c) : (aPy x c).1 = 0 → Okc (aPy x c).2.2 := fun z_l => ⟨⟨(ogPy ⟨ho.1.1, ho.2⟩ z_l).1, qPy ho.1.2 z_l⟩, (ogPy ⟨ho.1.1, ho.2⟩ z_l).2⟩
theorem okDy {c : gCt} (ho : Okc c) : (aDy T x c).1 = 0 → Okc (aDy T x c).2.2 := fun z_l => ⟨⟨(ogDy ⟨ho.1.1, ho.2⟩ z_l).1, qDy ho.1.1 ho.1.2 z_l⟩, (ogDy ⟨ho.1.1, ho.2⟩ z_l).2⟩
end Va

end
section
/-! acts: the wrapped calls of the class, and the model behind them -/
section Xw
variable {p : gP} {s : gS} {a1 a2 a3 : Int}
theorem ax_282 (hJ : J p s) (hR : Rt s) (hX : Rx s) : gQ (f_282 0 a1 231 s) (fun r => Xn (f_211 217 a1) r.2.1 r.2.2.2) := by
  obtain ⟨c_l, n_l, P_l, hc_l, hm_l, ho, hp, hr, h8⟩ := Rx_data hX
  unfold f_282
  refine ax2 (st := stA) (y := aPf a1 c_l) hJ hm_l ho hp hr h8 (okPf ho (J_Jn hJ h8)) (ca_96 hJ hR h8 ho hp hc_l) rfl (fun t_l h0 => aX trivial) (fun k_l t_l => ?_) (fun u_l p2_l hu hRu hfu hmu h8u => ma_211 hu h8u ho hp hmu)
  by_cases c0 : k_l = 3
  · rw [if_pos c0, c0]
    exact gQ_ret ⟨rfl, (by decide : (1 : Int) ≠ 0), rfl⟩
  by_cases c1 : k_l = 4
  · rw [if_neg c0, if_pos c1, c1]
    exact gQ_ret ⟨rfl, (by decide : (2 : Int) ≠ 0), rfl⟩
  rw [if_neg c0, if_neg c1]
  exact gQ_none
theorem tr_b {c : gCt} (h : (aTr a1 a2 c).1 = 0) : (aTr a1 a2 c).2.1 = 0 ∨ (aTr a1 a2 c).2.1 = 1 := by
  unfold aTr at h ⊢
  by_cases hx : (0 ≤ a1 ∧ a1 < c.1 4) ∧ (0 ≤ a2 ∧ a2 < c.1 5)
  · rw [if_pos hx] at h ⊢
    by_cases h5 : c.1 (40 + 6 * a1.toNat + 5) = 0
    · rw [if_pos h5]
      exact cgt_b
    · rw [if_neg h5] at h
      exact n20 h
  · rw [if_neg hx] at h
    exact n10 h
theorem ax_283 (hJ : J p s) (hR : Rt s) (hX : Rx s) : gQ (f_283 0 a1 a2 231 s) (fun r => Xn (f_213 217 a1 a2) r.2.1 r.2.2.2) := by
  obtain ⟨c_l, n_l, P_l, hc_l, hm_l, ho, hp, hr, h8⟩ := Rx_data hX
  unfold f_283
  refine ax2 (st := stA) (y := aTr a1 a2 c_l) hJ hm_l ho hp hr h8 (okTr ho) (ca_97 hJ hR h8 ho hp hc_l) rfl (fun t_l h0 => aXb (tr_b h0)) (fun k_l t_l => ?_) (fun u_l p2_l hu hRu hfu hmu h8u => ma_213 hu h8u ho hp hmu)
  by_cases c0 : k_l = 3
  · rw [if_pos c0, c0]
    exact gQ_ret ⟨rfl, (by decide : (1 : Int) ≠ 0), rfl⟩
  by_cases c1 : k_l = 4
  · rw [if_neg c0, if_pos c1, c1]
    exact gQ_ret ⟨rfl, (by decide : (2 : Int) ≠ 0), rfl⟩
  rw [if_neg c0, if_neg c1]
  exact gQ_none
theorem ax_284 (hJ : J p s) (hR : Rt s) (hX : Rx s) : gQ (f_284 0 a1 231 s) (fun r => Xn (f_214 217 a1) r.2.1 r.2.2.2) := by
  obtain ⟨c_l, n_l, P_l, hc_l, hm_l, ho, hp, hr, h8⟩ := Rx_data hX
  unfold f_284
  refine ax2 (st := stA) (y := aFl a1 c_l) hJ hm_l ho hp hr h8 (okFl ho) (ca_98 hJ hR h8 ho hp hc_l) rfl (fun t_l h0 => aX trivial) (fun k_l t_l => ?_) (fun u_l p2_l hu hRu hfu hmu h8u => ma_214 hu h8u ho hp hmu)
  by_cases c0 : k_l = 3
  · rw [if_pos c0, c0]
    exact gQ_ret ⟨rfl, (by decide : (1 : Int) ≠ 0), rfl⟩
  by_cases c1 : k_l = 4
  · rw [if_neg c0, if_pos c1, c1]
    exact gQ_ret ⟨rfl, (by decide : (2 : Int) ≠ 0), rfl⟩
  rw [if_neg c0, if_neg c1]
  exact gQ_none
theorem ax_285 (hJ : J p s) (hR : Rt s) (hX : Rx s) : gQ (f_285 0 a1 a2 a3 231 s) (fun r => Xn (f_215 217 a1 a2 a3) r.2.1 r.2.2.2) := by
  obtain ⟨c_l, n_l, P_l, hc_l, hm_l, ho, hp, hr, h8⟩ := Rx_data hX
  unfold f_285
  refine ax2 (st := stB) (y := aSl a1 a2 a3 c_l) hJ hm_l ho hp hr h8 (okSl ho (J_Jn hJ h8)) (ca_99 hJ hR h8 ho hp hc_l) rfl (fun t_l h0 => aX trivial) (fun k_l t_l => ?_) (fun u_l p2_l hu hRu hfu hmu h8u => ma_215 hu h8u ho hp hmu)
  by_cases c0 : k_l = 3
  · rw [if_pos c0, c0]
    exact gQ_ret ⟨rfl, (by decide : (1 : Int) ≠ 0), rfl⟩
  by_cases c1 : k_l = 0
  · rw [if_neg c0, if_pos c1, c1]
    exact gQ_ret ⟨rfl, (by decide : (2 : Int) ≠ 0), rfl⟩
  by_cases c2 : k_l = 4
  · rw [if_neg c0, if_neg c1, if_pos c2, c2]
    exact gQ_ret ⟨rfl, (by decide : (3 : Int) ≠ 0), rfl⟩
  rw [if_neg c0, if_neg c1, if_neg c2]
  exact gQ_none
theorem ax_286 (hJ : J p s) (hR : Rt s) (hX : Rx s) : gQ (f_286 0 a1 a2 231 s) (fun r => Xn (f_216 217 a1 a2) r.2.1 r.2.2.2) := by
  obtain ⟨c_l, n_l, P_l, hc_l, hm_l, ho, hp, hr, h8⟩ := Rx_data hX
  unfold f_286
  refine ax2 (st := stA) (y := aPt a1 a2 c_l) hJ hm_l ho hp hr h8 (okPt ho (J_Jn hJ h8)) (ca_100 hJ hR h8 ho hp hc_l) rfl (fun t_l h0 => aX trivial) (fun k_l t_l => ?_) (fun u_l p2_l hu hRu hfu hmu h8u => ma_216 hu h8u ho hp hmu)
  by_cases c0 : k_l = 3
  · rw [if_pos c0, c0]
    exact gQ_ret ⟨rfl, (by decide : (1 : Int) ≠ 0), rfl⟩
  by_cases c1 : k_l = 4
  · rw [if_neg c0, if_pos c1, c1]
    exact gQ_ret ⟨rfl, (by decide : (2 : Int) ≠ 0), rfl⟩
  rw [if_neg c0, if_neg c1]
  exact gQ_none
theorem ax_287 (hJ : J p s) (hR : Rt s) (hX : Rx s) : gQ (f_287 0 a1 231 s) (fun r => Xn (f_217 217 a1) r.2.1 r.2.2.2) := by
  obtain ⟨c_l, n_l, P_l, hc_l, hm_l, ho, hp, hr, h8⟩ := Rx_data hX
  unfold f_287
  refine ax2 (st := st2) (y := aPy a1 c_l) hJ hm_l ho hp hr h8 (okPy ho) (ca_101 hJ ho hp hc_l) rfl (fun t_l h0 => aX trivial) (fun k_l t_l => ?_) (fun u_l p2_l hu hRu hfu hmu h8u => ma_217 hu h8u ho hp hmu)
  by_cases c0 : k_l = 0
  · rw [if_pos c0, c0]
    exact gQ_ret ⟨rfl, (by decide : (1 : Int) ≠ 0), rfl⟩
  rw [if_neg c0]
  exact gQ_none
theorem ax_288 (hJ : J p s) (hR : Rt s) (hX : Rx s) : gQ (f_288 0 a1 231 s) (fun r => Xn (f_218 217 a1) r.2.1 r.2.2.2) := by
  obtain ⟨c_l, n_l, P_l, hc_l, hm_l, ho, hp, hr, h8⟩ := Rx_data hX
  obtain ⟨T, hT_l⟩ := hr.2
  unfold f_288
  refine ax2 (st := st2) (y := aDy T a1 c_l) hJ hm_l ho hp hr h8 (okDy ho) (ca_102 hJ hT_l ho hp hc_l) rfl (fun t_l h0 => aX trivial) (fun k_l t_l => ?_) (fun u_l p2_l hu hRu hfu hmu h8u => ma_218 hu (law_C hJ hT_l hfu) h8u ho hp hmu)
  by_cases c0 : k_l = 0
  · rw [if_pos c0, c0]
    exact gQ_ret ⟨rfl, (by decide : (1 : Int) ≠ 0), rfl⟩
  rw [if_neg c0]
  exact gQ_none
end Xw
section Sd
variable {g s t u : gS} {c : gCt} {n i : Nat} {P : Nat → gCt} {p : gP} {x : Int} {F : gS → Option gO}
/-- direct acts: the class's half is done -/
theorem ad1 {z : Option gO} {w : Int} {c' : gCt} {n' : Nat} {P' : Nat → gCt} (hJ : J p s) (hm : Ms s c n P) (ho : Okc c) (hp : Pok n P) (hr : Rr s) (h8 : ∀ k, gI s 218 k = c.1 k) (ho' : Okc c') (hp' : Pok n' P') (hz : gQ z (fun r => Fw WC s r.2.2.2 ∧ r.2.1 = w ∧ Cs r.2.2.2 c' n' P')) (hF : ∀ u p, J p u → Rt u → Fw WC s u → Ms u c n P → (∀ k, gI u 218 k = c.1 k) → gQ (F u) (fun q => Fw WM u q.2.2.2 ∧ q.2.1 = w ∧ Ms q.2.2.2 c' n' P')) : gQ z (fun r => Xd F r.2.1 r.2.2.2) := by
  intro r hr2 p2_l hJ2 hR2 q hq
  obtain ⟨x1_l, x2_l, x3⟩ := hz r hr2
  have hn := hJ.1.1
  have g8 : ∀ k, gI r.2.2.2 218 k = c.1 k := fun k => (x1_l.2.2 218 k (by omega) (WC_n (by omega))).trans (h8 k)
  obtain ⟨y1, y2, y3⟩ := hF _ p2_l hJ2 hR2 x1_l (Ms_C hm ho hp x1_l) g8 q hq
  exact ⟨data_Rx (Cs_M x3 y1) y3 ho' hp' (Rr_M hJ2 (Rr_C hJ hr x1_l) y1), y2.trans x2_l.symm⟩
theorem ax_129 (hJ : J p s) (hR : Rt s) (hX : Rx s) : gQ (f_129 0 x s) (fun r => Xd (f_259 217 x) r.2.1 r.2.2.2) := by
  obtain ⟨c_l, n_l, P_l, hc_l, hm_l, ho, hp, hr, h8⟩ := Rx_data hX
  have hg := J_RF hJ
  have hn := hJ.1.1
  have o2 : Okc (up c_l.1 14 x, c_l.2) := by
    refine ⟨⟨Vg_x ho.1.1 ⟨by decide, by decide, fun i_l hi_l => by omega, fun a_l ha_l => by omega⟩, Vp_o ho.1.2 (by omega)⟩, ?_⟩
    show 0 ≤ up c_l.1 14 x 13 ∧ up c_l.1 14 x 13 ≤ 60
    rw [up_n (by decide)]
    exact ho.2
  refine ad1 (w := c_l.1 14) hJ hm_l ho hp hr h8 o2 hp ?_ (fun u_l p2_l hu hRu hfu hmu h8u => ?_)
  · have e_l : gI s 15 9 = c_l.1 14 := rd_ci (C := 15) hc_l.1.1 cjc.2.2.2 KK_c.2.2.2.2.2.2.2.2.2.2.2
    have h1 : Cst s s c_l.1 c_l.2 n_l P_l := ⟨hc_l, Fw_rf hn, hg⟩
    unfold f_129
    dsimp only
    rw [(rr_0_5 hg).2, e_l]
    have h2 := Cst_w (v := x) h1 cjc.2.2.2 (by decide) (by decide)
    exact gQ_ret ⟨h2.2.1, rfl, h2.1⟩
  · have hgu := J_RF hu
    have h1 : Mst u_l (gw u_l 217 0 0) c_l.1 c_l.2 n_l P_l := ⟨Ms_0 hmu, Fw_m0 hu.1.1, RF_sm hgu rfl, rd_same rfl⟩
    unfold f_259
    dsimp only
    rw [show gR (gw u_l 217 0 0) 217 1 = 218 from (rr_217_1 hgu).2, Mst_r h1 KK_c.2.2.2.2.2.2.2.2.2.2.2]
    have h2 := Mst_w (v := x) h1 (k0 := 14) (by decide) (by decide) rfl
    exact gQ_ret ⟨h2.2.1, rfl, h2.1⟩
/-- the class's undo -/
theorem ct_130 (hg : RF s) (hn : 232 ≤ gn s) (hp : Pok n P) (h : Cs s c n P) : gQ (f_130 0 s) (fun r => Fw WC s r.2.2.2 ∧ (n = 0 → r.2.1 = 0 ∧ Cs r.2.2.2 c n P) ∧ (0 < n → r.2.1 = 1 ∧ Cs r.2.2.2 (P 0) (n - 1) (fun j => P (j + 1)))) := by
  have hh := h
  have hp1 := hp.1
  obtain ⟨c1_l, c2_l, c3_l, c4_l⟩ := h
  unfold f_130
  by_cases c0 : gI s 0 14 < 1
  · rw [if_pos c0]
    exact gQ_ret ⟨Fw_rf hn, fun _ => ⟨rfl, hh⟩, fun z_l => by omega⟩
  rw [if_neg c0]
  obtain ⟨i_l, hi_l⟩ : ∃ i_l : Nat, gI s 0 13 = (i_l : Int) := ⟨(gI s 0 13).toNat, by omega⟩
  have hi12 : i_l < 12 := by omega
  have r12 : gR s 0 12 = 72 := (rr_0_12 hg).2
  have r5_l : gR s 0 5 = 15 := (rr_0_5 hg).2
  have rp : gR s 72 i_l = 73 + 12 * i_l := (hg 72 i_l (by decide) (fun z_l => by rw [k0_72.1] at z_l; omega)).trans (r0_72 i_l hi12).1
  rw [r12, r5_l, hi_l, Int.toNat_natCast, rp]
  refine gQ_chk ?_
  refine gQ_v0 (A := fun z_l => FC 15 (73 + 12 * i_l) s z_l) (fun r hr => (gQ_T (s_22 hg ⟨by decide, k0_72.2⟩ ⟨by omega, (r0_72 i_l hi12).2⟩ (by omega)) r hr).2) (fun s2_l hF => ?_)
  have w13_l : gI s2_l 0 13 = (i_l : Int) := by
    rw [(hF.2 0 13).2 (fun z_l => by have := blk z_l; omega)]
    exact hi_l
  have w14_l : gI s2_l 0 14 = gI s 0 14 := (hF.2 0 14).2 (fun z_l => by have := blk z_l; omega)
  have hm_l : grem (g32 (g32 ((i_l : Int) + 12) - 1)) 12 = (((i_l + 11) % 12 : Nat) : Int) := by
    rw [g32_eq (v := (i_l : Int) + 12) (by omega) (by omega), g32_eq (v := (i_l : Int) + 12 - 1) (by omega) (by omega), grem_eq (x := (i_l : Int) + 12 - 1) (c := 12) (by omega) (by decide)]
    omega
  rw [w13_l, hm_l]
  clear hm_l
  dsimp only
  have x14 : gI (gw s2_l 0 13 (((i_l + 11) % 12 : Nat) : Int)) 0 14 = gI s 0 14 := (rd_k rfl (by decide)).trans w14_l
  rw [x14, g32_eq (v := gI s 0 14 - 1) (by omega) (by omega)]
  refine gQ_ret ?_
  dsimp only
  have y13 : gI (gw (gw s2_l 0 13 (((i_l + 11) % 12 : Nat) : Int)) 0 14 (gI s 0 14 - 1)) 0 13 = (((i_l + 11) % 12 : Nat) : Int) := (rd_k rfl (by decide)).trans (rd_same rfl)
  have y14 : gI (gw (gw s2_l 0 13 (((i_l + 11) % 12 : Nat) : Int)) 0 14 (gI s 0 14 - 1)) 0 14 = gI s 0 14 - 1 := rd_same rfl
  have hs2 : ∀ a_l k_l, ¬ (a_l = 0 ∧ (k_l = 13 ∨ k_l = 14)) → gI (gw (gw s2_l 0 13 (((i_l + 11) % 12 : Nat) : Int)) 0 14 (gI s 0 14 - 1)) a_l k_l = gI s2_l a_l k_l := fun a_l k_l ha_l => by
    show (if a_l = 0 ∧ k_l = 14 then _ else if a_l = 0 ∧ k_l = 13 then _ else gI s2_l a_l k_l) = _
    rw [if_neg (by omega), if_neg (by omega)]
  have hsm : Sm s (gw (gw s2_l 0 13 (((i_l + 11) % 12 : Nat) : Int)) 0 14 (gI s 0 14 - 1)) := hF.1
  generalize gw (gw s2_l 0 13 (((i_l + 11) % 12 : Nat) : Int)) 0 14 (gI s 0 14 - 1) = t at *
  have hb_l : ∀ a_l k_l, ¬ (15 ≤ a_l ∧ a_l < 27) → ¬ (a_l = 0 ∧ (k_l = 13 ∨ k_l = 14)) → gI t a_l k_l = gI s a_l k_l := fun a_l k_l hx hz => (hs2 a_l k_l hz).trans ((hF.2 a_l k_l).2 (fun z_l => hx (blk z_l)))
  have h0 : 0 < n := by omega
  refine ⟨Fw_sm (Fw_rf hn) hsm (fun a_l k_l _ hf => hb_l a_l k_l (fun z_l => ?_) (fun z_l => ?_)), fun z_l => by omega, fun _ => ⟨rfl, ?_, ?_, by rw [y13]; omega, fun j hj => ?_⟩⟩
  · rw [WC_t (by omega)] at hf
    cases hf
  · rw [WC_t (by omega)] at hf
    cases hf
  · have e1_l : pst (gI s 0 13) 0 = 73 + 12 * i_l := by
      unfold pst
      rw [hi_l, Int.toNat_natCast]
      omega
    have f0_l := c4_l 0 h0
    rw [e1_l] at f0_l
    have f1_l : Csw s2_l 9 15 (P 0).1 (P 0).2 := Csw_FC hF (by decide) f0_l (hp.2 0 h0).2.2
    exact Csw_e f1_l (fun a_l k_l ha_l _ => hs2 a_l k_l (by omega)) (fun a_l k_l ha_l _ => hs2 a_l k_l (by omega))
  · rw [y14]
    omega
  · have e1_l : pst ((((i_l + 11) % 12 : Nat) : Int)) j = pst (gI s 0 13) (j + 1) := by
      have := hp.1
      unfold pst
      rw [Int.toNat_natCast, hi_l, Int.toNat_natCast]
      omega
    rw [y13, e1_l]
    exact Csw_e (c4_l (j + 1) (by omega)) (fun a_l k_l ha_l hb2 => hb_l a_l k_l (by omega) (by omega)) (fun a_l k_l ha_l hb2 => by
      unfold pst at ha_l hb2
      exact hb_l a_l k_l (by omega) (by omega))
/-- the model's undo -/
theorem mt_260 (hJ : J p s) (hR : Rt s) (hp : Pok n P) (h : Ms s c n P) : gQ (f_260 217 s) (fun r => Fw WM s r.2.2.2 ∧ (n = 0 → r.2.1 = 0 ∧ Ms r.2.2.2 c n P) ∧ (0 < n → r.2.1 = 1 ∧ Ms r.2.2.2 (P 0) (n - 1) (fun j => P (j + 1)))) := by
  have hg := J_RF hJ
  have hn := hJ.1.1
  have h8 := hR.2.2.2.2
  have hh := Ms_0 (v := 0) h
  obtain ⟨m1_l, m2_l, m3_l⟩ := h
  have e6_l : gI (gw s 217 0 0) 217 6 = gI s 217 6 := rd_k (a := 217) (k := 6) rfl (by decide)
  have r1_l : gR s 217 1 = 218 := (rr_217_1 hg).2
  have r5_l : gR s 217 5 = 221 := (rr_217_5 hg).2
  unfold f_260
  dsimp only
  rw [e6_l]
  by_cases c0 : gI s 217 6 = 0
  · rw [if_pos c0]
    exact gQ_ret ⟨Fw_m0 hn, fun _ => ⟨rfl, hh⟩, fun z_l => by omega⟩
  rw [if_neg c0, g32_eq (v := gI s 217 6 - 1) (by omega) (by omega)]
  have h0 : 0 < n := by omega
  have s6_l : gI (gw (gw s 217 0 0) 217 6 (gI s 217 6 - 1)) 217 6 = gI s 217 6 - 1 := rd_same rfl
  have hc_l : ∀ a_l k_l, a_l ≠ 217 → gI (gw (gw s 217 0 0) 217 6 (gI s 217 6 - 1)) a_l k_l = gI s a_l k_l := fun a_l k_l ha_l => (rd_a rfl ha_l).trans (rd_a rfl ha_l)
  have hc2 : gI (gw (gw s 217 0 0) 217 6 (gI s 217 6 - 1)) 217 3 = gI s 217 3 := (rd_k rfl (by decide)).trans (rd_k rfl (by decide))
  have hw : Fw WM s (gw (gw s 217 0 0) 217 6 (gI s 217 6 - 1)) := Fw_wv (Fw_m0 hn) rfl
  have hsm : Sm s (gw (gw s 217 0 0) 217 6 (gI s 217 6 - 1)) := ⟨rfl, rfl, rfl⟩
  generalize gw (gw s 217 0 0) 217 6 (gI s 217 6 - 1) = t at *
  have b1 : gR t 217 1 = 218 := by
    show t.2.2.2 217 1 = 218
    rw [hsm.2.2]
    exact r1_l
  have b5 : gR t 217 5 = 221 := by
    show t.2.2.2 217 5 = 221
    rw [hsm.2.2]
    exact r5_l
  refine gQ_loop (fun y_l => y_l.1 = 217 ∧ (0 ≤ y_l.2.1 ∧ y_l.2.1 ≤ 340) ∧ Sm t y_l.2.2 ∧ (∀ a_l k_l : Nat, ¬ (a_l = 218 ∧ (k_l : Int) < y_l.2.1) → gI y_l.2.2 a_l k_l = gI t a_l k_l) ∧ ∀ k_l : Nat, (k_l : Int) < y_l.2.1 → gI y_l.2.2 218 k_l = gI s 221 (340 * (n - 1) + k_l)) (fun y_l hy => ?_) ⟨rfl, ⟨Int.le_refl 0, (by decide : (0 : Int) ≤ 340)⟩, ⟨rfl, rfl, rfl⟩, fun _ _ _ => rfl, fun k_l hk => by dsimp only at hk; omega⟩
  obtain ⟨x0_l, x1_l, y1⟩ := y_l
  obtain ⟨q0, hb_l, hs, h5, h6⟩ := hy
  dsimp only at q0 hb_l hs h5 h6
  subst q0
  have t1_l : gR y1 217 1 = 218 := by
    show y1.2.2.2 217 1 = 218
    rw [hs.2.2]
    exact b1
  have t5_l : gR y1 217 5 = 221 := by
    show y1.2.2.2 217 5 = 221
    rw [hs.2.2]
    exact b5
  show gQ (sb_260_26 217 x1_l y1) _
  unfold sb_260_26
  by_cases c : x1_l < 340
  · have hA : 0 ≤ gI s 217 6 - 1 ∧ gI s 217 6 - 1 ≤ 11 := by omega
    have e6y : gI y1 217 6 = gI s 217 6 - 1 := (h5 217 6 (by omega)).trans s6_l
    rw [if_pos c, t1_l, t5_l, e6y, g32_eq (v := 340 * (gI s 217 6 - 1)) (by omega) (by omega), g32_eq (v := 340 * (gI s 217 6 - 1) + x1_l) (by omega) (by omega), g32_eq (v := x1_l + 1) (by omega) (by omega)]
    have hv : (340 * (gI s 217 6 - 1) + x1_l).toNat = 340 * (n - 1) + x1_l.toNat := by omega
    have e21_l : gI y1 221 (340 * (gI s 217 6 - 1) + x1_l).toNat = gI s 221 (340 * (n - 1) + x1_l.toNat) := by
      rw [hv, h5 221 _ (by omega)]
      exact hc_l 221 _ (by decide)
    refine gQ_chk (gQ_chk (gQ_ret ⟨rfl, by dsimp only; omega, hs, fun a_l k_l ha_l => ?_, fun k_l hk => ?_⟩))
    · dsimp only at ha_l ⊢
      rw [e21_l]
      show (if a_l = 218 ∧ k_l = x1_l.toNat then _ else gI y1 a_l k_l) = _
      rw [if_neg (by omega)]
      exact h5 a_l k_l (by omega)
    · dsimp only at hk ⊢
      rw [e21_l]
      show (if 218 = 218 ∧ k_l = x1_l.toNat then gI s 221 (340 * (n - 1) + x1_l.toNat) else gI y1 218 k_l) = _
      by_cases ck : k_l = x1_l.toNat
      · rw [if_pos ⟨rfl, ck⟩, ck]
      · rw [if_neg (fun z_l => ck z_l.2)]
        exact h6 k_l (by omega)
  · rw [if_neg c]
    refine gQ_map (gQ_ret ⟨Fw_sm hw hs (fun a_l k_l _ hf => ?_), fun z_l => by omega, fun _ => ⟨rfl, ?_, ?_, fun j hj => ?_⟩⟩)
    · dsimp only
      by_cases ca : a_l = 218 ∧ k_l < 340
      · obtain ⟨rfl, ck⟩ := ca
        cases hm : mnt k_l with
        | true =>
          rw [WM_8 hm] at hf
          cases hf
        | false =>
          rw [h6 k_l (by omega), h8.2 (n - 1) (by omega) k_l ck hm]
          exact (hc_l 218 k_l (by decide)).symm
      · exact h5 a_l k_l (by omega)
    · dsimp only
      refine Msw_m (m3_l 0 h0) (hp.2 0 h0).2.2 (fun k_l hk => ?_)
      rw [Nat.zero_add, h6 k_l (by omega), show n - 1 - 0 = n - 1 by omega]
    · dsimp only
      rw [h5 217 6 (by omega), s6_l]
      omega
    · dsimp only
      refine Msw_m (m3_l (j + 1) (by omega)) (hp.2 (j + 1) (by omega)).2.2 (fun k_l hk => ?_)
      rw [h5 221 _ (by omega), hc_l 221 _ (by decide), show n - 1 - 1 - j = n - 1 - (j + 1) by omega]
theorem ax_130 (hJ : J p s) (hR : Rt s) (hX : Rx s) : gQ (f_130 0 s) (fun r => Xd (f_260 217) r.2.1 r.2.2.2) := by
  obtain ⟨c_l, n_l, P_l, hc_l, hm_l, ho, hp, hr, h8⟩ := Rx_data hX
  have hg := J_RF hJ
  have hn := hJ.1.1
  by_cases h0 : n_l = 0
  · refine ad1 (w := 0) hJ hm_l ho hp hr h8 ho hp (fun r hr2 => ?_) (fun u_l p2_l hu hRu hfu hmu h8u q_l hq => ?_)
    · obtain ⟨q1_l, q2_l, q3_l⟩ := ct_130 hg hn hp hc_l r hr2
      exact ⟨q1_l, q2_l h0⟩
    · obtain ⟨q1_l, q2_l, q3_l⟩ := mt_260 hu hRu hp hmu q_l hq
      exact ⟨q1_l, q2_l h0⟩
  · have h1 : 0 < n_l := by omega
    refine ad1 (w := 1) (c' := P_l 0) (n' := n_l - 1) (P' := fun j_l => P_l (j_l + 1)) hJ hm_l ho hp hr h8 (hp.2 0 h1) ⟨by have := hp.1; omega, fun j_l hj => hp.2 (j_l + 1) (by omega)⟩ (fun r hr2 => ?_) (fun u_l p2_l hu hRu hfu hmu h8u q_l hq => ?_)
    · obtain ⟨q1_l, q2_l, q3_l⟩ := ct_130 hg hn hp hc_l r hr2
      exact ⟨q1_l, q3_l h1⟩
    · obtain ⟨q1_l, q2_l, q3_l⟩ := mt_260 hu hRu hp hmu q_l hq
      exact ⟨q1_l, q3_l h1⟩
end Sd

end
section
/-! image and back keep the full relation -/
section Ig
variable {s t u : gS} {p : gP} {R R' O O' B B' C C' k : Nat} {T : (Nat → Int) → Int}
theorem Tlw_g (hJ : J p s) (hB : B < 232 ∧ k0 B = 0) (h : Tlw s R B T) (h1 : ∀ k, k = 1 ∨ k = 2 ∨ (340 ≤ k ∧ k < 740) → gI t R' k = gI s R k) (hr : gR t B' 11 = gR s B 11) (h2 : ∀ a k, 232 ≤ a → a < gn s → gR t a k = gR s a k) (h3 : ∀ a, 232 ≤ a → a < gn s → gK t a = gK s a) (h4 : ∀ a k, 232 ≤ a → a < gn s → gI t a k = gI s a k) : Tlw t R' B' T := by
  rcases h with ⟨t1_l, t2_l, t3_l⟩ | ⟨y_l, k, t1_l, ⟨L_l, e_l, ⟨l1, l2, l3⟩, l4, l5, l6⟩, ⟨t3_l, t4_l⟩, t5_l, t6⟩
  · exact Or.inl ⟨t1_l, (h1 1 (by omega)).trans t2_l, hr.trans t3_l⟩
  · obtain ⟨⟨a1_l, a2⟩, ⟨a3, a4⟩, -⟩ := (hJ.1.2.2.2 B hB.1 hB.2).resolve_left (by omega)
    have rA : gR t (gR s B 11) 1 = gR s (gR s B 11) 1 := h2 _ 1 a1_l a2
    refine Or.inr ⟨y_l, k, t1_l, ⟨L_l, e_l, ⟨(h1 1 (by omega)).trans l1, (h1 2 (by omega)).trans l2, l3⟩, l4, fun j_l hj => (h1 _ (by omega)).trans (l5 j_l hj), l6⟩, ?_, ?_, t6⟩
    · rw [hr, rA]
      exact ⟨t3_l, t4_l⟩
    · rw [hr]
      obtain ⟨b1, b2, b3, b4⟩ := t5_l
      refine ⟨(h4 _ 0 a1_l a2).trans b1, ?_, ?_, ?_⟩
      · rw [rA]
        exact Eq.trans (List.map_congr_left (fun j_l _ => h4 _ j_l a3 a4)) b2
      · rw [rA, h3 _ a3 a4]
        exact b3
      · rw [rA]
        exact b4
theorem RW_l (h : RW s R O B C) (h1 : ∀ k, k < 340 → (k ≠ 1 ∧ k ≠ 2) → gI t R' (O' + k) = gI s R (O + k)) (h2 : ∀ k, KK k → cv t B' C' k = cv s B C k) (h3 : ∀ q, q < 240 → gI t (C' + 5) q = gI s (C + 5) q) : RW t R' O' B' C' := by
  obtain ⟨g1, g2, g3_l, g4⟩ := h
  have e13_l := h1 13 (by decide) (by decide)
  refine ⟨fun k hk => (h1 k (by have := hk.1; omega) ⟨hk.2.1, hk.2.2.1⟩).trans ((g1 k hk).trans (h2 k hk).symm), ⟨Vg_k g2.1 (fun k hk => (h1 k (by have := hk.1; omega) ⟨hk.2.1, hk.2.2.1⟩).symm), Vp_k g2.2 (fun k hk => (h1 k (by have := hk.1; omega) ⟨hk.2.1, hk.2.2.1⟩).symm)⟩, by rw [e13_l]; exact g3_l, fun i_l j_l hi_l hj => ?_⟩
  rw [e13_l] at hi_l ⊢
  rw [h3 _ (by omega), show O' + 100 + 4 * i_l + j_l = O' + (100 + 4 * i_l + j_l) by omega, h1 _ (by omega) (by omega), show O + (100 + 4 * i_l + j_l) = O + 100 + 4 * i_l + j_l by omega]
  exact g4 i_l j_l hi_l hj
theorem RW_g (h : RW s R O B C) (h1 : ∀ k, k < 340 → gI t R' (O' + k) = gI s R (O + k)) (h2 : ∀ k, KK k → cv t B' C' k = cv s B C k) (h3 : ∀ q, q < 240 → gI t (C' + 5) q = gI s (C + 5) q) : RW t R' O' B' C' := RW_l h (fun k hk _ => h1 k hk) h2 h3
/-- a cell of a row: in the book, or in the court -/
theorem pa_cc (hk : KK k) : (∃ o, o < 6 ∧ (∀ B C, pa B C k = B + o) ∧ ∀ B, BCr B (B + o) (pj k)) ∨ (∃ o, o < 12 ∧ (∀ B C, pa B C k = C + o) ∧ ∀ C, CCr C (C + o) (pj k) ∨ LCr C (C + o) (pj k)) := by
  obtain ⟨h1, h2, h3, h4⟩ := hk
  by_cases c1 : k < 16
  · have hc_l : (k = 0 ∨ k = 3 ∨ k = 5 ∨ k = 10 ∨ k = 11 ∨ k = 12) ∨ k = 13 ∨ (k = 4 ∨ k = 6 ∨ k = 7 ∨ k = 8 ∨ k = 9 ∨ k = 14) := by omega
    rcases hc_l with hc_l | hc_l | hc_l
    · rcases hc_l with rfl | rfl | rfl | rfl | rfl | rfl <;> exact Or.inl ⟨0, by decide, fun B C => rfl, fun B => Or.inl ⟨rfl, by decide, by decide⟩⟩
    · subst hc_l
      exact Or.inr ⟨4, by decide, fun B C => rfl, fun C => Or.inr (Or.inl ⟨rfl, rfl⟩)⟩
    · rcases hc_l with rfl | rfl | rfl | rfl | rfl | rfl <;> exact Or.inr ⟨0, by decide, fun B C => rfl, fun C => Or.inl (Or.inl ⟨rfl, by decide, by decide⟩)⟩
  by_cases c2 : k < 40
  · have ej : pj k = (k - 16) / 3 := by
      unfold pj
      rw [if_neg (by omega), if_pos (by omega)]
    refine Or.inl ⟨1 + (k - 16) % 3, by omega, fun B C => ?_, fun B => Or.inr (Or.inl ⟨by omega, by omega⟩)⟩
    unfold pa
    rw [if_neg (by omega), if_pos (by omega)]
    omega
  by_cases c3 : k < 76
  · have ej : pj k = (k - 40) % 6 := by
      unfold pj
      rw [if_neg (by omega), if_neg (by omega), if_pos (by omega)]
    refine Or.inr ⟨6 + (k - 40) / 6, by omega, fun B C => ?_, fun C => Or.inl (Or.inr (Or.inr ⟨by omega, by omega, by omega⟩))⟩
    unfold pa
    rw [if_neg (by omega), if_neg (by omega), if_pos (by omega)]
    omega
  by_cases c4 : k < 88
  · have ej : pj k = (k - 76) / 2 := by
      unfold pj
      rw [if_neg (by omega), if_neg (by omega), if_neg (by omega), if_pos (by omega)]
    refine Or.inl ⟨4 + (k - 76) % 2, by omega, fun B C => ?_, fun B => Or.inr (Or.inr ⟨by omega, by omega⟩)⟩
    unfold pa
    rw [if_neg (by omega), if_neg (by omega), if_neg (by omega), if_pos (by omega)]
    omega
  · have ej : pj k = (k - 88) / 2 := by
      unfold pj
      rw [if_neg (by omega), if_neg (by omega), if_neg (by omega), if_neg (by omega)]
    refine Or.inr ⟨2 + (k - 88) % 2, by omega, fun B C => ?_, fun C => Or.inl (Or.inr (Or.inl ⟨by omega, by omega⟩))⟩
    unfold pa
    rw [if_neg (by omega), if_neg (by omega), if_neg (by omega), if_neg (by omega)]
    omega
variable {D E : Nat}
theorem ci_k (h1 : BC B D s t) (h2 : FC C E t u) (d1 : B + 6 ≤ C ∨ C + 12 ≤ B) (d2 : B + 6 ≤ E ∨ E + 12 ≤ B) (hk : KK k) : cv u B C k = cv s D E k := by
  show gI u (pa B C k) (pj k) = gI s (pa D E k) (pj k)
  rcases pa_cc hk with ⟨o, o1, o2, o3_l⟩ | ⟨o, o1, o2, o3_l⟩
  · rw [o2, o2, (h2.2 _ _).2 (fun z_l => by have := blk z_l; omega), (h1.2 _ _).1 (o3_l _), show B + o - B + D = D + o by omega]
  · rw [o2, o2, (h2.2 _ _).1 (o3_l _), show C + o - C + E = E + o by omega]
    exact (h1.2 _ _).2 (fun z_l => by have := bkb z_l; omega)
theorem ci_l (h1 : BC B D s t) (h2 : FC C E t u) (d2 : B + 6 ≤ E ∨ E + 12 ≤ B) {q : Nat} (hq : q < 240) : gI u (C + 5) q = gI s (E + 5) q := by
  rw [(h2.2 (C + 5) q).1 (Or.inr (Or.inr ⟨rfl, hq⟩)), show C + 5 - C + E = E + 5 by omega]
  exact (h1.2 _ _).2 (fun z_l => by have := bkb z_l; omega)
theorem ax_131 (hJ : J p s) (hX : Rx s) : gQ (f_131 0 s) (fun r => ∀ p', J p' r.2.2.2 → gQ (f_261 217 r.2.2.2) (fun q => Rx q.2.2.2)) := by
  have hg : RF s := hJ.1.2.1
  have hn := hJ.1.1
  obtain ⟨b1, b2, b3, b4, b5, b6⟩ := k0_b
  unfold f_131
  rw [(rr_0_10 hg).2, (rr_0_4 hg).2]
  refine gQ_v0 (A := fun z_l => BC 54 9 s z_l) (fun r hr => (gQ_T (s_1 hg ⟨by decide, b3⟩ ⟨by decide, b1⟩ (by decide)) r hr).2) (fun s1_l h1 => ?_)
  have hg1 : RF s1_l := RF_bc hg b3 h1
  rw [(rr_0_11 hg1).2, (rr_0_5 hg1).2]
  refine gQ_v0 (A := fun z_l => FC 60 15 s1_l z_l) (fun r hr => (gQ_T (s_22 hg1 ⟨by decide, b6⟩ ⟨by decide, b4⟩ (by decide)) r hr).2) (fun s3_l h3 => ?_)
  refine gQ_bool (gQ_ret ?_)
  dsimp only
  have hf : ∀ a_l k_l, ¬ (54 ≤ a_l ∧ a_l < 72) → ¬ (a_l = 0 ∧ k_l = 15) → gI (gw s3_l 0 15 1) a_l k_l = gI s a_l k_l := fun a_l k_l ha_l hz => by
    show (if a_l = 0 ∧ k_l = 15 then _ else gI s3_l a_l k_l) = _
    rw [if_neg hz]
    exact ci_f h1 h3 (by omega) (by omega)
  have hcv : ∀ k_l, KK k_l → cv (gw s3_l 0 15 1) 54 60 k_l = cv s 9 15 k_l := fun k_l hk => by
    have hp := pa_15 k_l hk.1
    have e2_l : cv (gw s3_l 0 15 1) 54 60 k_l = cv s3_l 54 60 k_l := rd_a rfl (by omega)
    rw [e2_l]
    exact ci_k h1 h3 (by omega) (by omega) hk
  have hlg : ∀ q, q < 240 → gI (gw s3_l 0 15 1) 65 q = gI s 20 q := fun q hq => (rd_a rfl (by decide)).trans (ci_l h1 h3 (by decide) hq)
  have hnn_l : gn (gw s3_l 0 15 1) = gn s := h3.1.1.trans h1.1.1
  have hkk : ∀ a_l, gK (gw s3_l 0 15 1) a_l = gK s a_l := fun a_l => by
    show s3_l.2.1 a_l = s.2.1 a_l
    rw [h3.1.2.1, h1.1.2.1]
  have hrr : ∀ a_l k_l, gR (gw s3_l 0 15 1) a_l k_l = if a_l = 54 ∧ k_l = 11 then gR s 9 11 else gR s a_l k_l := fun a_l k_l => by
    show s3_l.2.2.2 a_l k_l = _
    rw [h3.1.2.2]
    exact h1.1.2.2 a_l k_l
  generalize gw s3_l 0 15 1 = v at *
  intro p' hJ' q hq
  have hgv := J_RF hJ'
  obtain ⟨q1_l, q2_l, q3_l, q4_l⟩ := x_261 (rr_217_1 hgv).2 (rr_217_2 hgv).2 q hq
  obtain ⟨y1, y2, ⟨y3, y4, y5, y6⟩, T, y7⟩ := hX
  have hf2 : ∀ a_l k_l, ¬ (54 ≤ a_l ∧ a_l < 72) → ¬ (a_l = 0 ∧ k_l = 15) → a_l ≠ 219 → ¬ (a_l = 217 ∧ (k_l = 0 ∨ k_l = 3)) → gI q.2.2.2 a_l k_l = gI s a_l k_l := fun a_l k_l c1_l c2_l c3_l c4_l => (q4_l a_l k_l c3_l c4_l).trans (hf a_l k_l c1_l c2_l)
  have rq : ∀ a_l k_l, gR q.2.2.2 a_l k_l = gR v a_l k_l := fun a_l k_l => by
    show q.2.2.2.2.2.2 a_l k_l = v.2.2.2 a_l k_l
    rw [q1_l.2.2]
  have kq : ∀ a_l, gK q.2.2.2 a_l = gK s a_l := fun a_l => by
    rw [← hkk a_l]
    show q.2.2.2.2.1 a_l = v.2.1 a_l
    rw [q1_l.2.1]
  have cvq : ∀ C_l k_l, 15 ≤ C_l → C_l + 12 ≤ 54 ∨ 72 ≤ C_l → C_l + 12 ≤ 217 → KK k_l → cv q.2.2.2 9 C_l k_l = cv s 9 C_l k_l := fun C_l k_l c1_l c2_l c3_l hk => by
    show gI q.2.2.2 (pa 9 C_l k_l) (pj k_l) = gI s (pa 9 C_l k_l) (pj k_l)
    rcases pa_cc hk with ⟨o, o1, o2, -⟩ | ⟨o, o1, o2, -⟩
    · rw [o2]
      exact hf2 _ _ (by omega) (by omega) (by omega) (by omega)
    · rw [o2]
      exact hf2 _ _ (by omega) (by omega) (by omega) (by omega)
  have lw : ∀ (R' B' : Nat), (R' = 218 ∧ B' = 9) ∨ (R' = 219 ∧ B' = 54) → Tlw q.2.2.2 R' B' T := fun R' B' hx => by
    refine Tlw_g hJ ⟨by decide, b1⟩ y7 (fun k_l hk => ?_) ?_ (fun a_l k_l ha_l ha2 => ?_) (fun a_l _ _ => kq a_l) (fun a_l k_l ha_l ha2 => hf2 a_l k_l (by omega) (by omega) (by omega) (by omega))
    · rcases hx with ⟨rfl, rfl⟩ | ⟨rfl, rfl⟩
      · exact hf2 218 k_l (by omega) (by omega) (by omega) (by omega)
      · rw [q2_l k_l (by omega)]
        exact hf 218 k_l (by omega) (by omega)
    · rw [rq, hrr]
      rcases hx with ⟨rfl, rfl⟩ | ⟨rfl, rfl⟩
      · rw [if_neg (by decide)]
      · rw [if_pos ⟨rfl, rfl⟩]
    · rw [rq, hrr, if_neg (by omega)]
  have e13_l := hf2 0 13 (by omega) (by omega) (by omega) (by omega)
  have e14_l := hf2 0 14 (by omega) (by omega) (by omega) (by omega)
  have e6_l := hf2 217 6 (by omega) (by omega) (by omega) (by omega)
  refine ⟨RW_g y1 (fun k_l hk => hf2 218 _ (by omega) (by omega) (by omega) (by omega)) (fun k_l hk => cvq 15 k_l (by decide) (by decide) (by decide) hk) (fun q hq => hf2 _ _ (by omega) (by omega) (by omega) (by omega)), fun _ => ⟨RW_g y1 (fun k_l hk => ?_) (fun k_l hk => ?_) (fun i_l hi_l => ?_), T, lw 219 54 (by omega)⟩, ⟨by rw [e14_l, e6_l]; exact y3, by rw [e13_l]; exact y4, by rw [e14_l]; exact y5, fun j_l hj => ?_⟩, T, lw 218 9 (by omega)⟩
  · rw [Nat.zero_add, q2_l k_l (by omega)]
    exact hf 218 k_l (by omega) (by omega)
  · have hp := pa_15 k_l hk.1
    refine Eq.trans ?_ (hcv k_l hk)
    exact q4_l _ _ (by omega) (by omega)
  · exact (q4_l 65 i_l (by omega) (by omega)).trans (hlg i_l hi_l)
  · rw [e14_l] at hj ⊢
    rw [e13_l]
    have hps : 73 ≤ pst (gI s 0 13) j_l ∧ pst (gI s 0 13) j_l + 12 ≤ 217 := by
      unfold pst
      omega
    exact RW_g (y6 j_l hj) (fun k_l hk => hf2 221 _ (by omega) (by omega) (by omega) (by omega)) (fun k_l hk => cvq _ k_l (by omega) (by omega) (by omega) hk) (fun q hq => hf2 _ _ (by omega) (by omega) (by omega) (by omega))
theorem ax_132 (hJ : J p s) (hi : p.2.2.2.1 = p.2.2.2.2) (h01 : p.2.2.2.2 = 0 ∨ p.2.2.2.2 = 1) (hX : Rx s) : gQ (f_132 0 s) (fun r => ∀ p', J p' r.2.2.2 → gQ (f_262 217 r.2.2.2) (fun q => Rx q.2.2.2)) := by
  have hg : RF s := hJ.1.2.1
  have hn := hJ.1.1
  have hi1 : gI s 0 15 = p.2.2.2.1 := hJ.2.2.2.2.1
  have hi2 : gI s 217 3 = p.2.2.2.2 := hJ.2.2.2.2.2
  obtain ⟨b1, b2, b3, b4, b5, b6⟩ := k0_b
  unfold f_132
  by_cases c : gI s 0 15 = 0
  · rw [if_pos c]
    refine gQ_ret (fun p' hJ' => ?_)
    dsimp only at hJ' ⊢
    have e3_l : gI (gw s 217 0 0) 217 3 = 0 := by
      rw [rd_k (a := 217) (k := 3) rfl (by decide), hi2, ← hi, ← hi1]
      exact c
    unfold f_262
    dsimp only
    rw [e3_l, if_pos rfl]
    exact gQ_ret (Rx_fw hJ hX (Fw_wv (Fw_rf hn) rfl))
  rw [if_neg c, (rr_0_10 hg).2, (rr_0_4 hg).2]
  refine gQ_v0 (A := fun z_l => BC 9 54 s z_l) (fun r hr => (gQ_T (s_1 hg ⟨by decide, b1⟩ ⟨by decide, b3⟩ (by decide)) r hr).2) (fun s1_l h1 => ?_)
  have hg1 : RF s1_l := RF_bc hg b1 h1
  rw [(rr_0_11 hg1).2, (rr_0_5 hg1).2]
  refine gQ_v0 (A := fun z_l => FC 15 60 s1_l z_l) (fun r hr => (gQ_T (s_22 hg1 ⟨by decide, b4⟩ ⟨by decide, b6⟩ (by decide)) r hr).2) (fun s3_l h3 => ?_)
  refine gQ_ret ?_
  dsimp only
  have hf : ∀ a_l k_l, ¬ (9 ≤ a_l ∧ a_l < 27) → ¬ (a_l = 0 ∧ k_l = 14) → gI (gw s3_l 0 14 0) a_l k_l = gI s a_l k_l := fun a_l k_l ha_l hz => by
    show (if a_l = 0 ∧ k_l = 14 then _ else gI s3_l a_l k_l) = _
    rw [if_neg hz]
    exact ci_f h1 h3 (by omega) (by omega)
  have hcv : ∀ k_l, KK k_l → cv (gw s3_l 0 14 0) 9 15 k_l = cv s 54 60 k_l := fun k_l hk => by
    have hp := pa_15 k_l hk.1
    have e2_l : cv (gw s3_l 0 14 0) 9 15 k_l = cv s3_l 9 15 k_l := rd_a rfl (by omega)
    rw [e2_l]
    exact ci_k h1 h3 (by omega) (by omega) hk
  have hlg : ∀ q, q < 240 → gI (gw s3_l 0 14 0) 20 q = gI s 65 q := fun q hq => (rd_a rfl (by decide)).trans (ci_l h1 h3 (by decide) hq)
  have h14 : gI (gw s3_l 0 14 0) 0 14 = 0 := rd_same rfl
  have hkk : ∀ a_l, gK (gw s3_l 0 14 0) a_l = gK s a_l := fun a_l => by
    show s3_l.2.1 a_l = s.2.1 a_l
    rw [h3.1.2.1, h1.1.2.1]
  have hrr : ∀ a_l k_l, gR (gw s3_l 0 14 0) a_l k_l = if a_l = 9 ∧ k_l = 11 then gR s 54 11 else gR s a_l k_l := fun a_l k_l => by
    show s3_l.2.2.2 a_l k_l = _
    rw [h3.1.2.2]
    exact h1.1.2.2 a_l k_l
  generalize gw s3_l 0 14 0 = v at *
  intro p' hJ' q hq
  have hgv := J_RF hJ'
  have hi3 : gI s 217 3 = 1 := by
    rw [hi2]
    rcases h01 with e_l | e_l
    · exact absurd (hi1.trans (hi.trans e_l)) c
    · exact e_l
  have hv3 : gI v 217 3 ≠ 0 := by
    rw [hf 217 3 (by omega) (by omega), hi3]
    decide
  obtain ⟨q1_l, q2_l, q3_l, q4_l⟩ := x_262 (rr_217_1 hgv).2 (rr_217_2 hgv).2 hv3 q hq
  obtain ⟨y1, y2, ⟨y3, y4, y5, y6⟩, T0_l, y7⟩ := hX
  obtain ⟨y8, T, y9⟩ := y2 hi3
  have hf2 : ∀ a_l k_l, ¬ (9 ≤ a_l ∧ a_l < 27) → ¬ (a_l = 0 ∧ k_l = 14) → ¬ (a_l = 218 ∧ k_l < 740) → ¬ (a_l = 217 ∧ (k_l = 0 ∨ k_l = 6)) → gI q.2.2.2 a_l k_l = gI s a_l k_l := fun a_l k_l c1_l c2_l c3_l c4_l => (q4_l a_l k_l c3_l c4_l).trans (hf a_l k_l c1_l c2_l)
  have rq : ∀ a_l k_l, gR q.2.2.2 a_l k_l = gR v a_l k_l := fun a_l k_l => by
    show q.2.2.2.2.2.2 a_l k_l = v.2.2.2 a_l k_l
    rw [q1_l.2.2]
  have kq : ∀ a_l, gK q.2.2.2 a_l = gK s a_l := fun a_l => by
    rw [← hkk a_l]
    show q.2.2.2.2.1 a_l = v.2.1 a_l
    rw [q1_l.2.1]
  have lw : ∀ (R' B' : Nat), (R' = 218 ∧ B' = 9) ∨ (R' = 219 ∧ B' = 54) → Tlw q.2.2.2 R' B' T := fun R' B' hx => by
    refine Tlw_g hJ ⟨by decide, b3⟩ y9 (fun k_l hk => ?_) ?_ (fun a_l k_l ha_l ha2 => ?_) (fun a_l _ _ => kq a_l) (fun a_l k_l ha_l ha2 => hf2 a_l k_l (by omega) (by omega) (by omega) (by omega))
    · rcases hx with ⟨rfl, rfl⟩ | ⟨rfl, rfl⟩
      · rw [q2_l k_l (by omega)]
        exact hf 219 k_l (by omega) (by omega)
      · exact hf2 219 k_l (by omega) (by omega) (by omega) (by omega)
    · rw [rq, hrr]
      rcases hx with ⟨rfl, rfl⟩ | ⟨rfl, rfl⟩
      · rw [if_pos ⟨rfl, rfl⟩]
      · rw [if_neg (by decide)]
    · rw [rq, hrr, if_neg (by omega)]
  have e14_l : gI q.2.2.2 0 14 = 0 := (q4_l 0 14 (by omega) (by omega)).trans h14
  have e13_l := hf2 0 13 (by omega) (by omega) (by omega) (by omega)
  refine ⟨RW_g y8 (fun k_l hk => ?_) (fun k_l hk => ?_) (fun i_l hi => ?_), fun _ => ⟨RW_g y8 (fun k_l hk => hf2 219 _ (by omega) (by omega) (by omega) (by omega)) (fun k_l hk => ?_) (fun i_l hi => hf2 _ _ (by omega) (by omega) (by omega) (by omega)), T, lw 219 54 (by omega)⟩, ⟨by rw [e14_l, q3_l], by rw [e13_l]; exact y4, by rw [e14_l]; decide, fun j_l hj => by rw [e14_l] at hj; omega⟩, T, lw 218 9 (by omega)⟩
  · rw [Nat.zero_add, q2_l k_l (by omega)]
    exact hf 219 k_l (by omega) (by omega)
  · have hp := pa_15 k_l hk.1
    refine Eq.trans ?_ (hcv k_l hk)
    exact q4_l _ _ (by omega) (by omega)
  · exact (q4_l 20 i_l (by omega) (by omega)).trans (hlg i_l hi)
  · have hp := pa_15 k_l hk.1
    exact hf2 _ _ (by omega) (by omega) (by omega) (by omega)
end Ig

end
section
/-! a law read keeps the full relation -/
section Lw
variable {s t u v : gS} {p : gP} {k e : Nat} {y : LX} {L : Nat → Int}
/-- the class's half of a law that was read -/
noncomputable def Lhf (s t : gS) (y : LX) (k : Nat) : Prop := (gn s ≤ gn t ∧ ∀ a, a < gn s → gK t a = gK s a) ∧ (∀ a j, a < gn s → ¬ (a = 9 ∧ j = 11) → gR t a j = gR s a j) ∧ (∀ a j, a < gn s → csa a = false → ¬ (a = 0 ∧ (j = 14 ∨ j = 16)) → a ≠ 231 → gI t a j = gI s a j) ∧ gI t 0 14 = 0 ∧ gn s ≤ gR t 9 11 ∧ (232 ≤ gR t (gR t 9 11) 1 → Lob t (gR t 9 11) y.1 k)
theorem c_90x (hJ : J p s) (h : Rt s) : gQ (f_90 0 s) (fun r => (r.1 = 2 ∧ (∃ q, lwp (gI s 222) p.2.1.toNat = Sum.inl q) ∧ Fw WX s r.2.2.2 ∧ ∀ a j, 217 ≤ a → a < 231 → gI r.2.2.2 a j = gI s a j) ∨ (r.1 = 1 ∧ ∃ y k, lwp (gI s 222) p.2.1.toNat = Sum.inr (y, k) ∧ r.2.1 = (k : Int) ∧ Lhf s r.2.2.2 y k)) := by
  have hg : RF s := hJ.1.2.1
  have hn : 232 ≤ gn s := hJ.1.1
  unfold f_90
  rw [(rr_0_3 hg).2]
  refine gQ_wr (A := fun v_l u_l => Fw csq s u_l ∧ ((v_l = 0 ∧ ∃ q : Nat, lwp (gI s 222) p.2.1.toNat = Sum.inl q) ∨ (v_l ≠ 0 ∧ gn s ≤ v_l ∧ ∃ y k, lwp (gI s 222) p.2.1.toNat = Sum.inr (y, k) ∧ Lob u_l v_l y.1 k))) (fun r hr => ?_) (fun v_l u_l hu => ?_)
  · obtain ⟨x1_l, x2_l⟩ := c_44 (Tp_R hJ h) ⟨(rr_7_0 hg).2, (rr_7_1 hg).2⟩ hn r hr
    refine ⟨o_44 hg cid rfl (Fw_rf hn) r hr, ?_⟩
    rcases x2_l with ⟨y1, q, y2, -⟩ | ⟨y1, y2, y, k, y3, y4⟩
    · exact Or.inl ⟨y1, q, y2⟩
    · exact Or.inr ⟨y1, y2, y, k, y3, y4⟩
  obtain ⟨hF, hv⟩ := hu
  have key_l : ∀ w0_l : Int, gQ (fb_90_24 0 v_l w0_l 0 u_l) (fun r => (r.1 = 2 ∧ (∃ q, lwp (gI s 222) p.2.1.toNat = Sum.inl q) ∧ Fw WX s r.2.2.2 ∧ ∀ a j, 217 ≤ a → a < 231 → gI r.2.2.2 a j = gI s a j) ∨ (r.1 = 1 ∧ ∃ y k, lwp (gI s 222) p.2.1.toNat = Sum.inr (y, k) ∧ r.2.1 = (k : Int) ∧ Lhf s r.2.2.2 y k)) := fun w0_l => by
    unfold fb_90_24
    dsimp only
    have r0 : gR (gw u_l 0 16 w0_l) 0 0 = 1 := show gR u_l 0 0 = 1 from fr_r hF rfl (rr_0_0 hg)
    rw [r0]
    have hX : Fw WX s u_l := Fw_tr (Fw_rf hn) hF uqX
    have e4_l : ∀ a j, ¬ (a = 0 ∧ j = 16) → ¬ (a = 1 ∧ j = 1) → gI (gw (gw u_l 0 16 w0_l) 1 1 0) a j = gI u_l a j := fun a j c1_l c2_l => by
      show (if a = 1 ∧ j = 1 then _ else if a = 0 ∧ j = 16 then _ else gI u_l a j) = _
      rw [if_neg c2_l, if_neg c1_l]
    have hX4 : Fw WX s (gw (gw u_l 0 16 w0_l) 1 1 0) := Fw_wv (Fw_wv hX rfl) rfl
    have hS4 : Sm u_l (gw (gw u_l 0 16 w0_l) 1 1 0) := ⟨rfl, rfl, rfl⟩
    rcases hv with ⟨v0_l, hq⟩ | ⟨v1_l, v2, y, k, hq, hL⟩
    · rw [if_pos v0_l]
      exact gQ_ret (Or.inl ⟨rfl, hq, Fw_n hX4, fun a j c1_l c2_l => (gI_nw (Nat.le_trans hn hX4.1.2.1) (by omega)).trans ((e4_l a j (by omega) (by omega)).trans (hF.2.2 a j (by omega) (csa_n (by omega))))⟩)
    · rw [if_neg v1_l]
      generalize gw (gw u_l 0 16 w0_l) 1 1 0 = s4 at *
      have r4 : gR s4 0 4 = 9 := by
        show s4.2.2.2 0 4 = 9
        rw [hS4.2.2]
        exact fr_r hF rfl (rr_0_4 hg)
      have rR : ∀ a j, gR s4 a j = gR u_l a j := fun a j => by
        show s4.2.2.2 a j = u_l.2.2.2 a j
        rw [hS4.2.2]
      have kR : ∀ a, gK s4 a = gK u_l a := fun a => by
        show s4.2.1 a = u_l.2.1 a
        rw [hS4.2.1]
      rw [r4]
      have e6_l : ∀ a j, ¬ (a = 0 ∧ j = 14) → gI (gw (gwr s4 9 11 v_l) 0 14 0) a j = gI s4 a j := fun a j c_l => by
        show (if a = 0 ∧ j = 14 then _ else gI s4 a j) = _
        rw [if_neg c_l]
      have er : ∀ a j, gR (gw (gwr s4 9 11 v_l) 0 14 0) a j = if a = 9 ∧ j = 11 then v_l else gR s4 a j := fun a j => rfl
      have ek : ∀ a, gK (gw (gwr s4 9 11 v_l) 0 14 0) a = gK s4 a := fun a => rfl
      have eN_l : gn (gw (gwr s4 9 11 v_l) 0 14 0) = gn u_l := hS4.1
      have e14_l : gI (gw (gwr s4 9 11 v_l) 0 14 0) 0 14 = 0 := rd_same rfl
      have e7_l : ∀ a j, a ≠ 0 → a ≠ 1 → gI (gw (gwr s4 9 11 v_l) 0 14 0) a j = gI u_l a j := fun a j c1_l c2_l => (e6_l a j (by omega)).trans (e4_l a j (by omega) (by omega))
      refine gQ_ite gQ_none (gQ_ret (Or.inr ⟨rfl, y, k, hq, ?_, ⟨by rw [eN_l]; exact hF.1.2.1, fun a ha_l => (ek a).trans ((kR a).trans (hF.1.2.2 a ha_l))⟩, fun a j ha_l hz => ?_, fun a j ha_l hc_l hz _ => ?_, e14_l, ?_⟩))
      · exact (e7_l v_l 0 (by omega) (by omega)).trans hL.1
      · rw [er, if_neg hz, rR]
        exact hF.2.1 a j ha_l
      · have ha1 : a ≠ 1 := fun z_l => by
          rw [z_l] at hc_l
          cases hc_l
        exact (e6_l a j (by omega)).trans ((e4_l a j (by omega) (by omega)).trans (hF.2.2 a j ha_l hc_l))
      · have e9_l : gR (gw (gwr s4 9 11 v_l) 0 14 0) 9 11 = v_l := by
          rw [er, if_pos ⟨rfl, rfl⟩]
        rw [e9_l]
        obtain ⟨l1, l2, l3, l4⟩ := hL
        have rv1 : gR (gw (gwr s4 9 11 v_l) 0 14 0) v_l 1 = gR u_l v_l 1 := by
          rw [er, if_neg (by omega), rR]
        refine ⟨v2, fun h32 => ?_⟩
        rw [rv1] at h32
        refine ⟨(e7_l v_l 0 (by omega) (by omega)).trans l1, ?_, ?_, by rw [rv1]; exact l4⟩
        · rw [rv1]
          exact Eq.trans (List.map_congr_left (fun j _ => e7_l _ _ (by omega) (by omega))) l2
        · rw [rv1, ek, kR]
          exact l3
  exact gQ_ite (key_l _) (key_l _)
/-- the model's half -/
theorem j195x (hJ : J p u) (hL : gI u 222 = L) (he : gI u 217 8 = (e : Int)) : gQ (f_195 217 u) (fun q => Sm u q.2.2.2 ∧ ((gI q.2.2.2 217 0 = 1 ∧ (∃ c, lwp L e = Sum.inl c) ∧ Fw WX u q.2.2.2) ∨ (gI q.2.2.2 217 0 = 0 ∧ ∃ y k, lwp L e = Sum.inr (y, k) ∧ q.2.1 = (k : Int) ∧ (gI q.2.2.2 218 1 = (k : Int) ∧ gI q.2.2.2 218 2 = (e : Int) ∧ e ≤ 400 ∧ (∀ j, j < e → gI q.2.2.2 218 (340 + j) = L j) ∧ ∀ j, 0 ≤ L j ∧ L j ≤ 255) ∧ gI q.2.2.2 217 6 = 0 ∧ ∀ a j, ¬ (a = 217 ∧ j ≠ 3) → ¬ (a = 218 ∧ (j = 1 ∨ j = 2 ∨ 340 ≤ j)) → gI q.2.2.2 a j = gI u a j))) := by
  have hg : RF u := hJ.1.2.1
  have hn := hJ.1.1
  have hb8 := J_f hJ (kd := 12) (a := 217) (i := 8) t217 rfl (fun z_l => by cases z_l) (x := 0) (y := 400) rfl
  have hB_l : ∀ k, 0 ≤ L k ∧ L k ≤ 255 := fun k => by
    rw [← hL]
    exact J_ra hJ (a := 222) (k := k) (by decide) (by rw [k0_sp.2.1]; decide) rfl
  unfold f_195
  refine gQ_v0 (A := fun z_l => Sm u z_l ∧ (gI z_l 217 12 = -1 ∧ gI z_l 217 9 = -1 ∧ gI z_l 217 10 = gI u 217 8 ∧ gI z_l 217 11 = 0 ∧ gI z_l 217 13 = 0) ∧ ∀ a k, ¬ (a = 217 ∧ 8 ≤ k) → gI z_l a k = gI u a k) (fun r_l hr => ?_) (fun s1_l h1 => ?_)
  · unfold f_183 at hr
    dsimp only at hr
    cases hr
    dsimp only
    refine ⟨⟨rfl, rfl, rfl⟩, ⟨?_, ?_, ?_, ?_, ?_⟩, fun a k hz => ?_⟩
    · simp only [rdw]
      rfl
    · simp only [rdw]
      rfl
    · simp only [rdw]
      rfl
    · simp only [rdw]
      rfl
    · simp only [rdw]
      rfl
    · simp only [rdw]
      rw [if_neg (by omega), if_neg (by omega), if_neg (by omega), if_neg (by omega), if_neg (by omega), if_neg (by omega)]
  obtain ⟨y1, ⟨y2, y3, y4, y5, y6⟩, y7⟩ := h1
  have hg1 : RF s1_l := RF_sm hg y1.2.2
  have hM_l : Mp s1_l L e := by
    refine ⟨⟨y4.trans he, by omega⟩, ⟨(rr_217_1 hg1).2, (rr_217_7 hg1).2⟩, fun k hk => ?_⟩
    unfold f_168
    rw [if_pos y3, (rr_217_7 hg1).2, Int.toNat_natCast]
    unfold gchk
    rw [if_pos (by omega), y7 222 k (by omega), hL]
  have hb_l := sk_b (L := L) (e := e) (a := 0) (Nat.zero_le e)
  have hk : Mk s1_l L e (sk L e 0) (fun i_l => if i_l < 7 then gI s1_l 223 i_l else if i_l = 7 then gI s1_l 217 15 else gI s1_l 217 16) := by
    refine ⟨⟨⟨hM_l, y2, 0, y5, Nat.zero_le e, rfl⟩, hb_l.2, by omega, hB_l⟩, (rr_217_14 hg1).2, fun i_l hi_l => ?_, rfl, rfl⟩
    dsimp only
    rw [if_pos hi_l]
  refine gQ_w1 (A := fun v_l z_l => Fl7 s1_l z_l ∧ ((∃ q : Nat, lwp L e = Sum.inl q ∧ gI z_l 217 12 = (q : Int)) ∨ (∃ y k, lwp L e = Sum.inr (y, k) ∧ gI z_l 217 12 = -1 ∧ v_l = (k : Int)))) (fun r_l hr => ?_) (fun v4_l s3_l h3 => ?_)
  · obtain ⟨x1_l, x2_l⟩ := j184 hk y6 r_l hr
    refine ⟨x1_l, ?_⟩
    rcases x2_l with hq | ⟨y, k, q1_l, q2_l, q3_l, -⟩
    · exact Or.inl hq
    · exact Or.inr ⟨y, k, q1_l, q2_l, q3_l⟩
  obtain ⟨hF3, hv⟩ := h3
  have r3 : gR s3_l 217 1 = 218 := (hF3.1.2.2 217 1).trans (rr_217_1 hg1).2
  have r7 : gR s3_l 217 7 = 222 := (hF3.1.2.2 217 7).trans (rr_217_7 hg1).2
  have f3_l : ∀ a j, ¬ (a = 217 ∧ 8 ≤ j) → gI s3_l a j = gI u a j := fun a j c => (hF3.2 a j (by omega)).trans (y7 a j c)
  have e10_l : gI s3_l 217 10 = (e : Int) := (hF3.2 217 10 (by omega)).trans (y4.trans he)
  have hS3 : Sm u s3_l := ⟨hF3.1.1.trans y1.1, (funext hF3.1.2.1).trans y1.2.1, (funext fun a => funext fun k => hF3.1.2.2 a k).trans y1.2.2⟩
  unfold fb_195_24
  dsimp only
  rcases hv with ⟨q, q1_l, q2_l⟩ | ⟨y, k, q1_l, q2_l, q3_l⟩
  · rw [if_neg (by omega), m0, if_pos (by decide)]
    refine gQ_ret ⟨hS3, Or.inl ⟨m0, ⟨q, q1_l⟩, ?_⟩⟩
    refine Fw_sm (Fw_rf hn) hS3 (fun a j _ hf => ?_)
    by_cases c : a = 217 ∧ (j = 0 ∨ 8 ≤ j)
    · have : WX a j = true := umX a j (by
        unfold mss
        simp only [Bool.or_eq_true, Bool.and_eq_true, Nat.ble_eq, es_beq, Bool.not_eq_true', Bool.or_eq_false_iff, es_beqf]
        omega)
      rw [this] at hf
      cases hf
    · exact (show (if a = 217 ∧ j = 0 then _ else gI s3_l a j) = _ by rw [if_neg (by omega)]; exact f3_l a j (by omega))
  · rw [if_pos q2_l, m0, if_neg (by decide)]
    have r5_l : gR (gw s3_l 217 0 0) 217 1 = 218 := r3
    have r57 : gR (gw s3_l 217 0 0) 217 7 = 222 := r7
    have e5_l : gI (gw s3_l 217 0 0) 217 0 = 0 := m0
    have e51 : gI (gw s3_l 217 0 0) 217 10 = (e : Int) := (rd_k rfl (by decide)).trans e10_l
    have f5_l : ∀ a j, ¬ (a = 217 ∧ (j = 0 ∨ 8 ≤ j)) → gI (gw s3_l 217 0 0) a j = gI u a j := fun a j c => by
      show (if a = 217 ∧ j = 0 then _ else gI s3_l a j) = _
      rw [if_neg (by omega)]
      exact f3_l a j (by omega)
    have hS5 : Sm u (gw s3_l 217 0 0) := hS3
    generalize gw s3_l 217 0 0 = s5 at *
    have r6 : gR (gw s5 218 1 v4_l) 217 1 = 218 := r5_l
    have e61 : gI (gw s5 218 1 v4_l) 217 10 = (e : Int) := (rd_a rfl (by decide)).trans e51
    rw [r5_l, r6, e61]
    refine gQ_loop (fun y => (y.1 = 217 ∧ y.2.1 = v4_l) ∧ (0 ≤ y.2.2.1 ∧ y.2.2.1 ≤ (e : Int)) ∧ Sm u y.2.2.2 ∧ gI y.2.2.2 217 0 = 0 ∧ gI y.2.2.2 217 10 = (e : Int) ∧ (gI y.2.2.2 218 1 = v4_l ∧ gI y.2.2.2 218 2 = (e : Int) ∧ ∀ j : Nat, (j : Int) < y.2.2.1 → gI y.2.2.2 218 (340 + j) = L j) ∧ ∀ a j, ¬ (a = 217 ∧ (j = 0 ∨ 8 ≤ j)) → ¬ (a = 218 ∧ (j = 1 ∨ j = 2 ∨ 340 ≤ j)) → gI y.2.2.2 a j = gI u a j) (fun y hy => ?_) ⟨⟨rfl, rfl⟩, ⟨Int.le_refl 0, by dsimp only; omega⟩, hS5, ?_, ?_, ⟨?_, ?_, fun j hj => by dsimp only at hj; omega⟩, fun a j c1_l c2_l => ?_⟩
    · obtain ⟨z0, z1, x2_l, t_l⟩ := y
      obtain ⟨⟨p0_l, p1_l⟩, pb, ps_l, p3_l, p4_l, ⟨p5_l, p6_l, p7_l⟩, p8_l⟩ := hy
      dsimp only at p0_l p1_l pb ps_l p3_l p4_l p5_l p6_l p7_l p8_l
      subst p0_l p1_l
      have rt : gR t_l 217 1 = 218 := by
        show t_l.2.2.2 217 1 = 218
        rw [ps_l.2.2]
        exact (rr_217_1 hg).2
      have rt7 : gR t_l 217 7 = 222 := by
        show t_l.2.2.2 217 7 = 222
        rw [ps_l.2.2]
        exact (rr_217_7 hg).2
      show gQ (sb_195_55 217 z1 x2_l t_l) _
      unfold sb_195_55
      dsimp only
      rw [rt, rt7, p4_l]
      by_cases c : x2_l < (e : Int)
      · rw [if_pos c, g32_eq (v := 340 + x2_l) (by omega) (by omega), g32_eq (v := x2_l + 1) (by omega) (by omega), show (340 + x2_l).toNat = 340 + x2_l.toNat by omega]
        have e22_l : gI t_l 222 x2_l.toNat = L x2_l.toNat := by
          rw [p8_l 222 _ (by omega) (by omega), hL]
        rw [e22_l]
        refine gQ_chk (gQ_chk (gQ_ret ⟨⟨rfl, rfl⟩, by dsimp only; omega, ps_l, (rd_a rfl (by decide)).trans p3_l, (rd_a rfl (by decide)).trans p4_l, ⟨(rd_k rfl (by omega)).trans p5_l, (rd_k rfl (by omega)).trans p6_l, fun j hj => ?_⟩, fun a j c1_l c2_l => ?_⟩))
        · dsimp only at hj ⊢
          show (if 218 = 218 ∧ 340 + j = 340 + x2_l.toNat then L x2_l.toNat else gI t_l 218 (340 + j)) = _
          by_cases cj : j = x2_l.toNat
          · rw [if_pos ⟨rfl, by omega⟩, cj]
          · rw [if_neg (by omega)]
            exact p7_l j (by omega)
        · dsimp only
          show (if a = 218 ∧ j = 340 + x2_l.toNat then _ else gI t_l a j) = _
          rw [if_neg (by omega)]
          exact p8_l a j c1_l c2_l
      · rw [if_neg c]
        refine gQ_map (gQ_ret ⟨ps_l, Or.inr ⟨(rd_k rfl (by decide)).trans p3_l, _, k, q1_l, q3_l, ⟨?_, ?_, by omega, fun j hj => ?_, hB_l⟩, rd_same rfl, fun a j c1_l c2_l => ?_⟩⟩)
        · dsimp only
          rw [rd_a rfl (by decide), p5_l, q3_l]
        · dsimp only
          rw [rd_a rfl (by decide), p6_l]
        · dsimp only
          rw [rd_a rfl (by decide)]
          exact p7_l j (by omega)
        · dsimp only
          show (if a = 217 ∧ j = 6 then _ else gI t_l a j) = _
          rw [if_neg (by omega)]
          exact p8_l a j (by omega) c2_l
    · exact (rd_a (a := 217) rfl (by decide)).trans ((rd_a (a := 217) rfl (by decide)).trans e5_l)
    · exact (rd_a (a := 217) rfl (by decide)).trans e61
    · exact (rd_k rfl (by decide)).trans (rd_same rfl)
    · exact rd_same rfl
    · dsimp only
      show (if a = 218 ∧ j = 2 then _ else if a = 218 ∧ j = 1 then _ else gI s5 a j) = _
      rw [if_neg (by omega), if_neg (by omega)]
      exact f5_l a j c1_l
theorem ax_277 (hl : p.2.1 = p.2.2.1) (hJ : J p s) (h : Rt s) (hX : Rx s) : gQ (f_277 0 231 s) (fun r => ∀ p', J p' r.2.2.2 → gQ (f_195 217 r.2.2.2) (fun q => Rx q.2.2.2)) := by
  have hn := hJ.1.1
  have hb8 := J_f hJ (kd := 12) (a := 217) (i := 8) t217 rfl (fun z_l => by cases z_l) (x := 0) (y := 400) rfl
  have hl8 : gI s 217 8 = p.2.2.1 := hJ.2.2.2.1
  unfold f_277
  refine gQ_d1 (c_90x hJ h) (fun r hr c_l => ?_) (fun r hr c_l => ?_)
  · rcases hr with ⟨z_l, -⟩ | ⟨-, y_l, k_l, hq, hk, hL⟩
    · omega
    refine gQ_chk (gQ_ret (fun p' hj => ?_))
    dsimp only at hj ⊢
    obtain ⟨l1, l2, l3, l4, l5, l6⟩ := hL
    have e9_l : ∀ a_l j_l, a_l ≠ 231 → gI (gw r.2.2.2 231 (0 : Int).toNat r.2.1) a_l j_l = gI r.2.2.2 a_l j_l := fun a_l j_l c_l => rd_a rfl c_l
    have e8 : ∀ a_l j_l, a_l < gn s → csa a_l = false → ¬ (a_l = 0 ∧ (j_l = 14 ∨ j_l = 16)) → a_l ≠ 231 → gI (gw r.2.2.2 231 (0 : Int).toNat r.2.1) a_l j_l = gI s a_l j_l := fun a_l j_l c1_l c2_l c3_l c4_l => (e9_l a_l j_l c4_l).trans (l3 a_l j_l c1_l c2_l c3_l c4_l)
    have eR : ∀ a_l j_l, gR (gw r.2.2.2 231 (0 : Int).toNat r.2.1) a_l j_l = gR r.2.2.2 a_l j_l := fun a_l j_l => rfl
    have eK : ∀ a_l, gK (gw r.2.2.2 231 (0 : Int).toNat r.2.1) a_l = gK r.2.2.2 a_l := fun a_l => rfl
    have e14_l : gI (gw r.2.2.2 231 (0 : Int).toNat r.2.1) 0 14 = 0 := (e9_l 0 14 (by decide)).trans l4
    generalize gw r.2.2.2 231 (0 : Int).toNat r.2.1 = v at *
    intro q hq2
    obtain ⟨x1_l, x2_l⟩ := j195x (L := gI s 222) (e := p.2.1.toNat) hj (funext fun k_l => e8 222 k_l (by omega) rfl (by omega) (by decide)) (by rw [e8 217 8 (by omega) rfl (by omega) (by decide), hl8, ← hl]; omega) q hq2
    rcases x2_l with ⟨-, ⟨c_l, z2⟩, -⟩ | ⟨-, y', k', z2, z3, ⟨z4, z5, z6, z7, z8⟩, z9, z10⟩
    · rw [hq] at z2
      cases z2
    have zz := z2
    rw [hq] at z2
    cases z2
    have rq : ∀ a_l j_l, gR q.2.2.2 a_l j_l = gR v a_l j_l := fun a_l j_l => by
      show q.2.2.2.2.2.2 a_l j_l = v.2.2.2 a_l j_l
      rw [x1_l.2.2]
    have kq : ∀ a_l, gK q.2.2.2 a_l = gK v a_l := fun a_l => by
      show q.2.2.2.2.1 a_l = v.2.1 a_l
      rw [x1_l.2.1]
    have jl := (hj.1.2.2.2 9 (by decide) k0_b.1).resolve_left (by rw [eR]; omega)
    obtain ⟨⟨j1, j2_l⟩, ⟨j3_l, j4_l⟩, j5_l⟩ := jl
    obtain ⟨y1, y2, ⟨y3, y4, y5, y6⟩, T0_l, y7⟩ := hX
    have hfq : ∀ a_l j_l, a_l < gn s → csa a_l = false → ¬ (a_l = 0 ∧ (j_l = 14 ∨ j_l = 16)) → a_l ≠ 231 → ¬ (a_l = 217 ∧ j_l ≠ 3) → ¬ (a_l = 218 ∧ (j_l = 1 ∨ j_l = 2 ∨ 340 ≤ j_l)) → gI q.2.2.2 a_l j_l = gI s a_l j_l := fun a_l j_l c1_l c2_l c3_l c4_l c5_l c6_l => (z10 a_l j_l c5_l c6_l).trans (e8 a_l j_l c1_l c2_l c3_l c4_l)
    have e14q : gI q.2.2.2 0 14 = 0 := (z10 0 14 (by omega) (by omega)).trans e14_l
    have e13q : gI q.2.2.2 0 13 = gI s 0 13 := hfq 0 13 (by omega) rfl (by omega) (by decide) (by omega) (by omega)
    have lob := l6 (by rw [← eR, ← eR]; exact j3_l)
    refine ⟨RW_l y1 (fun k_l hk _ => hfq 218 _ (by omega) rfl (by omega) (by decide) (by omega) (by omega)) (fun k_l hk => ?_) (fun i_l hi_l => hfq _ _ (by omega) rfl (by omega) (by decide) (by omega) (by omega)), fun h3 => ?_, ⟨by rw [e14q, z9], by rw [e13q]; exact y4, by rw [e14q]; decide, fun j_l hj2 => by rw [e14q] at hj2; omega⟩, y_l.2, Or.inr ⟨y_l, k_l, rfl, ⟨gI s 222, p.2.1.toNat, ⟨z4, z5, z6⟩, z8, z7, hq⟩, ?_, ?_, ?_⟩⟩
    · have hp := pa_15 k_l hk.1
      exact hfq _ _ (by omega) (csa_n (by omega)) (by omega) (by omega) (by omega) (by omega)
    · have h3s : gI s 217 3 = 1 := by
        rw [← h3]
        exact (hfq 217 3 (by omega) rfl (by omega) (by decide) (by omega) (by omega)).symm
      obtain ⟨g1, T, g2⟩ := y2 h3s
      refine ⟨RW_g g1 (fun k_l hk => hfq 219 _ (by omega) rfl (by omega) (by decide) (by omega) (by omega)) (fun k_l hk => ?_) (fun i_l hi_l => hfq _ _ (by omega) rfl (by omega) (by decide) (by omega) (by omega)), T, Tlw_g hJ ⟨by decide, k0_b.2.2.1⟩ g2 (fun k_l hk => hfq 219 k_l (by omega) rfl (by omega) (by decide) (by omega) (by omega)) ?_ (fun a_l k_l ha_l ha2 => ?_) (fun a_l ha_l ha2 => ?_) (fun a_l k_l ha_l ha2 => hfq a_l k_l ha2 (csa_n (by omega)) (by omega) (by omega) (by omega) (by omega))⟩
      · have hp := pa_15 k_l hk.1
        exact hfq _ _ (by omega) (csa_n (by omega)) (by omega) (by omega) (by omega) (by omega)
      · rw [rq, eR]
        exact l2 54 11 (by omega) (by omega)
      · rw [rq, eR]
        exact l2 a_l k_l ha2 (by omega)
      · rw [kq, eK]
        exact l1.2 a_l ha2
    · rw [rq, rq]
      exact ⟨j1, j3_l⟩
    · have eA_l : gR q.2.2.2 9 11 = gR r.2.2.2 9 11 := (rq 9 11).trans (eR 9 11)
      rw [eA_l]
      have hA : 232 ≤ gR r.2.2.2 9 11 := by
        rw [← eR]
        exact j1
      have hB_l : 232 ≤ gR r.2.2.2 (gR r.2.2.2 9 11) 1 := by
        rw [← eR, ← eR]
        exact j3_l
      have eB : gR q.2.2.2 (gR r.2.2.2 9 11) 1 = gR r.2.2.2 (gR r.2.2.2 9 11) 1 := (rq _ 1).trans (eR _ 1)
      obtain ⟨b1, b2, b3, b4⟩ := lob
      refine ⟨((z10 _ 0 (by omega) (by omega)).trans (e9_l _ 0 (by omega))).trans b1, ?_, ?_, by rw [eB]; exact b4⟩
      · rw [eB]
        exact Eq.trans (List.map_congr_left (fun j_l _ => (z10 _ j_l (by omega) (by omega)).trans (e9_l _ j_l (by omega)))) b2
      · rw [eB, kq, eK]
        exact b3
    · obtain ⟨b1, b2, b3, b4⟩ := lob
      unfold glen gL4 at j5_l
      rw [eR, eR, eK, b3] at j5_l
      omega
  · rcases hr with ⟨z_l, ⟨q0, hq⟩, hF, h9⟩ | ⟨z_l, -⟩
    · rw [if_pos (by omega)]
      refine gQ_ret (fun p' hj => ?_)
      dsimp only at hj ⊢
      intro q hq2
      obtain ⟨x1_l, x2_l⟩ := j195x (L := gI s 222) (e := p.2.1.toNat) hj (funext fun k_l => h9 222 k_l (by decide) (by decide)) (by rw [h9 217 8 (by decide) (by decide), hl8, ← hl]; omega) q hq2
      rcases x2_l with ⟨-, -, hF2⟩ | ⟨-, y', k', z2, -⟩
      · exact Rx_fw hj (Rx_fw hJ hX hF) hF2
      · rw [hq] at z2
        cases z2
    · omega
end Lw

end
section
/-! a book read keeps the full relation -/
noncomputable def Kx (k : Nat) : Prop := KK k ∧ k ≠ 13
noncomputable def Vh (V : Nat → Int) : Prop := (∀ i, i < 8 → 0 ≤ V (16 + 3 * i) ∧ V (16 + 3 * i) ≤ 30) ∧ ∀ i, i < 6 → 0 ≤ V (44 + 6 * i) ∧ V (44 + 6 * i) ≤ 30
section Bx
variable {s t u : gS} {p : gP} {B C D E : Nat} {L : Nat → Int} {e f g k : Nat} {V W : Nat → Int} {w : gLW}
theorem Kx_n : Kx 0 ∧ Kx 3 ∧ Kx 4 ∧ Kx 5 ∧ Kx 6 := by unfold Kx KK; decide
theorem Kx_c (hk : Kx k) : (∃ o q, o < 12 ∧ (∀ B C, pa B C k = C + o) ∧ pj k = q ∧ ∀ C, CCr C (C + o) q) ∨ ∃ o q, o < 6 ∧ (∀ B C, pa B C k = B + o) ∧ pj k = q ∧ ∀ B, BCr B (B + o) q := by
  obtain ⟨⟨h1, h2, h3, h4⟩, h5⟩ := hk
  by_cases c1 : k < 16
  · have hc_l : (k = 0 ∨ k = 3 ∨ k = 5 ∨ k = 10 ∨ k = 11 ∨ k = 12) ∨ (k = 4 ∨ k = 6 ∨ k = 7 ∨ k = 8 ∨ k = 9 ∨ k = 14) := by omega
    rcases hc_l with hc_l | hc_l
    · rcases hc_l with rfl | rfl | rfl | rfl | rfl | rfl <;> exact Or.inr ⟨0, _, by decide, fun B C => rfl, rfl, fun B => Or.inl ⟨rfl, by decide, by decide⟩⟩
    · rcases hc_l with rfl | rfl | rfl | rfl | rfl | rfl <;> exact Or.inl ⟨0, _, by decide, fun B C => rfl, rfl, fun C => Or.inl ⟨rfl, by decide, by decide⟩⟩
  by_cases c2 : k < 40
  · have ej : pj k = (k - 16) / 3 := by
      unfold pj
      rw [if_neg (by omega), if_pos (by omega)]
    refine Or.inr ⟨1 + (k - 16) % 3, _, by omega, fun B C => ?_, ej, fun B => Or.inr (Or.inl ⟨by omega, by omega⟩)⟩
    unfold pa
    rw [if_neg (by omega), if_pos (by omega)]
    omega
  by_cases c3 : k < 76
  · have ej : pj k = (k - 40) % 6 := by
      unfold pj
      rw [if_neg (by omega), if_neg (by omega), if_pos (by omega)]
    refine Or.inl ⟨6 + (k - 40) / 6, _, by omega, fun B C => ?_, ej, fun C => Or.inr (Or.inr ⟨by omega, by omega, by omega⟩)⟩
    unfold pa
    rw [if_neg (by omega), if_neg (by omega), if_pos (by omega)]
    omega
  by_cases c4 : k < 88
  · have ej : pj k = (k - 76) / 2 := by
      unfold pj
      rw [if_neg (by omega), if_neg (by omega), if_neg (by omega), if_pos (by omega)]
    refine Or.inr ⟨4 + (k - 76) % 2, _, by omega, fun B C => ?_, ej, fun B => Or.inr (Or.inr ⟨by omega, by omega⟩)⟩
    unfold pa
    rw [if_neg (by omega), if_neg (by omega), if_neg (by omega), if_pos (by omega)]
    omega
  · have ej : pj k = (k - 88) / 2 := by
      unfold pj
      rw [if_neg (by omega), if_neg (by omega), if_neg (by omega), if_neg (by omega)]
    refine Or.inl ⟨2 + (k - 88) % 2, _, by omega, fun B C => ?_, ej, fun C => Or.inr (Or.inl ⟨by omega, by omega⟩)⟩
    unfold pa
    rw [if_neg (by omega), if_neg (by omega), if_neg (by omega), if_neg (by omega)]
    omega
theorem cc_k (h1 : BC B D s t) (h2 : CC C E t u) (d1 : B + 6 ≤ C ∨ C + 12 ≤ B) (d2 : B + 6 ≤ E ∨ E + 12 ≤ B) {k : Nat} (hk : Kx k) : cv u B C k = cv s D E k := by
  rcases Kx_c hk with ⟨o, q_l, o1, o2, o3_l, o4_l⟩ | ⟨o, q_l, o1, o2, o3_l, o4_l⟩
  · show gI u (pa B C k) (pj k) = gI s (pa D E k) (pj k)
    rw [o2, o2, o3_l, (h2.2 _ q_l).1 (o4_l _), show C + o - C + E = E + o by omega]
    exact (h1.2 _ q_l).2 (fun z_l => by have := bkb z_l; omega)
  · show gI u (pa B C k) (pj k) = gI s (pa D E k) (pj k)
    rw [o2, o2, o3_l, (h2.2 _ q_l).2 (fun z_l => by have := blk (Or.inl z_l); omega), (h1.2 _ q_l).1 (o4_l _), show B + o - B + D = D + o by omega]
theorem av_13 : av w V 13 = V 13 := by
  unfold av
  split
  all_goals
    repeat' split
    all_goals first | rfl | (exfalso; omega)
theorem av_12 : av w V 1 = V 1 ∧ av w V 2 = V 2 := by
  unfold av
  constructor
  · split
    all_goals
      repeat' split
      all_goals first | rfl | (exfalso; omega)
  · split
    all_goals
      repeat' split
      all_goals first | rfl | (exfalso; omega)
theorem rdl_12 (n : Nat) : ∀ (f : Nat) (V W : Nat → Int), rdl L e n f V = Sum.inr W → W 1 = V 1 ∧ W 2 = V 2 := by
  induction n with
  | zero => intro f V W h_l; unfold rdl at h_l; cases h_l
  | succ n ih_l =>
    intro f V W h_l
    unfold rdl at h_l
    obtain ⟨y_l, h1, h2⟩ := eb_w h_l
    by_cases c1 : y_l.2 = e
    · rw [if_pos c1] at h2
      injection h2 with h3
      rw [← h3]
      exact av_12
    · rw [if_neg c1] at h2
      by_cases c2 : L y_l.2 = 59
      · rw [if_pos c2] at h2
        obtain ⟨q1_l, q2_l⟩ := ih_l _ _ _ h2
        exact ⟨q1_l.trans av_12.1, q2_l.trans av_12.2⟩
      · rw [if_neg c2] at h2
        cases h2
theorem rdb_12 (h : rdb L e V = Sum.inr W) : W 1 = V 1 ∧ W 2 = V 2 := by
  unfold rdb at h
  by_cases c : sk L e 0 = e
  · rw [if_pos c] at h
    injection h with h1
    rw [← h1]
    exact ⟨rfl, rfl⟩
  · rw [if_neg c] at h
    exact rdl_12 _ _ _ _ h
theorem lnS_d (h : lnS L e f = Sum.inr (w, g)) : 0 ≤ w.2.1 ∧ w.2.1 ≤ 30 := by
  obtain ⟨⟨v1_l, g1⟩, h1, h⟩ := eb_w h
  obtain ⟨⟨v2, g2⟩, h2, h⟩ := eb_w h
  obtain ⟨⟨v3, g3_l⟩, h3, h⟩ := eb_w h
  have b1 := nb_r h1
  cases h
  dsimp only
  omega
theorem ln1_t0 {t x : Nat} {hi : Int} (h : ln1 L e t x hi f = Sum.inr (w, g)) : w.1 = t := by
  obtain ⟨⟨v1_l, g1⟩, h1, h⟩ := eb_w h
  cases h
  rfl
theorem ln_d (h : ln L e f V = Sum.inr (w, g)) : w.1 = 0 → 0 ≤ w.2.1 ∧ w.2.1 ≤ 30 := by
  intro h0
  unfold ln at h
  by_cases a1 : Wd L e 13 f
  · rw [cif_p a1] at h
    by_cases b1 : V 3 < 8
    · rw [if_pos b1] at h
      exact lnS_d h
    · rw [if_neg b1] at h; cases h
  rw [cif_n a1] at h
  by_cases a2 : Wd L e 14 f
  · rw [cif_p a2] at h
    by_cases b1 : V 4 < 6
    · rw [if_pos b1] at h
      have := lnM_t h
      omega
    · rw [if_neg b1] at h; cases h
  rw [cif_n a2] at h
  by_cases a3 : Wd L e 15 f
  · rw [cif_p a3] at h
    by_cases b1 : V 5 < 6
    · rw [if_pos b1] at h
      have := lnT_t h
      omega
    · rw [if_neg b1] at h; cases h
  rw [cif_n a3] at h
  by_cases a4 : Wd L e 16 f
  · rw [cif_p a4] at h
    by_cases b1 : V 6 < 6
    · rw [if_pos b1] at h
      have := ln1_t0 h
      omega
    · rw [if_neg b1] at h; cases h
  rw [cif_n a4] at h
  by_cases a5 : Wd L e 17 f
  · rw [cif_p a5] at h
    have := ln1_t0 h
    omega
  rw [cif_n a5] at h
  by_cases a6 : Wd L e 25 f
  · rw [cif_p a6] at h
    have := ln1_t0 h
    omega
  rw [cif_n a6] at h
  by_cases a7 : Wd L e 26 f
  · rw [cif_p a7] at h
    have := ln1_t0 h
    omega
  rw [cif_n a7] at h
  by_cases a8 : Wd L e 27 f
  · rw [cif_p a8] at h
    have := ln1_t0 h
    omega
  rw [cif_n a8] at h
  cases h
theorem av_d (hw : w.1 = 0 → 0 ≤ w.2.1 ∧ w.2.1 ≤ 30) (hr : Rw w V) (hg : Rg V) {i : Nat} (hi : i < 8) (h : 0 ≤ V (16 + 3 * i) ∧ V (16 + 3 * i) ≤ 30) : 0 ≤ av w V (16 + 3 * i) ∧ av w V (16 + 3 * i) ≤ 30 := by
  obtain ⟨g1, g2, g3_l, g4⟩ := hg
  obtain ⟨r1_l, r2, r3, r4⟩ := hr
  unfold av
  split
  · rename_i e1
    have := hw e1
    have := r1_l e1
    repeat' split
    all_goals omega
  · rename_i e1
    have := r2 e1
    repeat' split
    all_goals omega
  · rename_i e1
    have := r3 e1
    repeat' split
    all_goals omega
  · rename_i e1
    have := r4 e1
    repeat' split
    all_goals omega
  all_goals
    repeat' split
    all_goals omega
theorem av_t (hr : Rw w V) (hg : Rg V) {i : Nat} (hi : i < 6) (h : 0 ≤ V (44 + 6 * i) ∧ V (44 + 6 * i) ≤ 30) : 0 ≤ av w V (44 + 6 * i) ∧ av w V (44 + 6 * i) ≤ 30 := by
  obtain ⟨g1, g2, g3_l, g4⟩ := hg
  obtain ⟨r1_l, r2, r3, r4⟩ := hr
  unfold av
  split
  · rename_i e1
    have := r1_l e1
    repeat' split
    all_goals omega
  · rename_i e1
    have := r2 e1
    repeat' split
    all_goals omega
  · rename_i e1
    have := r3 e1
    repeat' split
    all_goals omega
  · rename_i e1
    have := r4 e1
    repeat' split
    all_goals omega
  all_goals
    repeat' split
    all_goals omega
/-- the further ranges, line by line -/
theorem ln1_rg {t x : Nat} {hi : Int} (h : ln1 L e t x hi f = Sum.inr (w, g)) : 0 ≤ w.2.1 ∧ w.2.1 ≤ hi := by
  obtain ⟨⟨v1_l, g1⟩, h1, h⟩ := eb_w h
  have b1 := nb_r h1
  cases h
  dsimp only
  omega
theorem lnS_0 (h : lnS L e f = Sum.inr (w, g)) : w.1 = 0 := by
  obtain ⟨⟨v1_l, g1⟩, h1, h⟩ := eb_w h
  obtain ⟨⟨v2, g2⟩, h2, h⟩ := eb_w h
  obtain ⟨⟨v3, g3_l⟩, h3, h⟩ := eb_w h
  cases h
  rfl
theorem ln_p (h : ln L e f V = Sum.inr (w, g)) : w.1 = 3 → 0 ≤ w.2.1 ∧ w.2.1 ≤ 9999 := by
  intro h0
  unfold ln at h
  by_cases a1 : Wd L e 13 f
  · rw [cif_p a1] at h
    by_cases b1 : V 3 < 8
    · rw [if_pos b1] at h
      have := lnS_0 h
      omega
    · rw [if_neg b1] at h; cases h
  rw [cif_n a1] at h
  by_cases a2 : Wd L e 14 f
  · rw [cif_p a2] at h
    by_cases b1 : V 4 < 6
    · rw [if_pos b1] at h
      have := lnM_t h
      omega
    · rw [if_neg b1] at h; cases h
  rw [cif_n a2] at h
  by_cases a3 : Wd L e 15 f
  · rw [cif_p a3] at h
    by_cases b1 : V 5 < 6
    · rw [if_pos b1] at h
      have := lnT_t h
      omega
    · rw [if_neg b1] at h; cases h
  rw [cif_n a3] at h
  by_cases a4 : Wd L e 16 f
  · rw [cif_p a4] at h
    by_cases b1 : V 6 < 6
    · rw [if_pos b1] at h
      have := ln1_rg h
      omega
    · rw [if_neg b1] at h; cases h
  rw [cif_n a4] at h
  by_cases a5 : Wd L e 17 f
  · rw [cif_p a5] at h
    have := ln1_t0 h
    omega
  rw [cif_n a5] at h
  by_cases a6 : Wd L e 25 f
  · rw [cif_p a6] at h
    have := ln1_t0 h
    omega
  rw [cif_n a6] at h
  by_cases a7 : Wd L e 26 f
  · rw [cif_p a7] at h
    have := ln1_t0 h
    omega
  rw [cif_n a7] at h
  by_cases a8 : Wd L e 27 f
  · rw [cif_p a8] at h
    have := ln1_t0 h
    omega
  rw [cif_n a8] at h
  cases h
theorem p2_s {x y : Int} (hx : 0 ≤ x) (h : y < 2 ^ x.toNat) (h0 : 0 ≤ y) : y < 2 ^ (x + 1).toNat := by
  rw [show (x + 1).toNat = x.toNat + 1 by omega, Int.pow_succ]
  omega
/-- the men and rivals that a line leaves -/
theorem av_e0 {w2 w3 w4 : Int} {k : Nat} : av (0, w2, w3, w4) V k = (if k = 3 then V 3 + 1 else if k = 16 + 3 * (V 3).toNat + 2 then w4 else if k = 16 + 3 * (V 3).toNat + 1 then w3 else if k = 16 + 3 * (V 3).toNat + 0 then w2 else V k) := rfl
theorem av_e1 {w2 w3 w4 : Int} {k : Nat} : av (1, w2, w3, w4) V k = (if k = 4 then V 4 + 1 else if k = 40 + 6 * (V 4).toNat + 5 then 0 else if k = 40 + 6 * (V 4).toNat + 4 then 0 else if k = 40 + 6 * (V 4).toNat + 3 then 0 else if k = 40 + 6 * (V 4).toNat + 2 then w4 else if k = 40 + 6 * (V 4).toNat + 1 then w3 else if k = 40 + 6 * (V 4).toNat + 0 then w2 else V k) := rfl
theorem av_e3 {w2 w3 w4 : Int} {k : Nat} : av (3, w2, w3, w4) V k = (if k = 6 then V 6 + 1 else if k = 88 + 2 * (V 6).toNat + 1 then 0 else if k = 88 + 2 * (V 6).toNat + 0 then w2 else V k) := rfl
theorem av_p (hw : w.1 = 3 → 0 ≤ w.2.1 ∧ w.2.1 ≤ 9999) (hr : Rw w V) (hg : Rg V) (h : Vp V) : Vp (av w V) := by
  obtain ⟨g1, g2, g3_l, g4⟩ := hg
  obtain ⟨r1_l, r2, r3, r4⟩ := hr
  obtain ⟨h1, h2⟩ := h
  have h8 : w.1 = 0 ∨ w.1 = 1 ∨ w.1 = 3 ∨ (w.1 ≠ 0 ∧ w.1 ≠ 1 ∧ w.1 ≠ 3) := by omega
  rcases h8 with e_l | e_l | e_l | ⟨e0_l, e1_l, e3_l⟩
  · have q_l := r1_l e_l
    obtain ⟨w1_l, w2_l, w3_l, w4_l⟩ := w
    have e_l : w1_l = 0 := e_l
    subst e_l
    have ev_l : ∀ k_l, (k_l ≠ 3 ∧ (k_l < 16 ∨ 40 ≤ k_l)) → av (0, w2_l, w3_l, w4_l) V k_l = V k_l := fun k_l hk => by
      rw [av_e0, if_neg hk.1, if_neg (by omega), if_neg (by omega), if_neg (by omega)]
    have e3_l : av (0, w2_l, w3_l, w4_l) V 3 = V 3 + 1 := by
      rw [av_e0, if_pos rfl]
    refine ⟨fun i_l hi_l h4 => ?_, fun r_l hr h6 => ?_⟩
    · rw [ev_l 4 (by omega)] at h4
      have := h1 i_l hi_l h4
      rw [e3_l, ev_l _ (by omega), ev_l _ (by omega)]
      omega
    · rw [ev_l 6 (by omega)] at h6
      obtain ⟨b1, b2, b3⟩ := h2 r_l hr h6
      rw [e3_l, ev_l _ (by omega), ev_l _ (by omega)]
      exact ⟨b1, b2, p2_s g1.1 b3 b2⟩
  · have q_l := r2 e_l
    obtain ⟨w1_l, w2_l, w3_l, w4_l⟩ := w
    have e_l : w1_l = 1 := e_l
    subst e_l
    obtain ⟨m_l, hm_l⟩ : ∃ m_l : Nat, V 4 = (m_l : Int) := ⟨(V 4).toNat, by omega⟩
    have ev_l : ∀ k_l, (k_l ≠ 4 ∧ (k_l < 40 + 6 * m_l ∨ 46 + 6 * m_l ≤ k_l)) → av (1, w2_l, w3_l, w4_l) V k_l = V k_l := fun k_l hk => by
      rw [av_e1, hm_l, Int.toNat_natCast, if_neg hk.1, if_neg (by omega), if_neg (by omega), if_neg (by omega), if_neg (by omega), if_neg (by omega), if_neg (by omega)]
    have e4_l : av (1, w2_l, w3_l, w4_l) V 4 = (m_l : Int) + 1 := by
      rw [av_e1, if_pos rfl, hm_l]
    have e43 : av (1, w2_l, w3_l, w4_l) V (43 + 6 * m_l) = 0 := by
      rw [av_e1, hm_l, Int.toNat_natCast, if_neg (by omega), if_neg (by omega), if_neg (by omega), if_pos (by omega)]
    have e44 : av (1, w2_l, w3_l, w4_l) V (44 + 6 * m_l) = 0 := by
      rw [av_e1, hm_l, Int.toNat_natCast, if_neg (by omega), if_neg (by omega), if_pos (by omega)]
    refine ⟨fun i_l hi_l h4 => ?_, fun r_l hr h6 => ?_⟩
    · rw [e4_l] at h4
      rw [ev_l 3 (by omega)]
      by_cases c : i_l = m_l
      · rw [c, e43, e44]
        exact ⟨g1.1, Or.inl rfl⟩
      · rw [ev_l _ (by omega), ev_l _ (by omega)]
        exact h1 i_l hi_l (by omega)
    · rw [ev_l 6 (by omega)] at h6
      rw [ev_l 3 (by omega), ev_l _ (by omega), ev_l _ (by omega)]
      exact h2 r_l hr h6
  · have q_l := r4 e_l
    have q2_l := hw e_l
    obtain ⟨w1_l, w2_l, w3_l, w4_l⟩ := w
    have e_l : w1_l = 3 := e_l
    subst e_l
    dsimp only at q2_l
    obtain ⟨m_l, hm_l⟩ : ∃ m_l : Nat, V 6 = (m_l : Int) := ⟨(V 6).toNat, by omega⟩
    have ev_l : ∀ k_l, (k_l ≠ 6 ∧ (k_l < 88 + 2 * m_l ∨ 90 + 2 * m_l ≤ k_l)) → av (3, w2_l, w3_l, w4_l) V k_l = V k_l := fun k_l hk => by
      rw [av_e3, hm_l, Int.toNat_natCast, if_neg hk.1, if_neg (by omega), if_neg (by omega)]
    have e6_l : av (3, w2_l, w3_l, w4_l) V 6 = (m_l : Int) + 1 := by
      rw [av_e3, if_pos rfl, hm_l]
    have e88 : av (3, w2_l, w3_l, w4_l) V (88 + 2 * m_l) = w2_l := by
      rw [av_e3, hm_l, Int.toNat_natCast, if_neg (by omega), if_neg (by omega), if_pos (by omega)]
    have e89 : av (3, w2_l, w3_l, w4_l) V (88 + 2 * m_l + 1) = 0 := by
      rw [av_e3, hm_l, Int.toNat_natCast, if_neg (by omega), if_pos rfl]
    refine ⟨fun i_l hi_l h4 => ?_, fun r_l hr h6 => ?_⟩
    · rw [ev_l 4 (by omega)] at h4
      rw [ev_l 3 (by omega), ev_l _ (by omega), ev_l _ (by omega)]
      exact h1 i_l hi_l h4
    · rw [e6_l] at h6
      rw [ev_l 3 (by omega)]
      by_cases c : r_l = m_l
      · rw [c, e88, e89]
        exact ⟨q2_l, Int.le_refl 0, Int.pow_pos (by decide)⟩
      · rw [ev_l _ (by omega), ev_l _ (by omega)]
        exact h2 r_l hr (by omega)
  · have ev_l : ∀ k_l, (k_l < 5 ∨ k_l = 6 ∨ (40 ≤ k_l ∧ k_l < 76) ∨ 88 ≤ k_l) → av w V k_l = V k_l := fun k_l hk => by
      unfold av
      split
      · rename_i z; exact absurd z e0_l
      · rename_i z; exact absurd z e1_l
      · rename_i z
        have q_l := r3 z
        rw [if_neg (by omega), if_neg (by omega), if_neg (by omega)]
      · rename_i z; exact absurd z e3_l
      all_goals rw [if_neg (by omega)]
    refine ⟨fun i_l hi_l h4 => ?_, fun r_l hr h6 => ?_⟩
    · rw [ev_l 4 (by omega)] at h4
      rw [ev_l 3 (by omega), ev_l _ (by omega), ev_l _ (by omega)]
      exact h1 i_l hi_l h4
    · rw [ev_l 6 (by omega)] at h6
      rw [ev_l 3 (by omega), ev_l _ (by omega), ev_l _ (by omega)]
      exact h2 r_l hr h6
theorem rdl_p (n : Nat) : ∀ (f : Nat) (V W : Nat → Int), rdl L e n f V = Sum.inr W → Rg V → Vp V → Vp W := by
  induction n with
  | zero => intro f V W h_l; unfold rdl at h_l; cases h_l
  | succ n ih_l =>
    intro f V W h_l hg hv
    unfold rdl at h_l
    obtain ⟨y_l, h1, h2⟩ := eb_w h_l
    have a1_l : Vp (av y_l.1 V) := av_p (ln_p h1) (ln_w h1) hg hv
    have a2 := av_rg (ln_w h1) hg
    by_cases c1 : y_l.2 = e
    · rw [if_pos c1] at h2
      injection h2 with h3
      rw [← h3]
      exact a1_l
    · rw [if_neg c1] at h2
      by_cases c2 : L y_l.2 = 59
      · rw [if_pos c2] at h2
        exact ih_l _ _ _ h2 a2 a1_l
      · rw [if_neg c2] at h2
        cases h2
theorem rdb_p (h : rdb L e V = Sum.inr W) (hg : Rg V) (hv : Vp V) : Vp W := by
  unfold rdb at h
  by_cases c : sk L e 0 = e
  · rw [if_pos c] at h
    injection h with h1
    rw [← h1]
    exact hv
  · rw [if_neg c] at h
    exact rdl_p _ _ _ _ h hg hv
theorem rdl_h (n : Nat) : ∀ (f : Nat) (V W : Nat → Int), rdl L e n f V = Sum.inr W → Rg V → Vh V → Vh W ∧ W 13 = V 13 := by
  induction n with
  | zero => intro f V W h_l; unfold rdl at h_l; cases h_l
  | succ n ih_l =>
    intro f V W h_l hg hv
    unfold rdl at h_l
    obtain ⟨y_l, h1, h2⟩ := eb_w h_l
    have a1_l : Vh (av y_l.1 V) := ⟨fun i_l hi_l => av_d (ln_d h1) (ln_w h1) hg hi_l (hv.1 i_l hi_l), fun i_l hi_l => av_t (ln_w h1) hg hi_l (hv.2 i_l hi_l)⟩
    have a2 := av_rg (ln_w h1) hg
    by_cases c1 : y_l.2 = e
    · rw [if_pos c1] at h2
      injection h2 with h3
      rw [← h3]
      exact ⟨a1_l, av_13⟩
    · rw [if_neg c1] at h2
      by_cases c2 : L y_l.2 = 59
      · rw [if_pos c2] at h2
        obtain ⟨q1_l, q2_l⟩ := ih_l _ _ _ h2 a2 a1_l
        exact ⟨q1_l, q2_l.trans av_13⟩
      · rw [if_neg c2] at h2
        cases h2
theorem rdb_h (h : rdb L e V = Sum.inr W) (hg : Rg V) (hv : Vh V) : Vh W ∧ W 13 = V 13 := by
  unfold rdb at h
  by_cases c : sk L e 0 = e
  · rw [if_pos c] at h
    injection h with h1
    rw [← h1]
    exact ⟨hv, rfl⟩
  · rw [if_neg c] at h
    exact rdl_h _ _ _ _ h hg hv
/-- what the class's half of book leaves -/
noncomputable def Bf (s t : gS) : Prop := (gn s ≤ gn t ∧ ∀ a, a < gn s → gK t a = gK s a) ∧ (∀ a j, a < gn s → ¬ (a = 36 ∧ j = 11) → gR t a j = gR s a j) ∧ ∀ a j, 232 ≤ a → a < gn s → gI t a j = gI s a j
noncomputable def Bs (s u : gS) : Prop := gn u = gn s ∧ (∀ a, gK u a = gK s a) ∧ ∀ a j, gR u a j = if a = 36 ∧ j = 11 then gR s 9 11 else gR s a j
noncomputable def Bhx (s : gS) (l : Nat) (r : gO) : Prop := ((∀ a k, a < 232 → a ≠ 1 → ¬ (9 ≤ a ∧ a < 27) → ¬ (36 ≤ a ∧ a < 54) → ¬ (a = 0 ∧ (k = 14 ∨ k = 16)) → gI r.2.2.2 a k = gI s a k) ∧ Bf s r.2.2.2) ∧ ((((r.1 = 2 ∧ ∃ q, rdb (gI s 222) l (gI s 218) = Sum.inl q) ∨ (r.1 = 3 ∧ ¬ gI s 218 0 < 12 ∧ ∃ W, rdb (gI s 222) l (gI s 218) = Sum.inr W)) ∧ (∀ a k, 9 ≤ a → a < 27 → gI r.2.2.2 a k = gI s a k) ∧ gI r.2.2.2 0 14 = gI s 0 14) ∨ (r.1 = 1 ∧ gI s 218 0 < 12 ∧ ∃ W, rdb (gI s 222) l (gI s 218) = Sum.inr W ∧ r.2.1 = gI s 218 0 + 1 ∧ gI r.2.2.2 0 14 = 0 ∧ (∀ k, Kx k → cv r.2.2.2 9 15 k = if k = 0 then gI s 218 0 + 1 else W k) ∧ ∀ k, gI r.2.2.2 19 k = gI s 19 k ∧ gI r.2.2.2 20 k = gI s 20 k))
/-- behind the reading -/
theorem b_89x {l : Nat} {v w0 : Int} {W0 : Nat → Int} (h : Rt s) (hB : Bs s u) (hg : RF u) (hn : 232 ≤ gn u) (hF : ∀ a k, a ≠ 1 → ¬ (36 ≤ a ∧ a < 54) → gI u a k = gI s a k) (hv : (v = 0 ∧ ∃ q, rdb (gI s 222) l (gI s 218) = Sum.inl q) ∨ (v = 1 ∧ rdb (gI s 222) l (gI s 218) = Sum.inr W0 ∧ ∀ k, Kx k → cv u 36 42 k = W0 k)) : gQ (fb_89_54 0 v w0 0 u) (Bhx s l) := by
  obtain ⟨b1, b2, b3, b4, b5, b6⟩ := k0_b
  unfold fb_89_54
  dsimp only
  have hg8 : RF (gw u 0 16 w0) := RF_sm hg rfl
  rw [(rr_0_0 hg8).2]
  have hg9 : RF (gw (gw u 0 16 w0) 1 1 0) := RF_sm hg rfl
  have hn9 : 232 ≤ gn (gw (gw u 0 16 w0) 1 1 0) := hn
  have hF9 : ∀ a k, a ≠ 1 → ¬ (36 ≤ a ∧ a < 54) → ¬ (a = 0 ∧ k = 16) → gI (gw (gw u 0 16 w0) 1 1 0) a k = gI s a k := fun a k h1 h2 h3 => by
    show (if a = 1 ∧ k = 1 then _ else if a = 0 ∧ k = 16 then _ else gI u a k) = _
    rw [if_neg (by omega), if_neg h3]
    exact hF a k h1 h2
  have hB9 : Bs s (gw (gw u 0 16 w0) 1 1 0) := hB
  have hcv : ∀ k, Kx k → cv (gw (gw u 0 16 w0) 1 1 0) 36 42 k = cv u 36 42 k := fun k hk => by
    have hp := pa_d k hk.1.1
    show (if pa 36 42 k = 1 ∧ pj k = 1 then _ else if pa 36 42 k = 0 ∧ pj k = 16 then _ else gI u (pa 36 42 k) (pj k)) = _
    rw [if_neg (by omega), if_neg (by omega)]
    rfl
  generalize gw (gw u 0 16 w0) 1 1 0 = s9 at *
  have q1_l := (h.1 0 Tx_n.1).1
  have q2_l : 0 ≤ gI s 218 0 ∧ gI s 218 0 ≤ 12 := ⟨(h.1 0 Tx_n.1).2.2.1, (h.1 0 Tx_n.1).2.1 rfl⟩
  have c0_l : cv s 9 15 0 = gI s 9 10 := rfl
  rw [c0_l] at q1_l
  have e9_l : gI s9 9 10 = gI s 218 0 := (hF9 9 10 (by decide) (by omega) (by omega)).trans q1_l.symm
  have hfr : ∀ a k, a < 232 → a ≠ 1 → ¬ (9 ≤ a ∧ a < 27) → ¬ (36 ≤ a ∧ a < 54) → ¬ (a = 0 ∧ (k = 14 ∨ k = 16)) → gI (gnw s9 99) a k = gI s a k := fun a k h1 h2 h3 h4 h5 => (gI_nw hn9 h1).trans (hF9 a k h2 h4 (by omega))
  have hfr2 : ∀ a k, 9 ≤ a → a < 27 → gI (gnw s9 99) a k = gI s a k := fun a k h1 h2 => (gI_nw hn9 (by omega)).trans (hF9 a k (by omega) (by omega) (by omega))
  have hfr3 : gI (gnw s9 99) 0 14 = gI s 0 14 := (gI_nw hn9 (by decide)).trans (hF9 0 14 (by decide) (by omega) (by omega))
  have hbf9 : Bf s (gnw s9 99) := by
    obtain ⟨b1, b2, b3⟩ := hB9
    have b1' : s9.1 = gn s := b1
    refine ⟨⟨by show gn s ≤ s9.1 + 1; omega, fun a ha_l => ?_⟩, fun a j_l ha_l hz => ?_, fun a j_l ha_l ha2 => ?_⟩
    · show (if a = s9.1 then 99 else s9.2.1 a) = _
      rw [if_neg (by omega)]
      exact b2 a
    · show (if a = s9.1 then 0 else s9.2.2.2 a j_l) = _
      rw [if_neg (by omega)]
      refine (b3 a j_l).trans ?_
      rw [if_neg hz]
    · show (if a = s9.1 then 0 else s9.2.2.1 a j_l) = _
      rw [if_neg (by omega)]
      exact hF9 a j_l (by omega) (by omega) (by omega)
  rcases hv with ⟨v0_l, hq⟩ | ⟨v1_l, hq, hw⟩
  · rw [if_pos v0_l]
    exact gQ_ret ⟨⟨hfr, hbf9⟩, Or.inl ⟨Or.inl ⟨rfl, hq⟩, hfr2, hfr3⟩⟩
  rw [if_neg (by omega), (rr_0_4 hg9).2, (rr_0_8 hg9).2, e9_l]
  by_cases c12 : gI s 218 0 < 12
  · rw [if_pos c12]
    refine gQ_v0 (A := fun z_l => BC 9 36 s9 z_l) (fun r_l hr => (gQ_T (s_1 hg9 ⟨by decide, b1⟩ ⟨by decide, b2⟩ (by decide)) r_l hr).2) (fun s10 h10 => ?_)
    have hg10 : RF s10 := RF_bc hg9 b1 h10
    rw [(rr_0_4 hg10).2]
    have w0e := rdb_0 hq
    have e10_l : gI s10 9 10 = gI s 218 0 := by
      rw [(h10.2 9 10).1 (Or.inl ⟨rfl, by decide, by decide⟩)]
      have e1_l : gI s9 (9 - 9 + 36) 10 = cv s9 36 42 0 := rfl
      rw [e1_l, hcv 0 Kx_n.1, hw 0 Kx_n.1]
      exact w0e
    rw [e10_l, g32_eq (v := gI s 218 0 + 1) (by omega) (by omega)]
    have hg12 : RF (gw s10 9 10 (gI s 218 0 + 1)) := RF_sm hg10 rfl
    have i12_l : ∀ a k, ¬ (a = 9 ∧ k = 10) → gI (gw s10 9 10 (gI s 218 0 + 1)) a k = gI s10 a k := fun a k hz => by
      show (if a = 9 ∧ k = 10 then _ else gI s10 a k) = _
      rw [if_neg hz]
    have n12 : gn (gw s10 9 10 (gI s 218 0 + 1)) = gn s := h10.1.1.trans hB9.1
    have k12 : ∀ a, gK (gw s10 9 10 (gI s 218 0 + 1)) a = gK s a := fun a => by
      show s10.2.1 a = _
      rw [h10.1.2.1]
      exact hB9.2.1 a
    have r12 : ∀ a j_l, ¬ (a = 36 ∧ j_l = 11) → gR (gw s10 9 10 (gI s 218 0 + 1)) a j_l = gR s a j_l := fun a j_l hz => by
      show gR s10 a j_l = _
      rw [h10.1.2.2 a j_l]
      by_cases c9 : a = 9 ∧ j_l = 11
      · rw [if_pos c9, hB9.2.2, if_pos ⟨rfl, rfl⟩, c9.1, c9.2]
      · rw [if_neg c9, hB9.2.2, if_neg hz]
    have i12b : gI (gw s10 9 10 (gI s 218 0 + 1)) 9 10 = gI s 218 0 + 1 := rd_same rfl
    generalize gw s10 9 10 (gI s 218 0 + 1) = s12 at *
    rw [(rr_0_5 hg12).2, (rr_0_9 hg12).2]
    refine gQ_v0 (A := fun z_l => CC 15 42 s12 z_l) (fun r_l hr => (gQ_T (s_23 hg12 ⟨by decide, b4⟩ ⟨by decide, b5⟩ (by decide)) r_l hr).2) (fun s13 h13 => ?_)
    have r15 : gR (gw s13 0 14 0) 0 4 = 9 := (rr_0_4 (RF_sm hg12 h13.1.2.2)).2
    rw [r15]
    have i13 : ∀ a k, ¬ (15 ≤ a ∧ a < 27) → gI s13 a k = gI s12 a k := fun a k hz => (h13.2 a k).2 (fun z_l => hz (blk (Or.inl z_l)))
    have i15 : ∀ a k, ¬ (a = 0 ∧ k = 14) → gI (gw s13 0 14 0) a k = gI s13 a k := fun a k hz => by
      show (if a = 0 ∧ k = 14 then _ else gI s13 a k) = _
      rw [if_neg hz]
    have i14 : gI (gw s13 0 14 0) 0 14 = 0 := rd_same rfl
    have n15 : gn (gw s13 0 14 0) = gn s := h13.1.1.trans n12
    have k15 : ∀ a, gK (gw s13 0 14 0) a = gK s a := fun a => by
      show s13.2.1 a = _
      rw [h13.1.2.1]
      exact k12 a
    have rr15 : ∀ a j_l, ¬ (a = 36 ∧ j_l = 11) → gR (gw s13 0 14 0) a j_l = gR s a j_l := fun a j_l hz => by
      show s13.2.2.2 a j_l = _
      rw [h13.1.2.2]
      exact r12 a j_l hz
    refine gQ_ret ?_
    generalize gw s13 0 14 0 = s15 at *
    have hbs : Bf s s15 := ⟨⟨Nat.le_of_eq n15.symm, fun a _ => k15 a⟩, fun a j_l _ hz => rr15 a j_l hz, fun a j_l ha_l _ => by
      rw [i15 a j_l (by omega), i13 a j_l (by omega), i12_l a j_l (by omega), (h10.2 a j_l).2 (fun z_l => by have := bkb z_l; omega)]
      exact hF9 a j_l (by omega) (by omega) (by omega)⟩
    have lg : ∀ a k, a = 19 ∨ a = 20 → gI s15 a k = gI s a k := fun a k ha_l => by
      rw [i15 a k (by omega), (h13.2 a k).2 (fun z_l => by unfold CCr at z_l; omega), i12_l a k (by omega), (h10.2 a k).2 (fun z_l => by have := bkb z_l; omega)]
      exact hF9 a k (by omega) (by omega) (by omega)
    refine ⟨⟨fun a k h1 h2 h3 h4 h5 => ?_, hbs⟩, Or.inr ⟨rfl, c12, W0, hq, ?_, i14, fun k hk => ?_, fun k => ⟨lg 19 k (by omega), lg 20 k (by omega)⟩⟩⟩
    · dsimp only
      rw [i15 a k (by omega), i13 a k (by omega), i12_l a k (by omega), (h10.2 a k).2 (fun z_l => by have := bkb z_l; omega)]
      exact hF9 a k h2 h4 (by omega)
    · dsimp only
      rw [i15 9 10 (by omega), i13 9 10 (by omega)]
      exact i12b
    · dsimp only
      by_cases ck : k = 0
      · rw [if_pos ck, ck]
        show gI s15 9 10 = _
        rw [i15 9 10 (by omega), i13 9 10 (by omega)]
        exact i12b
      rw [if_neg ck]
      refine Eq.trans ?_ ((hcv k hk).trans (hw k hk))
      have hz := pk_0 k hk.1.1 hk.1.2
      rcases Kx_c hk with c_l | ⟨o, q, o1, o2, o3_l, o4_l⟩
      · obtain ⟨o, q, o1, o2, o3_l, o4_l⟩ := c_l
        show gI s15 (pa 9 15 k) (pj k) = gI s9 (pa 36 42 k) (pj k)
        rw [o2, o2, o3_l, i15 _ _ (by omega), (h13.2 _ q).1 (o4_l _), show 15 + o - 15 + 42 = 42 + o by omega, i12_l _ _ (by omega)]
        exact (h10.2 _ q).2 (fun z_l => by have := bkb z_l; omega)
      · rw [o2, o3_l] at hz
        show gI s15 (pa 9 15 k) (pj k) = gI s9 (pa 36 42 k) (pj k)
        rw [o2, o2, o3_l, i15 _ _ (by omega), i13 _ _ (by omega), i12_l _ _ (fun z_l => ck (hz z_l.1 z_l.2)), (h10.2 _ q).1 (o4_l _), show 9 + o - 9 + 36 = 36 + o by omega]
  · rw [if_neg c12]
    exact gQ_ret ⟨⟨hfr, hbf9⟩, Or.inl ⟨Or.inr ⟨rfl, c12, W0, hq⟩, hfr2, hfr3⟩⟩
theorem rb_89x (hJ : J p s) (h : Rt s) (hX : ∀ k, Kx k → cv s 9 15 k = gI s 218 k) : gQ (f_89 0 s) (Bhx s p.2.1.toNat) := by
  have hg : RF s := hJ.1.2.1
  have hl : gI s 1 1 = p.2.1 := hJ.2.2.1
  have hb_l := J_f hJ (kd := 10) (a := 1) (i := 1) t10 rfl (fun z_l => by cases z_l) (x := 0) (y := 400) rfl
  obtain ⟨b1, b2, b3, b4, b5, b6⟩ := k0_b
  unfold f_89
  rw [(rr_0_8 hg).2, (rr_0_4 hg).2]
  refine gQ_v0 (A := fun z_l => BC 36 9 s z_l) (fun r_l hr => (gQ_T (s_1 hg ⟨by decide, b2⟩ ⟨by decide, b1⟩ (by decide)) r_l hr).2) (fun s1_l h1 => ?_)
  have hg1 : RF s1_l := RF_bc hg b2 h1
  rw [(rr_0_9 hg1).2, (rr_0_5 hg1).2]
  refine gQ_v0 (A := fun z_l => CC 42 15 s1_l z_l) (fun r_l hr => (gQ_T (s_23 hg1 ⟨by decide, b5⟩ ⟨by decide, b4⟩ (by decide)) r_l hr).2) (fun s3_l h3 => ?_)
  have hg3 : RF s3_l := RF_sm hg1 h3.1.2.2
  rw [(rr_0_2 hg3).2, (rr_0_8 hg3).2, (rr_0_9 hg3).2]
  have f3_l : ∀ a_l k, ¬ (36 ≤ a_l ∧ a_l < 54) → gI s3_l a_l k = gI s a_l k := fun a_l k ha_l => cc_f h1 h3 (by omega) (by omega)
  have hV : ∀ k, Kx k → cv s3_l 36 42 k = gI s 218 k := fun k hk => (cc_k h1 h3 (by omega) (by omega) hk).trans (hX k hk)
  have hT_l : Tp s3_l (gI s 222) p.2.1.toNat := by
    refine ⟨(hg3 1 0 (by decide) (by decide +kernel)).trans (by decide +kernel), ?_, by omega, fun j_l => ?_⟩
    · rw [f3_l 1 1 (by omega), hl]
      omega
    · rw [f3_l 2 j_l (by omega)]
      exact h.2.1 j_l
  have hR : Rg (cv s3_l 36 42) := by
    have m_l : ∀ k x_l y_l, arn 218 k = some (x_l, y_l) → x_l ≤ gI s 218 k ∧ gI s 218 k ≤ y_l := fun k x_l y_l hk => J_ra hJ (a := 218) (k := k) (by decide) (by rw [k0_sp.2.2.2.1]; decide) hk
    refine ⟨?_, ?_, ?_, ?_⟩
    · rw [hV 3 Kx_n.2.1]
      exact m_l 3 0 8 rfl
    · rw [hV 4 Kx_n.2.2.1]
      exact m_l 4 0 6 rfl
    · rw [hV 5 Kx_n.2.2.2.1]
      exact m_l 5 0 6 rfl
    · rw [hV 6 Kx_n.2.2.2.2]
      exact m_l 6 0 6 rfl
  have hS_l := rdb_S (L := gI s 222) (e := p.2.1.toNat) (S := Kx) Kx_n.2.1 Kx_n.2.2.1 Kx_n.2.2.2.1 Kx_n.2.2.2.2 hV
  refine gQ_w1 (A := fun v_l u_l => Df s3_l u_l ∧ ((v_l = 0 ∧ ∃ q_l, rdb (gI s 222) p.2.1.toNat (cv s3_l 36 42) = Sum.inl q_l) ∨ (v_l = 1 ∧ ∃ W_l, rdb (gI s 222) p.2.1.toNat (cv s3_l 36 42) = Sum.inr W_l ∧ ∀ k, KK k → cv u_l 36 42 k = W_l k))) (fun r_l hr => ?_) (fun v_l u_l hu => ?_)
  · obtain ⟨x1_l, x2_l, x3⟩ := gQ_T (c_11 hT_l (Rd_RF hg3) hR) r_l hr
    refine ⟨x2_l, ?_⟩
    rcases x3 with ⟨q_l, y1, y2, y3⟩ | ⟨W_l, y1, y2, y3⟩
    · exact Or.inl ⟨y2, q_l, y1⟩
    · exact Or.inr ⟨y2, W_l, y1, y3⟩
  obtain ⟨hD, hv⟩ := hu
  have hgu : RF u_l := fun a_l k ha_l hz => (hD.1.2.2 a_l k).trans (hg3 a_l k ha_l hz)
  have hnu : 232 ≤ gn u_l := by
    rw [hD.1.1]
    show 232 ≤ s3_l.1
    rw [h3.1.1, h1.1.1]
    exact hJ.1.1
  have hFu : ∀ a_l k, a_l ≠ 1 → ¬ (36 ≤ a_l ∧ a_l < 54) → gI u_l a_l k = gI s a_l k := fun a_l k ha_l hz => (hD.2 a_l k (by omega) hz).trans (f3_l a_l k hz)
  have hBu : Bs s u_l := by
    refine ⟨hD.1.1.trans (h3.1.1.trans h1.1.1), fun a_l => (hD.1.2.1 a_l).trans ?_, fun a_l j_l => (hD.1.2.2 a_l j_l).trans ?_⟩
    · show s3_l.2.1 a_l = s.2.1 a_l
      rw [h3.1.2.1, h1.1.2.1]
    · show s3_l.2.2.2 a_l j_l = _
      rw [h3.1.2.2]
      exact h1.1.2.2 a_l j_l
  have key_l : ∀ w0_l, gQ (fb_89_54 0 v_l w0_l 0 u_l) (Bhx s p.2.1.toNat) := fun w0_l => by
    rcases hS_l with ⟨q_l, z1, z2⟩ | ⟨W_l, W', z1, z2, z3⟩
    · rcases hv with ⟨v0_l, _⟩ | ⟨v1_l, W_l, y1, _⟩
      · exact b_89x (W0 := gI s 218) h hBu hgu hnu hFu (Or.inl ⟨v0_l, q_l, z2⟩)
      · rw [z1] at y1
        cases y1
    · rcases hv with ⟨v0_l, q_l, y1⟩ | ⟨v1_l, W1_l, y1, y2⟩
      · rw [z1] at y1
        cases y1
      · rw [z1] at y1
        injection y1 with y3
        exact b_89x (W0 := W') h hBu hgu hnu hFu (Or.inr ⟨v1_l, z2, fun k hk => by rw [y2 k hk.1, ← y3]; exact z3 k hk⟩)
  exact gQ_ite (key_l _) (key_l _)
/-- ranges that J holds, and those of the text -/
theorem Vg_J (hJ : J p s) (hv : Vh (gI s 218)) : Vg (fun k => gI s 218 (0 + k)) := by
  have m_l : ∀ k x_l y_l, arn 218 k = some (x_l, y_l) → x_l ≤ gI s 218 (0 + k) ∧ gI s 218 (0 + k) ≤ y_l := fun k x_l y_l hk => by
    rw [Nat.zero_add]
    exact J_ra hJ (a := 218) (k := k) (by decide) (by rw [k0_sp.2.2.2.1]; decide) hk
  refine ⟨⟨m_l 3 0 8 rfl, m_l 4 0 6 rfl⟩, fun i_l hi_l => ⟨?_, ?_, ?_⟩, fun i_l hi_l => ⟨?_, ?_⟩⟩
  · have h6 : i_l = 0 ∨ i_l = 1 ∨ i_l = 2 ∨ i_l = 3 ∨ i_l = 4 ∨ i_l = 5 := by omega
    rcases h6 with rfl | rfl | rfl | rfl | rfl | rfl
    · exact m_l 40 0 99 rfl
    · exact m_l 46 0 99 rfl
    · exact m_l 52 0 99 rfl
    · exact m_l 58 0 99 rfl
    · exact m_l 64 0 99 rfl
    · exact m_l 70 0 99 rfl
  · have h6 : i_l = 0 ∨ i_l = 1 ∨ i_l = 2 ∨ i_l = 3 ∨ i_l = 4 ∨ i_l = 5 := by omega
    rcases h6 with rfl | rfl | rfl | rfl | rfl | rfl
    · exact m_l 43 0 8 rfl
    · exact m_l 49 0 8 rfl
    · exact m_l 55 0 8 rfl
    · exact m_l 61 0 8 rfl
    · exact m_l 67 0 8 rfl
    · exact m_l 73 0 8 rfl
  · have := hv.2 i_l hi_l
    dsimp only
    rw [Nat.zero_add]
    exact this
  · have := hv.1 i_l hi_l
    dsimp only
    rw [Nat.zero_add]
    exact this
  · have h8 : i_l = 0 ∨ i_l = 1 ∨ i_l = 2 ∨ i_l = 3 ∨ i_l = 4 ∨ i_l = 5 ∨ i_l = 6 ∨ i_l = 7 := by omega
    rcases h8 with rfl | rfl | rfl | rfl | rfl | rfl | rfl | rfl
    · exact m_l 18 0 50 rfl
    · exact m_l 21 0 50 rfl
    · exact m_l 24 0 50 rfl
    · exact m_l 27 0 50 rfl
    · exact m_l 30 0 50 rfl
    · exact m_l 33 0 50 rfl
    · exact m_l 36 0 50 rfl
    · exact m_l 39 0 50 rfl
/-- between the two halves of book, fully -/
noncomputable def MbX (s : gS) (l : Nat) (v : Int) (t : gS) : Prop := ((∀ a k, a < 232 → a ≠ 1 → ¬ (9 ≤ a ∧ a < 27) → ¬ (36 ≤ a ∧ a < 54) → ¬ (a = 0 ∧ (k = 14 ∨ k = 16)) → a ≠ 231 → gI t a k = gI s a k) ∧ Bf s t) ∧ ((((v = 1 ∧ ∃ q, rdb (gI s 222) l (gI s 218) = Sum.inl q) ∨ (v = 2 ∧ gI s 218 0 = 12 ∧ ∃ W, rdb (gI s 222) l (gI s 218) = Sum.inr W)) ∧ (∀ a k, 9 ≤ a → a < 27 → gI t a k = gI s a k) ∧ gI t 0 14 = gI s 0 14) ∨ (v = 0 ∧ (0 ≤ gI s 218 0 ∧ gI s 218 0 < 12) ∧ ∃ W, rdb (gI s 222) l (gI s 218) = Sum.inr W ∧ gI t 0 14 = 0 ∧ (∀ k, Kx k → cv t 9 15 k = if k = 0 then gI s 218 0 + 1 else W k) ∧ ∀ k, gI t 19 k = gI s 19 k ∧ gI t 20 k = gI s 20 k))
theorem bq_1x {w0 : Int} (hw : w0 = 1 ∨ w0 = 2) (h : Mq s u) : gQ (fb_187_43 217 w0 217 u) (fun r => Sm u r.2.2.2 ∧ gI r.2.2.2 217 0 = w0 ∧ (∀ k, gI r.2.2.2 218 k = gI s 218 k) ∧ ∀ a k, a ≠ 220 → ¬ (a = 217 ∧ (k = 0 ∨ 8 ≤ k)) → gI r.2.2.2 a k = gI s a k) := by
  obtain ⟨hg, ha_l, hf⟩ := h
  have e0_l : gI (gw u 217 0 w0) 217 0 = w0 := rd_same rfl
  have hg7 : RF (gw u 217 0 w0) := RF_sm hg rfl
  unfold fb_187_43
  dsimp only
  rw [e0_l, if_pos (by omega)]
  have i7_l : ∀ a k, ¬ (a = 217 ∧ k = 0) → gI (gw u 217 0 w0) a k = gI u a k := fun a k hz => by
    show (if a = 217 ∧ k = 0 then _ else gI u a k) = _
    rw [if_neg hz]
  have hS7 : Sm u (gw u 217 0 w0) := ⟨rfl, rfl, rfl⟩
  generalize gw u 217 0 w0 = s7 at *
  refine gQ_v0 (A := fun z_l => Sm s7 z_l ∧ (∀ k, k < 340 → gI z_l 218 k = gI s7 220 k) ∧ ∀ a k, ¬ (a = 218 ∧ k < 340) → gI z_l a k = gI s7 a k) (fun r hr => x_186 (rr_217_1 hg7).2 (rr_217_4 hg7).2 r hr) (fun s8 h8 => ?_)
  obtain ⟨x1_l, x2_l, x3⟩ := h8
  have k8_l : ∀ k, gI s8 218 k = gI s 218 k := fun k => by
    by_cases c : k < 340
    · rw [x2_l k c, i7_l 220 k (by omega)]
      exact ha_l k c
    · rw [x3 218 k (by omega), i7_l 218 k (by omega)]
      exact hf 218 k (by omega) (by omega) (by omega)
  refine gQ_ret ⟨⟨x1_l.1.trans hS7.1, x1_l.2.1.trans hS7.2.1, x1_l.2.2.trans hS7.2.2⟩, (x3 217 0 (by omega)).trans e0_l, k8_l, fun a k h1 h2 => ?_⟩
  dsimp only
  by_cases c : a = 218
  · rw [c]
    exact k8_l k
  · rw [x3 a k (by omega), i7_l a k (by omega)]
    exact hf a k h1 (by omega) h2
theorem bq_0x {x : Int} (h : Mq s u) (hx : gI u 218 0 = x) (hb : 0 ≤ x ∧ x < 12) : gQ (fb_187_43 217 0 217 u) (fun r => Sm u r.2.2.2 ∧ r.2.1 = x + 1 ∧ gI r.2.2.2 217 0 = 0 ∧ gI r.2.2.2 217 6 = 0 ∧ gI r.2.2.2 218 0 = x + 1 ∧ (∀ k, k ≠ 0 → gI r.2.2.2 218 k = gI u 218 k) ∧ ∀ a k, a ≠ 220 → a ≠ 218 → ¬ (a = 217 ∧ (k = 0 ∨ k = 6 ∨ 8 ≤ k)) → gI r.2.2.2 a k = gI s a k) := by
  obtain ⟨hg, ha_l, hf⟩ := h
  have e0_l : gI (gw u 217 0 0) 217 0 = 0 := rd_same rfl
  have hg7 : RF (gw u 217 0 0) := RF_sm hg rfl
  unfold fb_187_43
  dsimp only
  rw [e0_l, if_neg (by omega)]
  have i7_l : ∀ a k, ¬ (a = 217 ∧ k = 0) → gI (gw u 217 0 0) a k = gI u a k := fun a k hz => by
    show (if a = 217 ∧ k = 0 then _ else gI u a k) = _
    rw [if_neg hz]
  have hS7 : Sm u (gw u 217 0 0) := ⟨rfl, rfl, rfl⟩
  generalize gw u 217 0 0 = s7 at *
  have r1_l : gR s7 217 1 = 218 := (rr_217_1 hg7).2
  rw [r1_l, i7_l 218 0 (by omega), hx, g32_eq (v := x + 1) (by omega) (by omega)]
  have r2 : gR (gw (gw s7 218 0 (x + 1)) 217 6 0) 217 1 = 218 := r1_l
  rw [r2]
  have j1 : gI (gw (gw s7 218 0 (x + 1)) 217 6 0) 218 0 = x + 1 := (rd_a rfl (by decide)).trans (rd_same rfl)
  have j2_l : gI (gw (gw s7 218 0 (x + 1)) 217 6 0) 217 6 = 0 := rd_same rfl
  have j3_l : ∀ a k, ¬ (a = 217 ∧ k = 6) → ¬ (a = 218 ∧ k = 0) → gI (gw (gw s7 218 0 (x + 1)) 217 6 0) a k = gI s7 a k := fun a k h1 h2 => by
    show (if a = 217 ∧ k = 6 then _ else if a = 218 ∧ k = 0 then _ else gI s7 a k) = _
    rw [if_neg h1, if_neg h2]
  have hS11 : Sm u (gw (gw s7 218 0 (x + 1)) 217 6 0) := hS7
  refine gQ_ret ?_
  generalize gw (gw s7 218 0 (x + 1)) 217 6 0 = s11 at *
  refine ⟨hS11, j1, (j3_l 217 0 (by omega) (by omega)).trans e0_l, j2_l, j1, fun k hk => ?_, fun a k h1 h2 h3 => ?_⟩
  · dsimp only
    rw [j3_l 218 k (by omega) (by omega), i7_l 218 k (by omega)]
  · dsimp only
    rw [j3_l a k (by omega) (by omega), i7_l a k (by omega)]
    exact hf a k h1 (by omega) (by omega)
theorem m187 (hp : -1 ≤ p.1 ∧ p.1 ≤ 0) (hJ : J p s) (h12 : 0 ≤ gI s 218 0 ∧ gI s 218 0 ≤ 12) : gQ (f_187 217 s) (fun r => Sm s r.2.2.2 ∧ ((gI r.2.2.2 217 0 ≠ 0 ∧ ((gI r.2.2.2 217 0 = 1 ∧ ∃ q, rdb (gI s 222) p.2.2.1.toNat (gI s 218) = Sum.inl q) ∨ (gI r.2.2.2 217 0 = 2 ∧ gI s 218 0 = 12 ∧ ∃ W, rdb (gI s 222) p.2.2.1.toNat (gI s 218) = Sum.inr W)) ∧ (∀ k, gI r.2.2.2 218 k = gI s 218 k) ∧ ∀ a k, a ≠ 220 → ¬ (a = 217 ∧ (k = 0 ∨ 8 ≤ k)) → gI r.2.2.2 a k = gI s a k) ∨ (gI r.2.2.2 217 0 = 0 ∧ gI s 218 0 ≠ 12 ∧ ∃ W, rdb (gI s 222) p.2.2.1.toNat (gI s 218) = Sum.inr W ∧ r.2.1 = gI s 218 0 + 1 ∧ gI r.2.2.2 217 6 = 0 ∧ gI r.2.2.2 218 0 = gI s 218 0 + 1 ∧ (∀ k, k ≠ 0 → k < 100 → gI r.2.2.2 218 k = W k) ∧ (∀ k, 100 ≤ k → gI r.2.2.2 218 k = gI s 218 k) ∧ ∀ a k, a ≠ 220 → a ≠ 218 → ¬ (a = 217 ∧ (k = 0 ∨ k = 6 ∨ 8 ≤ k)) → gI r.2.2.2 a k = gI s a k))) := by
  have hg : RF s := hJ.1.2.1
  have hl : gI s 217 8 = p.2.2.1 := hJ.2.2.2.1
  have hb8 := J_f hJ (kd := 12) (a := 217) (i := 8) t217 rfl (fun z_l => by cases z_l) (x := 0) (y := 400) rfl
  have hL : ∀ k, 0 ≤ gI s 222 k ∧ gI s 222 k ≤ 255 := fun k => J_ra hJ (a := 222) (k := k) (by decide) (by rw [k0_sp.2.1]; decide) rfl
  have m_l : ∀ k x_l y_l, arn 218 k = some (x_l, y_l) → x_l ≤ gI s 218 k ∧ gI s 218 k ≤ y_l := fun k x_l y_l hk => J_ra hJ (a := 218) (k := k) (by decide) (by rw [k0_sp.2.2.2.1]; decide) hk
  have hR : Rg (gI s 218) := ⟨m_l 3 0 8 rfl, m_l 4 0 6 rfl, m_l 5 0 6 rfl, m_l 6 0 6 rfl⟩
  unfold f_187
  refine gQ_v0 (A := fun z_l => (Sm s z_l ∧ Asd z_l ∧ ∀ a k, a ≠ 220 → gI z_l a k = gI s a k) ∧ J p z_l) (fun r hr => ⟨x_185 (rr_217_1 hg).2 (rr_217_4 hg).2 r hr, (gQ_T (d_185 hp hJ t217) r hr).2⟩) (fun s1_l h1 => ?_)
  obtain ⟨⟨x1_l, x2_l, x3⟩, j1⟩ := h1
  refine gQ_v0 (A := fun z_l => (Sm s1_l z_l ∧ (gI z_l 217 12 = -1 ∧ gI z_l 217 9 = -1 ∧ gI z_l 217 10 = gI s 217 8 ∧ gI z_l 217 11 = 0) ∧ ∀ a k, ¬ (a = 217 ∧ 8 ≤ k) → gI z_l a k = gI s1_l a k) ∧ J (p.1, p.2.1, 0, p.2.2.2.1, p.2.2.2.2) z_l) (fun r hr => ⟨?_, (gQ_T (d_183 hp j1 t217) r hr).2⟩) (fun s3_l h3 => ?_)
  · unfold f_183 at hr
    dsimp only at hr
    cases hr
    dsimp only
    refine ⟨⟨rfl, rfl, rfl⟩, ⟨?_, ?_, ?_, ?_⟩, fun a k hz => ?_⟩
    · simp only [rdw]
      rfl
    · simp only [rdw]
      rfl
    · simp only [rdw]
      exact x3 217 8 (by decide)
    · simp only [rdw]
      rfl
    · simp only [rdw]
      rw [if_neg (by omega), if_neg (by omega), if_neg (by omega), if_neg (by omega), if_neg (by omega), if_neg (by omega)]
  obtain ⟨⟨y1, ⟨y2, y3, y4, y5⟩, y6⟩, j3_l⟩ := h3
  have hg3 : RF s3_l := j3_l.1.2.1
  have i3_l : ∀ a k, a ≠ 220 → ¬ (a = 217 ∧ 8 ≤ k) → gI s3_l a k = gI s a k := fun a k ha_l hz => (y6 a k hz).trans (x3 a k ha_l)
  have g18 : gI s3_l 218 = gI s 218 := funext fun k => i3_l 218 k (by decide) (by omega)
  have a3 : ∀ k, k < 340 → gI s3_l 220 k = gI s 218 k := fun k hk => by
    rw [y6 220 k (by omega), x2_l k hk]
    exact x3 218 k (by decide)
  have hM_l : Mp s3_l (gI s 222) p.2.2.1.toNat := by
    refine ⟨⟨?_, by omega⟩, ⟨(rr_217_1 hg3).2, (rr_217_7 hg3).2⟩, fun k hk => ?_⟩
    · rw [y4, hl]
      omega
    · unfold f_168
      rw [if_pos y3, (rr_217_7 hg3).2, Int.toNat_natCast]
      unfold gchk
      rw [if_pos (by omega), i3_l 222 k (by decide) (by omega)]
  have hT_l := m_184 hL hM_l y5 y2 y3 j3_l (by rw [g18]; exact hR)
  rw [g18] at hT_l
  refine gQ_w1 (A := fun _ z_l => Mf s3_l z_l ∧ ((∃ q : Nat, rdb (gI s 222) p.2.2.1.toNat (gI s 218) = Sum.inl q ∧ gI z_l 217 12 = (q : Int)) ∨ (∃ W : Nat → Int, rdb (gI s 222) p.2.2.1.toNat (gI s 218) = Sum.inr W ∧ gI z_l 217 12 = -1 ∧ ∀ k, k < 100 → gI z_l 218 k = W k))) (fun r hr => (gQ_T hT_l r hr).2) (fun v6 s5 h5 => ?_)
  obtain ⟨f5_l, h5⟩ := h5
  have hg5 : RF s5 := fun a k ha_l hz => (f5_l.1.2.2 a k).trans (hg3 a k ha_l hz)
  have hQ : Mq s s5 := ⟨hg5, fun k hk => (f5_l.2 220 k (by omega) (by omega)).trans (a3 k hk), fun a k h1 h2 h3 => (f5_l.2 a k (by omega) h2).trans (i3_l a k h1 (by omega))⟩
  rw [(rr_217_1 hg5).2]
  have hS5 : Sm s s5 := ⟨f5_l.1.1.trans (y1.1.trans x1_l.1), (funext f5_l.1.2.1).trans (y1.2.1.trans x1_l.2.1), (funext fun a => funext fun k => f5_l.1.2.2 a k).trans (y1.2.2.trans x1_l.2.2)⟩
  rcases h5 with ⟨q, q1_l, q2_l⟩ | ⟨W, q1_l, q2_l, q3_l⟩
  · rw [if_neg (by omega)]
    intro r hr
    obtain ⟨z0, z1, z2, z3⟩ := bq_1x (Or.inl rfl) hQ r hr
    exact ⟨⟨z0.1.trans hS5.1, z0.2.1.trans hS5.2.1, z0.2.2.trans hS5.2.2⟩, Or.inl ⟨by rw [z1]; decide, Or.inl ⟨z1, q, q1_l⟩, z2, z3⟩⟩
  · have w0_l := rdb_0 q1_l
    have e5_l : gI s5 218 0 = gI s 218 0 := (q3_l 0 (by decide)).trans w0_l
    rw [if_pos q2_l, e5_l]
    by_cases c12 : gI s 218 0 = 12
    · rw [if_pos c12]
      intro r hr
      obtain ⟨z0, z1, z2, z3⟩ := bq_1x (Or.inr rfl) hQ r hr
      exact ⟨⟨z0.1.trans hS5.1, z0.2.1.trans hS5.2.1, z0.2.2.trans hS5.2.2⟩, Or.inl ⟨by rw [z1]; decide, Or.inr ⟨z1, c12, W, q1_l⟩, z2, z3⟩⟩
    · rw [if_neg c12]
      intro r hr
      obtain ⟨w9, w1_l, w2_l, w3_l, w4_l, w5, w6_l⟩ := bq_0x hQ e5_l (by omega) r hr
      exact ⟨⟨w9.1.trans hS5.1, w9.2.1.trans hS5.2.1, w9.2.2.trans hS5.2.2⟩, Or.inr ⟨w2_l, c12, W, q1_l, w1_l, w3_l, w4_l, fun k hk hk2 => (w5 k hk).trans (q3_l k hk2), fun k hk => (w5 k (by omega)).trans (hQ.2.2 218 k (by decide) (by omega) (by omega)), w6_l⟩⟩
theorem Rx_g (hJ : J p s) (h : Rx s) (hc : ∀ a k, ((9 ≤ a ∧ a < 27) ∨ (54 ≤ a ∧ a < 217) ∨ a = 218 ∨ a = 219 ∨ a = 221 ∨ (a = 0 ∧ (k = 13 ∨ k = 14)) ∨ (a = 217 ∧ (k = 3 ∨ k = 6))) → gI t a k = gI s a k) (hr : ∀ a j, a < gn s → ¬ (a = 36 ∧ j = 11) → gR t a j = gR s a j) (hk : ∀ a, a < gn s → gK t a = gK s a) (hi : ∀ a j, 232 ≤ a → a < gn s → gI t a j = gI s a j) : Rx t := by
  have hn := hJ.1.1
  obtain ⟨y1, y2, ⟨y3, y4, y5, y6⟩, T, y7⟩ := h
  have cvq : ∀ B_l C_l k, (B_l = 9 ∧ ((15 ≤ C_l ∧ C_l + 12 ≤ 27) ∨ (54 ≤ C_l ∧ C_l + 12 ≤ 217))) ∨ (B_l = 54 ∧ C_l = 60) → KK k → cv t B_l C_l k = cv s B_l C_l k := fun B_l C_l k hb_l hk => by
    show gI t (pa B_l C_l k) (pj k) = gI s (pa B_l C_l k) (pj k)
    rcases pa_cc hk with ⟨o, o1, o2, -⟩ | ⟨o, o1, o2, -⟩
    · rw [o2]
      exact hc _ _ (by omega)
    · rw [o2]
      exact hc _ _ (by omega)
  have law_l : ∀ (R_l B_l : Nat) (T : (Nat → Int) → Int), R_l = 218 ∨ R_l = 219 → (B_l = 9 ∨ B_l = 54) → Tlw s R_l B_l T → Tlw t R_l B_l T := fun R_l B_l T hR hB_l hx => by
    refine Tlw_g hJ ?_ hx (fun k _ => hc R_l k (by omega)) (hr B_l 11 (by omega) (by omega)) (fun a k ha_l ha2 => hr a k ha2 (by omega)) (fun a ha_l ha2 => hk a ha2) hi
    rcases hB_l with rfl | rfl
    · exact ⟨by decide, k0_b.1⟩
    · exact ⟨by decide, k0_b.2.2.1⟩
  have e13_l := hc 0 13 (by omega)
  have e14_l := hc 0 14 (by omega)
  have e3_l := hc 217 3 (by omega)
  have e6_l := hc 217 6 (by omega)
  refine ⟨RW_g y1 (fun k _ => hc 218 _ (by omega)) (fun k hk2 => cvq 9 15 k (by omega) hk2) (fun q_l _ => hc _ _ (by omega)), fun h3 => ?_, ⟨by rw [e14_l, e6_l]; exact y3, by rw [e13_l]; exact y4, by rw [e14_l]; exact y5, fun j hj => ?_⟩, T, law_l 218 9 T (Or.inl rfl) (Or.inl rfl) y7⟩
  · obtain ⟨g1, T2, g2⟩ := y2 (by rw [← e3_l]; exact h3)
    exact ⟨RW_g g1 (fun k _ => hc 219 _ (by omega)) (fun k hk2 => cvq 54 60 k (by omega) hk2) (fun q_l _ => hc _ _ (by omega)), T2, law_l 219 54 T2 (Or.inr rfl) (Or.inr rfl) g2⟩
  · rw [e14_l] at hj ⊢
    rw [e13_l]
    have hps : 73 ≤ pst (gI s 0 13) j ∧ pst (gI s 0 13) j + 12 ≤ 217 := by
      unfold pst
      omega
    exact RW_g (y6 j hj) (fun k _ => hc 221 _ (by omega)) (fun k hk2 => cvq 9 _ k (by omega) hk2) (fun q_l _ => hc _ _ (by omega))
theorem bx_276 (hJ : J p s) (h : Rt s) (hX : Rx s) : gQ (f_276 0 231 s) (fun r => MbX s p.2.1.toNat r.2.1 r.2.2.2) := by
  have q2_l : 0 ≤ gI s 218 0 ∧ gI s 218 0 ≤ 12 := ⟨(h.1 0 Tx_n.1).2.2.1, (h.1 0 Tx_n.1).2.1 rfl⟩
  have hV : ∀ k_l, Kx k_l → cv s 9 15 k_l = gI s 218 k_l := fun k_l hk => by
    have := hX.1.1 k_l hk.1
    rw [Nat.zero_add] at this
    exact this.symm
  unfold f_276
  refine gQ_d1 (rb_89x hJ h hV) (fun r hB_l hr => ?_) (fun r hB_l hr => ?_)
  · refine gQ_chk ?_
    dsimp only
    refine gQ_ret ?_
    dsimp only
    obtain ⟨⟨hf, hbf⟩, hc_l⟩ := hB_l
    rcases hc_l with ⟨⟨z_l, -⟩ | ⟨z_l, -⟩, -⟩ | ⟨-, c2_l, W_l, c3_l, c4_l, c5_l, c6_l⟩
    · omega
    · omega
    have e2_l : ∀ a_l k_l, a_l ≠ 231 → gI (gw r.2.2.2 231 (0 : Int).toNat r.2.1) a_l k_l = gI r.2.2.2 a_l k_l := fun a_l k_l ha_l => rd_a rfl ha_l
    have eb : Bf s (gw r.2.2.2 231 (0 : Int).toNat r.2.1) := ⟨hbf.1, hbf.2.1, fun a_l j_l ha_l ha2 => (e2_l a_l j_l (by omega)).trans (hbf.2.2 a_l j_l ha_l ha2)⟩
    generalize gw r.2.2.2 231 (0 : Int).toNat r.2.1 = v at *
    refine ⟨⟨fun a_l k_l h1 h2 h3 h4 h5 h6 => (e2_l a_l k_l h6).trans (hf a_l k_l h1 h2 h3 h4 h5), eb⟩, Or.inr ⟨rfl, ⟨q2_l.1, c2_l⟩, W_l, c3_l, (e2_l 0 14 (by decide)).trans c5_l, fun k_l hk => ?_, fun k_l => ⟨(e2_l 19 k_l (by decide)).trans (c6_l.2 k_l).1, (e2_l 20 k_l (by decide)).trans (c6_l.2 k_l).2⟩⟩⟩
    have hp := pa_15 k_l hk.1.1
    exact (e2_l _ _ (by omega)).trans (c6_l.1 k_l hk)
  · obtain ⟨⟨hf, hbf⟩, hc_l⟩ := hB_l
    rcases hc_l with ⟨hq, hx⟩ | ⟨z_l, -⟩
    · rcases hq with ⟨z_l, q_l, hq⟩ | ⟨z_l, c12_l, W_l, hq⟩
      · rw [if_pos (by omega)]
        exact gQ_ret ⟨⟨fun a_l k_l h1 h2 h3 h4 h5 _ => hf a_l k_l h1 h2 h3 h4 h5, hbf⟩, Or.inl ⟨Or.inl ⟨rfl, q_l, hq⟩, hx⟩⟩
      · rw [if_neg (by omega), if_pos (by omega)]
        exact gQ_ret ⟨⟨fun a_l k_l h1 h2 h3 h4 h5 _ => hf a_l k_l h1 h2 h3 h4 h5, hbf⟩, Or.inl ⟨Or.inr ⟨rfl, by omega, W_l, hq⟩, hx⟩⟩
    · omega
theorem ax_276 (hl : p.2.1 = p.2.2.1) (hJ : J p s) (h : Rt s) (hX : Rx s) : gQ (f_276 0 231 s) (fun r => ∀ p', J p' r.2.2.2 → (-1 ≤ p'.1 ∧ p'.1 ≤ 0) → gQ (f_187 217 r.2.2.2) (fun q => ∀ p'', J p'' q.2.2.2 → Rx q.2.2.2)) := by
  have hn := hJ.1.1
  have q2_l : 0 ≤ gI s 218 0 ∧ gI s 218 0 ≤ 12 := ⟨(h.1 0 Tx_n.1).2.2.1, (h.1 0 Tx_n.1).2.1 rfl⟩
  have hl8 : gI s 217 8 = p.2.2.1 := hJ.2.2.2.1
  intro r hr p' hJ' hp' q hq p'' hJ''
  obtain ⟨⟨hf, hb1, hb2, hb3⟩, hc_l⟩ := bx_276 hJ h hX r hr
  have f18 : ∀ k_l, gI r.2.2.2 218 k_l = gI s 218 k_l := fun k_l => hf 218 k_l (by decide) (by decide) (by omega) (by omega) (by omega) (by decide)
  have g18 : gI r.2.2.2 218 = gI s 218 := funext f18
  have g22 : gI r.2.2.2 222 = gI s 222 := funext fun k_l => hf 222 k_l (by decide) (by decide) (by omega) (by omega) (by omega) (by decide)
  have e8 : p'.2.2.1.toNat = p.2.1.toNat := by
    have h1 : gI r.2.2.2 217 8 = p'.2.2.1 := hJ'.2.2.2.1
    have h2 := hf 217 8 (by decide) (by decide) (by omega) (by omega) (by omega) (by decide)
    rw [← h1, h2, hl8, hl]
  obtain ⟨m0_l, hm_l⟩ := m187 hp' hJ' (by rw [f18]; exact q2_l) q hq
  rw [g18, g22, e8] at hm_l
  have rq : ∀ a_l k_l, gR q.2.2.2 a_l k_l = gR r.2.2.2 a_l k_l := fun a_l k_l => by
    show q.2.2.2.2.2.2 a_l k_l = r.2.2.2.2.2.2 a_l k_l
    rw [m0_l.2.2]
  have kq : ∀ a_l, gK q.2.2.2 a_l = gK r.2.2.2 a_l := fun a_l => by
    show q.2.2.2.2.1 a_l = r.2.2.2.2.1 a_l
    rw [m0_l.2.1]
  rcases hm_l with ⟨m1_l, m2_l, m3_l, m4_l⟩ | ⟨m1_l, m2_l, W_l, m3_l, m4_l, m5_l, m6_l, m7_l, m8_l, m9_l⟩
  · rcases hc_l with ⟨-, c1_l, c2_l⟩ | ⟨-, c12_l, W_l, c3_l, -⟩
    · have ff_l : ∀ a_l k_l, a_l < 232 → a_l ≠ 1 → ¬ (36 ≤ a_l ∧ a_l < 54) → ¬ (a_l = 0 ∧ k_l = 16) → a_l ≠ 231 → gI r.2.2.2 a_l k_l = gI s a_l k_l := fun a_l k_l h1 h2 h3 h4 h5 => by
        by_cases x1 : 9 ≤ a_l ∧ a_l < 27
        · exact c1_l a_l k_l x1.1 x1.2
        · by_cases x2 : a_l = 0 ∧ k_l = 14
          · rw [x2.1, x2.2]
            exact c2_l
          · exact hf a_l k_l h1 h2 x1 h3 (by omega) h5
      refine Rx_g hJ hX (fun a_l k_l ha_l => ?_) (fun a_l j_l ha_l hz => (rq a_l j_l).trans (hb2 a_l j_l ha_l hz)) (fun a_l ha_l => (kq a_l).trans (hb1.2 a_l ha_l)) (fun a_l j_l ha_l ha2 => (m4_l a_l j_l (by omega) (by omega)).trans (hb3 a_l j_l ha_l ha2))
      exact (m4_l a_l k_l (by omega) (by omega)).trans (ff_l a_l k_l (by omega) (by omega) (by omega) (by omega) (by omega))
    · exfalso
      rcases m2_l with ⟨-, q0, m2_l⟩ | ⟨-, m2_l, -⟩
      · rw [c3_l] at m2_l
        cases m2_l
      · omega
  · rcases hc_l with ⟨⟨-, q0, hq0⟩ | ⟨-, c12_l, -⟩, -⟩ | ⟨-, c12_l, W2_l, c3_l, c4_l, c5_l⟩
    · rw [m3_l] at hq0
      cases hq0
    · exact absurd c12_l m2_l
    rw [m3_l] at c3_l
    cases c3_l
    have mJ : ∀ k_l x_l y_l, arn 218 k_l = some (x_l, y_l) → x_l ≤ gI s 218 k_l ∧ gI s 218 k_l ≤ y_l := fun k_l x_l y_l hk => J_ra hJ (a := 218) (k := k_l) (by decide) (by rw [k0_sp.2.2.2.1]; decide) hk
    have hRg : Rg (gI s 218) := ⟨mJ 3 0 8 rfl, mJ 4 0 6 rfl, mJ 5 0 6 rfl, mJ 6 0 6 rfl⟩
    have hVs : Vg (fun k_l => gI s 218 (0 + k_l)) := hX.1.2.1.1
    have hVp : Vp (gI s 218) := Vp_k hX.1.2.1.2 (fun k_l _ => by
      rw [Nat.zero_add])
    have hVh : Vh (gI s 218) := by
      refine ⟨fun i_l hi_l => ?_, fun i_l hi_l => ?_⟩
      · have := (hVs.2.2 i_l hi_l).1
        dsimp only at this
        rw [Nat.zero_add] at this
        exact this
      · have := (hVs.2.1 i_l hi_l).2.2
        dsimp only at this
        rw [Nat.zero_add] at this
        exact this
    obtain ⟨hW, hW13⟩ := rdb_h m3_l hRg hVh
    have hWp := rdb_p m3_l hRg hVp
    have fq : ∀ a_l k_l, a_l < 232 → a_l ≠ 1 → ¬ (9 ≤ a_l ∧ a_l < 27) → ¬ (36 ≤ a_l ∧ a_l < 54) → ¬ (a_l = 0 ∧ (k_l = 14 ∨ k_l = 16)) → a_l ≠ 231 → a_l ≠ 220 → a_l ≠ 218 → ¬ (a_l = 217 ∧ (k_l = 0 ∨ k_l = 6 ∨ 8 ≤ k_l)) → gI q.2.2.2 a_l k_l = gI s a_l k_l := fun a_l k_l h1 h2 h3 h4 h5 h6 h7 h8 h9 => (m9_l a_l k_l h7 h8 h9).trans (hf a_l k_l h1 h2 h3 h4 h5 h6)
    obtain ⟨y1, y2, ⟨y3, y4, y5, y6⟩, T, y7⟩ := hX
    have e13_l : gI q.2.2.2 218 13 = gI s 218 13 := (m7_l 13 (by decide) (by decide)).trans hW13
    have c13_l : gI q.2.2.2 19 1 = gI s 218 13 := by
      have e1_l : gI q.2.2.2 19 1 = gI r.2.2.2 19 1 := m9_l 19 1 (by decide) (by decide) (by omega)
      have e2_l : gI r.2.2.2 19 1 = gI s 19 1 := (c5_l.2 1).1
      have e3_l := y1.1 13 (by unfold KK; decide)
      rw [e1_l, e2_l]
      exact e3_l.symm
    have c20_l : ∀ i_l, gI q.2.2.2 20 i_l = gI s 20 i_l := fun i_l => (m9_l 20 i_l (by decide) (by decide) (by omega)).trans (c5_l.2 i_l).2
    refine ⟨⟨fun k_l hk => ?_, ⟨Vg_J hJ'' ⟨fun i_l hi_l => ?_, fun i_l hi_l => ?_⟩, Vp_k0 hWp (fun k_l hk k0_l => by
      rw [Nat.zero_add]
      exact (m7_l k_l k0_l hk.1).symm)⟩, ?_, fun i_l j_l hi_l hj => ?_⟩, fun h3 => ?_, ⟨?_, ?_, ?_, fun j_l hj => ?_⟩, T, Tlw_g hJ ⟨by decide, k0_b.1⟩ y7 (fun k_l hk => ?_) ((rq 9 11).trans (hb2 9 11 (by omega) (by omega))) (fun a_l k_l ha_l ha2 => (rq a_l k_l).trans (hb2 a_l k_l ha2 (by omega))) (fun a_l ha_l ha2 => (kq a_l).trans (hb1.2 a_l ha2)) (fun a_l k_l ha_l ha2 => (m9_l a_l k_l (by omega) (by omega) (by omega)).trans (hb3 a_l k_l ha_l ha2))⟩
    · rw [Nat.zero_add]
      by_cases k13 : k_l = 13
      · rw [k13, e13_l]
        exact c13_l.symm
      · have hp := pa_15 k_l hk.1
        have e9_l : cv q.2.2.2 9 15 k_l = cv r.2.2.2 9 15 k_l := m9_l _ _ (by omega) (by omega) (by omega)
        rw [e9_l, c5_l.1 k_l ⟨hk, k13⟩]
        by_cases k0' : k_l = 0
        · rw [if_pos k0', k0']
          exact m6_l
        · rw [if_neg k0']
          exact m7_l k_l k0' hk.1
    · rw [m7_l _ (by omega) (by omega)]
      exact hW.1 i_l hi_l
    · rw [m7_l _ (by omega) (by omega)]
      exact hW.2 i_l hi_l
    · rw [Nat.zero_add, e13_l]
      have := y1.2.2.1
      rw [Nat.zero_add] at this
      exact this
    · rw [Nat.zero_add, e13_l] at hi_l
      have g4 := y1.2.2.2 i_l j_l (by rw [Nat.zero_add]; exact hi_l) hj
      rw [Nat.zero_add] at g4
      rw [Nat.zero_add, e13_l, m8_l _ (by omega), show (15 : Nat) + 5 = 20 from rfl, c20_l, show 0 + 100 + 4 * i_l + j_l = 100 + 4 * i_l + j_l by omega]
      rw [show 0 + 100 + 4 * i_l + j_l = 100 + 4 * i_l + j_l by omega] at g4
      exact g4
    · have h3s : gI s 217 3 = 1 := by
        rw [← h3]
        exact (fq 217 3 (by decide) (by decide) (by omega) (by omega) (by omega) (by decide) (by decide) (by decide) (by omega)).symm
      obtain ⟨g1, T2, g2⟩ := y2 h3s
      have fi : ∀ a_l k_l, 54 ≤ a_l → a_l < 73 → gI q.2.2.2 a_l k_l = gI s a_l k_l := fun a_l k_l h1 h2 => fq a_l k_l (by omega) (by omega) (by omega) (by omega) (by omega) (by omega) (by omega) (by omega) (by omega)
      have f9_l : ∀ k_l, gI q.2.2.2 219 k_l = gI s 219 k_l := fun k_l => fq 219 k_l (by decide) (by decide) (by omega) (by omega) (by omega) (by decide) (by decide) (by decide) (by omega)
      refine ⟨RW_g g1 (fun k_l _ => f9_l _) (fun k_l hk => ?_) (fun i_l _ => fi _ _ (by decide) (by decide)), T2, Tlw_g hJ ⟨by decide, k0_b.2.2.1⟩ g2 (fun k_l _ => f9_l k_l) ((rq 54 11).trans (hb2 54 11 (by omega) (by omega))) (fun a_l k_l ha_l ha2 => (rq a_l k_l).trans (hb2 a_l k_l ha2 (by omega))) (fun a_l ha_l ha2 => (kq a_l).trans (hb1.2 a_l ha2)) (fun a_l k_l ha_l ha2 => (m9_l a_l k_l (by omega) (by omega) (by omega)).trans (hb3 a_l k_l ha_l ha2))⟩
      have hp := pa_15 k_l hk.1
      exact fi _ _ (by omega) (by omega)
    · rw [m5_l, m9_l 0 14 (by decide) (by decide) (by omega), c4_l]
    · rw [fq 0 13 (by decide) (by decide) (by omega) (by omega) (by omega) (by decide) (by decide) (by decide) (by omega)]
      exact y4
    · rw [m9_l 0 14 (by decide) (by decide) (by omega), c4_l]
      decide
    · rw [m9_l 0 14 (by decide) (by decide) (by omega), c4_l] at hj
      omega
    · by_cases k100 : 100 ≤ k_l
      · rw [m8_l k_l k100]
      · have hk12 : k_l = 1 ∨ k_l = 2 := by omega
        have hw := rdb_12 m3_l
        rcases hk12 with rfl | rfl
        · exact (m7_l 1 (by decide) (by decide)).trans hw.1
        · exact (m7_l 2 (by decide) (by decide)).trans hw.2
end Bx

end
section
/-! feed and end; the two relations together -/
noncomputable def RX (s : gS) : Prop := Rt s ∧ Rx s
/-- the model's call behind the class's: thrown by number, or the value -/
noncomputable def Xc (F : gS → Option gO) (w : Int) (u : gS) : Prop := ∀ p, J p u → RX u → gQ (F u) (fun q => gI q.2.2.2 217 0 = w ∧ (w = 0 → gI q.2.2.2 231 0 = q.2.1))
section Rs2
variable {s t u : gS} {p : gP} {a b c d e n : Int} {F : gS → Option gO} {z : Option gO} {w : Int}
theorem gQ_and {Q : Type} {x : Option Q} {P R : Q → Prop} (h1 : gQ x P) (h2 : gQ x R) : gQ x (fun r => P r ∧ R r) := fun r hr => ⟨h1 r hr, h2 r hr⟩
theorem Rx_sm (hJ : J p s) (h : Rx s) (hS : Sm s t) (hc : ∀ a k, ((9 ≤ a ∧ a < 27) ∨ (54 ≤ a ∧ a < 217) ∨ a = 218 ∨ a = 219 ∨ a = 221 ∨ (a = 0 ∧ (k = 13 ∨ k = 14)) ∨ (a = 217 ∧ (k = 3 ∨ k = 6)) ∨ 232 ≤ a) → gI t a k = gI s a k) : Rx t := Rx_g hJ h (fun a k ha_l => hc a k (by omega)) (fun a j_l _ _ => by
    show t.2.2.2 a j_l = s.2.2.2 a j_l
    rw [hS.2.2]) (fun a _ => by
    show t.2.1 a = s.2.1 a
    rw [hS.2.1]) (fun a j_l ha_l _ => hc a j_l (by omega))
theorem rx_87 (hJ : J p s) (h : Rx s) : gQ (f_87 0 a b c d e s) (fun r => Rx r.2.2.2) := by
  have hg : RF s := hJ.1.2.1
  have r0 : gR s 0 0 = 1 := (rr_0_0 hg).2
  have hl : gI s 1 1 = p.2.1 := hJ.2.2.1
  have hb_l := J_f hJ (kd := 10) (a := 1) (i := 1) t10 rfl (fun z_l => by cases z_l) (x := 0) (y := 400) rfl
  by_cases c0 : 380 < p.2.1
  · unfold f_87
    rw [r0, hl, g32_eq (v := p.2.1 + 20) (by omega) (by omega), if_pos (by omega)]
    exact gQ_ret h
  · intro r hr
    obtain ⟨h1, h2, h3, h4⟩ := x_87 hg (l := p.2.1.toNat) (by omega) (by omega) r hr
    exact Rx_sm hJ h h1 (fun a k_l ha_l => h4 a k_l (by omega) (by omega))
theorem rx_166 (hJ : J p s) (h : Rx s) : gQ (f_166 217 a b c d e s) (fun r => Rx r.2.2.2) := by
  have hg : RF s := hJ.1.2.1
  have hl : gI s 217 8 = p.2.2.1 := hJ.2.2.2.1
  have hb_l := J_f hJ (kd := 12) (a := 217) (i := 8) t217 rfl (fun z_l => by cases z_l) (x := 0) (y := 400) rfl
  by_cases c0 : 380 < p.2.2.1
  · have e8 : gI (gw s 217 0 0) 217 8 = gI s 217 8 := rd_k (a := 217) (k := 8) rfl (by decide)
    unfold f_166
    dsimp only
    rw [e8, hl, g32_eq (v := p.2.2.1 + 20) (by omega) (by omega), if_pos (by omega)]
    exact gQ_ret (Rx_fw hJ h (Fw_wv (Fw_rf hJ.1.1) rfl))
  · intro r hr
    obtain ⟨h1, h2, h3, h4⟩ := x_166 hg (l := p.2.2.1.toNat) (by omega) (by omega) r hr
    exact Rx_sm hJ h h1 (fun a k_l ha_l => h4 a k_l (by omega) (by omega))
theorem rx_88 (hJ : J p s) (h : Rx s) : gQ (f_88 0 n s) (fun r => Rx r.2.2.2) := by
  have r0 : gR s 0 0 = 1 := (rr_0_0 hJ.1.2.1).2
  unfold f_88
  dsimp only
  rw [r0]
  exact gQ_ite (gQ_ret h) (gQ_ite (gQ_ret h) (gQ_ret (Rx_fw hJ h (Fw_wv (Fw_rf hJ.1.1) rfl))))
theorem rx_167 (hJ : J p s) (h : Rx s) : gQ (f_167 217 n s) (fun r => Rx r.2.2.2) := by
  have h0 : Fw WX s (gw s 217 0 0) := Fw_wv (Fw_rf hJ.1.1) rfl
  unfold f_167
  dsimp only
  refine gQ_v1 (A := fun z_l => z_l = gw s 217 0 0) (fun r hr => (qv_150 r hr).1) (fun v_l s2_l e_l => ?_)
  rw [e_l]
  exact gQ_ite (gQ_ret (Rx_fw hJ h h0)) (gQ_ret (Rx_fw hJ h (Fw_wv h0 rfl)))
/-- acts behind their class's half -/
theorem xn_m (hJ : J p u) (hR : Rt u) (h : Xn F w u) (hr : gQ (F u) (fun q => Rt q.2.2.2)) : gQ (F u) (fun q => RX q.2.2.2 ∧ gI q.2.2.2 217 0 = w ∧ (w = 0 → gI q.2.2.2 231 0 = q.2.1)) := fun q hq => by
  obtain ⟨h1, h2, h3⟩ := h p hJ hR q hq
  exact ⟨⟨hr q hq, h1⟩, h2, h3⟩
theorem xd_m (hJ : J p u) (hR : Rt u) (h : Xd F w u) (hr : gQ (F u) (fun q => Rt q.2.2.2)) : gQ (F u) (fun q => RX q.2.2.2 ∧ q.2.1 = w) := fun q hq => by
  obtain ⟨h1, h2⟩ := h p hJ hR q hq
  exact ⟨⟨hr q hq, h1⟩, h2⟩
/-- queries that are compared -/
theorem xc_m (hJ : J p u) (hR : RX u) (h : Xc F w u) (hr : gQ (F u) (fun q => RX q.2.2.2)) : gQ (F u) (fun q => RX q.2.2.2 ∧ gI q.2.2.2 217 0 = w ∧ (w = 0 → gI q.2.2.2 231 0 = q.2.1)) := fun q hq => ⟨hr q hq, h p hJ hR q hq⟩
end Rs2

end
