/-! both sides of the full relation, each over the same pure row V and log L -/
noncomputable def Csw (s : gS) (B C : Nat) (V : Nat → Int) (L : Nat → Nat → Int) : Prop := (∀ k, KK k → cv s B C k = V k) ∧ ∀ i j : Nat, (i : Int) < V 13 → j < 4 → gI s (C + 5) (4 * ((V 13).toNat - 1 - i) + j) = L i j
noncomputable def Msw (s : gS) (R O : Nat) (V : Nat → Int) (L : Nat → Nat → Int) : Prop := (∀ k, KK k → gI s R (O + k) = V k) ∧ ∀ i j : Nat, (i : Int) < V 13 → j < 4 → gI s R (O + 100 + 4 * i + j) = L i j
section Sd
variable {s t : gS} {V W : Nat → Int} {L : Nat → Nat → Int} {R O B C : Nat}
theorem Vg_k (h : Vg V) (he : ∀ k, KK k → V k = W k) : Vg W := by
  obtain ⟨⟨h1, h2⟩, h3, h4⟩ := h
  refine ⟨⟨?_, ?_⟩, fun i_l hi_l => ?_, fun i_l hi_l => ?_⟩
  · rw [← he 3 (by unfold KK; decide)]
    exact h1
  · rw [← he 4 (by unfold KK; decide)]
    exact h2
  · rw [← he (40 + 6 * i_l) (by unfold KK; omega), ← he (43 + 6 * i_l) (by unfold KK; omega), ← he (44 + 6 * i_l) (by unfold KK; omega)]
    exact h3 i_l hi_l
  · rw [← he (16 + 3 * i_l) (by unfold KK; omega), ← he (16 + 3 * i_l + 2) (by unfold KK; omega)]
    exact h4 i_l hi_l
theorem sides_RW (hc : Csw s B C V L) (hm : Msw s R O V L) (hg : Vq V) (h13 : 0 ≤ V 13 ∧ V 13 ≤ 60) : RW s R O B C := by
  have e13_l : gI s R (O + 13) = V 13 := hm.1 13 (by unfold KK; decide)
  refine ⟨fun k_l hk => (hm.1 k_l hk).trans (hc.1 k_l hk).symm, ⟨Vg_k hg.1 (fun k_l hk => (hm.1 k_l hk).symm), Vp_k hg.2 (fun k_l hk => (hm.1 k_l hk).symm)⟩, by rw [e13_l]; exact h13, fun i_l j_l hi_l hj => ?_⟩
  rw [e13_l] at hi_l ⊢
  rw [hm.2 i_l j_l hi_l hj, hc.2 i_l j_l hi_l hj]
/-- what leaves a side alone keeps it -/
theorem Csw_e (h : Csw s B C V L) (h2 : ∀ a k, B ≤ a → a < B + 6 → gI t a k = gI s a k) (h3 : ∀ a k, C ≤ a → a < C + 12 → gI t a k = gI s a k) : Csw t B C V L := by
  refine ⟨fun k hk => ?_, fun i_l j_l hi_l hj => (h3 (C + 5) _ (by omega) (by omega)).trans (h.2 i_l j_l hi_l hj)⟩
  have e1_l : cv t B C k = cv s B C k := by
    rcases pa_in (B := B) (C := C) hk.1 with c_l | c_l
    · exact h2 _ _ c_l.1 c_l.2
    · exact h3 _ _ c_l.1 c_l.2
  rw [e1_l]
  exact h.1 k hk
theorem Msw_e (h : Msw s R O V L) (h13 : V 13 ≤ 60) (h1 : ∀ k, k < 340 → gI t R (O + k) = gI s R (O + k)) : Msw t R O V L := by
  refine ⟨fun k hk => (h1 k (by have := hk.1; omega)).trans (h.1 k hk), fun i_l j_l hi_l hj => ?_⟩
  rw [show O + 100 + 4 * i_l + j_l = O + (100 + 4 * i_l + j_l) by omega, h1 _ (by omega), show O + (100 + 4 * i_l + j_l) = O + 100 + 4 * i_l + j_l by omega]
  exact h.2 i_l j_l hi_l hj
end Sd
