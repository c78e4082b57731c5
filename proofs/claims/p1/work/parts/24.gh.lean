theorem es_ME_hi {n : Nat} (h : 196 ≤ n) : es_ME n = em_0 ∧ es_CT n = [] := by
  have h1 : 14 ≤ n / 14 := by omega
  have h2 : em_l[n / 14]? = none := List.getElem?_eq_none h1
  have h3 : ec_l[n / 14]? = none := List.getElem?_eq_none h1
  unfold es_ME es_CT
  rw [h2, h3]
  exact ⟨rfl, rfl⟩
theorem es_ME_0 : es_ME 0 = em_0 := rfl
theorem es_mT (n : Nat) : ∃ k, es_mck k = true ∧ es_ME n = es_ME k ∧ (es_CT n = es_CT k ∨ es_CT n = []) := by
  by_cases h : n < 196
  · exact ⟨n, es_mall n h, rfl, Or.inl rfl⟩
  · obtain ⟨h1, h2⟩ := es_ME_hi (n := n) (by omega)
    exact ⟨0, es_mall 0 (by omega), h1.trans es_ME_0.symm, Or.inr h2⟩
theorem es_mfacts {k : Nat} (h : es_mck k = true) : (es_own (es_ME k) = (es_y (es_ME k)).cls ∧ plainName (es_y (es_ME k)).cls = true) ∧ (∀ q ∈ es_tab (es_ME k), ∀ E ∈ q.2, es_echk (es_ME k) E = true) ∧ (∀ q ∈ es_hh (es_ME k), es_hchk (es_ME k) q = true) ∧ (es_lo (es_ME k) ≤ 84000 ∧ (es_lo (es_ME k) < 84000 → es_cw (es_ME k) ∈ es_WS)) ∧ ∀ q ∈ es_CT k, ∀ x ∈ q.2, es_qq (es_at (es_tab (es_ME k)) x.1) x = true := by
  unfold es_mck es_mchk at h
  simp only [Bool.and_eq_true, Bool.or_eq_true, Nat.ble_eq] at h
  obtain ⟨⟨⟨h1, h2⟩, h3, h4⟩, ⟨h5, h6⟩, h7⟩ := h
  refine ⟨⟨of_decide_eq_true h1, h2⟩, fun q hq E hE => List.all_eq_true.mp (List.all_eq_true.mp h3 q hq) E hE, fun q hq => List.all_eq_true.mp h4 q hq, ⟨h5, fun h8 => ?_⟩, fun q hq x hx => List.all_eq_true.mp (List.all_eq_true.mp h7 q hq) x hx⟩
  rcases h6 with h6 | h6
  · exact absurd h6 (by omega)
  · exact es_wj_in h6
theorem es_G0 : es_GH es_strs es_wx es_WS es_ME := by
  refine ⟨es_WSg, es_uall, es_wxo, fun M => ?_, fun M => ?_, fun M => ?_, fun M => ?_⟩
  · obtain ⟨k, hk, e, -⟩ := es_mT M
    obtain ⟨h1, h2, -⟩ := es_mfacts hk
    rw [e]
    refine ⟨h1, fun q hq E hE => ?_, fun q hq E hE => ?_⟩
    · have h3 := h2 q hq E hE
      unfold es_echk at h3
      simp only [Bool.and_eq_true] at h3
      exact es_twb_ok h3.2.2
    · have h3 := h2 q hq E hE
      unfold es_echk at h3
      simp only [Bool.and_eq_true] at h3
      exact h3.1
  · obtain ⟨k, hk, e, -⟩ := es_mT M
    obtain ⟨-, -, -, h4, -⟩ := es_mfacts hk
    rw [e]
    exact h4
  · obtain ⟨k, hk, e, -⟩ := es_mT M
    obtain ⟨-, h2, -⟩ := es_mfacts hk
    rw [e]
    intro q hq E hE
    have h3 := h2 q hq E hE
    unfold es_echk at h3
    simp only [Bool.and_eq_true] at h3
    exact h3.2.1
  · obtain ⟨k, hk, e, -⟩ := es_mT M
    obtain ⟨-, -, h3, -⟩ := es_mfacts hk
    rw [e]
    intro q hq
    have h4 := h3 q hq
    unfold es_hchk at h4
    simp only [Bool.and_eq_true, es_blt] at h4
    obtain ⟨⟨h5, h6⟩, h7⟩ := h4
    refine ⟨fun e0 => ?_, h6, es_wj_in h7⟩
    rw [es_beq.mpr e0] at h5
    cases h5
theorem es_C0 : ∀ M, ∀ q ∈ es_CT M, ∀ x ∈ q.2, es_qq (es_at (es_tab (es_ME M)) x.1) x = true := by
  intro M
  obtain ⟨k, hk, e, e2⟩ := es_mT M
  obtain ⟨-, -, -, -, h5⟩ := es_mfacts hk
  rcases e2 with e2 | e2
  · rw [e, e2]; exact h5
  · rw [e2]; intro q hq; cases hq
