theorem ez_all (n : Nat) (hn : n < 311) : ez_mk n = true := by
  by_cases h0 : n < 25
  · exact List.all_eq_true.mp ez_mk0 n (List.mem_range'_1.mpr ⟨by omega, by omega⟩)
  by_cases h25 : n < 49
  · exact List.all_eq_true.mp ez_mk25 n (List.mem_range'_1.mpr ⟨by omega, by omega⟩)
  by_cases h49 : n < 70
  · exact List.all_eq_true.mp ez_mk49 n (List.mem_range'_1.mpr ⟨by omega, by omega⟩)
  by_cases h70 : n < 90
  · exact List.all_eq_true.mp ez_mk70 n (List.mem_range'_1.mpr ⟨by omega, by omega⟩)
  by_cases h90 : n < 112
  · exact List.all_eq_true.mp ez_mk90 n (List.mem_range'_1.mpr ⟨by omega, by omega⟩)
  by_cases h112 : n < 138
  · exact List.all_eq_true.mp ez_mk112 n (List.mem_range'_1.mpr ⟨by omega, by omega⟩)
  by_cases h138 : n < 174
  · exact List.all_eq_true.mp ez_mk138 n (List.mem_range'_1.mpr ⟨by omega, by omega⟩)
  by_cases h174 : n < 189
  · exact List.all_eq_true.mp ez_mk174 n (List.mem_range'_1.mpr ⟨by omega, by omega⟩)
  by_cases h189 : n < 206
  · exact List.all_eq_true.mp ez_mk189 n (List.mem_range'_1.mpr ⟨by omega, by omega⟩)
  by_cases h206 : n < 222
  · exact List.all_eq_true.mp ez_mk206 n (List.mem_range'_1.mpr ⟨by omega, by omega⟩)
  by_cases h222 : n < 238
  · exact List.all_eq_true.mp ez_mk222 n (List.mem_range'_1.mpr ⟨by omega, by omega⟩)
  by_cases h238 : n < 249
  · exact List.all_eq_true.mp ez_mk238 n (List.mem_range'_1.mpr ⟨by omega, by omega⟩)
  by_cases h249 : n < 280
  · exact List.all_eq_true.mp ez_mk249 n (List.mem_range'_1.mpr ⟨by omega, by omega⟩)
  by_cases h280 : n < 311
  · exact List.all_eq_true.mp ez_mk280 n (List.mem_range'_1.mpr ⟨by omega, by omega⟩)
  omega
theorem es_ME_hi {n : Nat} (h : 311 ≤ n) (h2 : n ≠ 511) : es_ME0 n = es_ME0 0 := by
  have h1 : em_l[n / 16]? = none ∨ ∃ r, em_l[n / 16]? = some r ∧ r[n % 16]? = none := by
    by_cases h3 : n < 320
    · right
      have e1 : n / 16 = 19 := by omega
      have e2 : 7 ≤ n % 16 := by omega
      rw [e1]
      exact ⟨_, rfl, List.getElem?_eq_none e2⟩
    · left
      exact List.getElem?_eq_none (by show 20 ≤ n / 16; omega)
  show (bif Nat.beq n 511 then em_511 else match em_l[n / 16]? with
    | some r => match r[n % 16]? with
      | some x => x
      | none => em_0
    | none => em_0) = em_0
  rw [es_beqf.mpr h2]
  rcases h1 with h1 | ⟨r, h1, h3⟩
  · rw [h1]; rfl
  · rw [h1]; dsimp only [cond_false]; rw [h3]
theorem es_ME_511 : es_ME0 511 = em_511 := rfl
/-- what holds of the rows of a number below 512 -/
noncomputable def ez_ok (n : Nat) (T : es_M) : Prop := (es_own T = (es_y T).cls ∧ plainName (es_y T).cls = true) ∧ (∀ q ∈ es_tab T, ∀ E ∈ q.2, es_dok T E = true ∧ ez_e2 n T E = true) ∧ (∀ q ∈ es_hh T, es_hchk T q = true) ∧ (n ≠ 511 → es_cw T ∈ es_WS)
theorem ez_ok0 {n : Nat} (hn : n < 311) (h : ez_mk n = true) : ez_ok n (es_ME0 n) := by
  unfold ez_mk at h
  simp only [Bool.and_eq_true] at h
  obtain ⟨⟨⟨h1, h2⟩, h3, h4⟩, h5, h6⟩ := h
  exact ⟨⟨of_decide_eq_true h1, h2⟩, fun q hq E hE => ⟨ez_dk_ok h3 q hq E hE, ez_e3_all h4 q hq E hE⟩, fun q hq => List.all_eq_true.mp h5 q hq, fun _ => List.mem_filter.mpr ⟨ez_call n hn, h6⟩⟩
theorem ez_cal0 (M M' : Nat) : es_M1 (es_cal M M') = es_ME0 (M' % 512) := by
  unfold es_M1 es_cal
  rw [show (M' % 512 + 512 * (M / 512 - 1)) % 512 = M' % 512 by omega]
theorem ez_cok_M {M N : Nat} {E : es_I} (ho : es_own (es_M1 M) = es_own (es_M1 N)) : es_cok es_M1 es_WS es_wx M E = es_cok es_M1 es_WS es_wx N E := by
  unfold es_cok
  simp only [ez_cal0, ho]
theorem ez_ok1 (n : Nat) (hn : n < 512) : ez_ok n (es_ME0 n) := by
  by_cases h1 : n = 511
  · subst h1
    rw [es_ME_511]
    have h2 := ez_lpr
    rw [Bool.and_eq_true] at h2
    exact ⟨⟨of_decide_eq_true h2.1, h2.2⟩, fun q hq E hE => ⟨ez_dk_ok ez_lpd q hq E hE, ez_e3_all ez_lpb q hq E hE⟩, fun q hq => (by cases hq), fun h => absurd rfl h⟩
  · by_cases h2 : n < 311
    · exact ez_ok0 h2 (ez_all n h2)
    · have e := es_ME_hi (n := n) (by omega) h1
      have h3 := ez_ok0 (n := 0) (by omega) (ez_all 0 (by omega))
      rw [← e] at h3
      refine ⟨h3.1, fun q hq E hE => ⟨(h3.2.1 q hq E hE).1, ?_⟩, h3.2.2.1, fun _ => h3.2.2.2 (by omega)⟩
      have h4 := (h3.2.1 q hq E hE).2
      unfold ez_e2 at h4 ⊢
      rw [ez_cok_M (M := n) (N := 0) (by unfold es_M1; rw [Nat.mod_eq_of_lt hn, Nat.mod_eq_of_lt (show 0 < 512 by omega), e])]
      exact h4
theorem ez_cok_g (M : Nat) (E : es_I) : es_cok (gME es_ME0) es_WS es_wx M E = es_cok es_M1 es_WS es_wx (M % 512) E := by
  have hy : ∀ M', es_y (gME es_ME0 (es_cal M M')) = es_y (es_M1 (es_cal (M % 512) M')) ∧ es_hh (gME es_ME0 (es_cal M M')) = es_hh (es_M1 (es_cal (M % 512) M')) ∧ es_rt (gME es_ME0 (es_cal M M')) = es_rt (es_M1 (es_cal (M % 512) M')) := fun M' => by
    rw [ez_cal0]
    have e : gME es_ME0 (es_cal M M') = gdp (es_cal M M' / 512) (es_ME0 (M' % 512)) := by
      unfold gME es_cal
      rw [show (M' % 512 + 512 * (M / 512 - 1)) % 512 = M' % 512 by omega]
    rw [e]
    exact ⟨rfl, rfl, rfl⟩
  have ho : es_own (gME es_ME0 M) = es_own (es_M1 (M % 512)) := by
    unfold es_M1 gME
    rw [Nat.mod_mod]
    rfl
  unfold es_cok
  simp only [(hy _).1, (hy _).2.1, (hy _).2.2, ho]
theorem es_G0 : es_GH es_strs es_wx es_WS (gME es_ME0) := by
  refine ⟨es_WSg, es_uall, es_wxo, fun M => ?_, fun M => ?_, fun M => ?_, fun M => ?_⟩
  · obtain ⟨h1, h2, -⟩ := ez_ok1 (M % 512) (Nat.mod_lt _ (by decide))
    refine ⟨h1, fun q hq E hE => ?_, fun q hq E hE => ?_⟩
    · have h3 := (h2 q hq E hE).2
      unfold ez_e2 at h3
      simp only [Bool.and_eq_true] at h3
      exact es_twb_ok h3.2.2.1
    · have h3 := (h2 q hq E hE).2
      unfold ez_e2 at h3
      simp only [Bool.and_eq_true] at h3
      exact ⟨(h2 q hq E hE).1, h3.1⟩
  · intro hcx
    obtain ⟨-, -, -, h4⟩ := ez_ok1 (M % 512) (Nat.mod_lt _ (by decide))
    refine h4 (fun e => ?_)
    unfold es_cx at hcx
    rw [e] at hcx
    cases hcx
  · intro q hq E hE
    obtain ⟨-, h2, -⟩ := ez_ok1 (M % 512) (Nat.mod_lt _ (by decide))
    have h3 := (h2 q hq E hE).2
    unfold ez_e2 at h3
    simp only [Bool.and_eq_true] at h3
    exact ⟨⟨h3.2.1.1, by rw [ez_cok_g]; exact h3.2.1.2⟩, h3.2.2.2⟩
  · intro q hq
    obtain ⟨-, -, h3, -⟩ := ez_ok1 (M % 512) (Nat.mod_lt _ (by decide))
    have h4 := h3 q hq
    unfold es_hchk at h4
    simp only [Bool.and_eq_true, es_blt] at h4
    obtain ⟨⟨h5, h6⟩, h7⟩ := h4
    refine ⟨fun e0 => ?_, h6, es_wj_in h7⟩
    rw [es_beq.mpr e0] at h5
    cases h5
