theorem es_mall (n : Nat) (hn : n < 196) : es_mck n = true := by
  by_cases hl : n = 194
  · rw [hl]; exact ez_lpm
  by_cases h0 : n < 13
  · exact ez_mc_ok (List.all_eq_true.mp ez_mk0 n (List.mem_range'_1.mpr ⟨by omega, by omega⟩))
  by_cases h13 : n < 26
  · exact ez_mc_ok (List.all_eq_true.mp ez_mk13 n (List.mem_range'_1.mpr ⟨by omega, by omega⟩))
  by_cases h26 : n < 39
  · exact ez_mc_ok (List.all_eq_true.mp ez_mk26 n (List.mem_range'_1.mpr ⟨by omega, by omega⟩))
  by_cases h39 : n < 52
  · exact ez_mc_ok (List.all_eq_true.mp ez_mk39 n (List.mem_range'_1.mpr ⟨by omega, by omega⟩))
  by_cases h52 : n < 65
  · exact ez_mc_ok (List.all_eq_true.mp ez_mk52 n (List.mem_range'_1.mpr ⟨by omega, by omega⟩))
  by_cases h65 : n < 78
  · exact ez_mc_ok (List.all_eq_true.mp ez_mk65 n (List.mem_range'_1.mpr ⟨by omega, by omega⟩))
  by_cases h78 : n < 91
  · exact ez_mc_ok (List.all_eq_true.mp ez_mk78 n (List.mem_range'_1.mpr ⟨by omega, by omega⟩))
  by_cases h91 : n < 104
  · exact ez_mc_ok (List.all_eq_true.mp ez_mk91 n (List.mem_range'_1.mpr ⟨by omega, by omega⟩))
  by_cases h104 : n < 117
  · exact ez_mc_ok (List.all_eq_true.mp ez_mk104 n (List.mem_range'_1.mpr ⟨by omega, by omega⟩))
  by_cases h117 : n < 130
  · exact ez_mc_ok (List.all_eq_true.mp ez_mk117 n (List.mem_range'_1.mpr ⟨by omega, by omega⟩))
  by_cases h130 : n < 143
  · exact ez_mc_ok (List.all_eq_true.mp ez_mk130 n (List.mem_range'_1.mpr ⟨by omega, by omega⟩))
  by_cases h143 : n < 156
  · exact ez_mc_ok (List.all_eq_true.mp ez_mk143 n (List.mem_range'_1.mpr ⟨by omega, by omega⟩))
  by_cases h156 : n < 169
  · exact ez_mc_ok (List.all_eq_true.mp ez_mk156 n (List.mem_range'_1.mpr ⟨by omega, by omega⟩))
  by_cases h169 : n < 182
  · exact ez_mc_ok (List.all_eq_true.mp ez_mk169 n (List.mem_range'_1.mpr ⟨by omega, by omega⟩))
  by_cases h182 : n < 194
  · exact ez_mc_ok (List.all_eq_true.mp ez_mk182 n (List.mem_range'_1.mpr ⟨by omega, by omega⟩))
  by_cases h195 : n < 196
  · exact ez_mc_ok (List.all_eq_true.mp ez_mk195 n (List.mem_range'_1.mpr ⟨by omega, by omega⟩))
  omega
