theorem es_mall (n : Nat) (hn : n < 196) : es_mck n = true := by
  by_cases h0 : n < 13
  · exact List.all_eq_true.mp es_mk0 n (List.mem_range'_1.mpr ⟨by omega, by omega⟩)
  by_cases h13 : n < 26
  · exact List.all_eq_true.mp es_mk13 n (List.mem_range'_1.mpr ⟨by omega, by omega⟩)
  by_cases h26 : n < 39
  · exact List.all_eq_true.mp es_mk26 n (List.mem_range'_1.mpr ⟨by omega, by omega⟩)
  by_cases h39 : n < 52
  · exact List.all_eq_true.mp es_mk39 n (List.mem_range'_1.mpr ⟨by omega, by omega⟩)
  by_cases h52 : n < 65
  · exact List.all_eq_true.mp es_mk52 n (List.mem_range'_1.mpr ⟨by omega, by omega⟩)
  by_cases h65 : n < 78
  · exact List.all_eq_true.mp es_mk65 n (List.mem_range'_1.mpr ⟨by omega, by omega⟩)
  by_cases h78 : n < 91
  · exact List.all_eq_true.mp es_mk78 n (List.mem_range'_1.mpr ⟨by omega, by omega⟩)
  by_cases h91 : n < 104
  · exact List.all_eq_true.mp es_mk91 n (List.mem_range'_1.mpr ⟨by omega, by omega⟩)
  by_cases h104 : n < 117
  · exact List.all_eq_true.mp es_mk104 n (List.mem_range'_1.mpr ⟨by omega, by omega⟩)
  by_cases h117 : n < 130
  · exact List.all_eq_true.mp es_mk117 n (List.mem_range'_1.mpr ⟨by omega, by omega⟩)
  by_cases h130 : n < 143
  · exact List.all_eq_true.mp es_mk130 n (List.mem_range'_1.mpr ⟨by omega, by omega⟩)
  by_cases h143 : n < 156
  · exact List.all_eq_true.mp es_mk143 n (List.mem_range'_1.mpr ⟨by omega, by omega⟩)
  by_cases h156 : n < 169
  · exact List.all_eq_true.mp es_mk156 n (List.mem_range'_1.mpr ⟨by omega, by omega⟩)
  by_cases h169 : n < 182
  · exact List.all_eq_true.mp es_mk169 n (List.mem_range'_1.mpr ⟨by omega, by omega⟩)
  by_cases h182 : n < 194
  · exact List.all_eq_true.mp es_mk182 n (List.mem_range'_1.mpr ⟨by omega, by omega⟩)
  by_cases h194 : n < 195
  · exact List.all_eq_true.mp es_mk194 n (List.mem_range'_1.mpr ⟨by omega, by omega⟩)
  by_cases h195 : n < 196
  · exact List.all_eq_true.mp es_mk195 n (List.mem_range'_1.mpr ⟨by omega, by omega⟩)
  omega
