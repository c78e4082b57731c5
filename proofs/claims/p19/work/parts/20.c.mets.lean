noncomputable def ez_mk (n : Nat) : Bool := ((decide (es_own (es_ME0 n) = (es_y (es_ME0 n)).cls) && plainName (es_y (es_ME0 n)).cls) && (ez_dk (es_ME0 n) && (es_tab (es_ME0 n)).all (fun q => q.2.all (ez_e3 n (es_ME0 n))))) && ((es_hh (es_ME0 n)).all (es_hchk (es_ME0 n)) && ew_gd (es_cw (es_ME0 n)))
theorem ez_mk0 : (List.range' 0 25).all ez_mk = true := by decide +kernel
theorem ez_mk25 : (List.range' 25 24).all ez_mk = true := by decide +kernel
theorem ez_mk49 : (List.range' 49 21).all ez_mk = true := by decide +kernel
theorem ez_mk70 : (List.range' 70 20).all ez_mk = true := by decide +kernel
theorem ez_mk90 : (List.range' 90 22).all ez_mk = true := by decide +kernel
theorem ez_mk112 : (List.range' 112 26).all ez_mk = true := by decide +kernel
theorem ez_mk138 : (List.range' 138 36).all ez_mk = true := by decide +kernel
theorem ez_mk174 : (List.range' 174 15).all ez_mk = true := by decide +kernel
theorem ez_mk189 : (List.range' 189 17).all ez_mk = true := by decide +kernel
theorem ez_mk206 : (List.range' 206 16).all ez_mk = true := by decide +kernel
theorem ez_mk222 : (List.range' 222 16).all ez_mk = true := by decide +kernel
theorem ez_mk238 : (List.range' 238 11).all ez_mk = true := by decide +kernel
theorem ez_mk249 : (List.range' 249 31).all ez_mk = true := by decide +kernel
theorem ez_mk280 : (List.range' 280 31).all ez_mk = true := by decide +kernel
