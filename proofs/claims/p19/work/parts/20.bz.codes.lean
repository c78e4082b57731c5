set_option maxRecDepth 100000 in
theorem ez_c0 : es_cw (es_ME0 0) ∈ lw_tbl := List.mem_append_right _ (List.mem_append_left _ (List.mem_of_getElem? (i := 111) rfl))
set_option maxRecDepth 100000 in
theorem ez_c1 : es_cw (es_ME0 1) ∈ lw_tbl := List.mem_append_right _ (List.mem_append_right _ (List.mem_append_right _ (List.mem_append_left _ (List.mem_of_getElem? (i := 20) rfl))))
set_option maxRecDepth 100000 in
theorem ez_c2 : es_cw (es_ME0 2) ∈ lw_tbl := List.mem_append_right _ (List.mem_append_right _ (List.mem_append_right _ (List.mem_append_left _ (List.mem_of_getElem? (i := 141) rfl))))
set_option maxRecDepth 100000 in
theorem ez_c3 : es_cw (es_ME0 3) ∈ lw_tbl := List.mem_append_right _ (List.mem_append_right _ (List.mem_append_right _ (List.mem_append_left _ (List.mem_of_getElem? (i := 171) rfl))))
set_option maxRecDepth 100000 in
theorem ez_c4 : es_cw (es_ME0 4) ∈ lw_tbl := List.mem_append_right _ (List.mem_append_right _ (List.mem_append_right _ (List.mem_append_right _ (List.mem_append_right _ (List.mem_append_left _ (List.mem_of_getElem? (i := 90) rfl))))))
set_option maxRecDepth 100000 in
theorem ez_c5 : es_cw (es_ME0 5) ∈ lw_tbl := List.mem_append_right _ (List.mem_append_right _ (List.mem_append_right _ (List.mem_append_right _ (List.mem_append_right _ (List.mem_append_right _ (List.mem_append_left _ (List.mem_of_getElem? (i := 14) rfl)))))))
set_option maxRecDepth 100000 in
theorem ez_c6 : es_cw (es_ME0 6) ∈ lw_tbl := List.mem_append_right _ (List.mem_append_right _ (List.mem_append_right _ (List.mem_append_right _ (List.mem_append_right _ (List.mem_append_right _ (List.mem_append_left _ (List.mem_of_getElem? (i := 32) rfl)))))))
set_option maxRecDepth 100000 in
theorem ez_c7 : es_cw (es_ME0 7) ∈ lw_tbl := List.mem_append_right _ (List.mem_append_right _ (List.mem_append_right _ (List.mem_append_right _ (List.mem_append_left _ (List.mem_of_getElem? (i := 238) rfl)))))
set_option maxRecDepth 100000 in
theorem ez_c8 : es_cw (es_ME0 8) ∈ lw_tbl := List.mem_append_right _ (List.mem_append_right _ (List.mem_append_right _ (List.mem_append_right _ (List.mem_append_right _ (List.mem_append_left _ (List.mem_of_getElem? (i := 2) rfl))))))
set_option maxRecDepth 100000 in
theorem ez_c9 : es_cw (es_ME0 9) ∈ lw_tbl := List.mem_append_right _ (List.mem_append_right _ (List.mem_append_right _ (List.mem_append_right _ (List.mem_append_right _ (List.mem_append_left _ (List.mem_of_getElem? (i := 6) rfl))))))
set_option maxRecDepth 100000 in
theorem ez_c10 : es_cw (es_ME0 10) ∈ lw_tbl := List.mem_append_right _ (List.mem_append_left _ (List.mem_of_getElem? (i := 85) rfl))
set_option maxRecDepth 100000 in
theorem ez_c11 : es_cw (es_ME0 11) ∈ lw_tbl := List.mem_append_right _ (List.mem_append_right _ (List.mem_append_right _ (List.mem_append_left _ (List.mem_of_getElem? (i := 47) rfl))))
set_option maxRecDepth 100000 in
theorem ez_c12 : es_cw (es_ME0 12) ∈ lw_tbl := List.mem_append_right _ (List.mem_append_right _ (List.mem_append_right _ (List.mem_append_left _ (List.mem_of_getElem? (i := 63) rfl))))
set_option maxRecDepth 100000 in
theorem ez_c13 : es_cw (es_ME0 13) ∈ lw_tbl := List.mem_append_right _ (List.mem_append_right _ (List.mem_append_right _ (List.mem_append_left _ (List.mem_of_getElem? (i := 126) rfl))))
set_option maxRecDepth 100000 in
theorem ez_c14 : es_cw (es_ME0 14) ∈ lw_tbl := List.mem_append_right _ (List.mem_append_right _ (List.mem_append_right _ (List.mem_append_left _ (List.mem_of_getElem? (i := 153) rfl))))
set_option maxRecDepth 100000 in
theorem ez_c15 : es_cw (es_ME0 15) ∈ lw_tbl := List.mem_append_right _ (List.mem_append_right _ (List.mem_append_right _ (List.mem_append_left _ (List.mem_of_getElem? (i := 120) rfl))))
set_option maxRecDepth 100000 in
theorem ez_c16 : es_cw (es_ME0 16) ∈ lw_tbl := List.mem_append_right _ (List.mem_append_right _ (List.mem_append_right _ (List.mem_append_left _ (List.mem_of_getElem? (i := 146) rfl))))
set_option maxRecDepth 100000 in
theorem ez_c17 : es_cw (es_ME0 17) ∈ lw_tbl := List.mem_append_right _ (List.mem_append_right _ (List.mem_append_right _ (List.mem_append_left _ (List.mem_of_getElem? (i := 166) rfl))))
set_option maxRecDepth 100000 in
theorem ez_c18 : es_cw (es_ME0 18) ∈ lw_tbl := List.mem_append_right _ (List.mem_append_right _ (List.mem_append_right _ (List.mem_append_left _ (List.mem_of_getElem? (i := 176) rfl))))
set_option maxRecDepth 100000 in
theorem ez_c19 : es_cw (es_ME0 19) ∈ lw_tbl := List.mem_append_right _ (List.mem_append_right _ (List.mem_append_right _ (List.mem_append_left _ (List.mem_of_getElem? (i := 185) rfl))))
set_option maxRecDepth 100000 in
theorem ez_c20 : es_cw (es_ME0 20) ∈ lw_tbl := List.mem_append_right _ (List.mem_append_right _ (List.mem_append_right _ (List.mem_append_left _ (List.mem_of_getElem? (i := 189) rfl))))
set_option maxRecDepth 100000 in
theorem ez_c21 : es_cw (es_ME0 21) ∈ lw_tbl := List.mem_append_right _ (List.mem_append_left _ (List.mem_of_getElem? (i := 183) rfl))
set_option maxRecDepth 100000 in
theorem ez_c22 : es_cw (es_ME0 22) ∈ lw_tbl := List.mem_append_right _ (List.mem_append_right _ (List.mem_append_left _ (List.mem_of_getElem? (i := 236) rfl)))
set_option maxRecDepth 100000 in
theorem ez_c23 : es_cw (es_ME0 23) ∈ lw_tbl := List.mem_append_right _ (List.mem_append_right _ (List.mem_append_right _ (List.mem_append_left _ (List.mem_of_getElem? (i := 0) rfl))))
set_option maxRecDepth 100000 in
theorem ez_c24 : es_cw (es_ME0 24) ∈ lw_tbl := List.mem_append_right _ (List.mem_append_right _ (List.mem_append_right _ (List.mem_append_left _ (List.mem_of_getElem? (i := 161) rfl))))
set_option maxRecDepth 100000 in
theorem ez_c25 : es_cw (es_ME0 25) ∈ lw_tbl := List.mem_append_right _ (List.mem_append_right _ (List.mem_append_right _ (List.mem_append_left _ (List.mem_of_getElem? (i := 180) rfl))))
set_option maxRecDepth 100000 in
theorem ez_c26 : es_cw (es_ME0 26) ∈ lw_tbl := List.mem_append_right _ (List.mem_append_right _ (List.mem_append_right _ (List.mem_append_right _ (List.mem_append_right _ (List.mem_append_left _ (List.mem_of_getElem? (i := 85) rfl))))))
set_option maxRecDepth 100000 in
theorem ez_c27 : es_cw (es_ME0 27) ∈ lw_tbl := List.mem_append_right _ (List.mem_append_right _ (List.mem_append_right _ (List.mem_append_right _ (List.mem_append_right _ (List.mem_append_left _ (List.mem_of_getElem? (i := 136) rfl))))))
set_option maxRecDepth 100000 in
theorem ez_c28 : es_cw (es_ME0 28) ∈ lw_tbl := List.mem_append_right _ (List.mem_append_right _ (List.mem_append_right _ (List.mem_append_right _ (List.mem_append_right _ (List.mem_append_left _ (List.mem_of_getElem? (i := 140) rfl))))))
set_option maxRecDepth 100000 in
theorem ez_c29 : es_cw (es_ME0 29) ∈ lw_tbl := List.mem_append_right _ (List.mem_append_right _ (List.mem_append_left _ (List.mem_of_getElem? (i := 224) rfl)))
set_option maxRecDepth 100000 in
theorem ez_c30 : es_cw (es_ME0 30) ∈ lw_tbl := List.mem_append_right _ (List.mem_append_right _ (List.mem_append_right _ (List.mem_append_left _ (List.mem_of_getElem? (i := 33) rfl))))
set_option maxRecDepth 100000 in
theorem ez_c31 : es_cw (es_ME0 31) ∈ lw_tbl := List.mem_append_right _ (List.mem_append_right _ (List.mem_append_right _ (List.mem_append_right _ (List.mem_append_left _ (List.mem_of_getElem? (i := 174) rfl)))))
set_option maxRecDepth 100000 in
theorem ez_c32 : es_cw (es_ME0 32) ∈ lw_tbl := List.mem_append_right _ (List.mem_append_right _ (List.mem_append_left _ (List.mem_of_getElem? (i := 202) rfl)))
set_option maxRecDepth 100000 in
theorem ez_c33 : es_cw (es_ME0 33) ∈ lw_tbl := List.mem_append_right _ (List.mem_append_left _ (List.mem_of_getElem? (i := 69) rfl))
set_option maxRecDepth 100000 in
theorem ez_c34 : es_cw (es_ME0 34) ∈ lw_tbl := List.mem_append_right _ (List.mem_append_right _ (List.mem_append_right _ (List.mem_append_right _ (List.mem_append_left _ (List.mem_of_getElem? (i := 206) rfl)))))
set_option maxRecDepth 100000 in
theorem ez_c35 : es_cw (es_ME0 35) ∈ lw_tbl := List.mem_append_right _ (List.mem_append_right _ (List.mem_append_right _ (List.mem_append_right _ (List.mem_append_left _ (List.mem_of_getElem? (i := 210) rfl)))))
set_option maxRecDepth 100000 in
theorem ez_c36 : es_cw (es_ME0 36) ∈ lw_tbl := List.mem_append_right _ (List.mem_append_right _ (List.mem_append_right _ (List.mem_append_right _ (List.mem_append_left _ (List.mem_of_getElem? (i := 214) rfl)))))
set_option maxRecDepth 100000 in
theorem ez_c37 : es_cw (es_ME0 37) ∈ lw_tbl := List.mem_append_right _ (List.mem_append_right _ (List.mem_append_right _ (List.mem_append_right _ (List.mem_append_left _ (List.mem_of_getElem? (i := 218) rfl)))))
set_option maxRecDepth 100000 in
theorem ez_c38 : es_cw (es_ME0 38) ∈ lw_tbl := List.mem_append_right _ (List.mem_append_right _ (List.mem_append_right _ (List.mem_append_right _ (List.mem_append_left _ (List.mem_of_getElem? (i := 226) rfl)))))
set_option maxRecDepth 100000 in
theorem ez_c39 : es_cw (es_ME0 39) ∈ lw_tbl := List.mem_append_right _ (List.mem_append_right _ (List.mem_append_right _ (List.mem_append_right _ (List.mem_append_left _ (List.mem_of_getElem? (i := 234) rfl)))))
set_option maxRecDepth 100000 in
theorem ez_c40 : es_cw (es_ME0 40) ∈ lw_tbl := List.mem_append_right _ (List.mem_append_right _ (List.mem_append_right _ (List.mem_append_right _ (List.mem_append_left _ (List.mem_of_getElem? (i := 230) rfl)))))
set_option maxRecDepth 100000 in
theorem ez_c41 : es_cw (es_ME0 41) ∈ lw_tbl := List.mem_append_right _ (List.mem_append_right _ (List.mem_append_right _ (List.mem_append_right _ (List.mem_append_left _ (List.mem_of_getElem? (i := 222) rfl)))))
set_option maxRecDepth 100000 in
theorem ez_c42 : es_cw (es_ME0 42) ∈ lw_tbl := List.mem_append_right _ (List.mem_append_right _ (List.mem_append_right _ (List.mem_append_right _ (List.mem_append_left _ (List.mem_of_getElem? (i := 78) rfl)))))
set_option maxRecDepth 100000 in
theorem ez_c43 : es_cw (es_ME0 43) ∈ lw_tbl := List.mem_append_right _ (List.mem_append_left _ (List.mem_of_getElem? (i := 95) rfl))
set_option maxRecDepth 100000 in
theorem ez_c44 : es_cw (es_ME0 44) ∈ lw_tbl := List.mem_append_right _ (List.mem_append_right _ (List.mem_append_right _ (List.mem_append_right _ (List.mem_append_left _ (List.mem_of_getElem? (i := 57) rfl)))))
set_option maxRecDepth 100000 in
theorem ez_c45 : es_cw (es_ME0 45) ∈ lw_tbl := List.mem_append_right _ (List.mem_append_right _ (List.mem_append_right _ (List.mem_append_right _ (List.mem_append_left _ (List.mem_of_getElem? (i := 117) rfl)))))
set_option maxRecDepth 100000 in
theorem ez_c46 : es_cw (es_ME0 46) ∈ lw_tbl := List.mem_append_right _ (List.mem_append_right _ (List.mem_append_right _ (List.mem_append_right _ (List.mem_append_left _ (List.mem_of_getElem? (i := 92) rfl)))))
set_option maxRecDepth 100000 in
theorem ez_c47 : es_cw (es_ME0 47) ∈ lw_tbl := List.mem_append_right _ (List.mem_append_right _ (List.mem_append_right _ (List.mem_append_right _ (List.mem_append_left _ (List.mem_of_getElem? (i := 103) rfl)))))
set_option maxRecDepth 100000 in
theorem ez_c48 : es_cw (es_ME0 48) ∈ lw_tbl := List.mem_append_right _ (List.mem_append_right _ (List.mem_append_right _ (List.mem_append_right _ (List.mem_append_left _ (List.mem_of_getElem? (i := 107) rfl)))))
set_option maxRecDepth 100000 in
theorem ez_c49 : es_cw (es_ME0 49) ∈ lw_tbl := List.mem_append_right _ (List.mem_append_right _ (List.mem_append_right _ (List.mem_append_right _ (List.mem_append_left _ (List.mem_of_getElem? (i := 111) rfl)))))
set_option maxRecDepth 100000 in
theorem ez_c50 : es_cw (es_ME0 50) ∈ lw_tbl := List.mem_append_right _ (List.mem_append_right _ (List.mem_append_right _ (List.mem_append_right _ (List.mem_append_left _ (List.mem_of_getElem? (i := 124) rfl)))))
set_option maxRecDepth 100000 in
theorem ez_c51 : es_cw (es_ME0 51) ∈ lw_tbl := List.mem_append_right _ (List.mem_append_right _ (List.mem_append_right _ (List.mem_append_right _ (List.mem_append_left _ (List.mem_of_getElem? (i := 128) rfl)))))
set_option maxRecDepth 100000 in
theorem ez_c52 : es_cw (es_ME0 52) ∈ lw_tbl := List.mem_append_right _ (List.mem_append_right _ (List.mem_append_right _ (List.mem_append_right _ (List.mem_append_left _ (List.mem_of_getElem? (i := 132) rfl)))))
set_option maxRecDepth 100000 in
theorem ez_c53 : es_cw (es_ME0 53) ∈ lw_tbl := List.mem_append_right _ (List.mem_append_left _ (List.mem_of_getElem? (i := 191) rfl))
set_option maxRecDepth 100000 in
theorem ez_c54 : es_cw (es_ME0 54) ∈ lw_tbl := List.mem_append_right _ (List.mem_append_right _ (List.mem_append_right _ (List.mem_append_left _ (List.mem_of_getElem? (i := 11) rfl))))
set_option maxRecDepth 100000 in
theorem ez_c55 : es_cw (es_ME0 55) ∈ lw_tbl := List.mem_append_right _ (List.mem_append_right _ (List.mem_append_right _ (List.mem_append_right _ (List.mem_append_right _ (List.mem_append_left _ (List.mem_of_getElem? (i := 74) rfl))))))
set_option maxRecDepth 100000 in
theorem ez_c56 : es_cw (es_ME0 56) ∈ lw_tbl := List.mem_append_right _ (List.mem_append_right _ (List.mem_append_right _ (List.mem_append_right _ (List.mem_append_right _ (List.mem_append_right _ (List.mem_append_left _ (List.mem_of_getElem? (i := 174) rfl)))))))
set_option maxRecDepth 100000 in
theorem ez_c57 : es_cw (es_ME0 57) ∈ lw_tbl := List.mem_append_right _ (List.mem_append_right _ (List.mem_append_right _ (List.mem_append_right _ (List.mem_append_right _ (List.mem_append_right _ (List.mem_append_left _ (List.mem_of_getElem? (i := 163) rfl)))))))
set_option maxRecDepth 100000 in
theorem ez_c58 : es_cw (es_ME0 58) ∈ lw_tbl := List.mem_append_right _ (List.mem_append_left _ (List.mem_of_getElem? (i := 204) rfl))
set_option maxRecDepth 100000 in
theorem ez_c59 : es_cw (es_ME0 59) ∈ lw_tbl := List.mem_append_right _ (List.mem_append_right _ (List.mem_append_right _ (List.mem_append_left _ (List.mem_of_getElem? (i := 4) rfl))))
set_option maxRecDepth 100000 in
theorem ez_c60 : es_cw (es_ME0 60) ∈ lw_tbl := List.mem_append_right _ (List.mem_append_right _ (List.mem_append_right _ (List.mem_append_right _ (List.mem_append_right _ (List.mem_append_left _ (List.mem_of_getElem? (i := 68) rfl))))))
set_option maxRecDepth 100000 in
theorem ez_c61 : es_cw (es_ME0 61) ∈ lw_tbl := List.mem_append_right _ (List.mem_append_right _ (List.mem_append_right _ (List.mem_append_right _ (List.mem_append_right _ (List.mem_append_left _ (List.mem_of_getElem? (i := 145) rfl))))))
set_option maxRecDepth 100000 in
theorem ez_c62 : es_cw (es_ME0 62) ∈ lw_tbl := List.mem_append_right _ (List.mem_append_right _ (List.mem_append_left _ (List.mem_of_getElem? (i := 110) rfl)))
set_option maxRecDepth 100000 in
theorem ez_c63 : es_cw (es_ME0 63) ∈ lw_tbl := List.mem_append_right _ (List.mem_append_right _ (List.mem_append_right _ (List.mem_append_right _ (List.mem_append_right _ (List.mem_append_right _ (List.mem_append_left _ (List.mem_of_getElem? (i := 114) rfl)))))))
set_option maxRecDepth 100000 in
theorem ez_c64 : es_cw (es_ME0 64) ∈ lw_tbl := List.mem_append_right _ (List.mem_append_right _ (List.mem_append_right _ (List.mem_append_right _ (List.mem_append_right _ (List.mem_append_right _ (List.mem_append_left _ (List.mem_of_getElem? (i := 121) rfl)))))))
set_option maxRecDepth 100000 in
theorem ez_c65 : es_cw (es_ME0 65) ∈ lw_tbl := List.mem_append_right _ (List.mem_append_right _ (List.mem_append_right _ (List.mem_append_right _ (List.mem_append_right _ (List.mem_append_right _ (List.mem_append_left _ (List.mem_of_getElem? (i := 127) rfl)))))))
set_option maxRecDepth 100000 in
theorem ez_c66 : es_cw (es_ME0 66) ∈ lw_tbl := List.mem_append_right _ (List.mem_append_right _ (List.mem_append_right _ (List.mem_append_right _ (List.mem_append_right _ (List.mem_append_right _ (List.mem_append_left _ (List.mem_of_getElem? (i := 131) rfl)))))))
set_option maxRecDepth 100000 in
theorem ez_c67 : es_cw (es_ME0 67) ∈ lw_tbl := List.mem_append_right _ (List.mem_append_right _ (List.mem_append_left _ (List.mem_of_getElem? (i := 67) rfl)))
set_option maxRecDepth 100000 in
theorem ez_c68 : es_cw (es_ME0 68) ∈ lw_tbl := List.mem_append_right _ (List.mem_append_right _ (List.mem_append_right _ (List.mem_append_right _ (List.mem_append_right _ (List.mem_append_left _ (List.mem_of_getElem? (i := 199) rfl))))))
set_option maxRecDepth 100000 in
theorem ez_c69 : es_cw (es_ME0 69) ∈ lw_tbl := List.mem_append_right _ (List.mem_append_right _ (List.mem_append_right _ (List.mem_append_right _ (List.mem_append_right _ (List.mem_append_left _ (List.mem_of_getElem? (i := 210) rfl))))))
set_option maxRecDepth 100000 in
theorem ez_c70 : es_cw (es_ME0 70) ∈ lw_tbl := List.mem_append_right _ (List.mem_append_right _ (List.mem_append_right _ (List.mem_append_right _ (List.mem_append_right _ (List.mem_append_left _ (List.mem_of_getElem? (i := 214) rfl))))))
set_option maxRecDepth 100000 in
theorem ez_c71 : es_cw (es_ME0 71) ∈ lw_tbl := List.mem_append_right _ (List.mem_append_right _ (List.mem_append_right _ (List.mem_append_right _ (List.mem_append_right _ (List.mem_append_left _ (List.mem_of_getElem? (i := 219) rfl))))))
set_option maxRecDepth 100000 in
theorem ez_c72 : es_cw (es_ME0 72) ∈ lw_tbl := List.mem_append_right _ (List.mem_append_right _ (List.mem_append_right _ (List.mem_append_right _ (List.mem_append_right _ (List.mem_append_left _ (List.mem_of_getElem? (i := 231) rfl))))))
set_option maxRecDepth 100000 in
theorem ez_c73 : es_cw (es_ME0 73) ∈ lw_tbl := List.mem_append_right _ (List.mem_append_right _ (List.mem_append_right _ (List.mem_append_right _ (List.mem_append_right _ (List.mem_append_left _ (List.mem_of_getElem? (i := 223) rfl))))))
set_option maxRecDepth 100000 in
theorem ez_c74 : es_cw (es_ME0 74) ∈ lw_tbl := List.mem_append_right _ (List.mem_append_right _ (List.mem_append_right _ (List.mem_append_right _ (List.mem_append_right _ (List.mem_append_left _ (List.mem_of_getElem? (i := 236) rfl))))))
set_option maxRecDepth 100000 in
theorem ez_c75 : es_cw (es_ME0 75) ∈ lw_tbl := List.mem_append_right _ (List.mem_append_left _ (List.mem_of_getElem? (i := 43) rfl))
set_option maxRecDepth 100000 in
theorem ez_c76 : es_cw (es_ME0 76) ∈ lw_tbl := List.mem_append_right _ (List.mem_append_right _ (List.mem_append_left _ (List.mem_of_getElem? (i := 179) rfl)))
set_option maxRecDepth 100000 in
theorem ez_c77 : es_cw (es_ME0 77) ∈ lw_tbl := List.mem_append_right _ (List.mem_append_right _ (List.mem_append_right _ (List.mem_append_left _ (List.mem_of_getElem? (i := 51) rfl))))
set_option maxRecDepth 100000 in
theorem ez_c78 : es_cw (es_ME0 78) ∈ lw_tbl := List.mem_append_right _ (List.mem_append_right _ (List.mem_append_right _ (List.mem_append_left _ (List.mem_of_getElem? (i := 55) rfl))))
set_option maxRecDepth 100000 in
theorem ez_c79 : es_cw (es_ME0 79) ∈ lw_tbl := List.mem_append_right _ (List.mem_append_right _ (List.mem_append_right _ (List.mem_append_left _ (List.mem_of_getElem? (i := 59) rfl))))
set_option maxRecDepth 100000 in
theorem ez_c80 : es_cw (es_ME0 80) ∈ lw_tbl := List.mem_append_right _ (List.mem_append_right _ (List.mem_append_right _ (List.mem_append_left _ (List.mem_of_getElem? (i := 68) rfl))))
set_option maxRecDepth 100000 in
theorem ez_c81 : es_cw (es_ME0 81) ∈ lw_tbl := List.mem_append_right _ (List.mem_append_right _ (List.mem_append_right _ (List.mem_append_left _ (List.mem_of_getElem? (i := 200) rfl))))
set_option maxRecDepth 100000 in
theorem ez_c82 : es_cw (es_ME0 82) ∈ lw_tbl := List.mem_append_right _ (List.mem_append_right _ (List.mem_append_right _ (List.mem_append_left _ (List.mem_of_getElem? (i := 130) rfl))))
set_option maxRecDepth 100000 in
theorem ez_c83 : es_cw (es_ME0 83) ∈ lw_tbl := List.mem_append_right _ (List.mem_append_right _ (List.mem_append_right _ (List.mem_append_left _ (List.mem_of_getElem? (i := 196) rfl))))
set_option maxRecDepth 100000 in
theorem ez_c84 : es_cw (es_ME0 84) ∈ lw_tbl := List.mem_append_right _ (List.mem_append_right _ (List.mem_append_right _ (List.mem_append_left _ (List.mem_of_getElem? (i := 135) rfl))))
set_option maxRecDepth 100000 in
theorem ez_c85 : es_cw (es_ME0 85) ∈ lw_tbl := List.mem_append_right _ (List.mem_append_right _ (List.mem_append_right _ (List.mem_append_left _ (List.mem_of_getElem? (i := 157) rfl))))
set_option maxRecDepth 100000 in
theorem ez_c86 : es_cw (es_ME0 86) ∈ lw_tbl := List.mem_append_right _ (List.mem_append_left _ (List.mem_of_getElem? (i := 35) rfl))
set_option maxRecDepth 100000 in
theorem ez_c87 : es_cw (es_ME0 87) ∈ lw_tbl := List.mem_append_right _ (List.mem_append_right _ (List.mem_append_left _ (List.mem_of_getElem? (i := 175) rfl)))
set_option maxRecDepth 100000 in
theorem ez_c88 : es_cw (es_ME0 88) ∈ lw_tbl := List.mem_append_right _ (List.mem_append_right _ (List.mem_append_left _ (List.mem_of_getElem? (i := 183) rfl)))
set_option maxRecDepth 100000 in
theorem ez_c89 : es_cw (es_ME0 89) ∈ lw_tbl := List.mem_append_right _ (List.mem_append_right _ (List.mem_append_right _ (List.mem_append_left _ (List.mem_of_getElem? (i := 42) rfl))))
set_option maxRecDepth 100000 in
theorem ez_c90 : es_cw (es_ME0 90) ∈ lw_tbl := List.mem_append_right _ (List.mem_append_right _ (List.mem_append_right _ (List.mem_append_right _ (List.mem_append_left _ (List.mem_of_getElem? (i := 53) rfl)))))
set_option maxRecDepth 100000 in
theorem ez_c91 : es_cw (es_ME0 91) ∈ lw_tbl := List.mem_append_right _ (List.mem_append_right _ (List.mem_append_left _ (List.mem_of_getElem? (i := 187) rfl)))
set_option maxRecDepth 100000 in
theorem ez_c92 : es_cw (es_ME0 92) ∈ lw_tbl := List.mem_append_right _ (List.mem_append_right _ (List.mem_append_right _ (List.mem_append_right _ (List.mem_append_left _ (List.mem_of_getElem? (i := 150) rfl)))))
set_option maxRecDepth 100000 in
theorem ez_c93 : es_cw (es_ME0 93) ∈ lw_tbl := List.mem_append_right _ (List.mem_append_right _ (List.mem_append_right _ (List.mem_append_right _ (List.mem_append_left _ (List.mem_of_getElem? (i := 197) rfl)))))
set_option maxRecDepth 100000 in
theorem ez_c94 : es_cw (es_ME0 94) ∈ lw_tbl := List.mem_append_right _ (List.mem_append_right _ (List.mem_append_right _ (List.mem_append_right _ (List.mem_append_right _ (List.mem_append_left _ (List.mem_of_getElem? (i := 13) rfl))))))
set_option maxRecDepth 100000 in
theorem ez_c95 : es_cw (es_ME0 95) ∈ lw_tbl := List.mem_append_right _ (List.mem_append_right _ (List.mem_append_right _ (List.mem_append_right _ (List.mem_append_right _ (List.mem_append_left _ (List.mem_of_getElem? (i := 25) rfl))))))
set_option maxRecDepth 100000 in
theorem ez_c96 : es_cw (es_ME0 96) ∈ lw_tbl := List.mem_append_right _ (List.mem_append_right _ (List.mem_append_right _ (List.mem_append_right _ (List.mem_append_right _ (List.mem_append_left _ (List.mem_of_getElem? (i := 38) rfl))))))
set_option maxRecDepth 100000 in
theorem ez_c97 : es_cw (es_ME0 97) ∈ lw_tbl := List.mem_append_right _ (List.mem_append_right _ (List.mem_append_right _ (List.mem_append_right _ (List.mem_append_right _ (List.mem_append_left _ (List.mem_of_getElem? (i := 81) rfl))))))
set_option maxRecDepth 100000 in
theorem ez_c98 : es_cw (es_ME0 98) ∈ lw_tbl := List.mem_append_right _ (List.mem_append_right _ (List.mem_append_right _ (List.mem_append_right _ (List.mem_append_right _ (List.mem_append_left _ (List.mem_of_getElem? (i := 97) rfl))))))
set_option maxRecDepth 100000 in
theorem ez_c99 : es_cw (es_ME0 99) ∈ lw_tbl := List.mem_append_right _ (List.mem_append_right _ (List.mem_append_right _ (List.mem_append_right _ (List.mem_append_right _ (List.mem_append_left _ (List.mem_of_getElem? (i := 105) rfl))))))
set_option maxRecDepth 100000 in
theorem ez_c100 : es_cw (es_ME0 100) ∈ lw_tbl := List.mem_append_right _ (List.mem_append_right _ (List.mem_append_right _ (List.mem_append_right _ (List.mem_append_right _ (List.mem_append_left _ (List.mem_of_getElem? (i := 117) rfl))))))
set_option maxRecDepth 100000 in
theorem ez_c101 : es_cw (es_ME0 101) ∈ lw_tbl := List.mem_append_right _ (List.mem_append_right _ (List.mem_append_right _ (List.mem_append_right _ (List.mem_append_right _ (List.mem_append_left _ (List.mem_of_getElem? (i := 125) rfl))))))
set_option maxRecDepth 100000 in
theorem ez_c102 : es_cw (es_ME0 102) ∈ lw_tbl := List.mem_append_right _ (List.mem_append_right _ (List.mem_append_right _ (List.mem_append_right _ (List.mem_append_right _ (List.mem_append_left _ (List.mem_of_getElem? (i := 132) rfl))))))
set_option maxRecDepth 100000 in
theorem ez_c103 : es_cw (es_ME0 103) ∈ lw_tbl := List.mem_append_right _ (List.mem_append_right _ (List.mem_append_right _ (List.mem_append_right _ (List.mem_append_right _ (List.mem_append_left _ (List.mem_of_getElem? (i := 156) rfl))))))
set_option maxRecDepth 100000 in
theorem ez_c104 : es_cw (es_ME0 104) ∈ lw_tbl := List.mem_append_right _ (List.mem_append_right _ (List.mem_append_right _ (List.mem_append_right _ (List.mem_append_right _ (List.mem_append_left _ (List.mem_of_getElem? (i := 167) rfl))))))
set_option maxRecDepth 100000 in
theorem ez_c105 : es_cw (es_ME0 105) ∈ lw_tbl := List.mem_append_right _ (List.mem_append_right _ (List.mem_append_right _ (List.mem_append_right _ (List.mem_append_right _ (List.mem_append_left _ (List.mem_of_getElem? (i := 174) rfl))))))
set_option maxRecDepth 100000 in
theorem ez_c106 : es_cw (es_ME0 106) ∈ lw_tbl := List.mem_append_right _ (List.mem_append_right _ (List.mem_append_right _ (List.mem_append_right _ (List.mem_append_right _ (List.mem_append_left _ (List.mem_of_getElem? (i := 181) rfl))))))
set_option maxRecDepth 100000 in
theorem ez_c107 : es_cw (es_ME0 107) ∈ lw_tbl := List.mem_append_right _ (List.mem_append_right _ (List.mem_append_right _ (List.mem_append_right _ (List.mem_append_right _ (List.mem_append_left _ (List.mem_of_getElem? (i := 188) rfl))))))
set_option maxRecDepth 100000 in
theorem ez_c108 : es_cw (es_ME0 108) ∈ lw_tbl := List.mem_append_right _ (List.mem_append_right _ (List.mem_append_right _ (List.mem_append_right _ (List.mem_append_right _ (List.mem_append_left _ (List.mem_of_getElem? (i := 195) rfl))))))
set_option maxRecDepth 100000 in
theorem ez_c109 : es_cw (es_ME0 109) ∈ lw_tbl := List.mem_append_right _ (List.mem_append_right _ (List.mem_append_right _ (List.mem_append_right _ (List.mem_append_right _ (List.mem_append_right _ (List.mem_append_left _ (List.mem_of_getElem? (i := 3) rfl)))))))
set_option maxRecDepth 100000 in
theorem ez_c110 : es_cw (es_ME0 110) ∈ lw_tbl := List.mem_append_right _ (List.mem_append_right _ (List.mem_append_right _ (List.mem_append_right _ (List.mem_append_right _ (List.mem_append_right _ (List.mem_append_left _ (List.mem_of_getElem? (i := 10) rfl)))))))
set_option maxRecDepth 100000 in
theorem ez_c111 : es_cw (es_ME0 111) ∈ lw_tbl := List.mem_append_right _ (List.mem_append_right _ (List.mem_append_right _ (List.mem_append_right _ (List.mem_append_right _ (List.mem_append_right _ (List.mem_append_left _ (List.mem_of_getElem? (i := 21) rfl)))))))
set_option maxRecDepth 100000 in
theorem ez_c112 : es_cw (es_ME0 112) ∈ lw_tbl := List.mem_append_right _ (List.mem_append_right _ (List.mem_append_right _ (List.mem_append_right _ (List.mem_append_right _ (List.mem_append_right _ (List.mem_append_left _ (List.mem_of_getElem? (i := 28) rfl)))))))
set_option maxRecDepth 100000 in
theorem ez_c113 : es_cw (es_ME0 113) ∈ lw_tbl := List.mem_append_right _ (List.mem_append_right _ (List.mem_append_right _ (List.mem_append_right _ (List.mem_append_right _ (List.mem_append_right _ (List.mem_append_left _ (List.mem_of_getElem? (i := 39) rfl)))))))
set_option maxRecDepth 100000 in
theorem ez_c114 : es_cw (es_ME0 114) ∈ lw_tbl := List.mem_append_right _ (List.mem_append_right _ (List.mem_append_right _ (List.mem_append_right _ (List.mem_append_right _ (List.mem_append_right _ (List.mem_append_left _ (List.mem_of_getElem? (i := 46) rfl)))))))
set_option maxRecDepth 100000 in
theorem ez_c115 : es_cw (es_ME0 115) ∈ lw_tbl := List.mem_append_right _ (List.mem_append_right _ (List.mem_append_right _ (List.mem_append_right _ (List.mem_append_right _ (List.mem_append_right _ (List.mem_append_left _ (List.mem_of_getElem? (i := 72) rfl)))))))
set_option maxRecDepth 100000 in
theorem ez_c116 : es_cw (es_ME0 116) ∈ lw_tbl := List.mem_append_right _ (List.mem_append_right _ (List.mem_append_right _ (List.mem_append_right _ (List.mem_append_right _ (List.mem_append_right _ (List.mem_append_left _ (List.mem_of_getElem? (i := 83) rfl)))))))
set_option maxRecDepth 100000 in
theorem ez_c117 : es_cw (es_ME0 117) ∈ lw_tbl := List.mem_append_right _ (List.mem_append_right _ (List.mem_append_right _ (List.mem_append_right _ (List.mem_append_right _ (List.mem_append_right _ (List.mem_append_left _ (List.mem_of_getElem? (i := 97) rfl)))))))
set_option maxRecDepth 100000 in
theorem ez_c118 : es_cw (es_ME0 118) ∈ lw_tbl := List.mem_append_right _ (List.mem_append_right _ (List.mem_append_left _ (List.mem_of_getElem? (i := 191) rfl)))
set_option maxRecDepth 100000 in
theorem ez_c119 : es_cw (es_ME0 119) ∈ lw_tbl := List.mem_append_right _ (List.mem_append_right _ (List.mem_append_right _ (List.mem_append_right _ (List.mem_append_right _ (List.mem_append_right _ (List.mem_append_left _ (List.mem_of_getElem? (i := 110) rfl)))))))
set_option maxRecDepth 100000 in
theorem ez_c120 : es_cw (es_ME0 120) ∈ lw_tbl := List.mem_append_right _ (List.mem_append_right _ (List.mem_append_left _ (List.mem_of_getElem? (i := 198) rfl)))
set_option maxRecDepth 100000 in
theorem ez_c121 : es_cw (es_ME0 121) ∈ lw_tbl := List.mem_append_right _ (List.mem_append_right _ (List.mem_append_left _ (List.mem_of_getElem? (i := 212) rfl)))
set_option maxRecDepth 100000 in
theorem ez_c122 : es_cw (es_ME0 122) ∈ lw_tbl := List.mem_append_right _ (List.mem_append_right _ (List.mem_append_right _ (List.mem_append_right _ (List.mem_append_right _ (List.mem_append_right _ (List.mem_append_left _ (List.mem_of_getElem? (i := 138) rfl)))))))
set_option maxRecDepth 100000 in
theorem ez_c123 : es_cw (es_ME0 123) ∈ lw_tbl := List.mem_append_right _ (List.mem_append_right _ (List.mem_append_left _ (List.mem_of_getElem? (i := 216) rfl)))
set_option maxRecDepth 100000 in
theorem ez_c124 : es_cw (es_ME0 124) ∈ lw_tbl := List.mem_append_right _ (List.mem_append_right _ (List.mem_append_left _ (List.mem_of_getElem? (i := 220) rfl)))
set_option maxRecDepth 100000 in
theorem ez_c125 : es_cw (es_ME0 125) ∈ lw_tbl := List.mem_append_right _ (List.mem_append_right _ (List.mem_append_right _ (List.mem_append_right _ (List.mem_append_right _ (List.mem_append_right _ (List.mem_append_left _ (List.mem_of_getElem? (i := 145) rfl)))))))
set_option maxRecDepth 100000 in
theorem ez_c126 : es_cw (es_ME0 126) ∈ lw_tbl := List.mem_append_right _ (List.mem_append_right _ (List.mem_append_right _ (List.mem_append_right _ (List.mem_append_right _ (List.mem_append_right _ (List.mem_append_left _ (List.mem_of_getElem? (i := 152) rfl)))))))
set_option maxRecDepth 100000 in
theorem ez_c127 : es_cw (es_ME0 127) ∈ lw_tbl := List.mem_append_right _ (List.mem_append_right _ (List.mem_append_right _ (List.mem_append_right _ (List.mem_append_right _ (List.mem_append_right _ (List.mem_append_left _ (List.mem_of_getElem? (i := 159) rfl)))))))
set_option maxRecDepth 100000 in
theorem ez_c128 : es_cw (es_ME0 128) ∈ lw_tbl := List.mem_append_right _ (List.mem_append_right _ (List.mem_append_right _ (List.mem_append_right _ (List.mem_append_right _ (List.mem_append_right _ (List.mem_append_left _ (List.mem_of_getElem? (i := 170) rfl)))))))
set_option maxRecDepth 100000 in
theorem ez_c129 : es_cw (es_ME0 129) ∈ lw_tbl := List.mem_append_right _ (List.mem_append_right _ (List.mem_append_left _ (List.mem_of_getElem? (i := 228) rfl)))
set_option maxRecDepth 100000 in
theorem ez_c130 : es_cw (es_ME0 130) ∈ lw_tbl := List.mem_append_right _ (List.mem_append_right _ (List.mem_append_left _ (List.mem_of_getElem? (i := 232) rfl)))
set_option maxRecDepth 100000 in
theorem ez_c131 : es_cw (es_ME0 131) ∈ lw_tbl := List.mem_append_right _ (List.mem_append_right _ (List.mem_append_right _ (List.mem_append_left _ (List.mem_of_getElem? (i := 16) rfl))))
set_option maxRecDepth 100000 in
theorem ez_c132 : es_cw (es_ME0 132) ∈ lw_tbl := List.mem_append_right _ (List.mem_append_right _ (List.mem_append_right _ (List.mem_append_left _ (List.mem_of_getElem? (i := 25) rfl))))
set_option maxRecDepth 100000 in
theorem ez_c133 : es_cw (es_ME0 133) ∈ lw_tbl := List.mem_append_right _ (List.mem_append_right _ (List.mem_append_right _ (List.mem_append_left _ (List.mem_of_getElem? (i := 29) rfl))))
set_option maxRecDepth 100000 in
theorem ez_c134 : es_cw (es_ME0 134) ∈ lw_tbl := List.mem_append_right _ (List.mem_append_right _ (List.mem_append_right _ (List.mem_append_right _ (List.mem_append_left _ (List.mem_of_getElem? (i := 154) rfl)))))
set_option maxRecDepth 100000 in
theorem ez_c135 : es_cw (es_ME0 135) ∈ lw_tbl := List.mem_append_right _ (List.mem_append_right _ (List.mem_append_right _ (List.mem_append_right _ (List.mem_append_left _ (List.mem_of_getElem? (i := 201) rfl)))))
set_option maxRecDepth 100000 in
theorem ez_c136 : es_cw (es_ME0 136) ∈ lw_tbl := List.mem_append_right _ (List.mem_append_right _ (List.mem_append_right _ (List.mem_append_right _ (List.mem_append_right _ (List.mem_append_left _ (List.mem_of_getElem? (i := 17) rfl))))))
set_option maxRecDepth 100000 in
theorem ez_c137 : es_cw (es_ME0 137) ∈ lw_tbl := List.mem_append_right _ (List.mem_append_right _ (List.mem_append_right _ (List.mem_append_right _ (List.mem_append_right _ (List.mem_append_left _ (List.mem_of_getElem? (i := 29) rfl))))))
set_option maxRecDepth 100000 in
theorem ez_c138 : es_cw (es_ME0 138) ∈ lw_tbl := List.mem_append_right _ (List.mem_append_right _ (List.mem_append_right _ (List.mem_append_right _ (List.mem_append_right _ (List.mem_append_left _ (List.mem_of_getElem? (i := 109) rfl))))))
set_option maxRecDepth 100000 in
theorem ez_c139 : es_cw (es_ME0 139) ∈ lw_tbl := List.mem_append_right _ (List.mem_append_right _ (List.mem_append_right _ (List.mem_append_right _ (List.mem_append_right _ (List.mem_append_left _ (List.mem_of_getElem? (i := 42) rfl))))))
set_option maxRecDepth 100000 in
theorem ez_c140 : es_cw (es_ME0 140) ∈ lw_tbl := List.mem_append_right _ (List.mem_append_right _ (List.mem_append_right _ (List.mem_append_right _ (List.mem_append_right _ (List.mem_append_left _ (List.mem_of_getElem? (i := 63) rfl))))))
set_option maxRecDepth 100000 in
theorem ez_c141 : es_cw (es_ME0 141) ∈ lw_tbl := List.mem_append_right _ (List.mem_append_right _ (List.mem_append_right _ (List.mem_append_right _ (List.mem_append_right _ (List.mem_append_left _ (List.mem_of_getElem? (i := 160) rfl))))))
set_option maxRecDepth 100000 in
theorem ez_c142 : es_cw (es_ME0 142) ∈ lw_tbl := List.mem_append_right _ (List.mem_append_right _ (List.mem_append_right _ (List.mem_append_right _ (List.mem_append_right _ (List.mem_append_right _ (List.mem_append_left _ (List.mem_of_getElem? (i := 50) rfl)))))))
set_option maxRecDepth 100000 in
theorem ez_c143 : es_cw (es_ME0 143) ∈ lw_tbl := List.mem_append_right _ (List.mem_append_right _ (List.mem_append_right _ (List.mem_append_right _ (List.mem_append_right _ (List.mem_append_right _ (List.mem_append_left _ (List.mem_of_getElem? (i := 54) rfl)))))))
set_option maxRecDepth 100000 in
theorem ez_c144 : es_cw (es_ME0 144) ∈ lw_tbl := List.mem_append_right _ (List.mem_append_right _ (List.mem_append_right _ (List.mem_append_right _ (List.mem_append_right _ (List.mem_append_right _ (List.mem_append_left _ (List.mem_of_getElem? (i := 59) rfl)))))))
set_option maxRecDepth 100000 in
theorem ez_c145 : es_cw (es_ME0 145) ∈ lw_tbl := List.mem_append_right _ (List.mem_append_right _ (List.mem_append_right _ (List.mem_append_right _ (List.mem_append_right _ (List.mem_append_right _ (List.mem_append_left _ (List.mem_of_getElem? (i := 76) rfl)))))))
set_option maxRecDepth 100000 in
theorem ez_c146 : es_cw (es_ME0 146) ∈ lw_tbl := List.mem_append_right _ (List.mem_append_right _ (List.mem_append_right _ (List.mem_append_right _ (List.mem_append_right _ (List.mem_append_right _ (List.mem_append_left _ (List.mem_of_getElem? (i := 87) rfl)))))))
set_option maxRecDepth 100000 in
theorem ez_c147 : es_cw (es_ME0 147) ∈ lw_tbl := List.mem_append_right _ (List.mem_append_right _ (List.mem_append_right _ (List.mem_append_right _ (List.mem_append_right _ (List.mem_append_right _ (List.mem_append_left _ (List.mem_of_getElem? (i := 90) rfl)))))))
set_option maxRecDepth 100000 in
theorem ez_c148 : es_cw (es_ME0 148) ∈ lw_tbl := List.mem_append_right _ (List.mem_append_right _ (List.mem_append_right _ (List.mem_append_right _ (List.mem_append_right _ (List.mem_append_right _ (List.mem_append_left _ (List.mem_of_getElem? (i := 102) rfl)))))))
set_option maxRecDepth 100000 in
theorem ez_c149 : es_cw (es_ME0 149) ∈ lw_tbl := List.mem_append_right _ (List.mem_append_right _ (List.mem_append_right _ (List.mem_append_right _ (List.mem_append_right _ (List.mem_append_right _ (List.mem_append_left _ (List.mem_of_getElem? (i := 179) rfl)))))))
set_option maxRecDepth 100000 in
theorem ez_c150 : es_cw (es_ME0 150) ∈ lw_tbl := List.mem_append_right _ (List.mem_append_right _ (List.mem_append_right _ (List.mem_append_right _ (List.mem_append_right _ (List.mem_append_right _ (List.mem_append_right _ (List.mem_append_left _ (List.mem_of_getElem? (i := 32) rfl))))))))
set_option maxRecDepth 100000 in
theorem ez_c151 : es_cw (es_ME0 151) ∈ lw_tbl := List.mem_append_right _ (List.mem_append_right _ (List.mem_append_right _ (List.mem_append_right _ (List.mem_append_right _ (List.mem_append_right _ (List.mem_append_right _ (List.mem_append_right _ (List.mem_append_left _ (List.mem_of_getElem? (i := 27) rfl)))))))))
set_option maxRecDepth 100000 in
theorem ez_c152 : es_cw (es_ME0 152) ∈ lw_tbl := List.mem_append_right _ (List.mem_append_right _ (List.mem_append_right _ (List.mem_append_right _ (List.mem_append_right _ (List.mem_append_right _ (List.mem_append_right _ (List.mem_append_right _ (List.mem_append_left _ (List.mem_of_getElem? (i := 74) rfl)))))))))
set_option maxRecDepth 100000 in
theorem ez_c153 : es_cw (es_ME0 153) ∈ lw_tbl := List.mem_append_right _ (List.mem_append_right _ (List.mem_append_right _ (List.mem_append_right _ (List.mem_append_right _ (List.mem_append_right _ (List.mem_append_right _ (List.mem_append_left _ (List.mem_of_getElem? (i := 149) rfl))))))))
set_option maxRecDepth 100000 in
theorem ez_c154 : es_cw (es_ME0 154) ∈ lw_tbl := List.mem_append_right _ (List.mem_append_right _ (List.mem_append_right _ (List.mem_append_right _ (List.mem_append_right _ (List.mem_append_right _ (List.mem_append_right _ (List.mem_append_right _ (List.mem_append_left _ (List.mem_of_getElem? (i := 146) rfl)))))))))
set_option maxRecDepth 100000 in
theorem ez_c155 : es_cw (es_ME0 155) ∈ lw_tbl := List.mem_append_right _ (List.mem_append_right _ (List.mem_append_right _ (List.mem_append_right _ (List.mem_append_right _ (List.mem_append_right _ (List.mem_append_right _ (List.mem_append_left _ (List.mem_of_getElem? (i := 196) rfl))))))))
set_option maxRecDepth 100000 in
theorem ez_c156 : es_cw (es_ME0 156) ∈ lw_tbl := List.mem_append_right _ (List.mem_append_right _ (List.mem_append_right _ (List.mem_append_right _ (List.mem_append_right _ (List.mem_append_right _ (List.mem_append_right _ (List.mem_append_left _ (List.mem_of_getElem? (i := 212) rfl))))))))
set_option maxRecDepth 100000 in
theorem ez_c157 : es_cw (es_ME0 157) ∈ lw_tbl := List.mem_append_right _ (List.mem_append_right _ (List.mem_append_right _ (List.mem_append_right _ (List.mem_append_right _ (List.mem_append_right _ (List.mem_append_right _ (List.mem_append_left _ (List.mem_of_getElem? (i := 153) rfl))))))))
set_option maxRecDepth 100000 in
theorem ez_c158 : es_cw (es_ME0 158) ∈ lw_tbl := List.mem_append_right _ (List.mem_append_right _ (List.mem_append_right _ (List.mem_append_right _ (List.mem_append_right _ (List.mem_append_right _ (List.mem_append_right _ (List.mem_append_right _ (List.mem_append_left _ (List.mem_of_getElem? (i := 4) rfl)))))))))
set_option maxRecDepth 100000 in
theorem ez_c159 : es_cw (es_ME0 159) ∈ lw_tbl := List.mem_append_right _ (List.mem_append_right _ (List.mem_append_right _ (List.mem_append_right _ (List.mem_append_right _ (List.mem_append_right _ (List.mem_append_right _ (List.mem_append_right _ (List.mem_append_left _ (List.mem_of_getElem? (i := 0) rfl)))))))))
set_option maxRecDepth 100000 in
theorem ez_c160 : es_cw (es_ME0 160) ∈ lw_tbl := List.mem_append_right _ (List.mem_append_right _ (List.mem_append_right _ (List.mem_append_right _ (List.mem_append_right _ (List.mem_append_right _ (List.mem_append_right _ (List.mem_append_left _ (List.mem_of_getElem? (i := 200) rfl))))))))
set_option maxRecDepth 100000 in
theorem ez_c161 : es_cw (es_ME0 161) ∈ lw_tbl := List.mem_append_right _ (List.mem_append_right _ (List.mem_append_right _ (List.mem_append_right _ (List.mem_append_right _ (List.mem_append_right _ (List.mem_append_right _ (List.mem_append_left _ (List.mem_of_getElem? (i := 192) rfl))))))))
set_option maxRecDepth 100000 in
theorem ez_c162 : es_cw (es_ME0 162) ∈ lw_tbl := List.mem_append_right _ (List.mem_append_right _ (List.mem_append_right _ (List.mem_append_right _ (List.mem_append_right _ (List.mem_append_right _ (List.mem_append_right _ (List.mem_append_left _ (List.mem_of_getElem? (i := 208) rfl))))))))
set_option maxRecDepth 100000 in
theorem ez_c163 : es_cw (es_ME0 163) ∈ lw_tbl := List.mem_append_right _ (List.mem_append_right _ (List.mem_append_right _ (List.mem_append_right _ (List.mem_append_right _ (List.mem_append_right _ (List.mem_append_right _ (List.mem_append_left _ (List.mem_of_getElem? (i := 236) rfl))))))))
set_option maxRecDepth 100000 in
theorem ez_c164 : es_cw (es_ME0 164) ∈ lw_tbl := List.mem_append_right _ (List.mem_append_right _ (List.mem_append_right _ (List.mem_append_right _ (List.mem_append_right _ (List.mem_append_right _ (List.mem_append_right _ (List.mem_append_right _ (List.mem_append_left _ (List.mem_of_getElem? (i := 12) rfl)))))))))
set_option maxRecDepth 100000 in
theorem ez_c165 : es_cw (es_ME0 165) ∈ lw_tbl := List.mem_append_right _ (List.mem_append_right _ (List.mem_append_right _ (List.mem_append_right _ (List.mem_append_right _ (List.mem_append_right _ (List.mem_append_right _ (List.mem_append_right _ (List.mem_append_left _ (List.mem_of_getElem? (i := 20) rfl)))))))))
set_option maxRecDepth 100000 in
theorem ez_c166 : es_cw (es_ME0 166) ∈ lw_tbl := List.mem_append_right _ (List.mem_append_right _ (List.mem_append_right _ (List.mem_append_right _ (List.mem_append_right _ (List.mem_append_right _ (List.mem_append_right _ (List.mem_append_left _ (List.mem_of_getElem? (i := 25) rfl))))))))
set_option maxRecDepth 100000 in
theorem ez_c167 : es_cw (es_ME0 167) ∈ lw_tbl := List.mem_append_right _ (List.mem_append_right _ (List.mem_append_right _ (List.mem_append_right _ (List.mem_append_right _ (List.mem_append_right _ (List.mem_append_right _ (List.mem_append_left _ (List.mem_of_getElem? (i := 29) rfl))))))))
set_option maxRecDepth 100000 in
theorem ez_c168 : es_cw (es_ME0 168) ∈ lw_tbl := List.mem_append_right _ (List.mem_append_right _ (List.mem_append_right _ (List.mem_append_right _ (List.mem_append_right _ (List.mem_append_right _ (List.mem_append_right _ (List.mem_append_left _ (List.mem_of_getElem? (i := 56) rfl))))))))
set_option maxRecDepth 100000 in
theorem ez_c169 : es_cw (es_ME0 169) ∈ lw_tbl := List.mem_append_right _ (List.mem_append_right _ (List.mem_append_right _ (List.mem_append_right _ (List.mem_append_right _ (List.mem_append_right _ (List.mem_append_right _ (List.mem_append_left _ (List.mem_of_getElem? (i := 52) rfl))))))))
set_option maxRecDepth 100000 in
theorem ez_c170 : es_cw (es_ME0 170) ∈ lw_tbl := List.mem_append_right _ (List.mem_append_right _ (List.mem_append_right _ (List.mem_append_right _ (List.mem_append_right _ (List.mem_append_right _ (List.mem_append_right _ (List.mem_append_left _ (List.mem_of_getElem? (i := 98) rfl))))))))
set_option maxRecDepth 100000 in
theorem ez_c171 : es_cw (es_ME0 171) ∈ lw_tbl := List.mem_append_right _ (List.mem_append_right _ (List.mem_append_right _ (List.mem_append_right _ (List.mem_append_right _ (List.mem_append_right _ (List.mem_append_right _ (List.mem_append_left _ (List.mem_of_getElem? (i := 69) rfl))))))))
set_option maxRecDepth 100000 in
theorem ez_c172 : es_cw (es_ME0 172) ∈ lw_tbl := List.mem_append_right _ (List.mem_append_right _ (List.mem_append_right _ (List.mem_append_right _ (List.mem_append_right _ (List.mem_append_right _ (List.mem_append_right _ (List.mem_append_left _ (List.mem_of_getElem? (i := 60) rfl))))))))
set_option maxRecDepth 100000 in
theorem ez_c173 : es_cw (es_ME0 173) ∈ lw_tbl := List.mem_append_right _ (List.mem_append_right _ (List.mem_append_right _ (List.mem_append_right _ (List.mem_append_right _ (List.mem_append_right _ (List.mem_append_right _ (List.mem_append_left _ (List.mem_of_getElem? (i := 80) rfl))))))))
set_option maxRecDepth 100000 in
theorem ez_c174 : es_cw (es_ME0 174) ∈ lw_tbl := List.mem_append_right _ (List.mem_append_right _ (List.mem_append_right _ (List.mem_append_right _ (List.mem_append_right _ (List.mem_append_right _ (List.mem_append_right _ (List.mem_append_left _ (List.mem_of_getElem? (i := 76) rfl))))))))
set_option maxRecDepth 100000 in
theorem ez_c175 : es_cw (es_ME0 175) ∈ lw_tbl := List.mem_append_right _ (List.mem_append_right _ (List.mem_append_right _ (List.mem_append_right _ (List.mem_append_right _ (List.mem_append_right _ (List.mem_append_right _ (List.mem_append_left _ (List.mem_of_getElem? (i := 135) rfl))))))))
set_option maxRecDepth 100000 in
theorem ez_c176 : es_cw (es_ME0 176) ∈ lw_tbl := List.mem_append_right _ (List.mem_append_right _ (List.mem_append_right _ (List.mem_append_right _ (List.mem_append_right _ (List.mem_append_right _ (List.mem_append_right _ (List.mem_append_left _ (List.mem_of_getElem? (i := 146) rfl))))))))
set_option maxRecDepth 100000 in
theorem ez_c177 : es_cw (es_ME0 177) ∈ lw_tbl := List.mem_append_right _ (List.mem_append_right _ (List.mem_append_right _ (List.mem_append_right _ (List.mem_append_right _ (List.mem_append_right _ (List.mem_append_right _ (List.mem_append_left _ (List.mem_of_getElem? (i := 130) rfl))))))))
set_option maxRecDepth 100000 in
theorem ez_c178 : es_cw (es_ME0 178) ∈ lw_tbl := List.mem_append_right _ (List.mem_append_right _ (List.mem_append_right _ (List.mem_append_right _ (List.mem_append_right _ (List.mem_append_right _ (List.mem_append_right _ (List.mem_append_left _ (List.mem_of_getElem? (i := 141) rfl))))))))
set_option maxRecDepth 100000 in
theorem ez_c179 : es_cw (es_ME0 179) ∈ lw_tbl := List.mem_append_right _ (List.mem_append_right _ (List.mem_append_right _ (List.mem_append_right _ (List.mem_append_right _ (List.mem_append_right _ (List.mem_append_right _ (List.mem_append_left _ (List.mem_of_getElem? (i := 158) rfl))))))))
set_option maxRecDepth 100000 in
theorem ez_c180 : es_cw (es_ME0 180) ∈ lw_tbl := List.mem_append_right _ (List.mem_append_right _ (List.mem_append_right _ (List.mem_append_right _ (List.mem_append_right _ (List.mem_append_right _ (List.mem_append_right _ (List.mem_append_left _ (List.mem_of_getElem? (i := 164) rfl))))))))
set_option maxRecDepth 100000 in
theorem ez_c181 : es_cw (es_ME0 181) ∈ lw_tbl := List.mem_append_right _ (List.mem_append_right _ (List.mem_append_right _ (List.mem_append_right _ (List.mem_append_right _ (List.mem_append_right _ (List.mem_append_right _ (List.mem_append_left _ (List.mem_of_getElem? (i := 169) rfl))))))))
set_option maxRecDepth 100000 in
theorem ez_c182 : es_cw (es_ME0 182) ∈ lw_tbl := List.mem_append_right _ (List.mem_append_right _ (List.mem_append_right _ (List.mem_append_right _ (List.mem_append_right _ (List.mem_append_right _ (List.mem_append_right _ (List.mem_append_left _ (List.mem_of_getElem? (i := 125) rfl))))))))
set_option maxRecDepth 100000 in
theorem ez_c183 : es_cw (es_ME0 183) ∈ lw_tbl := List.mem_append_right _ (List.mem_append_right _ (List.mem_append_right _ (List.mem_append_right _ (List.mem_append_right _ (List.mem_append_right _ (List.mem_append_right _ (List.mem_append_left _ (List.mem_of_getElem? (i := 44) rfl))))))))
set_option maxRecDepth 100000 in
theorem ez_c184 : es_cw (es_ME0 184) ∈ lw_tbl := List.mem_append_right _ (List.mem_append_right _ (List.mem_append_right _ (List.mem_append_right _ (List.mem_append_right _ (List.mem_append_right _ (List.mem_append_right _ (List.mem_append_left _ (List.mem_of_getElem? (i := 48) rfl))))))))
set_option maxRecDepth 100000 in
theorem ez_c185 : es_cw (es_ME0 185) ∈ lw_tbl := List.mem_append_right _ (List.mem_append_right _ (List.mem_append_right _ (List.mem_append_right _ (List.mem_append_right _ (List.mem_append_right _ (List.mem_append_right _ (List.mem_append_left _ (List.mem_of_getElem? (i := 40) rfl))))))))
set_option maxRecDepth 100000 in
theorem ez_c186 : es_cw (es_ME0 186) ∈ lw_tbl := List.mem_append_right _ (List.mem_append_right _ (List.mem_append_right _ (List.mem_append_right _ (List.mem_append_right _ (List.mem_append_right _ (List.mem_append_right _ (List.mem_append_left _ (List.mem_of_getElem? (i := 176) rfl))))))))
set_option maxRecDepth 100000 in
theorem ez_c187 : es_cw (es_ME0 187) ∈ lw_tbl := List.mem_append_right _ (List.mem_append_right _ (List.mem_append_right _ (List.mem_append_right _ (List.mem_append_right _ (List.mem_append_right _ (List.mem_append_right _ (List.mem_append_left _ (List.mem_of_getElem? (i := 36) rfl))))))))
set_option maxRecDepth 100000 in
theorem ez_c188 : es_cw (es_ME0 188) ∈ lw_tbl := List.mem_append_right _ (List.mem_append_right _ (List.mem_append_right _ (List.mem_append_right _ (List.mem_append_right _ (List.mem_append_right _ (List.mem_append_right _ (List.mem_append_left _ (List.mem_of_getElem? (i := 112) rfl))))))))
set_option maxRecDepth 100000 in
theorem ez_c189 : es_cw (es_ME0 189) ∈ lw_tbl := List.mem_append_right _ (List.mem_append_right _ (List.mem_append_right _ (List.mem_append_right _ (List.mem_append_right _ (List.mem_append_right _ (List.mem_append_right _ (List.mem_append_left _ (List.mem_of_getElem? (i := 108) rfl))))))))
set_option maxRecDepth 100000 in
theorem ez_c190 : es_cw (es_ME0 190) ∈ lw_tbl := List.mem_append_right _ (List.mem_append_right _ (List.mem_append_right _ (List.mem_append_right _ (List.mem_append_right _ (List.mem_append_right _ (List.mem_append_right _ (List.mem_append_left _ (List.mem_of_getElem? (i := 102) rfl))))))))
set_option maxRecDepth 100000 in
theorem ez_c191 : es_cw (es_ME0 191) ∈ lw_tbl := List.mem_append_right _ (List.mem_append_right _ (List.mem_append_right _ (List.mem_append_right _ (List.mem_append_right _ (List.mem_append_right _ (List.mem_append_right _ (List.mem_append_left _ (List.mem_of_getElem? (i := 93) rfl))))))))
set_option maxRecDepth 100000 in
theorem ez_c192 : es_cw (es_ME0 192) ∈ lw_tbl := List.mem_append_right _ (List.mem_append_right _ (List.mem_append_right _ (List.mem_append_right _ (List.mem_append_right _ (List.mem_append_right _ (List.mem_append_right _ (List.mem_append_left _ (List.mem_of_getElem? (i := 89) rfl))))))))
set_option maxRecDepth 100000 in
theorem ez_c193 : es_cw (es_ME0 193) ∈ lw_tbl := List.mem_append_right _ (List.mem_append_right _ (List.mem_append_right _ (List.mem_append_right _ (List.mem_append_right _ (List.mem_append_right _ (List.mem_append_right _ (List.mem_append_left _ (List.mem_of_getElem? (i := 85) rfl))))))))
set_option maxRecDepth 100000 in
theorem ez_c194 : es_cw (es_ME0 194) ∈ lw_tbl := List.mem_append_right _ (List.mem_append_right _ (List.mem_append_right _ (List.mem_append_right _ (List.mem_append_right _ (List.mem_append_right _ (List.mem_append_right _ (List.mem_append_left _ (List.mem_of_getElem? (i := 64) rfl))))))))
set_option maxRecDepth 100000 in
theorem ez_c195 : es_cw (es_ME0 195) ∈ lw_tbl := List.mem_append_right _ (List.mem_append_right _ (List.mem_append_right _ (List.mem_append_right _ (List.mem_append_right _ (List.mem_append_right _ (List.mem_append_right _ (List.mem_append_left _ (List.mem_of_getElem? (i := 180) rfl))))))))
set_option maxRecDepth 100000 in
theorem ez_c196 : es_cw (es_ME0 196) ∈ lw_tbl := List.mem_append_right _ (List.mem_append_right _ (List.mem_append_right _ (List.mem_append_right _ (List.mem_append_right _ (List.mem_append_right _ (List.mem_append_right _ (List.mem_append_left _ (List.mem_of_getElem? (i := 184) rfl))))))))
set_option maxRecDepth 100000 in
theorem ez_c197 : es_cw (es_ME0 197) ∈ lw_tbl := List.mem_append_right _ (List.mem_append_right _ (List.mem_append_right _ (List.mem_append_right _ (List.mem_append_right _ (List.mem_append_right _ (List.mem_append_right _ (List.mem_append_left _ (List.mem_of_getElem? (i := 220) rfl))))))))
set_option maxRecDepth 100000 in
theorem ez_c198 : es_cw (es_ME0 198) ∈ lw_tbl := List.mem_append_right _ (List.mem_append_right _ (List.mem_append_right _ (List.mem_append_right _ (List.mem_append_right _ (List.mem_append_right _ (List.mem_append_right _ (List.mem_append_left _ (List.mem_of_getElem? (i := 216) rfl))))))))
set_option maxRecDepth 100000 in
theorem ez_c199 : es_cw (es_ME0 199) ∈ lw_tbl := List.mem_append_right _ (List.mem_append_right _ (List.mem_append_right _ (List.mem_append_right _ (List.mem_append_right _ (List.mem_append_right _ (List.mem_append_right _ (List.mem_append_right _ (List.mem_append_left _ (List.mem_of_getElem? (i := 78) rfl)))))))))
set_option maxRecDepth 100000 in
theorem ez_c200 : es_cw (es_ME0 200) ∈ lw_tbl := List.mem_append_right _ (List.mem_append_right _ (List.mem_append_right _ (List.mem_append_right _ (List.mem_append_right _ (List.mem_append_right _ (List.mem_append_right _ (List.mem_append_right _ (List.mem_append_left _ (List.mem_of_getElem? (i := 39) rfl)))))))))
set_option maxRecDepth 100000 in
theorem ez_c201 : es_cw (es_ME0 201) ∈ lw_tbl := List.mem_append_right _ (List.mem_append_right _ (List.mem_append_right _ (List.mem_append_right _ (List.mem_append_right _ (List.mem_append_right _ (List.mem_append_right _ (List.mem_append_right _ (List.mem_append_left _ (List.mem_of_getElem? (i := 71) rfl)))))))))
set_option maxRecDepth 100000 in
theorem ez_c202 : es_cw (es_ME0 202) ∈ lw_tbl := List.mem_append_right _ (List.mem_append_right _ (List.mem_append_right _ (List.mem_append_right _ (List.mem_append_right _ (List.mem_append_right _ (List.mem_append_right _ (List.mem_append_right _ (List.mem_append_left _ (List.mem_of_getElem? (i := 67) rfl)))))))))
set_option maxRecDepth 100000 in
theorem ez_c203 : es_cw (es_ME0 203) ∈ lw_tbl := List.mem_append_right _ (List.mem_append_right _ (List.mem_append_right _ (List.mem_append_right _ (List.mem_append_right _ (List.mem_append_right _ (List.mem_append_right _ (List.mem_append_left _ (List.mem_of_getElem? (i := 188) rfl))))))))
set_option maxRecDepth 100000 in
theorem ez_c204 : es_cw (es_ME0 204) ∈ lw_tbl := List.mem_append_right _ (List.mem_append_right _ (List.mem_append_right _ (List.mem_append_right _ (List.mem_append_right _ (List.mem_append_right _ (List.mem_append_right _ (List.mem_append_left _ (List.mem_of_getElem? (i := 228) rfl))))))))
set_option maxRecDepth 100000 in
theorem ez_c205 : es_cw (es_ME0 205) ∈ lw_tbl := List.mem_append_right _ (List.mem_append_right _ (List.mem_append_right _ (List.mem_append_right _ (List.mem_append_right _ (List.mem_append_right _ (List.mem_append_right _ (List.mem_append_left _ (List.mem_of_getElem? (i := 224) rfl))))))))
set_option maxRecDepth 100000 in
theorem ez_c206 : es_cw (es_ME0 206) ∈ lw_tbl := List.mem_append_right _ (List.mem_append_right _ (List.mem_append_right _ (List.mem_append_right _ (List.mem_append_right _ (List.mem_append_right _ (List.mem_append_right _ (List.mem_append_left _ (List.mem_of_getElem? (i := 204) rfl))))))))
set_option maxRecDepth 100000 in
theorem ez_c207 : es_cw (es_ME0 207) ∈ lw_tbl := List.mem_append_right _ (List.mem_append_right _ (List.mem_append_right _ (List.mem_append_right _ (List.mem_append_right _ (List.mem_append_right _ (List.mem_append_right _ (List.mem_append_left _ (List.mem_of_getElem? (i := 232) rfl))))))))
set_option maxRecDepth 100000 in
theorem ez_c208 : es_cw (es_ME0 208) ∈ lw_tbl := List.mem_append_right _ (List.mem_append_right _ (List.mem_append_right _ (List.mem_append_right _ (List.mem_append_right _ (List.mem_append_right _ (List.mem_append_right _ (List.mem_append_right _ (List.mem_append_left _ (List.mem_of_getElem? (i := 8) rfl)))))))))
set_option maxRecDepth 100000 in
theorem ez_c209 : es_cw (es_ME0 209) ∈ lw_tbl := List.mem_append_right _ (List.mem_append_right _ (List.mem_append_right _ (List.mem_append_right _ (List.mem_append_right _ (List.mem_append_right _ (List.mem_append_right _ (List.mem_append_right _ (List.mem_append_left _ (List.mem_of_getElem? (i := 24) rfl)))))))))
set_option maxRecDepth 100000 in
theorem ez_c210 : es_cw (es_ME0 210) ∈ lw_tbl := List.mem_append_right _ (List.mem_append_right _ (List.mem_append_right _ (List.mem_append_right _ (List.mem_append_right _ (List.mem_append_right _ (List.mem_append_right _ (List.mem_append_right _ (List.mem_append_left _ (List.mem_of_getElem? (i := 31) rfl)))))))))
set_option maxRecDepth 100000 in
theorem ez_c211 : es_cw (es_ME0 211) ∈ lw_tbl := List.mem_append_right _ (List.mem_append_right _ (List.mem_append_right _ (List.mem_append_right _ (List.mem_append_right _ (List.mem_append_right _ (List.mem_append_right _ (List.mem_append_right _ (List.mem_append_left _ (List.mem_of_getElem? (i := 16) rfl)))))))))
set_option maxRecDepth 100000 in
theorem ez_c212 : es_cw (es_ME0 212) ∈ lw_tbl := List.mem_append_right _ (List.mem_append_right _ (List.mem_append_right _ (List.mem_append_right _ (List.mem_append_right _ (List.mem_append_right _ (List.mem_append_right _ (List.mem_append_right _ (List.mem_append_left _ (List.mem_of_getElem? (i := 43) rfl)))))))))
set_option maxRecDepth 100000 in
theorem ez_c213 : es_cw (es_ME0 213) ∈ lw_tbl := List.mem_append_right _ (List.mem_append_right _ (List.mem_append_right _ (List.mem_append_right _ (List.mem_append_right _ (List.mem_append_right _ (List.mem_append_right _ (List.mem_append_right _ (List.mem_append_left _ (List.mem_of_getElem? (i := 35) rfl)))))))))
set_option maxRecDepth 100000 in
theorem ez_c214 : es_cw (es_ME0 214) ∈ lw_tbl := List.mem_append_right _ (List.mem_append_right _ (List.mem_append_right _ (List.mem_append_right _ (List.mem_append_right _ (List.mem_append_right _ (List.mem_append_right _ (List.mem_append_right _ (List.mem_append_left _ (List.mem_of_getElem? (i := 47) rfl)))))))))
set_option maxRecDepth 100000 in
theorem ez_c215 : es_cw (es_ME0 215) ∈ lw_tbl := List.mem_append_right _ (List.mem_append_right _ (List.mem_append_right _ (List.mem_append_right _ (List.mem_append_right _ (List.mem_append_right _ (List.mem_append_right _ (List.mem_append_right _ (List.mem_append_left _ (List.mem_of_getElem? (i := 51) rfl)))))))))
set_option maxRecDepth 100000 in
theorem ez_c216 : es_cw (es_ME0 216) ∈ lw_tbl := List.mem_append_right _ (List.mem_append_right _ (List.mem_append_right _ (List.mem_append_right _ (List.mem_append_right _ (List.mem_append_right _ (List.mem_append_right _ (List.mem_append_right _ (List.mem_append_left _ (List.mem_of_getElem? (i := 55) rfl)))))))))
set_option maxRecDepth 100000 in
theorem ez_c217 : es_cw (es_ME0 217) ∈ lw_tbl := List.mem_append_right _ (List.mem_append_right _ (List.mem_append_right _ (List.mem_append_right _ (List.mem_append_right _ (List.mem_append_right _ (List.mem_append_right _ (List.mem_append_right _ (List.mem_append_left _ (List.mem_of_getElem? (i := 59) rfl)))))))))
set_option maxRecDepth 100000 in
theorem ez_c218 : es_cw (es_ME0 218) ∈ lw_tbl := List.mem_append_right _ (List.mem_append_right _ (List.mem_append_right _ (List.mem_append_right _ (List.mem_append_right _ (List.mem_append_right _ (List.mem_append_right _ (List.mem_append_right _ (List.mem_append_left _ (List.mem_of_getElem? (i := 63) rfl)))))))))
set_option maxRecDepth 100000 in
theorem ez_c219 : es_cw (es_ME0 219) ∈ lw_tbl := List.mem_append_right _ (List.mem_append_right _ (List.mem_append_right _ (List.mem_append_right _ (List.mem_append_right _ (List.mem_append_right _ (List.mem_append_right _ (List.mem_append_right _ (List.mem_append_left _ (List.mem_of_getElem? (i := 83) rfl)))))))))
set_option maxRecDepth 100000 in
theorem ez_c220 : es_cw (es_ME0 220) ∈ lw_tbl := List.mem_append_right _ (List.mem_append_right _ (List.mem_append_right _ (List.mem_append_right _ (List.mem_append_right _ (List.mem_append_right _ (List.mem_append_right _ (List.mem_append_right _ (List.mem_append_left _ (List.mem_of_getElem? (i := 87) rfl)))))))))
set_option maxRecDepth 100000 in
theorem ez_c221 : es_cw (es_ME0 221) ∈ lw_tbl := List.mem_append_right _ (List.mem_append_right _ (List.mem_append_right _ (List.mem_append_right _ (List.mem_append_right _ (List.mem_append_right _ (List.mem_append_right _ (List.mem_append_right _ (List.mem_append_left _ (List.mem_of_getElem? (i := 91) rfl)))))))))
set_option maxRecDepth 100000 in
theorem ez_c222 : es_cw (es_ME0 222) ∈ lw_tbl := List.mem_append_right _ (List.mem_append_right _ (List.mem_append_right _ (List.mem_append_right _ (List.mem_append_right _ (List.mem_append_right _ (List.mem_append_right _ (List.mem_append_right _ (List.mem_append_left _ (List.mem_of_getElem? (i := 99) rfl)))))))))
set_option maxRecDepth 100000 in
theorem ez_c223 : es_cw (es_ME0 223) ∈ lw_tbl := List.mem_append_right _ (List.mem_append_right _ (List.mem_append_right _ (List.mem_append_right _ (List.mem_append_right _ (List.mem_append_right _ (List.mem_append_right _ (List.mem_append_right _ (List.mem_append_left _ (List.mem_of_getElem? (i := 95) rfl)))))))))
set_option maxRecDepth 100000 in
theorem ez_c224 : es_cw (es_ME0 224) ∈ lw_tbl := List.mem_append_right _ (List.mem_append_right _ (List.mem_append_right _ (List.mem_append_right _ (List.mem_append_right _ (List.mem_append_right _ (List.mem_append_right _ (List.mem_append_right _ (List.mem_append_left _ (List.mem_of_getElem? (i := 103) rfl)))))))))
set_option maxRecDepth 100000 in
theorem ez_c225 : es_cw (es_ME0 225) ∈ lw_tbl := List.mem_append_right _ (List.mem_append_right _ (List.mem_append_right _ (List.mem_append_right _ (List.mem_append_right _ (List.mem_append_right _ (List.mem_append_right _ (List.mem_append_right _ (List.mem_append_left _ (List.mem_of_getElem? (i := 111) rfl)))))))))
set_option maxRecDepth 100000 in
theorem ez_c226 : es_cw (es_ME0 226) ∈ lw_tbl := List.mem_append_right _ (List.mem_append_right _ (List.mem_append_right _ (List.mem_append_right _ (List.mem_append_right _ (List.mem_append_right _ (List.mem_append_right _ (List.mem_append_right _ (List.mem_append_left _ (List.mem_of_getElem? (i := 115) rfl)))))))))
set_option maxRecDepth 100000 in
theorem ez_c227 : es_cw (es_ME0 227) ∈ lw_tbl := List.mem_append_right _ (List.mem_append_right _ (List.mem_append_right _ (List.mem_append_right _ (List.mem_append_right _ (List.mem_append_right _ (List.mem_append_right _ (List.mem_append_right _ (List.mem_append_left _ (List.mem_of_getElem? (i := 119) rfl)))))))))
set_option maxRecDepth 100000 in
theorem ez_c228 : es_cw (es_ME0 228) ∈ lw_tbl := List.mem_append_right _ (List.mem_append_right _ (List.mem_append_right _ (List.mem_append_right _ (List.mem_append_right _ (List.mem_append_right _ (List.mem_append_right _ (List.mem_append_right _ (List.mem_append_left _ (List.mem_of_getElem? (i := 123) rfl)))))))))
set_option maxRecDepth 100000 in
theorem ez_c229 : es_cw (es_ME0 229) ∈ lw_tbl := List.mem_append_right _ (List.mem_append_right _ (List.mem_append_right _ (List.mem_append_right _ (List.mem_append_right _ (List.mem_append_right _ (List.mem_append_right _ (List.mem_append_right _ (List.mem_append_left _ (List.mem_of_getElem? (i := 107) rfl)))))))))
set_option maxRecDepth 100000 in
theorem ez_c230 : es_cw (es_ME0 230) ∈ lw_tbl := List.mem_append_right _ (List.mem_append_right _ (List.mem_append_right _ (List.mem_append_right _ (List.mem_append_right _ (List.mem_append_right _ (List.mem_append_right _ (List.mem_append_right _ (List.mem_append_left _ (List.mem_of_getElem? (i := 127) rfl)))))))))
set_option maxRecDepth 100000 in
theorem ez_c231 : es_cw (es_ME0 231) ∈ lw_tbl := List.mem_append_right _ (List.mem_append_right _ (List.mem_append_right _ (List.mem_append_right _ (List.mem_append_right _ (List.mem_append_right _ (List.mem_append_right _ (List.mem_append_right _ (List.mem_append_left _ (List.mem_of_getElem? (i := 135) rfl)))))))))
set_option maxRecDepth 100000 in
theorem ez_c232 : es_cw (es_ME0 232) ∈ lw_tbl := List.mem_append_right _ (List.mem_append_right _ (List.mem_append_right _ (List.mem_append_right _ (List.mem_append_right _ (List.mem_append_right _ (List.mem_append_right _ (List.mem_append_right _ (List.mem_append_left _ (List.mem_of_getElem? (i := 150) rfl)))))))))
set_option maxRecDepth 100000 in
theorem ez_c233 : es_cw (es_ME0 233) ∈ lw_tbl := List.mem_append_right _ (List.mem_append_right _ (List.mem_append_right _ (List.mem_append_right _ (List.mem_append_right _ (List.mem_append_right _ (List.mem_append_right _ (List.mem_append_right _ (List.mem_append_left _ (List.mem_of_getElem? (i := 131) rfl)))))))))
set_option maxRecDepth 100000 in
theorem ez_c234 : es_cw (es_ME0 234) ∈ lw_tbl := List.mem_append_right _ (List.mem_append_right _ (List.mem_append_right _ (List.mem_append_right _ (List.mem_append_right _ (List.mem_append_right _ (List.mem_append_right _ (List.mem_append_right _ (List.mem_append_left _ (List.mem_of_getElem? (i := 143) rfl)))))))))
set_option maxRecDepth 100000 in
theorem ez_c235 : es_cw (es_ME0 235) ∈ lw_tbl := List.mem_append_right _ (List.mem_append_right _ (List.mem_append_right _ (List.mem_append_right _ (List.mem_append_right _ (List.mem_append_right _ (List.mem_append_right _ (List.mem_append_right _ (List.mem_append_left _ (List.mem_of_getElem? (i := 139) rfl)))))))))
set_option maxRecDepth 100000 in
theorem ez_c236 : es_cw (es_ME0 236) ∈ lw_tbl := List.mem_append_right _ (List.mem_append_right _ (List.mem_append_right _ (List.mem_append_right _ (List.mem_append_right _ (List.mem_append_right _ (List.mem_append_right _ (List.mem_append_right _ (List.mem_append_left _ (List.mem_of_getElem? (i := 154) rfl)))))))))
set_option maxRecDepth 100000 in
theorem ez_c237 : es_cw (es_ME0 237) ∈ lw_tbl := List.mem_append_right _ (List.mem_append_right _ (List.mem_append_right _ (List.mem_append_right _ (List.mem_append_right _ (List.mem_append_right _ (List.mem_append_right _ (List.mem_append_right _ (List.mem_append_left _ (List.mem_of_getElem? (i := 158) rfl)))))))))
set_option maxRecDepth 100000 in
theorem ez_c238 : es_cw (es_ME0 238) ∈ lw_tbl := List.mem_append_right _ (List.mem_append_right _ (List.mem_append_right _ (List.mem_append_right _ (List.mem_append_right _ (List.mem_append_right _ (List.mem_append_right _ (List.mem_append_right _ (List.mem_append_left _ (List.mem_of_getElem? (i := 166) rfl)))))))))
set_option maxRecDepth 100000 in
theorem ez_c239 : es_cw (es_ME0 239) ∈ lw_tbl := List.mem_append_right _ (List.mem_append_right _ (List.mem_append_right _ (List.mem_append_right _ (List.mem_append_right _ (List.mem_append_right _ (List.mem_append_right _ (List.mem_append_right _ (List.mem_append_left _ (List.mem_of_getElem? (i := 162) rfl)))))))))
set_option maxRecDepth 100000 in
theorem ez_c240 : es_cw (es_ME0 240) ∈ lw_tbl := List.mem_append_right _ (List.mem_append_right _ (List.mem_append_right _ (List.mem_append_right _ (List.mem_append_right _ (List.mem_append_right _ (List.mem_append_right _ (List.mem_append_right _ (List.mem_append_left _ (List.mem_of_getElem? (i := 170) rfl)))))))))
set_option maxRecDepth 100000 in
theorem ez_c241 : es_cw (es_ME0 241) ∈ lw_tbl := List.mem_append_right _ (List.mem_append_right _ (List.mem_append_right _ (List.mem_append_right _ (List.mem_append_right _ (List.mem_append_right _ (List.mem_append_right _ (List.mem_append_right _ (List.mem_append_left _ (List.mem_of_getElem? (i := 179) rfl)))))))))
set_option maxRecDepth 100000 in
theorem ez_c242 : es_cw (es_ME0 242) ∈ lw_tbl := List.mem_append_right _ (List.mem_append_right _ (List.mem_append_right _ (List.mem_append_right _ (List.mem_append_right _ (List.mem_append_right _ (List.mem_append_right _ (List.mem_append_right _ (List.mem_append_left _ (List.mem_of_getElem? (i := 183) rfl)))))))))
set_option maxRecDepth 100000 in
theorem ez_c243 : es_cw (es_ME0 243) ∈ lw_tbl := List.mem_append_right _ (List.mem_append_right _ (List.mem_append_right _ (List.mem_append_right _ (List.mem_append_right _ (List.mem_append_right _ (List.mem_append_right _ (List.mem_append_right _ (List.mem_append_left _ (List.mem_of_getElem? (i := 175) rfl)))))))))
set_option maxRecDepth 100000 in
theorem ez_c244 : es_cw (es_ME0 244) ∈ lw_tbl := List.mem_append_right _ (List.mem_append_right _ (List.mem_append_right _ (List.mem_append_right _ (List.mem_append_right _ (List.mem_append_right _ (List.mem_append_right _ (List.mem_append_right _ (List.mem_append_left _ (List.mem_of_getElem? (i := 187) rfl)))))))))
set_option maxRecDepth 100000 in
theorem ez_c245 : es_cw (es_ME0 245) ∈ lw_tbl := List.mem_append_right _ (List.mem_append_right _ (List.mem_append_right _ (List.mem_append_right _ (List.mem_append_right _ (List.mem_append_right _ (List.mem_append_right _ (List.mem_append_right _ (List.mem_append_left _ (List.mem_of_getElem? (i := 193) rfl)))))))))
set_option maxRecDepth 100000 in
theorem ez_c246 : es_cw (es_ME0 246) ∈ lw_tbl := List.mem_append_right _ (List.mem_append_right _ (List.mem_append_right _ (List.mem_append_right _ (List.mem_append_right _ (List.mem_append_right _ (List.mem_append_right _ (List.mem_append_right _ (List.mem_append_left _ (List.mem_of_getElem? (i := 201) rfl)))))))))
set_option maxRecDepth 100000 in
theorem ez_c247 : es_cw (es_ME0 247) ∈ lw_tbl := List.mem_append_right _ (List.mem_append_right _ (List.mem_append_right _ (List.mem_append_right _ (List.mem_append_right _ (List.mem_append_right _ (List.mem_append_right _ (List.mem_append_right _ (List.mem_append_left _ (List.mem_of_getElem? (i := 197) rfl)))))))))
set_option maxRecDepth 100000 in
theorem ez_c248 : es_cw (es_ME0 248) ∈ lw_tbl := List.mem_append_right _ (List.mem_append_right _ (List.mem_append_right _ (List.mem_append_right _ (List.mem_append_right _ (List.mem_append_right _ (List.mem_append_right _ (List.mem_append_right _ (List.mem_append_left _ (List.mem_of_getElem? (i := 209) rfl)))))))))
set_option maxRecDepth 100000 in
theorem ez_c249 : es_cw (es_ME0 249) ∈ lw_tbl := List.mem_append_right _ (List.mem_append_right _ (List.mem_append_right _ (List.mem_append_right _ (List.mem_append_right _ (List.mem_append_right _ (List.mem_append_right _ (List.mem_append_right _ (List.mem_append_left _ (List.mem_of_getElem? (i := 213) rfl)))))))))
set_option maxRecDepth 100000 in
theorem ez_c250 : es_cw (es_ME0 250) ∈ lw_tbl := List.mem_append_right _ (List.mem_append_right _ (List.mem_append_right _ (List.mem_append_right _ (List.mem_append_right _ (List.mem_append_right _ (List.mem_append_right _ (List.mem_append_right _ (List.mem_append_left _ (List.mem_of_getElem? (i := 217) rfl)))))))))
set_option maxRecDepth 100000 in
theorem ez_c251 : es_cw (es_ME0 251) ∈ lw_tbl := List.mem_append_right _ (List.mem_append_right _ (List.mem_append_right _ (List.mem_append_right _ (List.mem_append_right _ (List.mem_append_right _ (List.mem_append_right _ (List.mem_append_right _ (List.mem_append_left _ (List.mem_of_getElem? (i := 221) rfl)))))))))
set_option maxRecDepth 100000 in
theorem ez_c252 : es_cw (es_ME0 252) ∈ lw_tbl := List.mem_append_right _ (List.mem_append_right _ (List.mem_append_right _ (List.mem_append_right _ (List.mem_append_right _ (List.mem_append_right _ (List.mem_append_right _ (List.mem_append_right _ (List.mem_append_left _ (List.mem_of_getElem? (i := 205) rfl)))))))))
set_option maxRecDepth 100000 in
theorem ez_c253 : es_cw (es_ME0 253) ∈ lw_tbl := List.mem_append_right _ (List.mem_append_right _ (List.mem_append_right _ (List.mem_append_right _ (List.mem_append_right _ (List.mem_append_right _ (List.mem_append_right _ (List.mem_append_right _ (List.mem_append_left _ (List.mem_of_getElem? (i := 225) rfl)))))))))
set_option maxRecDepth 100000 in
theorem ez_c254 : es_cw (es_ME0 254) ∈ lw_tbl := List.mem_append_right _ (List.mem_append_right _ (List.mem_append_right _ (List.mem_append_right _ (List.mem_append_right _ (List.mem_append_right _ (List.mem_append_right _ (List.mem_append_right _ (List.mem_append_left _ (List.mem_of_getElem? (i := 229) rfl)))))))))
set_option maxRecDepth 100000 in
theorem ez_c255 : es_cw (es_ME0 255) ∈ lw_tbl := List.mem_append_right _ (List.mem_append_right _ (List.mem_append_right _ (List.mem_append_right _ (List.mem_append_right _ (List.mem_append_right _ (List.mem_append_right _ (List.mem_append_right _ (List.mem_append_left _ (List.mem_of_getElem? (i := 233) rfl)))))))))
set_option maxRecDepth 100000 in
theorem ez_c256 : es_cw (es_ME0 256) ∈ lw_tbl := List.mem_append_right _ (List.mem_append_right _ (List.mem_append_right _ (List.mem_append_right _ (List.mem_append_right _ (List.mem_append_right _ (List.mem_append_right _ (List.mem_append_right _ (List.mem_append_right _ (List.mem_of_getElem? (i := 1) rfl)))))))))
set_option maxRecDepth 100000 in
theorem ez_c257 : es_cw (es_ME0 257) ∈ lw_tbl := List.mem_append_right _ (List.mem_append_right _ (List.mem_append_right _ (List.mem_append_right _ (List.mem_append_right _ (List.mem_append_right _ (List.mem_append_right _ (List.mem_append_right _ (List.mem_append_left _ (List.mem_of_getElem? (i := 237) rfl)))))))))
set_option maxRecDepth 100000 in
theorem ez_c258 : es_cw (es_ME0 258) ∈ lw_tbl := List.mem_append_right _ (List.mem_append_right _ (List.mem_append_right _ (List.mem_append_right _ (List.mem_append_right _ (List.mem_append_right _ (List.mem_append_right _ (List.mem_append_right _ (List.mem_append_right _ (List.mem_of_getElem? (i := 5) rfl)))))))))
set_option maxRecDepth 100000 in
theorem ez_c259 : es_cw (es_ME0 259) ∈ lw_tbl := List.mem_append_right _ (List.mem_append_right _ (List.mem_append_right _ (List.mem_append_right _ (List.mem_append_right _ (List.mem_append_right _ (List.mem_append_right _ (List.mem_append_right _ (List.mem_append_right _ (List.mem_of_getElem? (i := 9) rfl)))))))))
set_option maxRecDepth 100000 in
theorem ez_c260 : es_cw (es_ME0 260) ∈ lw_tbl := List.mem_append_right _ (List.mem_append_right _ (List.mem_append_right _ (List.mem_append_right _ (List.mem_append_right _ (List.mem_append_right _ (List.mem_append_right _ (List.mem_append_right _ (List.mem_append_right _ (List.mem_of_getElem? (i := 13) rfl)))))))))
set_option maxRecDepth 100000 in
theorem ez_c261 : es_cw (es_ME0 261) ∈ lw_tbl := List.mem_append_right _ (List.mem_append_right _ (List.mem_append_right _ (List.mem_append_right _ (List.mem_append_right _ (List.mem_append_right _ (List.mem_append_right _ (List.mem_append_right _ (List.mem_append_right _ (List.mem_of_getElem? (i := 17) rfl)))))))))
set_option maxRecDepth 100000 in
theorem ez_c262 : es_cw (es_ME0 262) ∈ lw_tbl := List.mem_append_right _ (List.mem_append_right _ (List.mem_append_right _ (List.mem_append_right _ (List.mem_append_right _ (List.mem_append_right _ (List.mem_append_right _ (List.mem_append_right _ (List.mem_append_right _ (List.mem_of_getElem? (i := 21) rfl)))))))))
set_option maxRecDepth 100000 in
theorem ez_c263 : es_cw (es_ME0 263) ∈ lw_tbl := List.mem_append_right _ (List.mem_append_right _ (List.mem_append_right _ (List.mem_append_right _ (List.mem_append_right _ (List.mem_append_right _ (List.mem_append_right _ (List.mem_append_right _ (List.mem_append_right _ (List.mem_of_getElem? (i := 25) rfl)))))))))
set_option maxRecDepth 100000 in
theorem ez_c264 : es_cw (es_ME0 264) ∈ lw_tbl := List.mem_append_right _ (List.mem_append_right _ (List.mem_append_left _ (List.mem_of_getElem? (i := 205) rfl)))
set_option maxRecDepth 100000 in
theorem ez_c265 : es_cw (es_ME0 265) ∈ lw_tbl := List.mem_append_right _ (List.mem_append_right _ (List.mem_append_right _ (List.mem_append_right _ (List.mem_append_right _ (List.mem_append_right _ (List.mem_append_left _ (List.mem_of_getElem? (i := 62) rfl)))))))
set_option maxRecDepth 100000 in
theorem ez_c266 : es_cw (es_ME0 266) ∈ lw_tbl := List.mem_append_right _ (List.mem_append_right _ (List.mem_append_right _ (List.mem_append_left _ (List.mem_of_getElem? (i := 72) rfl))))
set_option maxRecDepth 100000 in
theorem ez_c267 : es_cw (es_ME0 267) ∈ lw_tbl := List.mem_append_right _ (List.mem_append_right _ (List.mem_append_right _ (List.mem_append_left _ (List.mem_of_getElem? (i := 82) rfl))))
set_option maxRecDepth 100000 in
theorem ez_c268 : es_cw (es_ME0 268) ∈ lw_tbl := List.mem_append_right _ (List.mem_append_right _ (List.mem_append_right _ (List.mem_append_left _ (List.mem_of_getElem? (i := 76) rfl))))
set_option maxRecDepth 100000 in
theorem ez_c269 : es_cw (es_ME0 269) ∈ lw_tbl := List.mem_append_right _ (List.mem_append_right _ (List.mem_append_right _ (List.mem_append_left _ (List.mem_of_getElem? (i := 86) rfl))))
set_option maxRecDepth 100000 in
theorem ez_c270 : es_cw (es_ME0 270) ∈ lw_tbl := List.mem_append_right _ (List.mem_append_right _ (List.mem_append_right _ (List.mem_append_left _ (List.mem_of_getElem? (i := 92) rfl))))
set_option maxRecDepth 100000 in
theorem ez_c271 : es_cw (es_ME0 271) ∈ lw_tbl := List.mem_append_right _ (List.mem_append_right _ (List.mem_append_right _ (List.mem_append_left _ (List.mem_of_getElem? (i := 89) rfl))))
set_option maxRecDepth 100000 in
theorem ez_c272 : es_cw (es_ME0 272) ∈ lw_tbl := List.mem_append_right _ (List.mem_append_right _ (List.mem_append_right _ (List.mem_append_right _ (List.mem_append_right _ (List.mem_append_left _ (List.mem_of_getElem? (i := 203) rfl))))))
set_option maxRecDepth 100000 in
theorem ez_c273 : es_cw (es_ME0 273) ∈ lw_tbl := List.mem_append_right _ (List.mem_append_right _ (List.mem_append_right _ (List.mem_append_right _ (List.mem_append_right _ (List.mem_append_right _ (List.mem_append_left _ (List.mem_of_getElem? (i := 117) rfl)))))))
set_option maxRecDepth 100000 in
theorem ez_c274 : es_cw (es_ME0 274) ∈ lw_tbl := List.mem_append_right _ (List.mem_append_right _ (List.mem_append_right _ (List.mem_append_right _ (List.mem_append_left _ (List.mem_of_getElem? (i := 64) rfl)))))
set_option maxRecDepth 100000 in
theorem ez_c275 : es_cw (es_ME0 275) ∈ lw_tbl := List.mem_append_right _ (List.mem_append_right _ (List.mem_append_right _ (List.mem_append_left _ (List.mem_of_getElem? (i := 97) rfl))))
set_option maxRecDepth 100000 in
theorem ez_c276 : es_cw (es_ME0 276) ∈ lw_tbl := List.mem_append_right _ (List.mem_append_right _ (List.mem_append_right _ (List.mem_append_left _ (List.mem_of_getElem? (i := 36) rfl))))
set_option maxRecDepth 100000 in
theorem ez_c277 : es_cw (es_ME0 277) ∈ lw_tbl := List.mem_append_right _ (List.mem_append_right _ (List.mem_append_right _ (List.mem_append_right _ (List.mem_append_left _ (List.mem_of_getElem? (i := 49) rfl)))))
set_option maxRecDepth 100000 in
theorem ez_c278 : es_cw (es_ME0 278) ∈ lw_tbl := List.mem_append_right _ (List.mem_append_right _ (List.mem_append_right _ (List.mem_append_right _ (List.mem_append_left _ (List.mem_of_getElem? (i := 144) rfl)))))
set_option maxRecDepth 100000 in
theorem ez_c279 : es_cw (es_ME0 279) ∈ lw_tbl := List.mem_append_right _ (List.mem_append_right _ (List.mem_append_right _ (List.mem_append_right _ (List.mem_append_left _ (List.mem_of_getElem? (i := 193) rfl)))))
set_option maxRecDepth 100000 in
theorem ez_c280 : es_cw (es_ME0 280) ∈ lw_tbl := List.mem_append_right _ (List.mem_append_right _ (List.mem_append_right _ (List.mem_append_right _ (List.mem_append_right _ (List.mem_append_left _ (List.mem_of_getElem? (i := 9) rfl))))))
set_option maxRecDepth 100000 in
theorem ez_c281 : es_cw (es_ME0 281) ∈ lw_tbl := List.mem_append_right _ (List.mem_append_right _ (List.mem_append_right _ (List.mem_append_right _ (List.mem_append_right _ (List.mem_append_left _ (List.mem_of_getElem? (i := 21) rfl))))))
set_option maxRecDepth 100000 in
theorem ez_c282 : es_cw (es_ME0 282) ∈ lw_tbl := List.mem_append_right _ (List.mem_append_right _ (List.mem_append_right _ (List.mem_append_right _ (List.mem_append_right _ (List.mem_append_left _ (List.mem_of_getElem? (i := 33) rfl))))))
set_option maxRecDepth 100000 in
theorem ez_c283 : es_cw (es_ME0 283) ∈ lw_tbl := List.mem_append_right _ (List.mem_append_right _ (List.mem_append_right _ (List.mem_append_right _ (List.mem_append_right _ (List.mem_append_left _ (List.mem_of_getElem? (i := 77) rfl))))))
set_option maxRecDepth 100000 in
theorem ez_c284 : es_cw (es_ME0 284) ∈ lw_tbl := List.mem_append_right _ (List.mem_append_right _ (List.mem_append_right _ (List.mem_append_right _ (List.mem_append_right _ (List.mem_append_left _ (List.mem_of_getElem? (i := 93) rfl))))))
set_option maxRecDepth 100000 in
theorem ez_c285 : es_cw (es_ME0 285) ∈ lw_tbl := List.mem_append_right _ (List.mem_append_right _ (List.mem_append_right _ (List.mem_append_right _ (List.mem_append_right _ (List.mem_append_left _ (List.mem_of_getElem? (i := 101) rfl))))))
set_option maxRecDepth 100000 in
theorem ez_c286 : es_cw (es_ME0 286) ∈ lw_tbl := List.mem_append_right _ (List.mem_append_right _ (List.mem_append_right _ (List.mem_append_right _ (List.mem_append_right _ (List.mem_append_left _ (List.mem_of_getElem? (i := 113) rfl))))))
set_option maxRecDepth 100000 in
theorem ez_c287 : es_cw (es_ME0 287) ∈ lw_tbl := List.mem_append_right _ (List.mem_append_right _ (List.mem_append_right _ (List.mem_append_right _ (List.mem_append_right _ (List.mem_append_left _ (List.mem_of_getElem? (i := 121) rfl))))))
set_option maxRecDepth 100000 in
theorem ez_c288 : es_cw (es_ME0 288) ∈ lw_tbl := List.mem_append_right _ (List.mem_append_right _ (List.mem_append_right _ (List.mem_append_right _ (List.mem_append_right _ (List.mem_append_left _ (List.mem_of_getElem? (i := 128) rfl))))))
set_option maxRecDepth 100000 in
theorem ez_c289 : es_cw (es_ME0 289) ∈ lw_tbl := List.mem_append_right _ (List.mem_append_right _ (List.mem_append_right _ (List.mem_append_right _ (List.mem_append_right _ (List.mem_append_left _ (List.mem_of_getElem? (i := 152) rfl))))))
set_option maxRecDepth 100000 in
theorem ez_c290 : es_cw (es_ME0 290) ∈ lw_tbl := List.mem_append_right _ (List.mem_append_right _ (List.mem_append_right _ (List.mem_append_right _ (List.mem_append_right _ (List.mem_append_left _ (List.mem_of_getElem? (i := 163) rfl))))))
set_option maxRecDepth 100000 in
theorem ez_c291 : es_cw (es_ME0 291) ∈ lw_tbl := List.mem_append_right _ (List.mem_append_right _ (List.mem_append_right _ (List.mem_append_right _ (List.mem_append_right _ (List.mem_append_left _ (List.mem_of_getElem? (i := 170) rfl))))))
set_option maxRecDepth 100000 in
theorem ez_c292 : es_cw (es_ME0 292) ∈ lw_tbl := List.mem_append_right _ (List.mem_append_right _ (List.mem_append_right _ (List.mem_append_right _ (List.mem_append_right _ (List.mem_append_left _ (List.mem_of_getElem? (i := 177) rfl))))))
set_option maxRecDepth 100000 in
theorem ez_c293 : es_cw (es_ME0 293) ∈ lw_tbl := List.mem_append_right _ (List.mem_append_right _ (List.mem_append_right _ (List.mem_append_right _ (List.mem_append_right _ (List.mem_append_left _ (List.mem_of_getElem? (i := 184) rfl))))))
set_option maxRecDepth 100000 in
theorem ez_c294 : es_cw (es_ME0 294) ∈ lw_tbl := List.mem_append_right _ (List.mem_append_right _ (List.mem_append_right _ (List.mem_append_right _ (List.mem_append_right _ (List.mem_append_left _ (List.mem_of_getElem? (i := 191) rfl))))))
set_option maxRecDepth 100000 in
theorem ez_c295 : es_cw (es_ME0 295) ∈ lw_tbl := List.mem_append_right _ (List.mem_append_right _ (List.mem_append_right _ (List.mem_append_right _ (List.mem_append_right _ (List.mem_append_left _ (List.mem_of_getElem? (i := 239) rfl))))))
set_option maxRecDepth 100000 in
theorem ez_c296 : es_cw (es_ME0 296) ∈ lw_tbl := List.mem_append_right _ (List.mem_append_right _ (List.mem_append_right _ (List.mem_append_right _ (List.mem_append_right _ (List.mem_append_right _ (List.mem_append_left _ (List.mem_of_getElem? (i := 6) rfl)))))))
set_option maxRecDepth 100000 in
theorem ez_c297 : es_cw (es_ME0 297) ∈ lw_tbl := List.mem_append_right _ (List.mem_append_right _ (List.mem_append_right _ (List.mem_append_right _ (List.mem_append_right _ (List.mem_append_right _ (List.mem_append_left _ (List.mem_of_getElem? (i := 17) rfl)))))))
set_option maxRecDepth 100000 in
theorem ez_c298 : es_cw (es_ME0 298) ∈ lw_tbl := List.mem_append_right _ (List.mem_append_right _ (List.mem_append_right _ (List.mem_append_right _ (List.mem_append_right _ (List.mem_append_right _ (List.mem_append_left _ (List.mem_of_getElem? (i := 24) rfl)))))))
set_option maxRecDepth 100000 in
theorem ez_c299 : es_cw (es_ME0 299) ∈ lw_tbl := List.mem_append_right _ (List.mem_append_right _ (List.mem_append_right _ (List.mem_append_right _ (List.mem_append_right _ (List.mem_append_right _ (List.mem_append_left _ (List.mem_of_getElem? (i := 35) rfl)))))))
set_option maxRecDepth 100000 in
theorem ez_c300 : es_cw (es_ME0 300) ∈ lw_tbl := List.mem_append_right _ (List.mem_append_right _ (List.mem_append_right _ (List.mem_append_right _ (List.mem_append_right _ (List.mem_append_right _ (List.mem_append_left _ (List.mem_of_getElem? (i := 42) rfl)))))))
set_option maxRecDepth 100000 in
theorem ez_c301 : es_cw (es_ME0 301) ∈ lw_tbl := List.mem_append_right _ (List.mem_append_right _ (List.mem_append_right _ (List.mem_append_right _ (List.mem_append_right _ (List.mem_append_right _ (List.mem_append_left _ (List.mem_of_getElem? (i := 68) rfl)))))))
set_option maxRecDepth 100000 in
theorem ez_c302 : es_cw (es_ME0 302) ∈ lw_tbl := List.mem_append_right _ (List.mem_append_right _ (List.mem_append_right _ (List.mem_append_right _ (List.mem_append_right _ (List.mem_append_right _ (List.mem_append_left _ (List.mem_of_getElem? (i := 79) rfl)))))))
set_option maxRecDepth 100000 in
theorem ez_c303 : es_cw (es_ME0 303) ∈ lw_tbl := List.mem_append_right _ (List.mem_append_right _ (List.mem_append_right _ (List.mem_append_right _ (List.mem_append_right _ (List.mem_append_right _ (List.mem_append_left _ (List.mem_of_getElem? (i := 93) rfl)))))))
set_option maxRecDepth 100000 in
theorem ez_c304 : es_cw (es_ME0 304) ∈ lw_tbl := List.mem_append_right _ (List.mem_append_right _ (List.mem_append_right _ (List.mem_append_right _ (List.mem_append_right _ (List.mem_append_right _ (List.mem_append_left _ (List.mem_of_getElem? (i := 106) rfl)))))))
set_option maxRecDepth 100000 in
theorem ez_c305 : es_cw (es_ME0 305) ∈ lw_tbl := List.mem_append_right _ (List.mem_append_right _ (List.mem_append_right _ (List.mem_append_right _ (List.mem_append_right _ (List.mem_append_right _ (List.mem_append_left _ (List.mem_of_getElem? (i := 134) rfl)))))))
set_option maxRecDepth 100000 in
theorem ez_c306 : es_cw (es_ME0 306) ∈ lw_tbl := List.mem_append_right _ (List.mem_append_right _ (List.mem_append_right _ (List.mem_append_right _ (List.mem_append_right _ (List.mem_append_right _ (List.mem_append_left _ (List.mem_of_getElem? (i := 141) rfl)))))))
set_option maxRecDepth 100000 in
theorem ez_c307 : es_cw (es_ME0 307) ∈ lw_tbl := List.mem_append_right _ (List.mem_append_right _ (List.mem_append_right _ (List.mem_append_right _ (List.mem_append_right _ (List.mem_append_right _ (List.mem_append_left _ (List.mem_of_getElem? (i := 148) rfl)))))))
set_option maxRecDepth 100000 in
theorem ez_c308 : es_cw (es_ME0 308) ∈ lw_tbl := List.mem_append_right _ (List.mem_append_right _ (List.mem_append_right _ (List.mem_append_right _ (List.mem_append_right _ (List.mem_append_right _ (List.mem_append_left _ (List.mem_of_getElem? (i := 155) rfl)))))))
set_option maxRecDepth 100000 in
theorem ez_c309 : es_cw (es_ME0 309) ∈ lw_tbl := List.mem_append_right _ (List.mem_append_right _ (List.mem_append_right _ (List.mem_append_right _ (List.mem_append_right _ (List.mem_append_right _ (List.mem_append_left _ (List.mem_of_getElem? (i := 166) rfl)))))))
set_option maxRecDepth 100000 in
theorem ez_c310 : es_cw (es_ME0 310) ∈ lw_tbl := List.mem_append_right _ (List.mem_append_right _ (List.mem_append_right _ (List.mem_append_right _ (List.mem_append_right _ (List.mem_append_right _ (List.mem_append_right _ (List.mem_append_left _ (List.mem_of_getElem? (i := 21) rfl))))))))
theorem ez_cb0 : ∀ n, n < 16 → es_cw (es_ME0 (0 + n)) ∈ lw_tbl
  | 0, _ => ez_c0
  | 1, _ => ez_c1
  | 2, _ => ez_c2
  | 3, _ => ez_c3
  | 4, _ => ez_c4
  | 5, _ => ez_c5
  | 6, _ => ez_c6
  | 7, _ => ez_c7
  | 8, _ => ez_c8
  | 9, _ => ez_c9
  | 10, _ => ez_c10
  | 11, _ => ez_c11
  | 12, _ => ez_c12
  | 13, _ => ez_c13
  | 14, _ => ez_c14
  | 15, _ => ez_c15
  | n + 16, h => absurd h (by omega)
theorem ez_cb1 : ∀ n, n < 16 → es_cw (es_ME0 (16 + n)) ∈ lw_tbl
  | 0, _ => ez_c16
  | 1, _ => ez_c17
  | 2, _ => ez_c18
  | 3, _ => ez_c19
  | 4, _ => ez_c20
  | 5, _ => ez_c21
  | 6, _ => ez_c22
  | 7, _ => ez_c23
  | 8, _ => ez_c24
  | 9, _ => ez_c25
  | 10, _ => ez_c26
  | 11, _ => ez_c27
  | 12, _ => ez_c28
  | 13, _ => ez_c29
  | 14, _ => ez_c30
  | 15, _ => ez_c31
  | n + 16, h => absurd h (by omega)
theorem ez_cb2 : ∀ n, n < 16 → es_cw (es_ME0 (32 + n)) ∈ lw_tbl
  | 0, _ => ez_c32
  | 1, _ => ez_c33
  | 2, _ => ez_c34
  | 3, _ => ez_c35
  | 4, _ => ez_c36
  | 5, _ => ez_c37
  | 6, _ => ez_c38
  | 7, _ => ez_c39
  | 8, _ => ez_c40
  | 9, _ => ez_c41
  | 10, _ => ez_c42
  | 11, _ => ez_c43
  | 12, _ => ez_c44
  | 13, _ => ez_c45
  | 14, _ => ez_c46
  | 15, _ => ez_c47
  | n + 16, h => absurd h (by omega)
theorem ez_cb3 : ∀ n, n < 16 → es_cw (es_ME0 (48 + n)) ∈ lw_tbl
  | 0, _ => ez_c48
  | 1, _ => ez_c49
  | 2, _ => ez_c50
  | 3, _ => ez_c51
  | 4, _ => ez_c52
  | 5, _ => ez_c53
  | 6, _ => ez_c54
  | 7, _ => ez_c55
  | 8, _ => ez_c56
  | 9, _ => ez_c57
  | 10, _ => ez_c58
  | 11, _ => ez_c59
  | 12, _ => ez_c60
  | 13, _ => ez_c61
  | 14, _ => ez_c62
  | 15, _ => ez_c63
  | n + 16, h => absurd h (by omega)
theorem ez_cb4 : ∀ n, n < 16 → es_cw (es_ME0 (64 + n)) ∈ lw_tbl
  | 0, _ => ez_c64
  | 1, _ => ez_c65
  | 2, _ => ez_c66
  | 3, _ => ez_c67
  | 4, _ => ez_c68
  | 5, _ => ez_c69
  | 6, _ => ez_c70
  | 7, _ => ez_c71
  | 8, _ => ez_c72
  | 9, _ => ez_c73
  | 10, _ => ez_c74
  | 11, _ => ez_c75
  | 12, _ => ez_c76
  | 13, _ => ez_c77
  | 14, _ => ez_c78
  | 15, _ => ez_c79
  | n + 16, h => absurd h (by omega)
theorem ez_cb5 : ∀ n, n < 16 → es_cw (es_ME0 (80 + n)) ∈ lw_tbl
  | 0, _ => ez_c80
  | 1, _ => ez_c81
  | 2, _ => ez_c82
  | 3, _ => ez_c83
  | 4, _ => ez_c84
  | 5, _ => ez_c85
  | 6, _ => ez_c86
  | 7, _ => ez_c87
  | 8, _ => ez_c88
  | 9, _ => ez_c89
  | 10, _ => ez_c90
  | 11, _ => ez_c91
  | 12, _ => ez_c92
  | 13, _ => ez_c93
  | 14, _ => ez_c94
  | 15, _ => ez_c95
  | n + 16, h => absurd h (by omega)
theorem ez_cb6 : ∀ n, n < 16 → es_cw (es_ME0 (96 + n)) ∈ lw_tbl
  | 0, _ => ez_c96
  | 1, _ => ez_c97
  | 2, _ => ez_c98
  | 3, _ => ez_c99
  | 4, _ => ez_c100
  | 5, _ => ez_c101
  | 6, _ => ez_c102
  | 7, _ => ez_c103
  | 8, _ => ez_c104
  | 9, _ => ez_c105
  | 10, _ => ez_c106
  | 11, _ => ez_c107
  | 12, _ => ez_c108
  | 13, _ => ez_c109
  | 14, _ => ez_c110
  | 15, _ => ez_c111
  | n + 16, h => absurd h (by omega)
theorem ez_cb7 : ∀ n, n < 16 → es_cw (es_ME0 (112 + n)) ∈ lw_tbl
  | 0, _ => ez_c112
  | 1, _ => ez_c113
  | 2, _ => ez_c114
  | 3, _ => ez_c115
  | 4, _ => ez_c116
  | 5, _ => ez_c117
  | 6, _ => ez_c118
  | 7, _ => ez_c119
  | 8, _ => ez_c120
  | 9, _ => ez_c121
  | 10, _ => ez_c122
  | 11, _ => ez_c123
  | 12, _ => ez_c124
  | 13, _ => ez_c125
  | 14, _ => ez_c126
  | 15, _ => ez_c127
  | n + 16, h => absurd h (by omega)
theorem ez_cb8 : ∀ n, n < 16 → es_cw (es_ME0 (128 + n)) ∈ lw_tbl
  | 0, _ => ez_c128
  | 1, _ => ez_c129
  | 2, _ => ez_c130
  | 3, _ => ez_c131
  | 4, _ => ez_c132
  | 5, _ => ez_c133
  | 6, _ => ez_c134
  | 7, _ => ez_c135
  | 8, _ => ez_c136
  | 9, _ => ez_c137
  | 10, _ => ez_c138
  | 11, _ => ez_c139
  | 12, _ => ez_c140
  | 13, _ => ez_c141
  | 14, _ => ez_c142
  | 15, _ => ez_c143
  | n + 16, h => absurd h (by omega)
theorem ez_cb9 : ∀ n, n < 16 → es_cw (es_ME0 (144 + n)) ∈ lw_tbl
  | 0, _ => ez_c144
  | 1, _ => ez_c145
  | 2, _ => ez_c146
  | 3, _ => ez_c147
  | 4, _ => ez_c148
  | 5, _ => ez_c149
  | 6, _ => ez_c150
  | 7, _ => ez_c151
  | 8, _ => ez_c152
  | 9, _ => ez_c153
  | 10, _ => ez_c154
  | 11, _ => ez_c155
  | 12, _ => ez_c156
  | 13, _ => ez_c157
  | 14, _ => ez_c158
  | 15, _ => ez_c159
  | n + 16, h => absurd h (by omega)
theorem ez_cb10 : ∀ n, n < 16 → es_cw (es_ME0 (160 + n)) ∈ lw_tbl
  | 0, _ => ez_c160
  | 1, _ => ez_c161
  | 2, _ => ez_c162
  | 3, _ => ez_c163
  | 4, _ => ez_c164
  | 5, _ => ez_c165
  | 6, _ => ez_c166
  | 7, _ => ez_c167
  | 8, _ => ez_c168
  | 9, _ => ez_c169
  | 10, _ => ez_c170
  | 11, _ => ez_c171
  | 12, _ => ez_c172
  | 13, _ => ez_c173
  | 14, _ => ez_c174
  | 15, _ => ez_c175
  | n + 16, h => absurd h (by omega)
theorem ez_cb11 : ∀ n, n < 16 → es_cw (es_ME0 (176 + n)) ∈ lw_tbl
  | 0, _ => ez_c176
  | 1, _ => ez_c177
  | 2, _ => ez_c178
  | 3, _ => ez_c179
  | 4, _ => ez_c180
  | 5, _ => ez_c181
  | 6, _ => ez_c182
  | 7, _ => ez_c183
  | 8, _ => ez_c184
  | 9, _ => ez_c185
  | 10, _ => ez_c186
  | 11, _ => ez_c187
  | 12, _ => ez_c188
  | 13, _ => ez_c189
  | 14, _ => ez_c190
  | 15, _ => ez_c191
  | n + 16, h => absurd h (by omega)
theorem ez_cb12 : ∀ n, n < 16 → es_cw (es_ME0 (192 + n)) ∈ lw_tbl
  | 0, _ => ez_c192
  | 1, _ => ez_c193
  | 2, _ => ez_c194
  | 3, _ => ez_c195
  | 4, _ => ez_c196
  | 5, _ => ez_c197
  | 6, _ => ez_c198
  | 7, _ => ez_c199
  | 8, _ => ez_c200
  | 9, _ => ez_c201
  | 10, _ => ez_c202
  | 11, _ => ez_c203
  | 12, _ => ez_c204
  | 13, _ => ez_c205
  | 14, _ => ez_c206
  | 15, _ => ez_c207
  | n + 16, h => absurd h (by omega)
theorem ez_cb13 : ∀ n, n < 16 → es_cw (es_ME0 (208 + n)) ∈ lw_tbl
  | 0, _ => ez_c208
  | 1, _ => ez_c209
  | 2, _ => ez_c210
  | 3, _ => ez_c211
  | 4, _ => ez_c212
  | 5, _ => ez_c213
  | 6, _ => ez_c214
  | 7, _ => ez_c215
  | 8, _ => ez_c216
  | 9, _ => ez_c217
  | 10, _ => ez_c218
  | 11, _ => ez_c219
  | 12, _ => ez_c220
  | 13, _ => ez_c221
  | 14, _ => ez_c222
  | 15, _ => ez_c223
  | n + 16, h => absurd h (by omega)
theorem ez_cb14 : ∀ n, n < 16 → es_cw (es_ME0 (224 + n)) ∈ lw_tbl
  | 0, _ => ez_c224
  | 1, _ => ez_c225
  | 2, _ => ez_c226
  | 3, _ => ez_c227
  | 4, _ => ez_c228
  | 5, _ => ez_c229
  | 6, _ => ez_c230
  | 7, _ => ez_c231
  | 8, _ => ez_c232
  | 9, _ => ez_c233
  | 10, _ => ez_c234
  | 11, _ => ez_c235
  | 12, _ => ez_c236
  | 13, _ => ez_c237
  | 14, _ => ez_c238
  | 15, _ => ez_c239
  | n + 16, h => absurd h (by omega)
theorem ez_cb15 : ∀ n, n < 16 → es_cw (es_ME0 (240 + n)) ∈ lw_tbl
  | 0, _ => ez_c240
  | 1, _ => ez_c241
  | 2, _ => ez_c242
  | 3, _ => ez_c243
  | 4, _ => ez_c244
  | 5, _ => ez_c245
  | 6, _ => ez_c246
  | 7, _ => ez_c247
  | 8, _ => ez_c248
  | 9, _ => ez_c249
  | 10, _ => ez_c250
  | 11, _ => ez_c251
  | 12, _ => ez_c252
  | 13, _ => ez_c253
  | 14, _ => ez_c254
  | 15, _ => ez_c255
  | n + 16, h => absurd h (by omega)
theorem ez_cb16 : ∀ n, n < 16 → es_cw (es_ME0 (256 + n)) ∈ lw_tbl
  | 0, _ => ez_c256
  | 1, _ => ez_c257
  | 2, _ => ez_c258
  | 3, _ => ez_c259
  | 4, _ => ez_c260
  | 5, _ => ez_c261
  | 6, _ => ez_c262
  | 7, _ => ez_c263
  | 8, _ => ez_c264
  | 9, _ => ez_c265
  | 10, _ => ez_c266
  | 11, _ => ez_c267
  | 12, _ => ez_c268
  | 13, _ => ez_c269
  | 14, _ => ez_c270
  | 15, _ => ez_c271
  | n + 16, h => absurd h (by omega)
theorem ez_cb17 : ∀ n, n < 16 → es_cw (es_ME0 (272 + n)) ∈ lw_tbl
  | 0, _ => ez_c272
  | 1, _ => ez_c273
  | 2, _ => ez_c274
  | 3, _ => ez_c275
  | 4, _ => ez_c276
  | 5, _ => ez_c277
  | 6, _ => ez_c278
  | 7, _ => ez_c279
  | 8, _ => ez_c280
  | 9, _ => ez_c281
  | 10, _ => ez_c282
  | 11, _ => ez_c283
  | 12, _ => ez_c284
  | 13, _ => ez_c285
  | 14, _ => ez_c286
  | 15, _ => ez_c287
  | n + 16, h => absurd h (by omega)
theorem ez_cb18 : ∀ n, n < 16 → es_cw (es_ME0 (288 + n)) ∈ lw_tbl
  | 0, _ => ez_c288
  | 1, _ => ez_c289
  | 2, _ => ez_c290
  | 3, _ => ez_c291
  | 4, _ => ez_c292
  | 5, _ => ez_c293
  | 6, _ => ez_c294
  | 7, _ => ez_c295
  | 8, _ => ez_c296
  | 9, _ => ez_c297
  | 10, _ => ez_c298
  | 11, _ => ez_c299
  | 12, _ => ez_c300
  | 13, _ => ez_c301
  | 14, _ => ez_c302
  | 15, _ => ez_c303
  | n + 16, h => absurd h (by omega)
theorem ez_cb19 : ∀ n, n < 7 → es_cw (es_ME0 (304 + n)) ∈ lw_tbl
  | 0, _ => ez_c304
  | 1, _ => ez_c305
  | 2, _ => ez_c306
  | 3, _ => ez_c307
  | 4, _ => ez_c308
  | 5, _ => ez_c309
  | 6, _ => ez_c310
  | n + 7, h => absurd h (by omega)
theorem ez_call (n : Nat) (hn : n < 311) : es_cw (es_ME0 n) ∈ lw_tbl := by
  by_cases h0 : n < 16
  · have h := ez_cb0 (n - 0) (by omega)
    rw [show 0 + (n - 0) = n by omega] at h
    exact h
  by_cases h1 : n < 32
  · have h := ez_cb1 (n - 16) (by omega)
    rw [show 16 + (n - 16) = n by omega] at h
    exact h
  by_cases h2 : n < 48
  · have h := ez_cb2 (n - 32) (by omega)
    rw [show 32 + (n - 32) = n by omega] at h
    exact h
  by_cases h3 : n < 64
  · have h := ez_cb3 (n - 48) (by omega)
    rw [show 48 + (n - 48) = n by omega] at h
    exact h
  by_cases h4 : n < 80
  · have h := ez_cb4 (n - 64) (by omega)
    rw [show 64 + (n - 64) = n by omega] at h
    exact h
  by_cases h5 : n < 96
  · have h := ez_cb5 (n - 80) (by omega)
    rw [show 80 + (n - 80) = n by omega] at h
    exact h
  by_cases h6 : n < 112
  · have h := ez_cb6 (n - 96) (by omega)
    rw [show 96 + (n - 96) = n by omega] at h
    exact h
  by_cases h7 : n < 128
  · have h := ez_cb7 (n - 112) (by omega)
    rw [show 112 + (n - 112) = n by omega] at h
    exact h
  by_cases h8 : n < 144
  · have h := ez_cb8 (n - 128) (by omega)
    rw [show 128 + (n - 128) = n by omega] at h
    exact h
  by_cases h9 : n < 160
  · have h := ez_cb9 (n - 144) (by omega)
    rw [show 144 + (n - 144) = n by omega] at h
    exact h
  by_cases h10 : n < 176
  · have h := ez_cb10 (n - 160) (by omega)
    rw [show 160 + (n - 160) = n by omega] at h
    exact h
  by_cases h11 : n < 192
  · have h := ez_cb11 (n - 176) (by omega)
    rw [show 176 + (n - 176) = n by omega] at h
    exact h
  by_cases h12 : n < 208
  · have h := ez_cb12 (n - 192) (by omega)
    rw [show 192 + (n - 192) = n by omega] at h
    exact h
  by_cases h13 : n < 224
  · have h := ez_cb13 (n - 208) (by omega)
    rw [show 208 + (n - 208) = n by omega] at h
    exact h
  by_cases h14 : n < 240
  · have h := ez_cb14 (n - 224) (by omega)
    rw [show 224 + (n - 224) = n by omega] at h
    exact h
  by_cases h15 : n < 256
  · have h := ez_cb15 (n - 240) (by omega)
    rw [show 240 + (n - 240) = n by omega] at h
    exact h
  by_cases h16 : n < 272
  · have h := ez_cb16 (n - 256) (by omega)
    rw [show 256 + (n - 256) = n by omega] at h
    exact h
  by_cases h17 : n < 288
  · have h := ez_cb17 (n - 272) (by omega)
    rw [show 272 + (n - 272) = n by omega] at h
    exact h
  by_cases h18 : n < 304
  · have h := ez_cb18 (n - 288) (by omega)
    rw [show 288 + (n - 288) = n by omega] at h
    exact h
  by_cases h19 : n < 311
  · have h := ez_cb19 (n - 304) (by omega)
    rw [show 304 + (n - 304) = n by omega] at h
    exact h
  omega
