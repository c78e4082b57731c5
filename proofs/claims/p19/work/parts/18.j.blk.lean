noncomputable def gp0 (l : List es_I) : Nat := match l with
  | [] => 0
  | e :: _ => e.1
noncomputable def gsq : Nat → Nat → List es_I → Bool
  | _, _, [] => true
  | pc, b, e :: r => (Nat.beq e.1 pc && Nat.blt pc b) && (Nat.blt 0 e.2.2.1 && gsq (pc + e.2.2.1) b r)
noncomputable def gsT : Nat → List (Nat × List es_I) → Bool
  | _, [] => true
  | lo, q :: t => ((Nat.ble lo (gp0 q.2) && Nat.ble (gp0 q.2) q.1) && gsq (gp0 q.2) q.1 q.2) && gsT q.1 t
noncomputable def gnb : List (Nat × List es_I) → Nat → List es_I
  | [], _ => []
  | q :: _, 0 => q.2
  | _ :: t, i + 1 => gnb t i
theorem gs_fi : ∀ {l : List es_I} {pc b : Nat}, gsq pc b l = true → ∀ e ∈ l, es_fi l e.1 = some e ∧ pc ≤ e.1 ∧ e.1 < b
  | [], _, _, _, e, he => by cases he
  | q :: t, pc, b, h, e, he => by
    unfold gsq at h
    simp only [Bool.and_eq_true, es_beq, es_blt] at h
    obtain ⟨⟨h1, h2⟩, h3, h4⟩ := h
    unfold es_fi
    rcases List.mem_cons.mp he with hq | he
    · subst hq
      refine ⟨?_, by omega, by omega⟩
      rw [Nat.beq_refl]
      rfl
    · obtain ⟨h5, h6, h7⟩ := gs_fi h4 e he
      refine ⟨?_, by omega, h7⟩
      have h8 : Nat.beq q.1 e.1 = false := es_beqf.mpr (by omega)
      rw [h8]
      exact h5
theorem gs_at : ∀ {tab : List (Nat × List es_I)} {lo i : Nat}, gsT lo tab = true → ∀ e ∈ gnb tab i, es_at tab e.1 = some e ∧ lo ≤ e.1
  | [], _, _, _, e, he => by cases he
  | q :: t, lo, 0, h, e, he => by
    unfold gsT at h
    simp only [Bool.and_eq_true, Nat.ble_eq] at h
    obtain ⟨⟨⟨h1, h0⟩, h2⟩, h3⟩ := h
    obtain ⟨h5, h6, h7⟩ := gs_fi h2 e he
    unfold es_at
    rw [es_blt.mpr h7]
    exact ⟨h5, by omega⟩
  | q :: t, lo, i + 1, h, e, he => by
    unfold gsT at h
    simp only [Bool.and_eq_true, Nat.ble_eq] at h
    obtain ⟨⟨⟨h1, h0⟩, h2⟩, h3⟩ := h
    obtain ⟨h5, h6⟩ := gs_at (i := i) h3 e he
    unfold es_at
    cases hb : Nat.blt e.1 q.1
    · exact ⟨h5, by omega⟩
    · have := es_blt.mp hb
      omega
theorem gs_q : ∀ {tab : List (Nat × List es_I)} {lo i : Nat}, gsT lo tab = true → ∃ b, gsq (gp0 (gnb tab i)) b (gnb tab i) = true
  | [], _, _, _ => ⟨0, rfl⟩
  | q :: t, lo, 0, h => by
    unfold gsT at h
    simp only [Bool.and_eq_true] at h
    exact ⟨q.1, h.1.2⟩
  | q :: t, lo, i + 1, h => by
    unfold gsT at h
    simp only [Bool.and_eq_true] at h
    exact gs_q (i := i) h.2
theorem gs_ch {T : es_M} : ∀ {cd : List es_I} {pc b : Nat}, (∀ e ∈ cd, es_at (es_tab T) e.1 = some e) → gsq pc b cd = true → gch T pc cd = true
  | [], _, _, _, _ => rfl
  | e :: r, pc, b, h, hq => by
    unfold gsq at hq
    simp only [Bool.and_eq_true, es_beq, es_blt] at hq
    obtain ⟨⟨h1, h2⟩, h3, h4⟩ := hq
    subst h1
    unfold gch
    rw [gs_ch (fun x hx => h x (List.mem_cons_of_mem _ hx)) h4, Nat.beq_refl, h e List.mem_cons_self, decide_eq_true rfl]
    rfl
theorem g_rb {X : gX} {T : es_M} {m d pc : Nat} {cd cd' : List es_I} {L : List (Nat × gV)} {S : List gV} {s : gS} {cs ss : Nat} {Q : Type} {x : Option Q} {κ : Q → Option gO} (hT : gsT 0 (es_tab T) = true) (i : Nat) (h : gnb (es_tab T) i = cd') (hp : gp0 cd' = pc) (k : Go X T m d pc cd' L S s cs ss x κ) : Go X T m d pc cd L S s cs ss x κ := by
  subst hp
  subst h
  obtain ⟨b, hb⟩ := gs_q (i := i) hT
  exact g_re (gs_ch (fun e he => (gs_at hT e he).1) hb) k
theorem gs_268 : gsT 0 (es_tab em_268) = true := by decide +kernel
theorem gs_269 : gsT 0 (es_tab em_269) = true := by decide +kernel
theorem gs_266 : gsT 0 (es_tab em_266) = true := by decide +kernel
theorem gs_275 : gsT 0 (es_tab em_275) = true := by decide +kernel
theorem gs_270 : gsT 0 (es_tab em_270) = true := by decide +kernel
theorem gs_271 : gsT 0 (es_tab em_271) = true := by decide +kernel
theorem gs_267 : gsT 0 (es_tab em_267) = true := by decide +kernel
theorem gs_274 : gsT 0 (es_tab em_274) = true := by decide +kernel
theorem gs_1 : gsT 0 (es_tab em_1) = true := by decide +kernel
theorem gs_2 : gsT 0 (es_tab em_2) = true := by decide +kernel
theorem gs_3 : gsT 0 (es_tab em_3) = true := by decide +kernel
theorem gs_4 : gsT 0 (es_tab em_4) = true := by decide +kernel
theorem gs_5 : gsT 0 (es_tab em_5) = true := by decide +kernel
theorem gs_6 : gsT 0 (es_tab em_6) = true := by decide +kernel
theorem gs_7 : gsT 0 (es_tab em_7) = true := by decide +kernel
theorem gs_8 : gsT 0 (es_tab em_8) = true := by decide +kernel
theorem gs_9 : gsT 0 (es_tab em_9) = true := by decide +kernel
theorem gs_78 : gsT 0 (es_tab em_78) = true := by decide +kernel
theorem gs_77 : gsT 0 (es_tab em_77) = true := by decide +kernel
theorem gs_79 : gsT 0 (es_tab em_79) = true := by decide +kernel
theorem gs_80 : gsT 0 (es_tab em_80) = true := by decide +kernel
theorem gs_82 : gsT 0 (es_tab em_82) = true := by decide +kernel
theorem gs_84 : gsT 0 (es_tab em_84) = true := by decide +kernel
theorem gs_13 : gsT 0 (es_tab em_13) = true := by decide +kernel
theorem gs_15 : gsT 0 (es_tab em_15) = true := by decide +kernel
theorem gs_85 : gsT 0 (es_tab em_85) = true := by decide +kernel
theorem gs_14 : gsT 0 (es_tab em_14) = true := by decide +kernel
theorem gs_24 : gsT 0 (es_tab em_24) = true := by decide +kernel
theorem gs_16 : gsT 0 (es_tab em_16) = true := by decide +kernel
theorem gs_17 : gsT 0 (es_tab em_17) = true := by decide +kernel
theorem gs_25 : gsT 0 (es_tab em_25) = true := by decide +kernel
theorem gs_18 : gsT 0 (es_tab em_18) = true := by decide +kernel
theorem gs_19 : gsT 0 (es_tab em_19) = true := by decide +kernel
theorem gs_20 : gsT 0 (es_tab em_20) = true := by decide +kernel
theorem gs_12 : gsT 0 (es_tab em_12) = true := by decide +kernel
theorem gs_81 : gsT 0 (es_tab em_81) = true := by decide +kernel
theorem gs_83 : gsT 0 (es_tab em_83) = true := by decide +kernel
theorem gs_11 : gsT 0 (es_tab em_11) = true := by decide +kernel
theorem gs_59 : gsT 0 (es_tab em_59) = true := by decide +kernel
theorem gs_23 : gsT 0 (es_tab em_23) = true := by decide +kernel
theorem gs_54 : gsT 0 (es_tab em_54) = true := by decide +kernel
theorem gs_22 : gsT 0 (es_tab em_22) = true := by decide +kernel
theorem gs_26 : gsT 0 (es_tab em_26) = true := by decide +kernel
theorem gs_61 : gsT 0 (es_tab em_61) = true := by decide +kernel
theorem gs_60 : gsT 0 (es_tab em_60) = true := by decide +kernel
theorem gs_35 : gsT 0 (es_tab em_35) = true := by decide +kernel
theorem gs_36 : gsT 0 (es_tab em_36) = true := by decide +kernel
theorem gs_41 : gsT 0 (es_tab em_41) = true := by decide +kernel
theorem gs_40 : gsT 0 (es_tab em_40) = true := by decide +kernel
theorem gs_38 : gsT 0 (es_tab em_38) = true := by decide +kernel
theorem gs_39 : gsT 0 (es_tab em_39) = true := by decide +kernel
theorem gs_37 : gsT 0 (es_tab em_37) = true := by decide +kernel
theorem gs_34 : gsT 0 (es_tab em_34) = true := by decide +kernel
theorem gs_28 : gsT 0 (es_tab em_28) = true := by decide +kernel
theorem gs_29 : gsT 0 (es_tab em_29) = true := by decide +kernel
theorem gs_27 : gsT 0 (es_tab em_27) = true := by decide +kernel
theorem gs_30 : gsT 0 (es_tab em_30) = true := by decide +kernel
theorem gs_31 : gsT 0 (es_tab em_31) = true := by decide +kernel
theorem gs_32 : gsT 0 (es_tab em_32) = true := by decide +kernel
theorem gs_42 : gsT 0 (es_tab em_42) = true := by decide +kernel
theorem gs_45 : gsT 0 (es_tab em_45) = true := by decide +kernel
theorem gs_52 : gsT 0 (es_tab em_52) = true := by decide +kernel
theorem gs_51 : gsT 0 (es_tab em_51) = true := by decide +kernel
theorem gs_50 : gsT 0 (es_tab em_50) = true := by decide +kernel
theorem gs_47 : gsT 0 (es_tab em_47) = true := by decide +kernel
theorem gs_48 : gsT 0 (es_tab em_48) = true := by decide +kernel
theorem gs_49 : gsT 0 (es_tab em_49) = true := by decide +kernel
theorem gs_46 : gsT 0 (es_tab em_46) = true := by decide +kernel
theorem gs_44 : gsT 0 (es_tab em_44) = true := by decide +kernel
theorem gs_55 : gsT 0 (es_tab em_55) = true := by decide +kernel
theorem gs_56 : gsT 0 (es_tab em_56) = true := by decide +kernel
theorem gs_57 : gsT 0 (es_tab em_57) = true := by decide +kernel
theorem gs_273 : gsT 0 (es_tab em_273) = true := by decide +kernel
theorem gs_64 : gsT 0 (es_tab em_64) = true := by decide +kernel
theorem gs_63 : gsT 0 (es_tab em_63) = true := by decide +kernel
theorem gs_65 : gsT 0 (es_tab em_65) = true := by decide +kernel
theorem gs_66 : gsT 0 (es_tab em_66) = true := by decide +kernel
theorem gs_272 : gsT 0 (es_tab em_272) = true := by decide +kernel
theorem gs_68 : gsT 0 (es_tab em_68) = true := by decide +kernel
theorem gs_73 : gsT 0 (es_tab em_73) = true := by decide +kernel
theorem gs_72 : gsT 0 (es_tab em_72) = true := by decide +kernel
theorem gs_70 : gsT 0 (es_tab em_70) = true := by decide +kernel
theorem gs_71 : gsT 0 (es_tab em_71) = true := by decide +kernel
theorem gs_69 : gsT 0 (es_tab em_69) = true := by decide +kernel
theorem gs_74 : gsT 0 (es_tab em_74) = true := by decide +kernel
theorem gs_76 : gsT 0 (es_tab em_76) = true := by decide +kernel
theorem gs_87 : gsT 0 (es_tab em_87) = true := by decide +kernel
theorem gs_88 : gsT 0 (es_tab em_88) = true := by decide +kernel
theorem gs_89 : gsT 0 (es_tab em_89) = true := by decide +kernel
theorem gs_90 : gsT 0 (es_tab em_90) = true := by decide +kernel
theorem gs_91 : gsT 0 (es_tab em_91) = true := by decide +kernel
theorem gs_134 : gsT 0 (es_tab em_134) = true := by decide +kernel
theorem gs_92 : gsT 0 (es_tab em_92) = true := by decide +kernel
theorem gs_135 : gsT 0 (es_tab em_135) = true := by decide +kernel
theorem gs_93 : gsT 0 (es_tab em_93) = true := by decide +kernel
theorem gs_136 : gsT 0 (es_tab em_136) = true := by decide +kernel
theorem gs_94 : gsT 0 (es_tab em_94) = true := by decide +kernel
theorem gs_137 : gsT 0 (es_tab em_137) = true := by decide +kernel
theorem gs_95 : gsT 0 (es_tab em_95) = true := by decide +kernel
theorem gs_139 : gsT 0 (es_tab em_139) = true := by decide +kernel
theorem gs_140 : gsT 0 (es_tab em_140) = true := by decide +kernel
theorem gs_96 : gsT 0 (es_tab em_96) = true := by decide +kernel
theorem gs_97 : gsT 0 (es_tab em_97) = true := by decide +kernel
theorem gs_98 : gsT 0 (es_tab em_98) = true := by decide +kernel
theorem gs_138 : gsT 0 (es_tab em_138) = true := by decide +kernel
theorem gs_99 : gsT 0 (es_tab em_99) = true := by decide +kernel
theorem gs_100 : gsT 0 (es_tab em_100) = true := by decide +kernel
theorem gs_101 : gsT 0 (es_tab em_101) = true := by decide +kernel
theorem gs_102 : gsT 0 (es_tab em_102) = true := by decide +kernel
theorem gs_141 : gsT 0 (es_tab em_141) = true := by decide +kernel
theorem gs_103 : gsT 0 (es_tab em_103) = true := by decide +kernel
theorem gs_104 : gsT 0 (es_tab em_104) = true := by decide +kernel
theorem gs_105 : gsT 0 (es_tab em_105) = true := by decide +kernel
theorem gs_106 : gsT 0 (es_tab em_106) = true := by decide +kernel
theorem gs_107 : gsT 0 (es_tab em_107) = true := by decide +kernel
theorem gs_108 : gsT 0 (es_tab em_108) = true := by decide +kernel
theorem gs_109 : gsT 0 (es_tab em_109) = true := by decide +kernel
theorem gs_110 : gsT 0 (es_tab em_110) = true := by decide +kernel
theorem gs_264 : gsT 0 (es_tab em_264) = true := by decide +kernel
theorem gs_111 : gsT 0 (es_tab em_111) = true := by decide +kernel
theorem gs_112 : gsT 0 (es_tab em_112) = true := by decide +kernel
theorem gs_113 : gsT 0 (es_tab em_113) = true := by decide +kernel
theorem gs_143 : gsT 0 (es_tab em_143) = true := by decide +kernel
theorem gs_144 : gsT 0 (es_tab em_144) = true := by decide +kernel
theorem gs_142 : gsT 0 (es_tab em_142) = true := by decide +kernel
theorem gs_265 : gsT 0 (es_tab em_265) = true := by decide +kernel
theorem gs_114 : gsT 0 (es_tab em_114) = true := by decide +kernel
theorem gs_145 : gsT 0 (es_tab em_145) = true := by decide +kernel
theorem gs_115 : gsT 0 (es_tab em_115) = true := by decide +kernel
theorem gs_146 : gsT 0 (es_tab em_146) = true := by decide +kernel
theorem gs_147 : gsT 0 (es_tab em_147) = true := by decide +kernel
theorem gs_116 : gsT 0 (es_tab em_116) = true := by decide +kernel
theorem gs_148 : gsT 0 (es_tab em_148) = true := by decide +kernel
theorem gs_117 : gsT 0 (es_tab em_117) = true := by decide +kernel
theorem gs_118 : gsT 0 (es_tab em_118) = true := by decide +kernel
theorem gs_119 : gsT 0 (es_tab em_119) = true := by decide +kernel
theorem gs_120 : gsT 0 (es_tab em_120) = true := by decide +kernel
theorem gs_121 : gsT 0 (es_tab em_121) = true := by decide +kernel
theorem gs_122 : gsT 0 (es_tab em_122) = true := by decide +kernel
theorem gs_123 : gsT 0 (es_tab em_123) = true := by decide +kernel
theorem gs_124 : gsT 0 (es_tab em_124) = true := by decide +kernel
theorem gs_125 : gsT 0 (es_tab em_125) = true := by decide +kernel
theorem gs_126 : gsT 0 (es_tab em_126) = true := by decide +kernel
theorem gs_127 : gsT 0 (es_tab em_127) = true := by decide +kernel
theorem gs_128 : gsT 0 (es_tab em_128) = true := by decide +kernel
theorem gs_129 : gsT 0 (es_tab em_129) = true := by decide +kernel
theorem gs_130 : gsT 0 (es_tab em_130) = true := by decide +kernel
theorem gs_131 : gsT 0 (es_tab em_131) = true := by decide +kernel
theorem gs_132 : gsT 0 (es_tab em_132) = true := by decide +kernel
theorem gs_133 : gsT 0 (es_tab em_133) = true := by decide +kernel
theorem gs_150 : gsT 0 (es_tab em_150) = true := by decide +kernel
theorem gs_151 : gsT 0 (es_tab em_151) = true := by decide +kernel
theorem gs_152 : gsT 0 (es_tab em_152) = true := by decide +kernel
theorem gs_153 : gsT 0 (es_tab em_153) = true := by decide +kernel
theorem gs_154 : gsT 0 (es_tab em_154) = true := by decide +kernel
theorem gs_155 : gsT 0 (es_tab em_155) = true := by decide +kernel
theorem gs_156 : gsT 0 (es_tab em_156) = true := by decide +kernel
theorem gs_157 : gsT 0 (es_tab em_157) = true := by decide +kernel
theorem gs_158 : gsT 0 (es_tab em_158) = true := by decide +kernel
theorem gs_159 : gsT 0 (es_tab em_159) = true := by decide +kernel
theorem gs_160 : gsT 0 (es_tab em_160) = true := by decide +kernel
theorem gs_161 : gsT 0 (es_tab em_161) = true := by decide +kernel
theorem gs_162 : gsT 0 (es_tab em_162) = true := by decide +kernel
theorem gs_163 : gsT 0 (es_tab em_163) = true := by decide +kernel
theorem gs_164 : gsT 0 (es_tab em_164) = true := by decide +kernel
theorem gs_165 : gsT 0 (es_tab em_165) = true := by decide +kernel
theorem gs_166 : gsT 0 (es_tab em_166) = true := by decide +kernel
theorem gs_167 : gsT 0 (es_tab em_167) = true := by decide +kernel
theorem gs_168 : gsT 0 (es_tab em_168) = true := by decide +kernel
theorem gs_169 : gsT 0 (es_tab em_169) = true := by decide +kernel
theorem gs_170 : gsT 0 (es_tab em_170) = true := by decide +kernel
theorem gs_171 : gsT 0 (es_tab em_171) = true := by decide +kernel
theorem gs_172 : gsT 0 (es_tab em_172) = true := by decide +kernel
theorem gs_173 : gsT 0 (es_tab em_173) = true := by decide +kernel
theorem gs_174 : gsT 0 (es_tab em_174) = true := by decide +kernel
theorem gs_175 : gsT 0 (es_tab em_175) = true := by decide +kernel
theorem gs_176 : gsT 0 (es_tab em_176) = true := by decide +kernel
theorem gs_177 : gsT 0 (es_tab em_177) = true := by decide +kernel
theorem gs_178 : gsT 0 (es_tab em_178) = true := by decide +kernel
theorem gs_179 : gsT 0 (es_tab em_179) = true := by decide +kernel
theorem gs_180 : gsT 0 (es_tab em_180) = true := by decide +kernel
theorem gs_181 : gsT 0 (es_tab em_181) = true := by decide +kernel
theorem gs_182 : gsT 0 (es_tab em_182) = true := by decide +kernel
theorem gs_183 : gsT 0 (es_tab em_183) = true := by decide +kernel
theorem gs_188 : gsT 0 (es_tab em_188) = true := by decide +kernel
theorem gs_189 : gsT 0 (es_tab em_189) = true := by decide +kernel
theorem gs_190 : gsT 0 (es_tab em_190) = true := by decide +kernel
theorem gs_191 : gsT 0 (es_tab em_191) = true := by decide +kernel
theorem gs_192 : gsT 0 (es_tab em_192) = true := by decide +kernel
theorem gs_193 : gsT 0 (es_tab em_193) = true := by decide +kernel
theorem gs_194 : gsT 0 (es_tab em_194) = true := by decide +kernel
theorem gs_184 : gsT 0 (es_tab em_184) = true := by decide +kernel
theorem gs_185 : gsT 0 (es_tab em_185) = true := by decide +kernel
theorem gs_186 : gsT 0 (es_tab em_186) = true := by decide +kernel
theorem gs_187 : gsT 0 (es_tab em_187) = true := by decide +kernel
theorem gs_195 : gsT 0 (es_tab em_195) = true := by decide +kernel
theorem gs_196 : gsT 0 (es_tab em_196) = true := by decide +kernel
theorem gs_197 : gsT 0 (es_tab em_197) = true := by decide +kernel
theorem gs_198 : gsT 0 (es_tab em_198) = true := by decide +kernel
theorem gs_199 : gsT 0 (es_tab em_199) = true := by decide +kernel
theorem gs_200 : gsT 0 (es_tab em_200) = true := by decide +kernel
theorem gs_201 : gsT 0 (es_tab em_201) = true := by decide +kernel
theorem gs_202 : gsT 0 (es_tab em_202) = true := by decide +kernel
theorem gs_203 : gsT 0 (es_tab em_203) = true := by decide +kernel
theorem gs_204 : gsT 0 (es_tab em_204) = true := by decide +kernel
theorem gs_205 : gsT 0 (es_tab em_205) = true := by decide +kernel
theorem gs_206 : gsT 0 (es_tab em_206) = true := by decide +kernel
theorem gs_207 : gsT 0 (es_tab em_207) = true := by decide +kernel
theorem gs_208 : gsT 0 (es_tab em_208) = true := by decide +kernel
theorem gs_209 : gsT 0 (es_tab em_209) = true := by decide +kernel
theorem gs_210 : gsT 0 (es_tab em_210) = true := by decide +kernel
theorem gs_211 : gsT 0 (es_tab em_211) = true := by decide +kernel
theorem gs_212 : gsT 0 (es_tab em_212) = true := by decide +kernel
theorem gs_213 : gsT 0 (es_tab em_213) = true := by decide +kernel
theorem gs_214 : gsT 0 (es_tab em_214) = true := by decide +kernel
theorem gs_215 : gsT 0 (es_tab em_215) = true := by decide +kernel
theorem gs_216 : gsT 0 (es_tab em_216) = true := by decide +kernel
theorem gs_217 : gsT 0 (es_tab em_217) = true := by decide +kernel
theorem gs_218 : gsT 0 (es_tab em_218) = true := by decide +kernel
theorem gs_219 : gsT 0 (es_tab em_219) = true := by decide +kernel
theorem gs_220 : gsT 0 (es_tab em_220) = true := by decide +kernel
theorem gs_221 : gsT 0 (es_tab em_221) = true := by decide +kernel
theorem gs_222 : gsT 0 (es_tab em_222) = true := by decide +kernel
theorem gs_223 : gsT 0 (es_tab em_223) = true := by decide +kernel
theorem gs_224 : gsT 0 (es_tab em_224) = true := by decide +kernel
theorem gs_225 : gsT 0 (es_tab em_225) = true := by decide +kernel
theorem gs_228 : gsT 0 (es_tab em_228) = true := by decide +kernel
theorem gs_226 : gsT 0 (es_tab em_226) = true := by decide +kernel
theorem gs_227 : gsT 0 (es_tab em_227) = true := by decide +kernel
theorem gs_229 : gsT 0 (es_tab em_229) = true := by decide +kernel
theorem gs_230 : gsT 0 (es_tab em_230) = true := by decide +kernel
theorem gs_231 : gsT 0 (es_tab em_231) = true := by decide +kernel
theorem gs_232 : gsT 0 (es_tab em_232) = true := by decide +kernel
theorem gs_233 : gsT 0 (es_tab em_233) = true := by decide +kernel
theorem gs_234 : gsT 0 (es_tab em_234) = true := by decide +kernel
theorem gs_235 : gsT 0 (es_tab em_235) = true := by decide +kernel
theorem gs_236 : gsT 0 (es_tab em_236) = true := by decide +kernel
theorem gs_237 : gsT 0 (es_tab em_237) = true := by decide +kernel
theorem gs_238 : gsT 0 (es_tab em_238) = true := by decide +kernel
theorem gs_239 : gsT 0 (es_tab em_239) = true := by decide +kernel
theorem gs_240 : gsT 0 (es_tab em_240) = true := by decide +kernel
theorem gs_241 : gsT 0 (es_tab em_241) = true := by decide +kernel
theorem gs_242 : gsT 0 (es_tab em_242) = true := by decide +kernel
theorem gs_243 : gsT 0 (es_tab em_243) = true := by decide +kernel
theorem gs_244 : gsT 0 (es_tab em_244) = true := by decide +kernel
theorem gs_245 : gsT 0 (es_tab em_245) = true := by decide +kernel
theorem gs_246 : gsT 0 (es_tab em_246) = true := by decide +kernel
theorem gs_252 : gsT 0 (es_tab em_252) = true := by decide +kernel
theorem gs_247 : gsT 0 (es_tab em_247) = true := by decide +kernel
theorem gs_248 : gsT 0 (es_tab em_248) = true := by decide +kernel
theorem gs_249 : gsT 0 (es_tab em_249) = true := by decide +kernel
theorem gs_250 : gsT 0 (es_tab em_250) = true := by decide +kernel
theorem gs_251 : gsT 0 (es_tab em_251) = true := by decide +kernel
theorem gs_253 : gsT 0 (es_tab em_253) = true := by decide +kernel
theorem gs_254 : gsT 0 (es_tab em_254) = true := by decide +kernel
theorem gs_255 : gsT 0 (es_tab em_255) = true := by decide +kernel
theorem gs_256 : gsT 0 (es_tab em_256) = true := by decide +kernel
theorem gs_257 : gsT 0 (es_tab em_257) = true := by decide +kernel
theorem gs_258 : gsT 0 (es_tab em_258) = true := by decide +kernel
theorem gs_259 : gsT 0 (es_tab em_259) = true := by decide +kernel
theorem gs_260 : gsT 0 (es_tab em_260) = true := by decide +kernel
theorem gs_261 : gsT 0 (es_tab em_261) = true := by decide +kernel
theorem gs_262 : gsT 0 (es_tab em_262) = true := by decide +kernel
theorem gs_263 : gsT 0 (es_tab em_263) = true := by decide +kernel
theorem gs_310 : gsT 0 (es_tab em_310) = true := by decide +kernel
theorem gs_276 : gsT 0 (es_tab em_276) = true := by decide +kernel
theorem gs_277 : gsT 0 (es_tab em_277) = true := by decide +kernel
theorem gs_278 : gsT 0 (es_tab em_278) = true := by decide +kernel
theorem gs_279 : gsT 0 (es_tab em_279) = true := by decide +kernel
theorem gs_280 : gsT 0 (es_tab em_280) = true := by decide +kernel
theorem gs_281 : gsT 0 (es_tab em_281) = true := by decide +kernel
theorem gs_282 : gsT 0 (es_tab em_282) = true := by decide +kernel
theorem gs_283 : gsT 0 (es_tab em_283) = true := by decide +kernel
theorem gs_284 : gsT 0 (es_tab em_284) = true := by decide +kernel
theorem gs_285 : gsT 0 (es_tab em_285) = true := by decide +kernel
theorem gs_286 : gsT 0 (es_tab em_286) = true := by decide +kernel
theorem gs_287 : gsT 0 (es_tab em_287) = true := by decide +kernel
theorem gs_288 : gsT 0 (es_tab em_288) = true := by decide +kernel
theorem gs_289 : gsT 0 (es_tab em_289) = true := by decide +kernel
theorem gs_290 : gsT 0 (es_tab em_290) = true := by decide +kernel
theorem gs_291 : gsT 0 (es_tab em_291) = true := by decide +kernel
theorem gs_292 : gsT 0 (es_tab em_292) = true := by decide +kernel
theorem gs_293 : gsT 0 (es_tab em_293) = true := by decide +kernel
theorem gs_294 : gsT 0 (es_tab em_294) = true := by decide +kernel
theorem gs_295 : gsT 0 (es_tab em_295) = true := by decide +kernel
theorem gs_296 : gsT 0 (es_tab em_296) = true := by decide +kernel
theorem gs_297 : gsT 0 (es_tab em_297) = true := by decide +kernel
theorem gs_298 : gsT 0 (es_tab em_298) = true := by decide +kernel
theorem gs_299 : gsT 0 (es_tab em_299) = true := by decide +kernel
theorem gs_300 : gsT 0 (es_tab em_300) = true := by decide +kernel
theorem gs_301 : gsT 0 (es_tab em_301) = true := by decide +kernel
theorem gs_302 : gsT 0 (es_tab em_302) = true := by decide +kernel
theorem gs_303 : gsT 0 (es_tab em_303) = true := by decide +kernel
theorem gs_304 : gsT 0 (es_tab em_304) = true := by decide +kernel
theorem gs_305 : gsT 0 (es_tab em_305) = true := by decide +kernel
theorem gs_306 : gsT 0 (es_tab em_306) = true := by decide +kernel
theorem gs_307 : gsT 0 (es_tab em_307) = true := by decide +kernel
theorem gs_308 : gsT 0 (es_tab em_308) = true := by decide +kernel
theorem gs_309 : gsT 0 (es_tab em_309) = true := by decide +kernel
theorem gs_511 : gsT 0 (es_tab em_511) = true := by decide +kernel
