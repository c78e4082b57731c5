noncomputable def fb_511_515 (n : Nat) (sc : Nat → Int) (x1 : Nat) (x2 : Nat) (x3 : Nat) (x4 : Int) (w0 : Int) (w1 : Int) (w2 : Nat) (s : gS) : Option ((Nat × Nat × Nat × Int × gS) ⊕ gO) :=
  (f_207 w2 w1 w0 s).bind (gv1 (fun v34 s33 => some (Sum.inl (x1, x2, x3, (g32 (x4 + 6)), s33))))
noncomputable def fb_511_488 (n : Nat) (sc : Nat → Int) (x1 : Nat) (x2 : Nat) (x3 : Nat) (x4 : Int) (w0 : Int) (w1 : Int) (w2 : Nat) (s : gS) : Option ((Nat × Nat × Nat × Int × gS) ⊕ gO) :=
  (f_280 w2 w1 w0 x3 s).bind (gv1 (fun v32 s31 => gchk (g32 (x4 + 1)) (n : Int) (gchk (g32 (x4 + 2)) (n : Int) (if (sc ((g32 (x4 + 2)) : Int).toNat) = 0 then fb_511_515 n sc x1 x2 x3 x4 0 (sc ((g32 (x4 + 1)) : Int).toNat) x2 s31 else fb_511_515 n sc x1 x2 x3 x4 1 (sc ((g32 (x4 + 1)) : Int).toNat) x2 s31))))
noncomputable def fb_511_571 (n : Nat) (sc : Nat → Int) (x1 : Nat) (x2 : Nat) (x3 : Nat) (x4 : Int) (w0 : Int) (w1 : Int) (w2 : Nat) (s : gS) : Option ((Nat × Nat × Nat × Int × gS) ⊕ gO) :=
  (f_208 w2 w1 w0 s).bind (gv1 (fun v38 s37 => some (Sum.inl (x1, x2, x3, (g32 (x4 + 6)), s37))))
noncomputable def fb_511_544 (n : Nat) (sc : Nat → Int) (x1 : Nat) (x2 : Nat) (x3 : Nat) (x4 : Int) (w0 : Int) (w1 : Int) (w2 : Nat) (s : gS) : Option ((Nat × Nat × Nat × Int × gS) ⊕ gO) :=
  (f_281 w2 w1 w0 x3 s).bind (gv1 (fun v36 s35 => gchk (g32 (x4 + 1)) (n : Int) (gchk (g32 (x4 + 2)) (n : Int) (if (sc ((g32 (x4 + 2)) : Int).toNat) = 0 then fb_511_571 n sc x1 x2 x3 x4 0 (sc ((g32 (x4 + 1)) : Int).toNat) x2 s35 else fb_511_571 n sc x1 x2 x3 x4 1 (sc ((g32 (x4 + 1)) : Int).toNat) x2 s35))))
noncomputable def fb_511_1211 (n : Nat) (sc : Nat → Int) (x1 : Nat) (x2 : Nat) (x3 : Nat) (x4 : Int) (w0 : Int) (w1 : Int) (w2 : Nat) (s : gS) : Option ((Nat × Nat × Nat × Int × gS) ⊕ gO) :=
  (f_236 w2 w1 w0 s).bind (gv1 (fun v110 s109 => some (Sum.inl (x1, x2, x3, (g32 (x4 + 6)), s109))))
noncomputable def fb_511_1184 (n : Nat) (sc : Nat → Int) (x1 : Nat) (x2 : Nat) (x3 : Nat) (x4 : Int) (w0 : Int) (w1 : Int) (w2 : Nat) (s : gS) : Option ((Nat × Nat × Nat × Int × gS) ⊕ gO) :=
  (f_298 w2 w1 w0 x3 s).bind (gv1 (fun v108 s107 => gchk (g32 (x4 + 1)) (n : Int) (gchk (g32 (x4 + 2)) (n : Int) (if (sc ((g32 (x4 + 2)) : Int).toNat) = 0 then fb_511_1211 n sc x1 x2 x3 x4 0 (sc ((g32 (x4 + 1)) : Int).toNat) x2 s107 else fb_511_1211 n sc x1 x2 x3 x4 1 (sc ((g32 (x4 + 1)) : Int).toNat) x2 s107))))
noncomputable def fb_511_1283 (n : Nat) (sc : Nat → Int) (x1 : Nat) (x2 : Nat) (x3 : Nat) (x4 : Int) (w0 : Int) (w1 : Nat) (s : gS) : Option ((Nat × Nat × Nat × Int × gS) ⊕ gO) :=
  (f_239 w1 w0 s).bind (gv1 (fun v118 s117 => some (Sum.inl (x1, x2, x3, (g32 (x4 + 6)), s117))))
noncomputable def fb_511_1262 (n : Nat) (sc : Nat → Int) (x1 : Nat) (x2 : Nat) (x3 : Nat) (x4 : Int) (w0 : Int) (w1 : Nat) (s : gS) : Option ((Nat × Nat × Nat × Int × gS) ⊕ gO) :=
  (f_300 w1 w0 x3 s).bind (gv1 (fun v116 s115 => gchk (g32 (x4 + 1)) (n : Int) (if (sc ((g32 (x4 + 1)) : Int).toNat) = 0 then fb_511_1283 n sc x1 x2 x3 x4 0 x2 s115 else fb_511_1283 n sc x1 x2 x3 x4 1 x2 s115)))
noncomputable def fb_511_1421 (n : Nat) (sc : Nat → Int) (x1 : Nat) (x2 : Nat) (x3 : Nat) (x4 : Int) (w0 : Int) (w1 : Nat) (s : gS) : Option ((Nat × Nat × Nat × Int × gS) ⊕ gO) :=
  (f_245 w1 w0 s).bind (gv1 (fun v134 s133 => some (Sum.inl (x1, x2, x3, (g32 (x4 + 6)), s133))))
noncomputable def fb_511_1402 (n : Nat) (sc : Nat → Int) (x1 : Nat) (x2 : Nat) (x3 : Nat) (x4 : Int) (w0 : Int) (w1 : Nat) (s : gS) : Option ((Nat × Nat × Nat × Int × gS) ⊕ gO) :=
  (f_118 w1 w0 s).bind (gv1 (fun v132 s131 => gchk (g32 (x4 + 1)) (n : Int) (if (sc ((g32 (x4 + 1)) : Int).toNat) = 0 then fb_511_1421 n sc x1 x2 x3 x4 0 x2 s131 else fb_511_1421 n sc x1 x2 x3 x4 1 x2 s131)))
noncomputable def fb_511_1557 (n : Nat) (sc : Nat → Int) (x1 : Nat) (x2 : Nat) (x3 : Nat) (x4 : Int) (w0 : Int) (w1 : Nat) (s : gS) : Option ((Nat × Nat × Nat × Int × gS) ⊕ gO) :=
  (f_253 w1 w0 s).bind (gv1 (fun v158 s157 => some (Sum.inl (x1, x2, x3, (g32 (x4 + 6)), s157))))
noncomputable def fb_511_1538 (n : Nat) (sc : Nat → Int) (x1 : Nat) (x2 : Nat) (x3 : Nat) (x4 : Int) (w0 : Int) (w1 : Nat) (s : gS) : Option ((Nat × Nat × Nat × Int × gS) ⊕ gO) :=
  (f_124 w1 w0 s).bind (gv1 (fun v156 s155 => gchk (g32 (x4 + 1)) (n : Int) (if (sc ((g32 (x4 + 1)) : Int).toNat) = 0 then fb_511_1557 n sc x1 x2 x3 x4 0 x2 s155 else fb_511_1557 n sc x1 x2 x3 x4 1 x2 s155)))
noncomputable def fb_511_1612 (n : Nat) (sc : Nat → Int) (x1 : Nat) (x2 : Nat) (x3 : Nat) (x4 : Int) (w0 : Int) (w1 : Int) (w2 : Nat) (s : gS) : Option ((Nat × Nat × Nat × Int × gS) ⊕ gO) :=
  (f_254 w2 w1 w0 s).bind (gv1 (fun v162 s161 => some (Sum.inl (x1, x2, x3, (g32 (x4 + 6)), s161))))
noncomputable def fb_511_1585 (n : Nat) (sc : Nat → Int) (x1 : Nat) (x2 : Nat) (x3 : Nat) (x4 : Int) (w0 : Int) (w1 : Int) (w2 : Nat) (s : gS) : Option ((Nat × Nat × Nat × Int × gS) ⊕ gO) :=
  (f_306 w2 w1 w0 x3 s).bind (gv1 (fun v160 s159 => gchk (g32 (x4 + 1)) (n : Int) (gchk (g32 (x4 + 2)) (n : Int) (if (sc ((g32 (x4 + 2)) : Int).toNat) = 0 then fb_511_1612 n sc x1 x2 x3 x4 0 (sc ((g32 (x4 + 1)) : Int).toNat) x2 s159 else fb_511_1612 n sc x1 x2 x3 x4 1 (sc ((g32 (x4 + 1)) : Int).toNat) x2 s159))))
noncomputable def fb_511_1668 (n : Nat) (sc : Nat → Int) (x1 : Nat) (x2 : Nat) (x3 : Nat) (x4 : Int) (w0 : Int) (w1 : Int) (w2 : Nat) (s : gS) : Option ((Nat × Nat × Nat × Int × gS) ⊕ gO) :=
  (f_255 w2 w1 w0 s).bind (gv1 (fun v166 s165 => some (Sum.inl (x1, x2, x3, (g32 (x4 + 6)), s165))))
noncomputable def fb_511_1641 (n : Nat) (sc : Nat → Int) (x1 : Nat) (x2 : Nat) (x3 : Nat) (x4 : Int) (w0 : Int) (w1 : Int) (w2 : Nat) (s : gS) : Option ((Nat × Nat × Nat × Int × gS) ⊕ gO) :=
  (f_307 w2 w1 w0 x3 s).bind (gv1 (fun v164 s163 => gchk (g32 (x4 + 1)) (n : Int) (gchk (g32 (x4 + 2)) (n : Int) (if (sc ((g32 (x4 + 2)) : Int).toNat) = 0 then fb_511_1668 n sc x1 x2 x3 x4 0 (sc ((g32 (x4 + 1)) : Int).toNat) x2 s163 else fb_511_1668 n sc x1 x2 x3 x4 1 (sc ((g32 (x4 + 1)) : Int).toNat) x2 s163))))
noncomputable def fb_511_1724 (n : Nat) (sc : Nat → Int) (x1 : Nat) (x2 : Nat) (x3 : Nat) (x4 : Int) (w0 : Int) (w1 : Int) (w2 : Nat) (s : gS) : Option ((Nat × Nat × Nat × Int × gS) ⊕ gO) :=
  (f_257 w2 w1 w0 s).bind (gv1 (fun v170 s169 => some (Sum.inl (x1, x2, x3, (g32 (x4 + 6)), s169))))
noncomputable def fb_511_1697 (n : Nat) (sc : Nat → Int) (x1 : Nat) (x2 : Nat) (x3 : Nat) (x4 : Int) (w0 : Int) (w1 : Int) (w2 : Nat) (s : gS) : Option ((Nat × Nat × Nat × Int × gS) ⊕ gO) :=
  (f_308 w2 w1 w0 x3 s).bind (gv1 (fun v168 s167 => gchk (g32 (x4 + 1)) (n : Int) (gchk (g32 (x4 + 2)) (n : Int) (if (sc ((g32 (x4 + 2)) : Int).toNat) = 0 then fb_511_1724 n sc x1 x2 x3 x4 0 (sc ((g32 (x4 + 1)) : Int).toNat) x2 s167 else fb_511_1724 n sc x1 x2 x3 x4 1 (sc ((g32 (x4 + 1)) : Int).toNat) x2 s167))))
noncomputable def sb_511_23 (n : Nat) (sc : Nat → Int) (x1 : Nat) (x2 : Nat) (x3 : Nat) (x4 : Int) (s : gS) : Option ((Nat × Nat × Nat × Int × gS) ⊕ gO) :=
  if (g32 ((n : Int) - 6)) < x4 then (some ((1, 1, 0, s))).map Sum.inr else gchk x4 (n : Int) (if (gand (sc (x4 : Int).toNat) 63) < 0 then some (Sum.inl (x1, x2, x3, (g32 (x4 + 6)), s)) else if (gand (sc (x4 : Int).toNat) 63) < 1 then gchk (g32 (x4 + 1)) (n : Int) (gchk (g32 (x4 + 2)) (n : Int) (gchk (g32 (x4 + 3)) (n : Int) (gchk (g32 (x4 + 4)) (n : Int) (gchk (g32 (x4 + 5)) (n : Int) ((f_87 x1 (sc ((g32 (x4 + 1)) : Int).toNat) (sc ((g32 (x4 + 2)) : Int).toNat) (sc ((g32 (x4 + 3)) : Int).toNat) (sc ((g32 (x4 + 4)) : Int).toNat) (sc ((g32 (x4 + 5)) : Int).toNat) s).bind (gv1 (fun v2 s1 => gchk (g32 (x4 + 1)) (n : Int) (gchk (g32 (x4 + 2)) (n : Int) (gchk (g32 (x4 + 3)) (n : Int) (gchk (g32 (x4 + 4)) (n : Int) (gchk (g32 (x4 + 5)) (n : Int) ((f_166 x2 (sc ((g32 (x4 + 1)) : Int).toNat) (sc ((g32 (x4 + 2)) : Int).toNat) (sc ((g32 (x4 + 3)) : Int).toNat) (sc ((g32 (x4 + 4)) : Int).toNat) (sc ((g32 (x4 + 5)) : Int).toNat) s1).bind (gv1 (fun v4 s3 => some (Sum.inl (x1, x2, x3, (g32 (x4 + 6)), s3)))))))))))))))) else if (gand (sc (x4 : Int).toNat) 63) < 2 then gchk (g32 (x4 + 1)) (n : Int) ((f_88 x1 (sc ((g32 (x4 + 1)) : Int).toNat) s).bind (gv1 (fun v6 s5 => gchk (g32 (x4 + 1)) (n : Int) ((f_167 x2 (sc ((g32 (x4 + 1)) : Int).toNat) s5).bind (gv1 (fun v9 s8 => some (Sum.inl (x1, x2, x3, (g32 (x4 + 6)), s8)))))))) else if (gand (sc (x4 : Int).toNat) 63) < 3 then (f_276 x1 x3 s).bind (gv1 (fun v12 s11 => (f_187 x2 s11).bind (gv1 (fun v14 s13 => some (Sum.inl (x1, x2, x3, (g32 (x4 + 6)), s13)))))) else if (gand (sc (x4 : Int).toNat) 63) < 4 then (f_277 x1 x3 s).bind (gv1 (fun v16 s15 => (f_195 x2 s15).bind (gv1 (fun v18 s17 => some (Sum.inl (x1, x2, x3, (g32 (x4 + 6)), s17)))))) else if (gand (sc (x4 : Int).toNat) 63) < 5 then (f_91 x1 s).bind (gv1 (fun v20 s19 => (f_196 x2 s19).bind (gv1 (fun v22 s21 => some (Sum.inl (x1, x2, x3, (g32 (x4 + 6)), s21)))))) else if (gand (sc (x4 : Int).toNat) 63) < 6 then gchk (g32 (x4 + 1)) (n : Int) (gchk (g32 (x4 + 2)) (n : Int) ((f_278 x1 (sc ((g32 (x4 + 1)) : Int).toNat) (sc ((g32 (x4 + 2)) : Int).toNat) x3 s).bind (gv1 (fun v24 s23 => gchk (g32 (x4 + 1)) (n : Int) (gchk (g32 (x4 + 2)) (n : Int) ((f_203 x2 (sc ((g32 (x4 + 1)) : Int).toNat) (sc ((g32 (x4 + 2)) : Int).toNat) s23).bind (gv1 (fun v26 s25 => some (Sum.inl (x1, x2, x3, (g32 (x4 + 6)), s25)))))))))) else if (gand (sc (x4 : Int).toNat) 63) < 7 then gchk (g32 (x4 + 1)) (n : Int) (gchk (g32 (x4 + 2)) (n : Int) ((f_279 x1 (sc ((g32 (x4 + 1)) : Int).toNat) (sc ((g32 (x4 + 2)) : Int).toNat) x3 s).bind (gv1 (fun v28 s27 => gchk (g32 (x4 + 1)) (n : Int) (gchk (g32 (x4 + 2)) (n : Int) ((f_206 x2 (sc ((g32 (x4 + 1)) : Int).toNat) (sc ((g32 (x4 + 2)) : Int).toNat) s27).bind (gv1 (fun v30 s29 => some (Sum.inl (x1, x2, x3, (g32 (x4 + 6)), s29)))))))))) else if (gand (sc (x4 : Int).toNat) 63) < 8 then gchk (g32 (x4 + 1)) (n : Int) (gchk (g32 (x4 + 2)) (n : Int) (if (sc ((g32 (x4 + 2)) : Int).toNat) = 0 then fb_511_488 n sc x1 x2 x3 x4 0 (sc ((g32 (x4 + 1)) : Int).toNat) x1 s else fb_511_488 n sc x1 x2 x3 x4 1 (sc ((g32 (x4 + 1)) : Int).toNat) x1 s)) else if (gand (sc (x4 : Int).toNat) 63) < 9 then gchk (g32 (x4 + 1)) (n : Int) (gchk (g32 (x4 + 2)) (n : Int) (if (sc ((g32 (x4 + 2)) : Int).toNat) = 0 then fb_511_544 n sc x1 x2 x3 x4 0 (sc ((g32 (x4 + 1)) : Int).toNat) x1 s else fb_511_544 n sc x1 x2 x3 x4 1 (sc ((g32 (x4 + 1)) : Int).toNat) x1 s)) else if (gand (sc (x4 : Int).toNat) 63) < 10 then gchk (g32 (x4 + 1)) (n : Int) ((f_282 x1 (sc ((g32 (x4 + 1)) : Int).toNat) x3 s).bind (gv1 (fun v40 s39 => gchk (g32 (x4 + 1)) (n : Int) ((f_211 x2 (sc ((g32 (x4 + 1)) : Int).toNat) s39).bind (gv1 (fun v42 s41 => some (Sum.inl (x1, x2, x3, (g32 (x4 + 6)), s41)))))))) else if (gand (sc (x4 : Int).toNat) 63) < 11 then gchk (g32 (x4 + 1)) (n : Int) (gchk (g32 (x4 + 2)) (n : Int) ((f_283 x1 (sc ((g32 (x4 + 1)) : Int).toNat) (sc ((g32 (x4 + 2)) : Int).toNat) x3 s).bind (gv1 (fun v44 s43 => gchk (g32 (x4 + 1)) (n : Int) (gchk (g32 (x4 + 2)) (n : Int) ((f_213 x2 (sc ((g32 (x4 + 1)) : Int).toNat) (sc ((g32 (x4 + 2)) : Int).toNat) s43).bind (gv1 (fun v46 s45 => some (Sum.inl (x1, x2, x3, (g32 (x4 + 6)), s45)))))))))) else if (gand (sc (x4 : Int).toNat) 63) < 12 then gchk (g32 (x4 + 1)) (n : Int) ((f_284 x1 (sc ((g32 (x4 + 1)) : Int).toNat) x3 s).bind (gv1 (fun v49 s48 => gchk (g32 (x4 + 1)) (n : Int) ((f_214 x2 (sc ((g32 (x4 + 1)) : Int).toNat) s48).bind (gv1 (fun v51 s50 => some (Sum.inl (x1, x2, x3, (g32 (x4 + 6)), s50)))))))) else if (gand (sc (x4 : Int).toNat) 63) < 13 then gchk (g32 (x4 + 1)) (n : Int) (gchk (g32 (x4 + 2)) (n : Int) (gchk (g32 (x4 + 3)) (n : Int) ((f_285 x1 (sc ((g32 (x4 + 1)) : Int).toNat) (sc ((g32 (x4 + 2)) : Int).toNat) (sc ((g32 (x4 + 3)) : Int).toNat) x3 s).bind (gv1 (fun v53 s52 => gchk (g32 (x4 + 1)) (n : Int) (gchk (g32 (x4 + 2)) (n : Int) (gchk (g32 (x4 + 3)) (n : Int) ((f_215 x2 (sc ((g32 (x4 + 1)) : Int).toNat) (sc ((g32 (x4 + 2)) : Int).toNat) (sc ((g32 (x4 + 3)) : Int).toNat) s52).bind (gv1 (fun v55 s54 => some (Sum.inl (x1, x2, x3, (g32 (x4 + 6)), s54)))))))))))) else if (gand (sc (x4 : Int).toNat) 63) < 14 then gchk (g32 (x4 + 1)) (n : Int) (gchk (g32 (x4 + 2)) (n : Int) ((f_286 x1 (sc ((g32 (x4 + 1)) : Int).toNat) (sc ((g32 (x4 + 2)) : Int).toNat) x3 s).bind (gv1 (fun v57 s56 => gchk (g32 (x4 + 1)) (n : Int) (gchk (g32 (x4 + 2)) (n : Int) ((f_216 x2 (sc ((g32 (x4 + 1)) : Int).toNat) (sc ((g32 (x4 + 2)) : Int).toNat) s56).bind (gv1 (fun v59 s58 => some (Sum.inl (x1, x2, x3, (g32 (x4 + 6)), s58)))))))))) else if (gand (sc (x4 : Int).toNat) 63) < 15 then gchk (g32 (x4 + 1)) (n : Int) ((f_287 x1 (sc ((g32 (x4 + 1)) : Int).toNat) x3 s).bind (gv1 (fun v61 s60 => gchk (g32 (x4 + 1)) (n : Int) ((f_217 x2 (sc ((g32 (x4 + 1)) : Int).toNat) s60).bind (gv1 (fun v63 s62 => some (Sum.inl (x1, x2, x3, (g32 (x4 + 6)), s62)))))))) else if (gand (sc (x4 : Int).toNat) 63) < 16 then gchk (g32 (x4 + 1)) (n : Int) ((f_288 x1 (sc ((g32 (x4 + 1)) : Int).toNat) x3 s).bind (gv1 (fun v65 s64 => gchk (g32 (x4 + 1)) (n : Int) ((f_218 x2 (sc ((g32 (x4 + 1)) : Int).toNat) s64).bind (gv1 (fun v67 s66 => some (Sum.inl (x1, x2, x3, (g32 (x4 + 6)), s66)))))))) else if (gand (sc (x4 : Int).toNat) 63) < 17 then gchk (g32 (x4 + 1)) (n : Int) (gchk (g32 (x4 + 2)) (n : Int) (gchk (g32 (x4 + 3)) (n : Int) ((f_289 x1 (sc ((g32 (x4 + 1)) : Int).toNat) (sc ((g32 (x4 + 2)) : Int).toNat) (sc ((g32 (x4 + 3)) : Int).toNat) x3 s).bind (gv1 (fun v69 s68 => gchk (g32 (x4 + 1)) (n : Int) (gchk (g32 (x4 + 2)) (n : Int) (gchk (g32 (x4 + 3)) (n : Int) ((f_219 x2 (sc ((g32 (x4 + 1)) : Int).toNat) (sc ((g32 (x4 + 2)) : Int).toNat) (sc ((g32 (x4 + 3)) : Int).toNat) s68).bind (gv1 (fun v71 s70 => some (Sum.inl (x1, x2, x3, (g32 (x4 + 6)), s70)))))))))))) else if (gand (sc (x4 : Int).toNat) 63) < 18 then gchk (g32 (x4 + 1)) (n : Int) ((f_290 x1 (sc ((g32 (x4 + 1)) : Int).toNat) x3 s).bind (gv1 (fun v73 s72 => gchk (g32 (x4 + 1)) (n : Int) ((f_220 x2 (sc ((g32 (x4 + 1)) : Int).toNat) s72).bind (gv1 (fun v75 s74 => (f_310 x2 s74).bind (gv1 (fun v77 s76 => if v77 = v73 then if v73 = 0 then gchk 0 1 (if (gcmp (gI s76 x3 (0 : Int).toNat) v75) = 0 then some (Sum.inl (x1, x2, x3, (g32 (x4 + 6)), s76)) else (some ((1, 0, 0, s76))).map Sum.inr) else some (Sum.inl (x1, x2, x3, (g32 (x4 + 6)), s76)) else (some ((1, 0, 0, s76))).map Sum.inr)))))))) else if (gand (sc (x4 : Int).toNat) 63) < 19 then gchk (g32 (x4 + 1)) (n : Int) ((f_291 x1 (sc ((g32 (x4 + 1)) : Int).toNat) x3 s).bind (gv1 (fun v79 s78 => gchk (g32 (x4 + 1)) (n : Int) ((f_221 x2 (sc ((g32 (x4 + 1)) : Int).toNat) s78).bind (gv1 (fun v81 s80 => some (Sum.inl (x1, x2, x3, (g32 (x4 + 6)), s80)))))))) else if (gand (sc (x4 : Int).toNat) 63) < 20 then gchk (g32 (x4 + 1)) (n : Int) ((f_292 x1 (sc ((g32 (x4 + 1)) : Int).toNat) x3 s).bind (gv1 (fun v83 s82 => gchk (g32 (x4 + 1)) (n : Int) ((f_223 x2 (sc ((g32 (x4 + 1)) : Int).toNat) s82).bind (gv1 (fun v85 s84 => some (Sum.inl (x1, x2, x3, (g32 (x4 + 6)), s84)))))))) else if (gand (sc (x4 : Int).toNat) 63) < 21 then gchk (g32 (x4 + 1)) (n : Int) ((f_293 x1 (sc ((g32 (x4 + 1)) : Int).toNat) x3 s).bind (gv1 (fun v87 s86 => gchk (g32 (x4 + 1)) (n : Int) ((f_224 x2 (sc ((g32 (x4 + 1)) : Int).toNat) s86).bind (gv1 (fun v89 s88 => some (Sum.inl (x1, x2, x3, (g32 (x4 + 6)), s88)))))))) else if (gand (sc (x4 : Int).toNat) 63) < 22 then gchk (g32 (x4 + 1)) (n : Int) (gchk (g32 (x4 + 2)) (n : Int) ((f_294 x1 (sc ((g32 (x4 + 1)) : Int).toNat) (sc ((g32 (x4 + 2)) : Int).toNat) x3 s).bind (gv1 (fun v91 s90 => gchk (g32 (x4 + 1)) (n : Int) (gchk (g32 (x4 + 2)) (n : Int) ((f_229 x2 (sc ((g32 (x4 + 1)) : Int).toNat) (sc ((g32 (x4 + 2)) : Int).toNat) s90).bind (gv1 (fun v93 s92 => some (Sum.inl (x1, x2, x3, (g32 (x4 + 6)), s92)))))))))) else if (gand (sc (x4 : Int).toNat) 63) < 23 then gchk (g32 (x4 + 1)) (n : Int) (gchk (g32 (x4 + 2)) (n : Int) ((f_295 x1 (sc ((g32 (x4 + 1)) : Int).toNat) (sc ((g32 (x4 + 2)) : Int).toNat) x3 s).bind (gv1 (fun v95 s94 => gchk (g32 (x4 + 1)) (n : Int) (gchk (g32 (x4 + 2)) (n : Int) ((f_230 x2 (sc ((g32 (x4 + 1)) : Int).toNat) (sc ((g32 (x4 + 2)) : Int).toNat) s94).bind (gv1 (fun v97 s96 => some (Sum.inl (x1, x2, x3, (g32 (x4 + 6)), s96)))))))))) else if (gand (sc (x4 : Int).toNat) 63) < 24 then gchk (g32 (x4 + 1)) (n : Int) (gchk (g32 (x4 + 2)) (n : Int) ((f_296 x1 (sc ((g32 (x4 + 1)) : Int).toNat) (sc ((g32 (x4 + 2)) : Int).toNat) x3 s).bind (gv1 (fun v99 s98 => gchk (g32 (x4 + 1)) (n : Int) (gchk (g32 (x4 + 2)) (n : Int) ((f_233 x2 (sc ((g32 (x4 + 1)) : Int).toNat) (sc ((g32 (x4 + 2)) : Int).toNat) s98).bind (gv1 (fun v101 s100 => some (Sum.inl (x1, x2, x3, (g32 (x4 + 6)), s100)))))))))) else if (gand (sc (x4 : Int).toNat) 63) < 25 then gchk (g32 (x4 + 1)) (n : Int) ((f_297 x1 (sc ((g32 (x4 + 1)) : Int).toNat) x3 s).bind (gv1 (fun v104 s103 => gchk (g32 (x4 + 1)) (n : Int) ((f_235 x2 (sc ((g32 (x4 + 1)) : Int).toNat) s103).bind (gv1 (fun v106 s105 => some (Sum.inl (x1, x2, x3, (g32 (x4 + 6)), s105)))))))) else if (gand (sc (x4 : Int).toNat) 63) < 26 then gchk (g32 (x4 + 1)) (n : Int) (gchk (g32 (x4 + 2)) (n : Int) (if (sc ((g32 (x4 + 2)) : Int).toNat) = 0 then fb_511_1184 n sc x1 x2 x3 x4 0 (sc ((g32 (x4 + 1)) : Int).toNat) x1 s else fb_511_1184 n sc x1 x2 x3 x4 1 (sc ((g32 (x4 + 1)) : Int).toNat) x1 s)) else if (gand (sc (x4 : Int).toNat) 63) < 27 then gchk (g32 (x4 + 1)) (n : Int) ((f_299 x1 (sc ((g32 (x4 + 1)) : Int).toNat) x3 s).bind (gv1 (fun v112 s111 => gchk (g32 (x4 + 1)) (n : Int) ((f_237 x2 (sc ((g32 (x4 + 1)) : Int).toNat) s111).bind (gv1 (fun v114 s113 => some (Sum.inl (x1, x2, x3, (g32 (x4 + 6)), s113)))))))) else if (gand (sc (x4 : Int).toNat) 63) < 28 then gchk (g32 (x4 + 1)) (n : Int) (if (sc ((g32 (x4 + 1)) : Int).toNat) = 0 then fb_511_1262 n sc x1 x2 x3 x4 0 x1 s else fb_511_1262 n sc x1 x2 x3 x4 1 x1 s) else if (gand (sc (x4 : Int).toNat) 63) < 29 then (f_301 x1 x3 s).bind (gv1 (fun v120 s119 => (f_240 x2 s119).bind (gv1 (fun v122 s121 => some (Sum.inl (x1, x2, x3, (g32 (x4 + 6)), s121)))))) else if (gand (sc (x4 : Int).toNat) 63) < 30 then gchk (g32 (x4 + 1)) (n : Int) (gchk (g32 (x4 + 2)) (n : Int) ((f_302 x1 (sc ((g32 (x4 + 1)) : Int).toNat) (sc ((g32 (x4 + 2)) : Int).toNat) x3 s).bind (gv1 (fun v124 s123 => gchk (g32 (x4 + 1)) (n : Int) (gchk (g32 (x4 + 2)) (n : Int) ((f_243 x2 (sc ((g32 (x4 + 1)) : Int).toNat) (sc ((g32 (x4 + 2)) : Int).toNat) s123).bind (gv1 (fun v126 s125 => some (Sum.inl (x1, x2, x3, (g32 (x4 + 6)), s125)))))))))) else if (gand (sc (x4 : Int).toNat) 63) < 31 then gchk (g32 (x4 + 1)) (n : Int) (gchk (g32 (x4 + 2)) (n : Int) ((f_303 x1 (sc ((g32 (x4 + 1)) : Int).toNat) (sc ((g32 (x4 + 2)) : Int).toNat) x3 s).bind (gv1 (fun v128 s127 => gchk (g32 (x4 + 1)) (n : Int) (gchk (g32 (x4 + 2)) (n : Int) ((f_244 x2 (sc ((g32 (x4 + 1)) : Int).toNat) (sc ((g32 (x4 + 2)) : Int).toNat) s127).bind (gv1 (fun v130 s129 => some (Sum.inl (x1, x2, x3, (g32 (x4 + 6)), s129)))))))))) else if (gand (sc (x4 : Int).toNat) 63) < 32 then gchk (g32 (x4 + 1)) (n : Int) (if (sc ((g32 (x4 + 1)) : Int).toNat) = 0 then fb_511_1402 n sc x1 x2 x3 x4 0 x1 s else fb_511_1402 n sc x1 x2 x3 x4 1 x1 s) else if (gand (sc (x4 : Int).toNat) 63) < 33 then gchk (g32 (x4 + 1)) (n : Int) ((f_304 x1 (sc ((g32 (x4 + 1)) : Int).toNat) x3 s).bind (gv1 (fun v136 s135 => gchk (g32 (x4 + 1)) (n : Int) ((f_247 x2 (sc ((g32 (x4 + 1)) : Int).toNat) s135).bind (gv1 (fun v138 s137 => some (Sum.inl (x1, x2, x3, (g32 (x4 + 6)), s137)))))))) else if (gand (sc (x4 : Int).toNat) 63) < 34 then (f_120 x1 s).bind (gv1 (fun v140 s139 => (f_248 x2 s139).bind (gv1 (fun v142 s141 => some (Sum.inl (x1, x2, x3, (g32 (x4 + 6)), s141)))))) else if (gand (sc (x4 : Int).toNat) 63) < 35 then (f_121 x1 s).bind (gv1 (fun v144 s143 => (f_249 x2 s143).bind (gv1 (fun v146 s145 => some (Sum.inl (x1, x2, x3, (g32 (x4 + 6)), s145)))))) else if (gand (sc (x4 : Int).toNat) 63) < 36 then gchk (g32 (x4 + 1)) (n : Int) ((f_305 x1 (sc ((g32 (x4 + 1)) : Int).toNat) x3 s).bind (gv1 (fun v148 s147 => gchk (g32 (x4 + 1)) (n : Int) ((f_250 x2 (sc ((g32 (x4 + 1)) : Int).toNat) s147).bind (gv1 (fun v150 s149 => some (Sum.inl (x1, x2, x3, (g32 (x4 + 6)), s149)))))))) else if (gand (sc (x4 : Int).toNat) 63) < 37 then (f_123 x1 s).bind (gv1 (fun v152 s151 => (f_251 x2 s151).bind (gv1 (fun v154 s153 => some (Sum.inl (x1, x2, x3, (g32 (x4 + 6)), s153)))))) else if (gand (sc (x4 : Int).toNat) 63) < 38 then gchk (g32 (x4 + 1)) (n : Int) (if (sc ((g32 (x4 + 1)) : Int).toNat) = 0 then fb_511_1538 n sc x1 x2 x3 x4 0 x1 s else fb_511_1538 n sc x1 x2 x3 x4 1 x1 s) else if (gand (sc (x4 : Int).toNat) 63) < 39 then gchk (g32 (x4 + 1)) (n : Int) (gchk (g32 (x4 + 2)) (n : Int) (if (sc ((g32 (x4 + 2)) : Int).toNat) = 0 then fb_511_1585 n sc x1 x2 x3 x4 0 (sc ((g32 (x4 + 1)) : Int).toNat) x1 s else fb_511_1585 n sc x1 x2 x3 x4 1 (sc ((g32 (x4 + 1)) : Int).toNat) x1 s)) else if (gand (sc (x4 : Int).toNat) 63) < 40 then gchk (g32 (x4 + 1)) (n : Int) (gchk (g32 (x4 + 2)) (n : Int) (if (sc ((g32 (x4 + 2)) : Int).toNat) = 0 then fb_511_1641 n sc x1 x2 x3 x4 0 (sc ((g32 (x4 + 1)) : Int).toNat) x1 s else fb_511_1641 n sc x1 x2 x3 x4 1 (sc ((g32 (x4 + 1)) : Int).toNat) x1 s)) else if (gand (sc (x4 : Int).toNat) 63) < 41 then gchk (g32 (x4 + 1)) (n : Int) (gchk (g32 (x4 + 2)) (n : Int) (if (sc ((g32 (x4 + 2)) : Int).toNat) = 0 then fb_511_1697 n sc x1 x2 x3 x4 0 (sc ((g32 (x4 + 1)) : Int).toNat) x1 s else fb_511_1697 n sc x1 x2 x3 x4 1 (sc ((g32 (x4 + 1)) : Int).toNat) x1 s)) else if (gand (sc (x4 : Int).toNat) 63) < 42 then gchk (g32 (x4 + 1)) (n : Int) (gchk (g32 (x4 + 2)) (n : Int) ((f_309 x1 (sc ((g32 (x4 + 1)) : Int).toNat) (sc ((g32 (x4 + 2)) : Int).toNat) x3 s).bind (gv1 (fun v172 s171 => gchk (g32 (x4 + 1)) (n : Int) (gchk (g32 (x4 + 2)) (n : Int) ((f_258 x2 (sc ((g32 (x4 + 1)) : Int).toNat) (sc ((g32 (x4 + 2)) : Int).toNat) s171).bind (gv1 (fun v174 s173 => some (Sum.inl (x1, x2, x3, (g32 (x4 + 6)), s173)))))))))) else if (gand (sc (x4 : Int).toNat) 63) < 43 then gchk (g32 (x4 + 1)) (n : Int) ((f_129 x1 (sc ((g32 (x4 + 1)) : Int).toNat) s).bind (gv1 (fun v176 s175 => gchk (g32 (x4 + 1)) (n : Int) ((f_259 x2 (sc ((g32 (x4 + 1)) : Int).toNat) s175).bind (gv1 (fun v178 s177 => some (Sum.inl (x1, x2, x3, (g32 (x4 + 6)), s177)))))))) else if (gand (sc (x4 : Int).toNat) 63) < 44 then (f_130 x1 s).bind (gv1 (fun v180 s179 => (f_260 x2 s179).bind (gv1 (fun v183 s182 => some (Sum.inl (x1, x2, x3, (g32 (x4 + 6)), s182)))))) else if (gand (sc (x4 : Int).toNat) 63) < 45 then (f_131 x1 s).bind (gv0 (fun s185 => (f_261 x2 s185).bind (gv0 (fun s187 => some (Sum.inl (x1, x2, x3, (g32 (x4 + 6)), s187)))))) else if (gand (sc (x4 : Int).toNat) 63) < 46 then (f_132 x1 s).bind (gv1 (fun v190 s189 => (f_262 x2 s189).bind (gv1 (fun v193 s192 => some (Sum.inl (x1, x2, x3, (g32 (x4 + 6)), s192)))))) else if (gand (sc (x4 : Int).toNat) 63) < 47 then gchk (g32 (x4 + 1)) (n : Int) ((f_133 x1 (sc ((g32 (x4 + 1)) : Int).toNat) s).bind (gv1 (fun v196 s195 => gchk (g32 (x4 + 1)) (n : Int) ((f_263 x2 (sc ((g32 (x4 + 1)) : Int).toNat) s195).bind (gv1 (fun v198 s197 => some (Sum.inl (x1, x2, x3, (g32 (x4 + 6)), s197)))))))) else some (Sum.inl (x1, x2, x3, (g32 (x4 + 6)), s)))
noncomputable def st_511_23 (n : Nat) (sc : Nat → Int) (y : (Nat × Nat × Nat × Int × gS)) : Option ((Nat × Nat × Nat × Int × gS) ⊕ gO) := sb_511_23 n sc y.1 y.2.1 y.2.2.1 y.2.2.2.1 y.2.2.2.2
theorem gcal_s {w : Nat} {T T' : es_M} {m' : Nat} {vs rest : List gV} {cs ss : Nat} (h : gcal w T T' m' vs rest 0 0 = true) (h1 : cs + es_mc T' ≤ es_mc T) (h2 : ss + es_ms T' ≤ es_ms T) : gcal w T T' m' vs rest cs ss = true := by
  unfold gcal at h ⊢
  simp only [Bool.and_eq_true, Nat.ble_eq] at h ⊢
  exact ⟨h.1, h1, h2⟩
theorem gcap_s {T : es_M} {cs ss : Nat} (h1 : cs ≤ es_mc T) (h2 : ss ≤ es_ms T) : (Nat.ble cs (es_mc T) && Nat.ble ss (es_ms T)) = true := by
  rw [Bool.and_eq_true, Nat.ble_eq, Nat.ble_eq]
  exact ⟨h1, h2⟩
theorem tb_511_515 {X : gX} (ok : gOK X) (hX : gHX X) (d : Nat) (hSL : gSL X < 2147483648) {sc : Nat → Int} (hsc : ∀ i, i < gSL X → es_kn (gF X) (1, i) = some (eI (sc i)) ∧ gc32 (sc i)) {cs ss : Nat} (hcs : cs + 4 ≤ 601024) (hss : ss + 408 ≤ 7293034) {k23 : (Nat × Nat × Nat × Int × gS) ⊕ gO → Option gO} (hl23 : ∀ y : (Nat × Nat × Nat × Int × gS), Go X em_511 511 (d + 103) 23 [] [(0, (5, 0, 0)), (1, (27, 0, y.1)), (2, (28, 0, y.2.1)), (3, (125, 0, y.2.2.1)), (4, (0, y.2.2.2.1, 0))] [] y.2.2.2.2 (cs + 4) (ss + 408) (some (Sum.inl y)) k23) (hr23 : ∀ q, k23 (Sum.inr q) = some q) (x1 : Nat) (x2 : Nat) (x3 : Nat) (x4 : Int) (w0 : Int) (w1 : Int) (w2 : Nat) (s : gS) : Go X em_511 511 (d + 103) 515 [] [(0, (5, 0, 0)), (1, (27, 0, x1)), (2, (28, 0, x2)), (3, (125, 0, x3)), (4, (0, x4, 0))] [(0, w0, 0), (0, w1, 0), (28, 0, w2)] s (cs + 1) (ss + 6) (fb_511_515 (gSL X) sc x1 x2 x3 x4 w0 w1 w2 s) k23 := by
  delta fb_511_515
  refine g_rb gs_511 16 (cd' := gb_511_515) rfl rfl ?_
  refine g_cv1 ok (me_207 hX) rfl rfl (gcal_s rfl (show cs + 1 + 0 ≤ 601024 by omega) (show ss + 6 + 0 ≤ 7293034 by omega)) rfl (t_207 ok hX _ w2 w1 w0 s) (fun v34 s33 => ?_)
  refine g_istore ok rfl (L' := [(0, (5, 0, 0)), (1, (27, 0, x1)), (2, (28, 0, x2)), (3, (125, 0, x3)), (4, (0, x4, 0)), (6, (0, v34, 0))]) rfl ?_
  refine g_goto ok rfl ?_
  refine g_rb gs_511 109 (cd' := gb_511_1859) rfl rfl ?_
  refine g_iinc ok rfl rfl (L' := [(0, (5, 0, 0)), (1, (27, 0, x1)), (2, (28, 0, x2)), (3, (125, 0, x3)), (4, (0, (g32 (x4 + 6)), 0)), (6, (0, v34, 0))]) rfl ?_
  refine g_goto ok rfl ?_
  refine g_wd ok (cs' := cs + 4) (ss' := ss + 408) (Nat.ble_eq.mpr (show cs + 1 ≤ cs + 4 by omega)) (Nat.ble_eq.mpr (show ss + 6 ≤ ss + 408 by omega)) ?_
  exact g_wk ok [(0, (5, 0, 0)), (1, (27, 0, x1)), (2, (28, 0, x2)), (3, (125, 0, x3)), (4, (0, (g32 (x4 + 6)), 0))] ⟨rfl, rfl, rfl, rfl, rfl, trivial⟩ (hl23 (x1, x2, x3, (g32 (x4 + 6)), s33))
theorem tb_511_488 {X : gX} (ok : gOK X) (hX : gHX X) (d : Nat) (hSL : gSL X < 2147483648) {sc : Nat → Int} (hsc : ∀ i, i < gSL X → es_kn (gF X) (1, i) = some (eI (sc i)) ∧ gc32 (sc i)) {cs ss : Nat} (hcs : cs + 4 ≤ 601024) (hss : ss + 408 ≤ 7293034) {k23 : (Nat × Nat × Nat × Int × gS) ⊕ gO → Option gO} (hl23 : ∀ y : (Nat × Nat × Nat × Int × gS), Go X em_511 511 (d + 103) 23 [] [(0, (5, 0, 0)), (1, (27, 0, y.1)), (2, (28, 0, y.2.1)), (3, (125, 0, y.2.2.1)), (4, (0, y.2.2.2.1, 0))] [] y.2.2.2.2 (cs + 4) (ss + 408) (some (Sum.inl y)) k23) (hr23 : ∀ q, k23 (Sum.inr q) = some q) (x1 : Nat) (x2 : Nat) (x3 : Nat) (x4 : Int) (w0 : Int) (w1 : Int) (w2 : Nat) (s : gS) : Go X em_511 511 (d + 103) 488 [] [(0, (5, 0, 0)), (1, (27, 0, x1)), (2, (28, 0, x2)), (3, (125, 0, x3)), (4, (0, x4, 0))] [(0, w0, 0), (0, w1, 0), (27, 0, w2)] s cs ss (fb_511_488 (gSL X) sc x1 x2 x3 x4 w0 w1 w2 s) k23 := by
  delta fb_511_488
  refine g_rb gs_511 13 (cd' := gb_511_488) rfl rfl ?_
  refine g_aload_n ok rfl rfl ?_
  refine g_cs1 ok (me_280 hX) rfl (gcal_s rfl (show cs + 0 + 1 ≤ 601024 by omega) (show ss + 0 + 6 ≤ 7293034 by omega)) rfl (t_280 ok hX _ w2 w1 w0 x3 s) (fun v32 s31 => ?_)
  refine g_istore ok rfl (L' := [(0, (5, 0, 0)), (1, (27, 0, x1)), (2, (28, 0, x2)), (3, (125, 0, x3)), (4, (0, x4, 0)), (5, (0, v32, 0))]) rfl ?_
  refine g_aload_n ok rfl rfl ?_
  refine g_aload_n ok rfl rfl ?_
  refine g_iload ok rfl ?_
  refine g_iconst ok (v := 1) rfl ?_
  refine g_iadd ok ?_
  refine g_sld ok hSL hsc (fun _ _ => ?_)
  refine g_aload_n ok rfl rfl ?_
  refine g_iload ok rfl ?_
  refine g_iconst ok (v := 2) rfl ?_
  refine g_iadd ok ?_
  refine g_sld ok hSL hsc (fun _ _ => ?_)
  refine g_if_eq ok rfl (fun _ => ?_) (fun _ => ?_)
  · refine g_rb gs_511 15 (cd' := gb_511_514) rfl rfl ?_
    refine g_iconst ok (v := 0) rfl ?_
    exact g_wk ok [(0, (5, 0, 0)), (1, (27, 0, x1)), (2, (28, 0, x2)), (3, (125, 0, x3)), (4, (0, x4, 0))] ⟨rfl, rfl, rfl, rfl, rfl, trivial⟩ (tb_511_515 ok hX d hSL hsc hcs hss hl23 hr23 x1 x2 x3 x4 0 (sc ((g32 (x4 + 1)) : Int).toNat) x2 s31)
  · refine g_rb gs_511 14 (cd' := gb_511_510) rfl rfl ?_
    refine g_iconst ok (v := 1) rfl ?_
    refine g_goto ok rfl ?_
    exact g_wk ok [(0, (5, 0, 0)), (1, (27, 0, x1)), (2, (28, 0, x2)), (3, (125, 0, x3)), (4, (0, x4, 0))] ⟨rfl, rfl, rfl, rfl, rfl, trivial⟩ (tb_511_515 ok hX d hSL hsc hcs hss hl23 hr23 x1 x2 x3 x4 1 (sc ((g32 (x4 + 1)) : Int).toNat) x2 s31)
theorem tb_511_571 {X : gX} (ok : gOK X) (hX : gHX X) (d : Nat) (hSL : gSL X < 2147483648) {sc : Nat → Int} (hsc : ∀ i, i < gSL X → es_kn (gF X) (1, i) = some (eI (sc i)) ∧ gc32 (sc i)) {cs ss : Nat} (hcs : cs + 4 ≤ 601024) (hss : ss + 408 ≤ 7293034) {k23 : (Nat × Nat × Nat × Int × gS) ⊕ gO → Option gO} (hl23 : ∀ y : (Nat × Nat × Nat × Int × gS), Go X em_511 511 (d + 103) 23 [] [(0, (5, 0, 0)), (1, (27, 0, y.1)), (2, (28, 0, y.2.1)), (3, (125, 0, y.2.2.1)), (4, (0, y.2.2.2.1, 0))] [] y.2.2.2.2 (cs + 4) (ss + 408) (some (Sum.inl y)) k23) (hr23 : ∀ q, k23 (Sum.inr q) = some q) (x1 : Nat) (x2 : Nat) (x3 : Nat) (x4 : Int) (w0 : Int) (w1 : Int) (w2 : Nat) (s : gS) : Go X em_511 511 (d + 103) 571 [] [(0, (5, 0, 0)), (1, (27, 0, x1)), (2, (28, 0, x2)), (3, (125, 0, x3)), (4, (0, x4, 0))] [(0, w0, 0), (0, w1, 0), (28, 0, w2)] s (cs + 1) (ss + 6) (fb_511_571 (gSL X) sc x1 x2 x3 x4 w0 w1 w2 s) k23 := by
  delta fb_511_571
  refine g_rb gs_511 23 (cd' := gb_511_571) rfl rfl ?_
  refine g_cv1 ok (me_208 hX) rfl rfl (gcal_s rfl (show cs + 1 + 0 ≤ 601024 by omega) (show ss + 6 + 0 ≤ 7293034 by omega)) rfl (t_208 ok hX _ w2 w1 w0 s) (fun v38 s37 => ?_)
  refine g_istore ok rfl (L' := [(0, (5, 0, 0)), (1, (27, 0, x1)), (2, (28, 0, x2)), (3, (125, 0, x3)), (4, (0, x4, 0)), (6, (0, v38, 0))]) rfl ?_
  refine g_goto ok rfl ?_
  refine g_rb gs_511 109 (cd' := gb_511_1859) rfl rfl ?_
  refine g_iinc ok rfl rfl (L' := [(0, (5, 0, 0)), (1, (27, 0, x1)), (2, (28, 0, x2)), (3, (125, 0, x3)), (4, (0, (g32 (x4 + 6)), 0)), (6, (0, v38, 0))]) rfl ?_
  refine g_goto ok rfl ?_
  refine g_wd ok (cs' := cs + 4) (ss' := ss + 408) (Nat.ble_eq.mpr (show cs + 1 ≤ cs + 4 by omega)) (Nat.ble_eq.mpr (show ss + 6 ≤ ss + 408 by omega)) ?_
  exact g_wk ok [(0, (5, 0, 0)), (1, (27, 0, x1)), (2, (28, 0, x2)), (3, (125, 0, x3)), (4, (0, (g32 (x4 + 6)), 0))] ⟨rfl, rfl, rfl, rfl, rfl, trivial⟩ (hl23 (x1, x2, x3, (g32 (x4 + 6)), s37))
theorem tb_511_544 {X : gX} (ok : gOK X) (hX : gHX X) (d : Nat) (hSL : gSL X < 2147483648) {sc : Nat → Int} (hsc : ∀ i, i < gSL X → es_kn (gF X) (1, i) = some (eI (sc i)) ∧ gc32 (sc i)) {cs ss : Nat} (hcs : cs + 4 ≤ 601024) (hss : ss + 408 ≤ 7293034) {k23 : (Nat × Nat × Nat × Int × gS) ⊕ gO → Option gO} (hl23 : ∀ y : (Nat × Nat × Nat × Int × gS), Go X em_511 511 (d + 103) 23 [] [(0, (5, 0, 0)), (1, (27, 0, y.1)), (2, (28, 0, y.2.1)), (3, (125, 0, y.2.2.1)), (4, (0, y.2.2.2.1, 0))] [] y.2.2.2.2 (cs + 4) (ss + 408) (some (Sum.inl y)) k23) (hr23 : ∀ q, k23 (Sum.inr q) = some q) (x1 : Nat) (x2 : Nat) (x3 : Nat) (x4 : Int) (w0 : Int) (w1 : Int) (w2 : Nat) (s : gS) : Go X em_511 511 (d + 103) 544 [] [(0, (5, 0, 0)), (1, (27, 0, x1)), (2, (28, 0, x2)), (3, (125, 0, x3)), (4, (0, x4, 0))] [(0, w0, 0), (0, w1, 0), (27, 0, w2)] s cs ss (fb_511_544 (gSL X) sc x1 x2 x3 x4 w0 w1 w2 s) k23 := by
  delta fb_511_544
  refine g_rb gs_511 20 (cd' := gb_511_544) rfl rfl ?_
  refine g_aload_n ok rfl rfl ?_
  refine g_cs1 ok (me_281 hX) rfl (gcal_s rfl (show cs + 0 + 1 ≤ 601024 by omega) (show ss + 0 + 6 ≤ 7293034 by omega)) rfl (t_281 ok hX _ w2 w1 w0 x3 s) (fun v36 s35 => ?_)
  refine g_istore ok rfl (L' := [(0, (5, 0, 0)), (1, (27, 0, x1)), (2, (28, 0, x2)), (3, (125, 0, x3)), (4, (0, x4, 0)), (5, (0, v36, 0))]) rfl ?_
  refine g_aload_n ok rfl rfl ?_
  refine g_aload_n ok rfl rfl ?_
  refine g_iload ok rfl ?_
  refine g_iconst ok (v := 1) rfl ?_
  refine g_iadd ok ?_
  refine g_sld ok hSL hsc (fun _ _ => ?_)
  refine g_aload_n ok rfl rfl ?_
  refine g_iload ok rfl ?_
  refine g_iconst ok (v := 2) rfl ?_
  refine g_iadd ok ?_
  refine g_sld ok hSL hsc (fun _ _ => ?_)
  refine g_if_eq ok rfl (fun _ => ?_) (fun _ => ?_)
  · refine g_rb gs_511 22 (cd' := gb_511_570) rfl rfl ?_
    refine g_iconst ok (v := 0) rfl ?_
    exact g_wk ok [(0, (5, 0, 0)), (1, (27, 0, x1)), (2, (28, 0, x2)), (3, (125, 0, x3)), (4, (0, x4, 0))] ⟨rfl, rfl, rfl, rfl, rfl, trivial⟩ (tb_511_571 ok hX d hSL hsc hcs hss hl23 hr23 x1 x2 x3 x4 0 (sc ((g32 (x4 + 1)) : Int).toNat) x2 s35)
  · refine g_rb gs_511 21 (cd' := gb_511_566) rfl rfl ?_
    refine g_iconst ok (v := 1) rfl ?_
    refine g_goto ok rfl ?_
    exact g_wk ok [(0, (5, 0, 0)), (1, (27, 0, x1)), (2, (28, 0, x2)), (3, (125, 0, x3)), (4, (0, x4, 0))] ⟨rfl, rfl, rfl, rfl, rfl, trivial⟩ (tb_511_571 ok hX d hSL hsc hcs hss hl23 hr23 x1 x2 x3 x4 1 (sc ((g32 (x4 + 1)) : Int).toNat) x2 s35)
theorem tb_511_1211 {X : gX} (ok : gOK X) (hX : gHX X) (d : Nat) (hSL : gSL X < 2147483648) {sc : Nat → Int} (hsc : ∀ i, i < gSL X → es_kn (gF X) (1, i) = some (eI (sc i)) ∧ gc32 (sc i)) {cs ss : Nat} (hcs : cs + 4 ≤ 601024) (hss : ss + 408 ≤ 7293034) {k23 : (Nat × Nat × Nat × Int × gS) ⊕ gO → Option gO} (hl23 : ∀ y : (Nat × Nat × Nat × Int × gS), Go X em_511 511 (d + 103) 23 [] [(0, (5, 0, 0)), (1, (27, 0, y.1)), (2, (28, 0, y.2.1)), (3, (125, 0, y.2.2.1)), (4, (0, y.2.2.2.1, 0))] [] y.2.2.2.2 (cs + 4) (ss + 408) (some (Sum.inl y)) k23) (hr23 : ∀ q, k23 (Sum.inr q) = some q) (x1 : Nat) (x2 : Nat) (x3 : Nat) (x4 : Int) (w0 : Int) (w1 : Int) (w2 : Nat) (s : gS) : Go X em_511 511 (d + 103) 1211 [] [(0, (5, 0, 0)), (1, (27, 0, x1)), (2, (28, 0, x2)), (3, (125, 0, x3)), (4, (0, x4, 0))] [(0, w0, 0), (0, w1, 0), (28, 0, w2)] s (cs + 1) (ss + 6) (fb_511_1211 (gSL X) sc x1 x2 x3 x4 w0 w1 w2 s) k23 := by
  delta fb_511_1211
  refine g_rb gs_511 51 (cd' := gb_511_1211) rfl rfl ?_
  refine g_cv1 ok (me_236 hX) rfl rfl (gcal_s rfl (show cs + 1 + 0 ≤ 601024 by omega) (show ss + 6 + 0 ≤ 7293034 by omega)) rfl (t_236 ok hX _ w2 w1 w0 s) (fun v110 s109 => ?_)
  refine g_istore ok rfl (L' := [(0, (5, 0, 0)), (1, (27, 0, x1)), (2, (28, 0, x2)), (3, (125, 0, x3)), (4, (0, x4, 0)), (6, (0, v110, 0))]) rfl ?_
  refine g_goto ok rfl ?_
  refine g_rb gs_511 109 (cd' := gb_511_1859) rfl rfl ?_
  refine g_iinc ok rfl rfl (L' := [(0, (5, 0, 0)), (1, (27, 0, x1)), (2, (28, 0, x2)), (3, (125, 0, x3)), (4, (0, (g32 (x4 + 6)), 0)), (6, (0, v110, 0))]) rfl ?_
  refine g_goto ok rfl ?_
  refine g_wd ok (cs' := cs + 4) (ss' := ss + 408) (Nat.ble_eq.mpr (show cs + 1 ≤ cs + 4 by omega)) (Nat.ble_eq.mpr (show ss + 6 ≤ ss + 408 by omega)) ?_
  exact g_wk ok [(0, (5, 0, 0)), (1, (27, 0, x1)), (2, (28, 0, x2)), (3, (125, 0, x3)), (4, (0, (g32 (x4 + 6)), 0))] ⟨rfl, rfl, rfl, rfl, rfl, trivial⟩ (hl23 (x1, x2, x3, (g32 (x4 + 6)), s109))
theorem tb_511_1184 {X : gX} (ok : gOK X) (hX : gHX X) (d : Nat) (hSL : gSL X < 2147483648) {sc : Nat → Int} (hsc : ∀ i, i < gSL X → es_kn (gF X) (1, i) = some (eI (sc i)) ∧ gc32 (sc i)) {cs ss : Nat} (hcs : cs + 4 ≤ 601024) (hss : ss + 408 ≤ 7293034) {k23 : (Nat × Nat × Nat × Int × gS) ⊕ gO → Option gO} (hl23 : ∀ y : (Nat × Nat × Nat × Int × gS), Go X em_511 511 (d + 103) 23 [] [(0, (5, 0, 0)), (1, (27, 0, y.1)), (2, (28, 0, y.2.1)), (3, (125, 0, y.2.2.1)), (4, (0, y.2.2.2.1, 0))] [] y.2.2.2.2 (cs + 4) (ss + 408) (some (Sum.inl y)) k23) (hr23 : ∀ q, k23 (Sum.inr q) = some q) (x1 : Nat) (x2 : Nat) (x3 : Nat) (x4 : Int) (w0 : Int) (w1 : Int) (w2 : Nat) (s : gS) : Go X em_511 511 (d + 103) 1184 [] [(0, (5, 0, 0)), (1, (27, 0, x1)), (2, (28, 0, x2)), (3, (125, 0, x3)), (4, (0, x4, 0))] [(0, w0, 0), (0, w1, 0), (27, 0, w2)] s cs ss (fb_511_1184 (gSL X) sc x1 x2 x3 x4 w0 w1 w2 s) k23 := by
  delta fb_511_1184
  refine g_rb gs_511 48 (cd' := gb_511_1184) rfl rfl ?_
  refine g_aload_n ok rfl rfl ?_
  refine g_cs1 ok (me_298 hX) rfl (gcal_s rfl (show cs + 0 + 1 ≤ 601024 by omega) (show ss + 0 + 6 ≤ 7293034 by omega)) rfl (t_298 ok hX _ w2 w1 w0 x3 s) (fun v108 s107 => ?_)
  refine g_istore ok rfl (L' := [(0, (5, 0, 0)), (1, (27, 0, x1)), (2, (28, 0, x2)), (3, (125, 0, x3)), (4, (0, x4, 0)), (5, (0, v108, 0))]) rfl ?_
  refine g_aload_n ok rfl rfl ?_
  refine g_aload_n ok rfl rfl ?_
  refine g_iload ok rfl ?_
  refine g_iconst ok (v := 1) rfl ?_
  refine g_iadd ok ?_
  refine g_sld ok hSL hsc (fun _ _ => ?_)
  refine g_aload_n ok rfl rfl ?_
  refine g_iload ok rfl ?_
  refine g_iconst ok (v := 2) rfl ?_
  refine g_iadd ok ?_
  refine g_sld ok hSL hsc (fun _ _ => ?_)
  refine g_if_eq ok rfl (fun _ => ?_) (fun _ => ?_)
  · refine g_rb gs_511 50 (cd' := gb_511_1210) rfl rfl ?_
    refine g_iconst ok (v := 0) rfl ?_
    exact g_wk ok [(0, (5, 0, 0)), (1, (27, 0, x1)), (2, (28, 0, x2)), (3, (125, 0, x3)), (4, (0, x4, 0))] ⟨rfl, rfl, rfl, rfl, rfl, trivial⟩ (tb_511_1211 ok hX d hSL hsc hcs hss hl23 hr23 x1 x2 x3 x4 0 (sc ((g32 (x4 + 1)) : Int).toNat) x2 s107)
  · refine g_rb gs_511 49 (cd' := gb_511_1206) rfl rfl ?_
    refine g_iconst ok (v := 1) rfl ?_
    refine g_goto ok rfl ?_
    exact g_wk ok [(0, (5, 0, 0)), (1, (27, 0, x1)), (2, (28, 0, x2)), (3, (125, 0, x3)), (4, (0, x4, 0))] ⟨rfl, rfl, rfl, rfl, rfl, trivial⟩ (tb_511_1211 ok hX d hSL hsc hcs hss hl23 hr23 x1 x2 x3 x4 1 (sc ((g32 (x4 + 1)) : Int).toNat) x2 s107)
theorem tb_511_1283 {X : gX} (ok : gOK X) (hX : gHX X) (d : Nat) (hSL : gSL X < 2147483648) {sc : Nat → Int} (hsc : ∀ i, i < gSL X → es_kn (gF X) (1, i) = some (eI (sc i)) ∧ gc32 (sc i)) {cs ss : Nat} (hcs : cs + 4 ≤ 601024) (hss : ss + 408 ≤ 7293034) {k23 : (Nat × Nat × Nat × Int × gS) ⊕ gO → Option gO} (hl23 : ∀ y : (Nat × Nat × Nat × Int × gS), Go X em_511 511 (d + 103) 23 [] [(0, (5, 0, 0)), (1, (27, 0, y.1)), (2, (28, 0, y.2.1)), (3, (125, 0, y.2.2.1)), (4, (0, y.2.2.2.1, 0))] [] y.2.2.2.2 (cs + 4) (ss + 408) (some (Sum.inl y)) k23) (hr23 : ∀ q, k23 (Sum.inr q) = some q) (x1 : Nat) (x2 : Nat) (x3 : Nat) (x4 : Int) (w0 : Int) (w1 : Nat) (s : gS) : Go X em_511 511 (d + 103) 1283 [] [(0, (5, 0, 0)), (1, (27, 0, x1)), (2, (28, 0, x2)), (3, (125, 0, x3)), (4, (0, x4, 0))] [(0, w0, 0), (28, 0, w1)] s (cs + 1) (ss + 6) (fb_511_1283 (gSL X) sc x1 x2 x3 x4 w0 w1 s) k23 := by
  delta fb_511_1283
  refine g_rb gs_511 59 (cd' := gb_511_1283) rfl rfl ?_
  refine g_cv1 ok (me_239 hX) rfl rfl (gcal_s rfl (show cs + 1 + 0 ≤ 601024 by omega) (show ss + 6 + 0 ≤ 7293034 by omega)) rfl (t_239 ok hX _ w1 w0 s) (fun v118 s117 => ?_)
  refine g_istore ok rfl (L' := [(0, (5, 0, 0)), (1, (27, 0, x1)), (2, (28, 0, x2)), (3, (125, 0, x3)), (4, (0, x4, 0)), (6, (0, v118, 0))]) rfl ?_
  refine g_goto ok rfl ?_
  refine g_rb gs_511 109 (cd' := gb_511_1859) rfl rfl ?_
  refine g_iinc ok rfl rfl (L' := [(0, (5, 0, 0)), (1, (27, 0, x1)), (2, (28, 0, x2)), (3, (125, 0, x3)), (4, (0, (g32 (x4 + 6)), 0)), (6, (0, v118, 0))]) rfl ?_
  refine g_goto ok rfl ?_
  refine g_wd ok (cs' := cs + 4) (ss' := ss + 408) (Nat.ble_eq.mpr (show cs + 1 ≤ cs + 4 by omega)) (Nat.ble_eq.mpr (show ss + 6 ≤ ss + 408 by omega)) ?_
  exact g_wk ok [(0, (5, 0, 0)), (1, (27, 0, x1)), (2, (28, 0, x2)), (3, (125, 0, x3)), (4, (0, (g32 (x4 + 6)), 0))] ⟨rfl, rfl, rfl, rfl, rfl, trivial⟩ (hl23 (x1, x2, x3, (g32 (x4 + 6)), s117))
theorem tb_511_1262 {X : gX} (ok : gOK X) (hX : gHX X) (d : Nat) (hSL : gSL X < 2147483648) {sc : Nat → Int} (hsc : ∀ i, i < gSL X → es_kn (gF X) (1, i) = some (eI (sc i)) ∧ gc32 (sc i)) {cs ss : Nat} (hcs : cs + 4 ≤ 601024) (hss : ss + 408 ≤ 7293034) {k23 : (Nat × Nat × Nat × Int × gS) ⊕ gO → Option gO} (hl23 : ∀ y : (Nat × Nat × Nat × Int × gS), Go X em_511 511 (d + 103) 23 [] [(0, (5, 0, 0)), (1, (27, 0, y.1)), (2, (28, 0, y.2.1)), (3, (125, 0, y.2.2.1)), (4, (0, y.2.2.2.1, 0))] [] y.2.2.2.2 (cs + 4) (ss + 408) (some (Sum.inl y)) k23) (hr23 : ∀ q, k23 (Sum.inr q) = some q) (x1 : Nat) (x2 : Nat) (x3 : Nat) (x4 : Int) (w0 : Int) (w1 : Nat) (s : gS) : Go X em_511 511 (d + 103) 1262 [] [(0, (5, 0, 0)), (1, (27, 0, x1)), (2, (28, 0, x2)), (3, (125, 0, x3)), (4, (0, x4, 0))] [(0, w0, 0), (27, 0, w1)] s cs ss (fb_511_1262 (gSL X) sc x1 x2 x3 x4 w0 w1 s) k23 := by
  delta fb_511_1262
  refine g_rb gs_511 56 (cd' := gb_511_1262) rfl rfl ?_
  refine g_aload_n ok rfl rfl ?_
  refine g_cs1 ok (me_300 hX) rfl (gcal_s rfl (show cs + 0 + 1 ≤ 601024 by omega) (show ss + 0 + 6 ≤ 7293034 by omega)) rfl (t_300 ok hX _ w1 w0 x3 s) (fun v116 s115 => ?_)
  refine g_istore ok rfl (L' := [(0, (5, 0, 0)), (1, (27, 0, x1)), (2, (28, 0, x2)), (3, (125, 0, x3)), (4, (0, x4, 0)), (5, (0, v116, 0))]) rfl ?_
  refine g_aload_n ok rfl rfl ?_
  refine g_aload_n ok rfl rfl ?_
  refine g_iload ok rfl ?_
  refine g_iconst ok (v := 1) rfl ?_
  refine g_iadd ok ?_
  refine g_sld ok hSL hsc (fun _ _ => ?_)
  refine g_if_eq ok rfl (fun _ => ?_) (fun _ => ?_)
  · refine g_rb gs_511 58 (cd' := gb_511_1282) rfl rfl ?_
    refine g_iconst ok (v := 0) rfl ?_
    exact g_wk ok [(0, (5, 0, 0)), (1, (27, 0, x1)), (2, (28, 0, x2)), (3, (125, 0, x3)), (4, (0, x4, 0))] ⟨rfl, rfl, rfl, rfl, rfl, trivial⟩ (tb_511_1283 ok hX d hSL hsc hcs hss hl23 hr23 x1 x2 x3 x4 0 x2 s115)
  · refine g_rb gs_511 57 (cd' := gb_511_1278) rfl rfl ?_
    refine g_iconst ok (v := 1) rfl ?_
    refine g_goto ok rfl ?_
    exact g_wk ok [(0, (5, 0, 0)), (1, (27, 0, x1)), (2, (28, 0, x2)), (3, (125, 0, x3)), (4, (0, x4, 0))] ⟨rfl, rfl, rfl, rfl, rfl, trivial⟩ (tb_511_1283 ok hX d hSL hsc hcs hss hl23 hr23 x1 x2 x3 x4 1 x2 s115)
theorem tb_511_1421 {X : gX} (ok : gOK X) (hX : gHX X) (d : Nat) (hSL : gSL X < 2147483648) {sc : Nat → Int} (hsc : ∀ i, i < gSL X → es_kn (gF X) (1, i) = some (eI (sc i)) ∧ gc32 (sc i)) {cs ss : Nat} (hcs : cs + 4 ≤ 601024) (hss : ss + 408 ≤ 7293034) {k23 : (Nat × Nat × Nat × Int × gS) ⊕ gO → Option gO} (hl23 : ∀ y : (Nat × Nat × Nat × Int × gS), Go X em_511 511 (d + 103) 23 [] [(0, (5, 0, 0)), (1, (27, 0, y.1)), (2, (28, 0, y.2.1)), (3, (125, 0, y.2.2.1)), (4, (0, y.2.2.2.1, 0))] [] y.2.2.2.2 (cs + 4) (ss + 408) (some (Sum.inl y)) k23) (hr23 : ∀ q, k23 (Sum.inr q) = some q) (x1 : Nat) (x2 : Nat) (x3 : Nat) (x4 : Int) (w0 : Int) (w1 : Nat) (s : gS) : Go X em_511 511 (d + 103) 1421 [] [(0, (5, 0, 0)), (1, (27, 0, x1)), (2, (28, 0, x2)), (3, (125, 0, x3)), (4, (0, x4, 0))] [(0, w0, 0), (28, 0, w1)] s cs ss (fb_511_1421 (gSL X) sc x1 x2 x3 x4 w0 w1 s) k23 := by
  delta fb_511_1421
  refine g_rb gs_511 69 (cd' := gb_511_1421) rfl rfl ?_
  refine g_cv1 ok (me_245 hX) rfl rfl (gcal_s rfl (show cs + 0 + 0 ≤ 601024 by omega) (show ss + 0 + 0 ≤ 7293034 by omega)) rfl (t_245 ok hX _ w1 w0 s) (fun v134 s133 => ?_)
  refine g_pop ok rfl ?_
  refine g_goto ok rfl ?_
  refine g_rb gs_511 109 (cd' := gb_511_1859) rfl rfl ?_
  refine g_iinc ok rfl rfl (L' := [(0, (5, 0, 0)), (1, (27, 0, x1)), (2, (28, 0, x2)), (3, (125, 0, x3)), (4, (0, (g32 (x4 + 6)), 0))]) rfl ?_
  refine g_goto ok rfl ?_
  refine g_wd ok (cs' := cs + 4) (ss' := ss + 408) (Nat.ble_eq.mpr (show cs + 0 ≤ cs + 4 by omega)) (Nat.ble_eq.mpr (show ss + 0 ≤ ss + 408 by omega)) ?_
  exact g_wk ok [(0, (5, 0, 0)), (1, (27, 0, x1)), (2, (28, 0, x2)), (3, (125, 0, x3)), (4, (0, (g32 (x4 + 6)), 0))] ⟨rfl, rfl, rfl, rfl, rfl, trivial⟩ (hl23 (x1, x2, x3, (g32 (x4 + 6)), s133))
theorem tb_511_1402 {X : gX} (ok : gOK X) (hX : gHX X) (d : Nat) (hSL : gSL X < 2147483648) {sc : Nat → Int} (hsc : ∀ i, i < gSL X → es_kn (gF X) (1, i) = some (eI (sc i)) ∧ gc32 (sc i)) {cs ss : Nat} (hcs : cs + 4 ≤ 601024) (hss : ss + 408 ≤ 7293034) {k23 : (Nat × Nat × Nat × Int × gS) ⊕ gO → Option gO} (hl23 : ∀ y : (Nat × Nat × Nat × Int × gS), Go X em_511 511 (d + 103) 23 [] [(0, (5, 0, 0)), (1, (27, 0, y.1)), (2, (28, 0, y.2.1)), (3, (125, 0, y.2.2.1)), (4, (0, y.2.2.2.1, 0))] [] y.2.2.2.2 (cs + 4) (ss + 408) (some (Sum.inl y)) k23) (hr23 : ∀ q, k23 (Sum.inr q) = some q) (x1 : Nat) (x2 : Nat) (x3 : Nat) (x4 : Int) (w0 : Int) (w1 : Nat) (s : gS) : Go X em_511 511 (d + 103) 1402 [] [(0, (5, 0, 0)), (1, (27, 0, x1)), (2, (28, 0, x2)), (3, (125, 0, x3)), (4, (0, x4, 0))] [(0, w0, 0), (27, 0, w1)] s cs ss (fb_511_1402 (gSL X) sc x1 x2 x3 x4 w0 w1 s) k23 := by
  delta fb_511_1402
  refine g_rb gs_511 66 (cd' := gb_511_1402) rfl rfl ?_
  refine g_cv1 ok (me_118 hX) rfl rfl (gcal_s rfl (show cs + 0 + 0 ≤ 601024 by omega) (show ss + 0 + 0 ≤ 7293034 by omega)) rfl (t_118 ok hX _ w1 w0 s) (fun v132 s131 => ?_)
  refine g_pop ok rfl ?_
  refine g_aload_n ok rfl rfl ?_
  refine g_aload_n ok rfl rfl ?_
  refine g_iload ok rfl ?_
  refine g_iconst ok (v := 1) rfl ?_
  refine g_iadd ok ?_
  refine g_sld ok hSL hsc (fun _ _ => ?_)
  refine g_if_eq ok rfl (fun _ => ?_) (fun _ => ?_)
  · refine g_rb gs_511 68 (cd' := gb_511_1420) rfl rfl ?_
    refine g_iconst ok (v := 0) rfl ?_
    exact g_wk ok [(0, (5, 0, 0)), (1, (27, 0, x1)), (2, (28, 0, x2)), (3, (125, 0, x3)), (4, (0, x4, 0))] ⟨rfl, rfl, rfl, rfl, rfl, trivial⟩ (tb_511_1421 ok hX d hSL hsc hcs hss hl23 hr23 x1 x2 x3 x4 0 x2 s131)
  · refine g_rb gs_511 67 (cd' := gb_511_1416) rfl rfl ?_
    refine g_iconst ok (v := 1) rfl ?_
    refine g_goto ok rfl ?_
    exact g_wk ok [(0, (5, 0, 0)), (1, (27, 0, x1)), (2, (28, 0, x2)), (3, (125, 0, x3)), (4, (0, x4, 0))] ⟨rfl, rfl, rfl, rfl, rfl, trivial⟩ (tb_511_1421 ok hX d hSL hsc hcs hss hl23 hr23 x1 x2 x3 x4 1 x2 s131)
theorem tb_511_1557 {X : gX} (ok : gOK X) (hX : gHX X) (d : Nat) (hSL : gSL X < 2147483648) {sc : Nat → Int} (hsc : ∀ i, i < gSL X → es_kn (gF X) (1, i) = some (eI (sc i)) ∧ gc32 (sc i)) {cs ss : Nat} (hcs : cs + 4 ≤ 601024) (hss : ss + 408 ≤ 7293034) {k23 : (Nat × Nat × Nat × Int × gS) ⊕ gO → Option gO} (hl23 : ∀ y : (Nat × Nat × Nat × Int × gS), Go X em_511 511 (d + 103) 23 [] [(0, (5, 0, 0)), (1, (27, 0, y.1)), (2, (28, 0, y.2.1)), (3, (125, 0, y.2.2.1)), (4, (0, y.2.2.2.1, 0))] [] y.2.2.2.2 (cs + 4) (ss + 408) (some (Sum.inl y)) k23) (hr23 : ∀ q, k23 (Sum.inr q) = some q) (x1 : Nat) (x2 : Nat) (x3 : Nat) (x4 : Int) (w0 : Int) (w1 : Nat) (s : gS) : Go X em_511 511 (d + 103) 1557 [] [(0, (5, 0, 0)), (1, (27, 0, x1)), (2, (28, 0, x2)), (3, (125, 0, x3)), (4, (0, x4, 0))] [(0, w0, 0), (28, 0, w1)] s cs ss (fb_511_1557 (gSL X) sc x1 x2 x3 x4 w0 w1 s) k23 := by
  delta fb_511_1557
  refine g_rb gs_511 81 (cd' := gb_511_1557) rfl rfl ?_
  refine g_cv1 ok (me_253 hX) rfl rfl (gcal_s rfl (show cs + 0 + 0 ≤ 601024 by omega) (show ss + 0 + 0 ≤ 7293034 by omega)) rfl (t_253 ok hX _ w1 w0 s) (fun v158 s157 => ?_)
  refine g_pop ok rfl ?_
  refine g_goto ok rfl ?_
  refine g_rb gs_511 109 (cd' := gb_511_1859) rfl rfl ?_
  refine g_iinc ok rfl rfl (L' := [(0, (5, 0, 0)), (1, (27, 0, x1)), (2, (28, 0, x2)), (3, (125, 0, x3)), (4, (0, (g32 (x4 + 6)), 0))]) rfl ?_
  refine g_goto ok rfl ?_
  refine g_wd ok (cs' := cs + 4) (ss' := ss + 408) (Nat.ble_eq.mpr (show cs + 0 ≤ cs + 4 by omega)) (Nat.ble_eq.mpr (show ss + 0 ≤ ss + 408 by omega)) ?_
  exact g_wk ok [(0, (5, 0, 0)), (1, (27, 0, x1)), (2, (28, 0, x2)), (3, (125, 0, x3)), (4, (0, (g32 (x4 + 6)), 0))] ⟨rfl, rfl, rfl, rfl, rfl, trivial⟩ (hl23 (x1, x2, x3, (g32 (x4 + 6)), s157))
theorem tb_511_1538 {X : gX} (ok : gOK X) (hX : gHX X) (d : Nat) (hSL : gSL X < 2147483648) {sc : Nat → Int} (hsc : ∀ i, i < gSL X → es_kn (gF X) (1, i) = some (eI (sc i)) ∧ gc32 (sc i)) {cs ss : Nat} (hcs : cs + 4 ≤ 601024) (hss : ss + 408 ≤ 7293034) {k23 : (Nat × Nat × Nat × Int × gS) ⊕ gO → Option gO} (hl23 : ∀ y : (Nat × Nat × Nat × Int × gS), Go X em_511 511 (d + 103) 23 [] [(0, (5, 0, 0)), (1, (27, 0, y.1)), (2, (28, 0, y.2.1)), (3, (125, 0, y.2.2.1)), (4, (0, y.2.2.2.1, 0))] [] y.2.2.2.2 (cs + 4) (ss + 408) (some (Sum.inl y)) k23) (hr23 : ∀ q, k23 (Sum.inr q) = some q) (x1 : Nat) (x2 : Nat) (x3 : Nat) (x4 : Int) (w0 : Int) (w1 : Nat) (s : gS) : Go X em_511 511 (d + 103) 1538 [] [(0, (5, 0, 0)), (1, (27, 0, x1)), (2, (28, 0, x2)), (3, (125, 0, x3)), (4, (0, x4, 0))] [(0, w0, 0), (27, 0, w1)] s cs ss (fb_511_1538 (gSL X) sc x1 x2 x3 x4 w0 w1 s) k23 := by
  delta fb_511_1538
  refine g_rb gs_511 78 (cd' := gb_511_1538) rfl rfl ?_
  refine g_cv1 ok (me_124 hX) rfl rfl (gcal_s rfl (show cs + 0 + 0 ≤ 601024 by omega) (show ss + 0 + 0 ≤ 7293034 by omega)) rfl (t_124 ok hX _ w1 w0 s) (fun v156 s155 => ?_)
  refine g_pop ok rfl ?_
  refine g_aload_n ok rfl rfl ?_
  refine g_aload_n ok rfl rfl ?_
  refine g_iload ok rfl ?_
  refine g_iconst ok (v := 1) rfl ?_
  refine g_iadd ok ?_
  refine g_sld ok hSL hsc (fun _ _ => ?_)
  refine g_if_eq ok rfl (fun _ => ?_) (fun _ => ?_)
  · refine g_rb gs_511 80 (cd' := gb_511_1556) rfl rfl ?_
    refine g_iconst ok (v := 0) rfl ?_
    exact g_wk ok [(0, (5, 0, 0)), (1, (27, 0, x1)), (2, (28, 0, x2)), (3, (125, 0, x3)), (4, (0, x4, 0))] ⟨rfl, rfl, rfl, rfl, rfl, trivial⟩ (tb_511_1557 ok hX d hSL hsc hcs hss hl23 hr23 x1 x2 x3 x4 0 x2 s155)
  · refine g_rb gs_511 79 (cd' := gb_511_1552) rfl rfl ?_
    refine g_iconst ok (v := 1) rfl ?_
    refine g_goto ok rfl ?_
    exact g_wk ok [(0, (5, 0, 0)), (1, (27, 0, x1)), (2, (28, 0, x2)), (3, (125, 0, x3)), (4, (0, x4, 0))] ⟨rfl, rfl, rfl, rfl, rfl, trivial⟩ (tb_511_1557 ok hX d hSL hsc hcs hss hl23 hr23 x1 x2 x3 x4 1 x2 s155)
theorem tb_511_1612 {X : gX} (ok : gOK X) (hX : gHX X) (d : Nat) (hSL : gSL X < 2147483648) {sc : Nat → Int} (hsc : ∀ i, i < gSL X → es_kn (gF X) (1, i) = some (eI (sc i)) ∧ gc32 (sc i)) {cs ss : Nat} (hcs : cs + 4 ≤ 601024) (hss : ss + 408 ≤ 7293034) {k23 : (Nat × Nat × Nat × Int × gS) ⊕ gO → Option gO} (hl23 : ∀ y : (Nat × Nat × Nat × Int × gS), Go X em_511 511 (d + 103) 23 [] [(0, (5, 0, 0)), (1, (27, 0, y.1)), (2, (28, 0, y.2.1)), (3, (125, 0, y.2.2.1)), (4, (0, y.2.2.2.1, 0))] [] y.2.2.2.2 (cs + 4) (ss + 408) (some (Sum.inl y)) k23) (hr23 : ∀ q, k23 (Sum.inr q) = some q) (x1 : Nat) (x2 : Nat) (x3 : Nat) (x4 : Int) (w0 : Int) (w1 : Int) (w2 : Nat) (s : gS) : Go X em_511 511 (d + 103) 1612 [] [(0, (5, 0, 0)), (1, (27, 0, x1)), (2, (28, 0, x2)), (3, (125, 0, x3)), (4, (0, x4, 0))] [(0, w0, 0), (0, w1, 0), (28, 0, w2)] s (cs + 1) (ss + 6) (fb_511_1612 (gSL X) sc x1 x2 x3 x4 w0 w1 w2 s) k23 := by
  delta fb_511_1612
  refine g_rb gs_511 88 (cd' := gb_511_1612) rfl rfl ?_
  refine g_cv1 ok (me_254 hX) rfl rfl (gcal_s rfl (show cs + 1 + 0 ≤ 601024 by omega) (show ss + 6 + 0 ≤ 7293034 by omega)) rfl (t_254 ok hX _ w2 w1 w0 s) (fun v162 s161 => ?_)
  refine g_istore ok rfl (L' := [(0, (5, 0, 0)), (1, (27, 0, x1)), (2, (28, 0, x2)), (3, (125, 0, x3)), (4, (0, x4, 0)), (6, (0, v162, 0))]) rfl ?_
  refine g_goto ok rfl ?_
  refine g_rb gs_511 109 (cd' := gb_511_1859) rfl rfl ?_
  refine g_iinc ok rfl rfl (L' := [(0, (5, 0, 0)), (1, (27, 0, x1)), (2, (28, 0, x2)), (3, (125, 0, x3)), (4, (0, (g32 (x4 + 6)), 0)), (6, (0, v162, 0))]) rfl ?_
  refine g_goto ok rfl ?_
  refine g_wd ok (cs' := cs + 4) (ss' := ss + 408) (Nat.ble_eq.mpr (show cs + 1 ≤ cs + 4 by omega)) (Nat.ble_eq.mpr (show ss + 6 ≤ ss + 408 by omega)) ?_
  exact g_wk ok [(0, (5, 0, 0)), (1, (27, 0, x1)), (2, (28, 0, x2)), (3, (125, 0, x3)), (4, (0, (g32 (x4 + 6)), 0))] ⟨rfl, rfl, rfl, rfl, rfl, trivial⟩ (hl23 (x1, x2, x3, (g32 (x4 + 6)), s161))
theorem tb_511_1585 {X : gX} (ok : gOK X) (hX : gHX X) (d : Nat) (hSL : gSL X < 2147483648) {sc : Nat → Int} (hsc : ∀ i, i < gSL X → es_kn (gF X) (1, i) = some (eI (sc i)) ∧ gc32 (sc i)) {cs ss : Nat} (hcs : cs + 4 ≤ 601024) (hss : ss + 408 ≤ 7293034) {k23 : (Nat × Nat × Nat × Int × gS) ⊕ gO → Option gO} (hl23 : ∀ y : (Nat × Nat × Nat × Int × gS), Go X em_511 511 (d + 103) 23 [] [(0, (5, 0, 0)), (1, (27, 0, y.1)), (2, (28, 0, y.2.1)), (3, (125, 0, y.2.2.1)), (4, (0, y.2.2.2.1, 0))] [] y.2.2.2.2 (cs + 4) (ss + 408) (some (Sum.inl y)) k23) (hr23 : ∀ q, k23 (Sum.inr q) = some q) (x1 : Nat) (x2 : Nat) (x3 : Nat) (x4 : Int) (w0 : Int) (w1 : Int) (w2 : Nat) (s : gS) : Go X em_511 511 (d + 103) 1585 [] [(0, (5, 0, 0)), (1, (27, 0, x1)), (2, (28, 0, x2)), (3, (125, 0, x3)), (4, (0, x4, 0))] [(0, w0, 0), (0, w1, 0), (27, 0, w2)] s cs ss (fb_511_1585 (gSL X) sc x1 x2 x3 x4 w0 w1 w2 s) k23 := by
  delta fb_511_1585
  refine g_rb gs_511 85 (cd' := gb_511_1585) rfl rfl ?_
  refine g_aload_n ok rfl rfl ?_
  refine g_cs1 ok (me_306 hX) rfl (gcal_s rfl (show cs + 0 + 1 ≤ 601024 by omega) (show ss + 0 + 6 ≤ 7293034 by omega)) rfl (t_306 ok hX _ w2 w1 w0 x3 s) (fun v160 s159 => ?_)
  refine g_istore ok rfl (L' := [(0, (5, 0, 0)), (1, (27, 0, x1)), (2, (28, 0, x2)), (3, (125, 0, x3)), (4, (0, x4, 0)), (5, (0, v160, 0))]) rfl ?_
  refine g_aload_n ok rfl rfl ?_
  refine g_aload_n ok rfl rfl ?_
  refine g_iload ok rfl ?_
  refine g_iconst ok (v := 1) rfl ?_
  refine g_iadd ok ?_
  refine g_sld ok hSL hsc (fun _ _ => ?_)
  refine g_aload_n ok rfl rfl ?_
  refine g_iload ok rfl ?_
  refine g_iconst ok (v := 2) rfl ?_
  refine g_iadd ok ?_
  refine g_sld ok hSL hsc (fun _ _ => ?_)
  refine g_if_eq ok rfl (fun _ => ?_) (fun _ => ?_)
  · refine g_rb gs_511 87 (cd' := gb_511_1611) rfl rfl ?_
    refine g_iconst ok (v := 0) rfl ?_
    exact g_wk ok [(0, (5, 0, 0)), (1, (27, 0, x1)), (2, (28, 0, x2)), (3, (125, 0, x3)), (4, (0, x4, 0))] ⟨rfl, rfl, rfl, rfl, rfl, trivial⟩ (tb_511_1612 ok hX d hSL hsc hcs hss hl23 hr23 x1 x2 x3 x4 0 (sc ((g32 (x4 + 1)) : Int).toNat) x2 s159)
  · refine g_rb gs_511 86 (cd' := gb_511_1607) rfl rfl ?_
    refine g_iconst ok (v := 1) rfl ?_
    refine g_goto ok rfl ?_
    exact g_wk ok [(0, (5, 0, 0)), (1, (27, 0, x1)), (2, (28, 0, x2)), (3, (125, 0, x3)), (4, (0, x4, 0))] ⟨rfl, rfl, rfl, rfl, rfl, trivial⟩ (tb_511_1612 ok hX d hSL hsc hcs hss hl23 hr23 x1 x2 x3 x4 1 (sc ((g32 (x4 + 1)) : Int).toNat) x2 s159)
theorem tb_511_1668 {X : gX} (ok : gOK X) (hX : gHX X) (d : Nat) (hSL : gSL X < 2147483648) {sc : Nat → Int} (hsc : ∀ i, i < gSL X → es_kn (gF X) (1, i) = some (eI (sc i)) ∧ gc32 (sc i)) {cs ss : Nat} (hcs : cs + 4 ≤ 601024) (hss : ss + 408 ≤ 7293034) {k23 : (Nat × Nat × Nat × Int × gS) ⊕ gO → Option gO} (hl23 : ∀ y : (Nat × Nat × Nat × Int × gS), Go X em_511 511 (d + 103) 23 [] [(0, (5, 0, 0)), (1, (27, 0, y.1)), (2, (28, 0, y.2.1)), (3, (125, 0, y.2.2.1)), (4, (0, y.2.2.2.1, 0))] [] y.2.2.2.2 (cs + 4) (ss + 408) (some (Sum.inl y)) k23) (hr23 : ∀ q, k23 (Sum.inr q) = some q) (x1 : Nat) (x2 : Nat) (x3 : Nat) (x4 : Int) (w0 : Int) (w1 : Int) (w2 : Nat) (s : gS) : Go X em_511 511 (d + 103) 1668 [] [(0, (5, 0, 0)), (1, (27, 0, x1)), (2, (28, 0, x2)), (3, (125, 0, x3)), (4, (0, x4, 0))] [(0, w0, 0), (0, w1, 0), (28, 0, w2)] s (cs + 1) (ss + 6) (fb_511_1668 (gSL X) sc x1 x2 x3 x4 w0 w1 w2 s) k23 := by
  delta fb_511_1668
  refine g_rb gs_511 95 (cd' := gb_511_1668) rfl rfl ?_
  refine g_cv1 ok (me_255 hX) rfl rfl (gcal_s rfl (show cs + 1 + 0 ≤ 601024 by omega) (show ss + 6 + 0 ≤ 7293034 by omega)) rfl (t_255 ok hX _ w2 w1 w0 s) (fun v166 s165 => ?_)
  refine g_istore ok rfl (L' := [(0, (5, 0, 0)), (1, (27, 0, x1)), (2, (28, 0, x2)), (3, (125, 0, x3)), (4, (0, x4, 0)), (6, (0, v166, 0))]) rfl ?_
  refine g_goto ok rfl ?_
  refine g_rb gs_511 109 (cd' := gb_511_1859) rfl rfl ?_
  refine g_iinc ok rfl rfl (L' := [(0, (5, 0, 0)), (1, (27, 0, x1)), (2, (28, 0, x2)), (3, (125, 0, x3)), (4, (0, (g32 (x4 + 6)), 0)), (6, (0, v166, 0))]) rfl ?_
  refine g_goto ok rfl ?_
  refine g_wd ok (cs' := cs + 4) (ss' := ss + 408) (Nat.ble_eq.mpr (show cs + 1 ≤ cs + 4 by omega)) (Nat.ble_eq.mpr (show ss + 6 ≤ ss + 408 by omega)) ?_
  exact g_wk ok [(0, (5, 0, 0)), (1, (27, 0, x1)), (2, (28, 0, x2)), (3, (125, 0, x3)), (4, (0, (g32 (x4 + 6)), 0))] ⟨rfl, rfl, rfl, rfl, rfl, trivial⟩ (hl23 (x1, x2, x3, (g32 (x4 + 6)), s165))
theorem tb_511_1641 {X : gX} (ok : gOK X) (hX : gHX X) (d : Nat) (hSL : gSL X < 2147483648) {sc : Nat → Int} (hsc : ∀ i, i < gSL X → es_kn (gF X) (1, i) = some (eI (sc i)) ∧ gc32 (sc i)) {cs ss : Nat} (hcs : cs + 4 ≤ 601024) (hss : ss + 408 ≤ 7293034) {k23 : (Nat × Nat × Nat × Int × gS) ⊕ gO → Option gO} (hl23 : ∀ y : (Nat × Nat × Nat × Int × gS), Go X em_511 511 (d + 103) 23 [] [(0, (5, 0, 0)), (1, (27, 0, y.1)), (2, (28, 0, y.2.1)), (3, (125, 0, y.2.2.1)), (4, (0, y.2.2.2.1, 0))] [] y.2.2.2.2 (cs + 4) (ss + 408) (some (Sum.inl y)) k23) (hr23 : ∀ q, k23 (Sum.inr q) = some q) (x1 : Nat) (x2 : Nat) (x3 : Nat) (x4 : Int) (w0 : Int) (w1 : Int) (w2 : Nat) (s : gS) : Go X em_511 511 (d + 103) 1641 [] [(0, (5, 0, 0)), (1, (27, 0, x1)), (2, (28, 0, x2)), (3, (125, 0, x3)), (4, (0, x4, 0))] [(0, w0, 0), (0, w1, 0), (27, 0, w2)] s cs ss (fb_511_1641 (gSL X) sc x1 x2 x3 x4 w0 w1 w2 s) k23 := by
  delta fb_511_1641
  refine g_rb gs_511 92 (cd' := gb_511_1641) rfl rfl ?_
  refine g_aload_n ok rfl rfl ?_
  refine g_cs1 ok (me_307 hX) rfl (gcal_s rfl (show cs + 0 + 1 ≤ 601024 by omega) (show ss + 0 + 6 ≤ 7293034 by omega)) rfl (t_307 ok hX _ w2 w1 w0 x3 s) (fun v164 s163 => ?_)
  refine g_istore ok rfl (L' := [(0, (5, 0, 0)), (1, (27, 0, x1)), (2, (28, 0, x2)), (3, (125, 0, x3)), (4, (0, x4, 0)), (5, (0, v164, 0))]) rfl ?_
  refine g_aload_n ok rfl rfl ?_
  refine g_aload_n ok rfl rfl ?_
  refine g_iload ok rfl ?_
  refine g_iconst ok (v := 1) rfl ?_
  refine g_iadd ok ?_
  refine g_sld ok hSL hsc (fun _ _ => ?_)
  refine g_aload_n ok rfl rfl ?_
  refine g_iload ok rfl ?_
  refine g_iconst ok (v := 2) rfl ?_
  refine g_iadd ok ?_
  refine g_sld ok hSL hsc (fun _ _ => ?_)
  refine g_if_eq ok rfl (fun _ => ?_) (fun _ => ?_)
  · refine g_rb gs_511 94 (cd' := gb_511_1667) rfl rfl ?_
    refine g_iconst ok (v := 0) rfl ?_
    exact g_wk ok [(0, (5, 0, 0)), (1, (27, 0, x1)), (2, (28, 0, x2)), (3, (125, 0, x3)), (4, (0, x4, 0))] ⟨rfl, rfl, rfl, rfl, rfl, trivial⟩ (tb_511_1668 ok hX d hSL hsc hcs hss hl23 hr23 x1 x2 x3 x4 0 (sc ((g32 (x4 + 1)) : Int).toNat) x2 s163)
  · refine g_rb gs_511 93 (cd' := gb_511_1663) rfl rfl ?_
    refine g_iconst ok (v := 1) rfl ?_
    refine g_goto ok rfl ?_
    exact g_wk ok [(0, (5, 0, 0)), (1, (27, 0, x1)), (2, (28, 0, x2)), (3, (125, 0, x3)), (4, (0, x4, 0))] ⟨rfl, rfl, rfl, rfl, rfl, trivial⟩ (tb_511_1668 ok hX d hSL hsc hcs hss hl23 hr23 x1 x2 x3 x4 1 (sc ((g32 (x4 + 1)) : Int).toNat) x2 s163)
theorem tb_511_1724 {X : gX} (ok : gOK X) (hX : gHX X) (d : Nat) (hSL : gSL X < 2147483648) {sc : Nat → Int} (hsc : ∀ i, i < gSL X → es_kn (gF X) (1, i) = some (eI (sc i)) ∧ gc32 (sc i)) {cs ss : Nat} (hcs : cs + 4 ≤ 601024) (hss : ss + 408 ≤ 7293034) {k23 : (Nat × Nat × Nat × Int × gS) ⊕ gO → Option gO} (hl23 : ∀ y : (Nat × Nat × Nat × Int × gS), Go X em_511 511 (d + 103) 23 [] [(0, (5, 0, 0)), (1, (27, 0, y.1)), (2, (28, 0, y.2.1)), (3, (125, 0, y.2.2.1)), (4, (0, y.2.2.2.1, 0))] [] y.2.2.2.2 (cs + 4) (ss + 408) (some (Sum.inl y)) k23) (hr23 : ∀ q, k23 (Sum.inr q) = some q) (x1 : Nat) (x2 : Nat) (x3 : Nat) (x4 : Int) (w0 : Int) (w1 : Int) (w2 : Nat) (s : gS) : Go X em_511 511 (d + 103) 1724 [] [(0, (5, 0, 0)), (1, (27, 0, x1)), (2, (28, 0, x2)), (3, (125, 0, x3)), (4, (0, x4, 0))] [(0, w0, 0), (0, w1, 0), (28, 0, w2)] s (cs + 1) (ss + 6) (fb_511_1724 (gSL X) sc x1 x2 x3 x4 w0 w1 w2 s) k23 := by
  delta fb_511_1724
  refine g_rb gs_511 102 (cd' := gb_511_1724) rfl rfl ?_
  refine g_cv1 ok (me_257 hX) rfl rfl (gcal_s rfl (show cs + 1 + 0 ≤ 601024 by omega) (show ss + 6 + 0 ≤ 7293034 by omega)) rfl (t_257 ok hX _ w2 w1 w0 s) (fun v170 s169 => ?_)
  refine g_istore ok rfl (L' := [(0, (5, 0, 0)), (1, (27, 0, x1)), (2, (28, 0, x2)), (3, (125, 0, x3)), (4, (0, x4, 0)), (6, (0, v170, 0))]) rfl ?_
  refine g_goto ok rfl ?_
  refine g_rb gs_511 109 (cd' := gb_511_1859) rfl rfl ?_
  refine g_iinc ok rfl rfl (L' := [(0, (5, 0, 0)), (1, (27, 0, x1)), (2, (28, 0, x2)), (3, (125, 0, x3)), (4, (0, (g32 (x4 + 6)), 0)), (6, (0, v170, 0))]) rfl ?_
  refine g_goto ok rfl ?_
  refine g_wd ok (cs' := cs + 4) (ss' := ss + 408) (Nat.ble_eq.mpr (show cs + 1 ≤ cs + 4 by omega)) (Nat.ble_eq.mpr (show ss + 6 ≤ ss + 408 by omega)) ?_
  exact g_wk ok [(0, (5, 0, 0)), (1, (27, 0, x1)), (2, (28, 0, x2)), (3, (125, 0, x3)), (4, (0, (g32 (x4 + 6)), 0))] ⟨rfl, rfl, rfl, rfl, rfl, trivial⟩ (hl23 (x1, x2, x3, (g32 (x4 + 6)), s169))
theorem tb_511_1697 {X : gX} (ok : gOK X) (hX : gHX X) (d : Nat) (hSL : gSL X < 2147483648) {sc : Nat → Int} (hsc : ∀ i, i < gSL X → es_kn (gF X) (1, i) = some (eI (sc i)) ∧ gc32 (sc i)) {cs ss : Nat} (hcs : cs + 4 ≤ 601024) (hss : ss + 408 ≤ 7293034) {k23 : (Nat × Nat × Nat × Int × gS) ⊕ gO → Option gO} (hl23 : ∀ y : (Nat × Nat × Nat × Int × gS), Go X em_511 511 (d + 103) 23 [] [(0, (5, 0, 0)), (1, (27, 0, y.1)), (2, (28, 0, y.2.1)), (3, (125, 0, y.2.2.1)), (4, (0, y.2.2.2.1, 0))] [] y.2.2.2.2 (cs + 4) (ss + 408) (some (Sum.inl y)) k23) (hr23 : ∀ q, k23 (Sum.inr q) = some q) (x1 : Nat) (x2 : Nat) (x3 : Nat) (x4 : Int) (w0 : Int) (w1 : Int) (w2 : Nat) (s : gS) : Go X em_511 511 (d + 103) 1697 [] [(0, (5, 0, 0)), (1, (27, 0, x1)), (2, (28, 0, x2)), (3, (125, 0, x3)), (4, (0, x4, 0))] [(0, w0, 0), (0, w1, 0), (27, 0, w2)] s cs ss (fb_511_1697 (gSL X) sc x1 x2 x3 x4 w0 w1 w2 s) k23 := by
  delta fb_511_1697
  refine g_rb gs_511 99 (cd' := gb_511_1697) rfl rfl ?_
  refine g_aload_n ok rfl rfl ?_
  refine g_cs1 ok (me_308 hX) rfl (gcal_s rfl (show cs + 0 + 1 ≤ 601024 by omega) (show ss + 0 + 6 ≤ 7293034 by omega)) rfl (t_308 ok hX _ w2 w1 w0 x3 s) (fun v168 s167 => ?_)
  refine g_istore ok rfl (L' := [(0, (5, 0, 0)), (1, (27, 0, x1)), (2, (28, 0, x2)), (3, (125, 0, x3)), (4, (0, x4, 0)), (5, (0, v168, 0))]) rfl ?_
  refine g_aload_n ok rfl rfl ?_
  refine g_aload_n ok rfl rfl ?_
  refine g_iload ok rfl ?_
  refine g_iconst ok (v := 1) rfl ?_
  refine g_iadd ok ?_
  refine g_sld ok hSL hsc (fun _ _ => ?_)
  refine g_aload_n ok rfl rfl ?_
  refine g_iload ok rfl ?_
  refine g_iconst ok (v := 2) rfl ?_
  refine g_iadd ok ?_
  refine g_sld ok hSL hsc (fun _ _ => ?_)
  refine g_if_eq ok rfl (fun _ => ?_) (fun _ => ?_)
  · refine g_rb gs_511 101 (cd' := gb_511_1723) rfl rfl ?_
    refine g_iconst ok (v := 0) rfl ?_
    exact g_wk ok [(0, (5, 0, 0)), (1, (27, 0, x1)), (2, (28, 0, x2)), (3, (125, 0, x3)), (4, (0, x4, 0))] ⟨rfl, rfl, rfl, rfl, rfl, trivial⟩ (tb_511_1724 ok hX d hSL hsc hcs hss hl23 hr23 x1 x2 x3 x4 0 (sc ((g32 (x4 + 1)) : Int).toNat) x2 s167)
  · refine g_rb gs_511 100 (cd' := gb_511_1719) rfl rfl ?_
    refine g_iconst ok (v := 1) rfl ?_
    refine g_goto ok rfl ?_
    exact g_wk ok [(0, (5, 0, 0)), (1, (27, 0, x1)), (2, (28, 0, x2)), (3, (125, 0, x3)), (4, (0, x4, 0))] ⟨rfl, rfl, rfl, rfl, rfl, trivial⟩ (tb_511_1724 ok hX d hSL hsc hcs hss hl23 hr23 x1 x2 x3 x4 1 (sc ((g32 (x4 + 1)) : Int).toNat) x2 s167)
theorem ts_511_23 {X : gX} (ok : gOK X) (hX : gHX X) (d : Nat) (hSL : gSL X < 2147483648) {sc : Nat → Int} (hsc : ∀ i, i < gSL X → es_kn (gF X) (1, i) = some (eI (sc i)) ∧ gc32 (sc i)) {cs ss : Nat} (hcs : cs + 4 ≤ 601024) (hss : ss + 408 ≤ 7293034) {k23 : (Nat × Nat × Nat × Int × gS) ⊕ gO → Option gO} (hl23 : ∀ y : (Nat × Nat × Nat × Int × gS), Go X em_511 511 (d + 103) 23 [] [(0, (5, 0, 0)), (1, (27, 0, y.1)), (2, (28, 0, y.2.1)), (3, (125, 0, y.2.2.1)), (4, (0, y.2.2.2.1, 0))] [] y.2.2.2.2 (cs + 4) (ss + 408) (some (Sum.inl y)) k23) (hr23 : ∀ q, k23 (Sum.inr q) = some q) (x1 : Nat) (x2 : Nat) (x3 : Nat) (x4 : Int) (s : gS) : Go X em_511 511 (d + 103) 23 [] [(0, (5, 0, 0)), (1, (27, 0, x1)), (2, (28, 0, x2)), (3, (125, 0, x3)), (4, (0, x4, 0))] [] s cs ss (sb_511_23 (gSL X) sc x1 x2 x3 x4 s) k23 := by
  delta sb_511_23
  refine g_rb gs_511 1 (cd' := gb_511_23) rfl rfl ?_
  refine g_iload ok rfl ?_
  refine g_aload_n ok rfl rfl ?_
  refine g_slen ok hSL ?_
  refine g_bipush ok (v := 6) rfl ?_
  refine g_isub ok ?_
  refine g_ic_gt ok rfl (fun _ => ?_) (fun _ => ?_)
  · refine g_map hr23 ?_
    refine g_rb gs_511 110 (cd' := gb_511_1865) rfl rfl ?_
    refine g_iconst ok (v := 1) rfl ?_
    exact g_zreturn ok rfl (Or.inr rfl) (gcap_s (show cs + 0 ≤ 601024 by omega) (show ss + 0 ≤ 7293034 by omega)) (rfl)
  · refine g_rb gs_511 2 (cd' := gb_511_33) rfl rfl ?_
    refine g_aload_n ok rfl rfl ?_
    refine g_iload ok rfl ?_
    refine g_sld ok hSL hsc (fun _ _ => ?_)
    refine g_bipush ok (v := 63) rfl ?_
    refine g_iand ok ?_
    refine g_ite (fun hq => g_tswo ok (Or.inl hq) rfl ?_) (fun hq0 => ?_)
    · refine g_rb gs_511 109 (cd' := gb_511_1859) rfl rfl ?_
      refine g_iinc ok rfl rfl (L' := [(0, (5, 0, 0)), (1, (27, 0, x1)), (2, (28, 0, x2)), (3, (125, 0, x3)), (4, (0, (g32 (x4 + 6)), 0))]) rfl ?_
      refine g_goto ok rfl ?_
      refine g_wd ok (cs' := cs + 4) (ss' := ss + 408) (Nat.ble_eq.mpr (show cs + 0 ≤ cs + 4 by omega)) (Nat.ble_eq.mpr (show ss + 0 ≤ ss + 408 by omega)) ?_
      exact g_wk ok [(0, (5, 0, 0)), (1, (27, 0, x1)), (2, (28, 0, x2)), (3, (125, 0, x3)), (4, (0, (g32 (x4 + 6)), 0))] ⟨rfl, rfl, rfl, rfl, rfl, trivial⟩ (hl23 (x1, x2, x3, (g32 (x4 + 6)), s))
    refine g_ite (fun hq => g_tsw ok (c := 0) (by omega) rfl rfl ?_) (fun hq1 => ?_)
    · refine g_rb gs_511 3 (cd' := gb_511_244) rfl rfl ?_
      refine g_aload_n ok rfl rfl ?_
      refine g_aload_n ok rfl rfl ?_
      refine g_iload ok rfl ?_
      refine g_iconst ok (v := 1) rfl ?_
      refine g_iadd ok ?_
      refine g_sld ok hSL hsc (fun _ _ => ?_)
      refine g_aload_n ok rfl rfl ?_
      refine g_iload ok rfl ?_
      refine g_iconst ok (v := 2) rfl ?_
      refine g_iadd ok ?_
      refine g_sld ok hSL hsc (fun _ _ => ?_)
      refine g_aload_n ok rfl rfl ?_
      refine g_iload ok rfl ?_
      refine g_iconst ok (v := 3) rfl ?_
      refine g_iadd ok ?_
      refine g_sld ok hSL hsc (fun _ _ => ?_)
      refine g_aload_n ok rfl rfl ?_
      refine g_iload ok rfl ?_
      refine g_iconst ok (v := 4) rfl ?_
      refine g_iadd ok ?_
      refine g_sld ok hSL hsc (fun _ _ => ?_)
      refine g_aload_n ok rfl rfl ?_
      refine g_iload ok rfl ?_
      refine g_iconst ok (v := 5) rfl ?_
      refine g_iadd ok ?_
      refine g_sld ok hSL hsc (fun _ _ => ?_)
      refine g_cv1 ok (me_87 hX) rfl rfl (gcal_s rfl (show cs + 0 + 0 ≤ 601024 by omega) (show ss + 0 + 0 ≤ 7293034 by omega)) rfl (t_87 ok hX _ x1 (sc ((g32 (x4 + 1)) : Int).toNat) (sc ((g32 (x4 + 2)) : Int).toNat) (sc ((g32 (x4 + 3)) : Int).toNat) (sc ((g32 (x4 + 4)) : Int).toNat) (sc ((g32 (x4 + 5)) : Int).toNat) s) (fun v2 s1 => ?_)
      refine g_pop ok rfl ?_
      refine g_aload_n ok rfl rfl ?_
      refine g_aload_n ok rfl rfl ?_
      refine g_iload ok rfl ?_
      refine g_iconst ok (v := 1) rfl ?_
      refine g_iadd ok ?_
      refine g_sld ok hSL hsc (fun _ _ => ?_)
      refine g_aload_n ok rfl rfl ?_
      refine g_iload ok rfl ?_
      refine g_iconst ok (v := 2) rfl ?_
      refine g_iadd ok ?_
      refine g_sld ok hSL hsc (fun _ _ => ?_)
      refine g_aload_n ok rfl rfl ?_
      refine g_iload ok rfl ?_
      refine g_iconst ok (v := 3) rfl ?_
      refine g_iadd ok ?_
      refine g_sld ok hSL hsc (fun _ _ => ?_)
      refine g_aload_n ok rfl rfl ?_
      refine g_iload ok rfl ?_
      refine g_iconst ok (v := 4) rfl ?_
      refine g_iadd ok ?_
      refine g_sld ok hSL hsc (fun _ _ => ?_)
      refine g_aload_n ok rfl rfl ?_
      refine g_iload ok rfl ?_
      refine g_iconst ok (v := 5) rfl ?_
      refine g_iadd ok ?_
      refine g_sld ok hSL hsc (fun _ _ => ?_)
      refine g_cv1 ok (me_166 hX) rfl rfl (gcal_s rfl (show cs + 0 + 0 ≤ 601024 by omega) (show ss + 0 + 0 ≤ 7293034 by omega)) rfl (t_166 ok hX _ x2 (sc ((g32 (x4 + 1)) : Int).toNat) (sc ((g32 (x4 + 2)) : Int).toNat) (sc ((g32 (x4 + 3)) : Int).toNat) (sc ((g32 (x4 + 4)) : Int).toNat) (sc ((g32 (x4 + 5)) : Int).toNat) s1) (fun v4 s3 => ?_)
      refine g_pop ok rfl ?_
      refine g_goto ok rfl ?_
      refine g_rb gs_511 109 (cd' := gb_511_1859) rfl rfl ?_
      refine g_iinc ok rfl rfl (L' := [(0, (5, 0, 0)), (1, (27, 0, x1)), (2, (28, 0, x2)), (3, (125, 0, x3)), (4, (0, (g32 (x4 + 6)), 0))]) rfl ?_
      refine g_goto ok rfl ?_
      refine g_wd ok (cs' := cs + 4) (ss' := ss + 408) (Nat.ble_eq.mpr (show cs + 0 ≤ cs + 4 by omega)) (Nat.ble_eq.mpr (show ss + 0 ≤ ss + 408 by omega)) ?_
      exact g_wk ok [(0, (5, 0, 0)), (1, (27, 0, x1)), (2, (28, 0, x2)), (3, (125, 0, x3)), (4, (0, (g32 (x4 + 6)), 0))] ⟨rfl, rfl, rfl, rfl, rfl, trivial⟩ (hl23 (x1, x2, x3, (g32 (x4 + 6)), s3))
    refine g_ite (fun hq => g_tsw ok (c := 1) (by omega) rfl rfl ?_) (fun hq2 => ?_)
    · refine g_rb gs_511 4 (cd' := gb_511_317) rfl rfl ?_
      refine g_aload_n ok rfl rfl ?_
      refine g_aload_n ok rfl rfl ?_
      refine g_iload ok rfl ?_
      refine g_iconst ok (v := 1) rfl ?_
      refine g_iadd ok ?_
      refine g_sld ok hSL hsc (fun _ _ => ?_)
      refine g_cvz ok (me_88 hX) rfl rfl (gcal_s rfl (show cs + 0 + 0 ≤ 601024 by omega) (show ss + 0 + 0 ≤ 7293034 by omega)) rfl (t_88 ok hX _ x1 (sc ((g32 (x4 + 1)) : Int).toNat) s) (fun v6 s5 hb7 => ?_)
      refine g_pop ok rfl ?_
      refine g_aload_n ok rfl rfl ?_
      refine g_aload_n ok rfl rfl ?_
      refine g_iload ok rfl ?_
      refine g_iconst ok (v := 1) rfl ?_
      refine g_iadd ok ?_
      refine g_sld ok hSL hsc (fun _ _ => ?_)
      refine g_cvz ok (me_167 hX) rfl rfl (gcal_s rfl (show cs + 0 + 0 ≤ 601024 by omega) (show ss + 0 + 0 ≤ 7293034 by omega)) rfl (t_167 ok hX _ x2 (sc ((g32 (x4 + 1)) : Int).toNat) s5) (fun v9 s8 hb10 => ?_)
      refine g_pop ok rfl ?_
      refine g_goto ok rfl ?_
      refine g_rb gs_511 109 (cd' := gb_511_1859) rfl rfl ?_
      refine g_iinc ok rfl rfl (L' := [(0, (5, 0, 0)), (1, (27, 0, x1)), (2, (28, 0, x2)), (3, (125, 0, x3)), (4, (0, (g32 (x4 + 6)), 0))]) rfl ?_
      refine g_goto ok rfl ?_
      refine g_wd ok (cs' := cs + 4) (ss' := ss + 408) (Nat.ble_eq.mpr (show cs + 0 ≤ cs + 4 by omega)) (Nat.ble_eq.mpr (show ss + 0 ≤ ss + 408 by omega)) ?_
      exact g_wk ok [(0, (5, 0, 0)), (1, (27, 0, x1)), (2, (28, 0, x2)), (3, (125, 0, x3)), (4, (0, (g32 (x4 + 6)), 0))] ⟨rfl, rfl, rfl, rfl, rfl, trivial⟩ (hl23 (x1, x2, x3, (g32 (x4 + 6)), s8))
    refine g_ite (fun hq => g_tsw ok (c := 2) (by omega) rfl rfl ?_) (fun hq3 => ?_)
    · refine g_rb gs_511 5 (cd' := gb_511_342) rfl rfl ?_
      refine g_aload_n ok rfl rfl ?_
      refine g_aload_n ok rfl rfl ?_
      refine g_cs1 ok (me_276 hX) rfl (gcal_s rfl (show cs + 0 + 1 ≤ 601024 by omega) (show ss + 0 + 6 ≤ 7293034 by omega)) rfl (t_276 ok hX _ x1 x3 s) (fun v12 s11 => ?_)
      refine g_istore ok rfl (L' := [(0, (5, 0, 0)), (1, (27, 0, x1)), (2, (28, 0, x2)), (3, (125, 0, x3)), (4, (0, x4, 0)), (5, (0, v12, 0))]) rfl ?_
      refine g_aload_n ok rfl rfl ?_
      refine g_cv1 ok (me_187 hX) rfl rfl (gcal_s rfl (show cs + 1 + 0 ≤ 601024 by omega) (show ss + 6 + 0 ≤ 7293034 by omega)) rfl (t_187 ok hX _ x2 s11) (fun v14 s13 => ?_)
      refine g_istore ok rfl (L' := [(0, (5, 0, 0)), (1, (27, 0, x1)), (2, (28, 0, x2)), (3, (125, 0, x3)), (4, (0, x4, 0)), (5, (0, v12, 0)), (6, (0, v14, 0))]) rfl ?_
      refine g_goto ok rfl ?_
      refine g_rb gs_511 109 (cd' := gb_511_1859) rfl rfl ?_
      refine g_iinc ok rfl rfl (L' := [(0, (5, 0, 0)), (1, (27, 0, x1)), (2, (28, 0, x2)), (3, (125, 0, x3)), (4, (0, (g32 (x4 + 6)), 0)), (5, (0, v12, 0)), (6, (0, v14, 0))]) rfl ?_
      refine g_goto ok rfl ?_
      refine g_wd ok (cs' := cs + 4) (ss' := ss + 408) (Nat.ble_eq.mpr (show cs + 1 ≤ cs + 4 by omega)) (Nat.ble_eq.mpr (show ss + 6 ≤ ss + 408 by omega)) ?_
      exact g_wk ok [(0, (5, 0, 0)), (1, (27, 0, x1)), (2, (28, 0, x2)), (3, (125, 0, x3)), (4, (0, (g32 (x4 + 6)), 0))] ⟨rfl, rfl, rfl, rfl, rfl, trivial⟩ (hl23 (x1, x2, x3, (g32 (x4 + 6)), s13))
    refine g_ite (fun hq => g_tsw ok (c := 3) (by omega) rfl rfl ?_) (fun hq4 => ?_)
    · refine g_rb gs_511 6 (cd' := gb_511_358) rfl rfl ?_
      refine g_aload_n ok rfl rfl ?_
      refine g_aload_n ok rfl rfl ?_
      refine g_cs1 ok (me_277 hX) rfl (gcal_s rfl (show cs + 0 + 3 ≤ 601024 by omega) (show ss + 0 + 408 ≤ 7293034 by omega)) rfl (t_277 ok hX _ x1 x3 s) (fun v16 s15 => ?_)
      refine g_istore ok rfl (L' := [(0, (5, 0, 0)), (1, (27, 0, x1)), (2, (28, 0, x2)), (3, (125, 0, x3)), (4, (0, x4, 0)), (5, (0, v16, 0))]) rfl ?_
      refine g_aload_n ok rfl rfl ?_
      refine g_cv1 ok (me_195 hX) rfl rfl (gcal_s rfl (show cs + 3 + 0 ≤ 601024 by omega) (show ss + 408 + 0 ≤ 7293034 by omega)) rfl (t_195 ok hX _ x2 s15) (fun v18 s17 => ?_)
      refine g_istore ok rfl (L' := [(0, (5, 0, 0)), (1, (27, 0, x1)), (2, (28, 0, x2)), (3, (125, 0, x3)), (4, (0, x4, 0)), (5, (0, v16, 0)), (6, (0, v18, 0))]) rfl ?_
      refine g_goto ok rfl ?_
      refine g_rb gs_511 109 (cd' := gb_511_1859) rfl rfl ?_
      refine g_iinc ok rfl rfl (L' := [(0, (5, 0, 0)), (1, (27, 0, x1)), (2, (28, 0, x2)), (3, (125, 0, x3)), (4, (0, (g32 (x4 + 6)), 0)), (5, (0, v16, 0)), (6, (0, v18, 0))]) rfl ?_
      refine g_goto ok rfl ?_
      refine g_wd ok (cs' := cs + 4) (ss' := ss + 408) (Nat.ble_eq.mpr (show cs + 3 ≤ cs + 4 by omega)) (Nat.ble_eq.mpr (show ss + 408 ≤ ss + 408 by omega)) ?_
      exact g_wk ok [(0, (5, 0, 0)), (1, (27, 0, x1)), (2, (28, 0, x2)), (3, (125, 0, x3)), (4, (0, (g32 (x4 + 6)), 0))] ⟨rfl, rfl, rfl, rfl, rfl, trivial⟩ (hl23 (x1, x2, x3, (g32 (x4 + 6)), s17))
    refine g_ite (fun hq => g_tsw ok (c := 4) (by omega) rfl rfl ?_) (fun hq5 => ?_)
    · refine g_rb gs_511 7 (cd' := gb_511_374) rfl rfl ?_
      refine g_aload_n ok rfl rfl ?_
      refine g_cv1 ok (me_91 hX) rfl rfl (gcal_s rfl (show cs + 0 + 0 ≤ 601024 by omega) (show ss + 0 + 0 ≤ 7293034 by omega)) rfl (t_91 ok hX _ x1 s) (fun v20 s19 => ?_)
      refine g_pop ok rfl ?_
      refine g_aload_n ok rfl rfl ?_
      refine g_cv1 ok (me_196 hX) rfl rfl (gcal_s rfl (show cs + 0 + 0 ≤ 601024 by omega) (show ss + 0 + 0 ≤ 7293034 by omega)) rfl (t_196 ok hX _ x2 s19) (fun v22 s21 => ?_)
      refine g_pop ok rfl ?_
      refine g_goto ok rfl ?_
      refine g_rb gs_511 109 (cd' := gb_511_1859) rfl rfl ?_
      refine g_iinc ok rfl rfl (L' := [(0, (5, 0, 0)), (1, (27, 0, x1)), (2, (28, 0, x2)), (3, (125, 0, x3)), (4, (0, (g32 (x4 + 6)), 0))]) rfl ?_
      refine g_goto ok rfl ?_
      refine g_wd ok (cs' := cs + 4) (ss' := ss + 408) (Nat.ble_eq.mpr (show cs + 0 ≤ cs + 4 by omega)) (Nat.ble_eq.mpr (show ss + 0 ≤ ss + 408 by omega)) ?_
      exact g_wk ok [(0, (5, 0, 0)), (1, (27, 0, x1)), (2, (28, 0, x2)), (3, (125, 0, x3)), (4, (0, (g32 (x4 + 6)), 0))] ⟨rfl, rfl, rfl, rfl, rfl, trivial⟩ (hl23 (x1, x2, x3, (g32 (x4 + 6)), s21))
    refine g_ite (fun hq => g_tsw ok (c := 5) (by omega) rfl rfl ?_) (fun hq6 => ?_)
    · refine g_rb gs_511 8 (cd' := gb_511_387) rfl rfl ?_
      refine g_aload_n ok rfl rfl ?_
      refine g_aload_n ok rfl rfl ?_
      refine g_iload ok rfl ?_
      refine g_iconst ok (v := 1) rfl ?_
      refine g_iadd ok ?_
      refine g_sld ok hSL hsc (fun _ _ => ?_)
      refine g_aload_n ok rfl rfl ?_
      refine g_iload ok rfl ?_
      refine g_iconst ok (v := 2) rfl ?_
      refine g_iadd ok ?_
      refine g_sld ok hSL hsc (fun _ _ => ?_)
      refine g_aload_n ok rfl rfl ?_
      refine g_cs1 ok (me_278 hX) rfl (gcal_s rfl (show cs + 0 + 2 ≤ 601024 by omega) (show ss + 0 + 12 ≤ 7293034 by omega)) rfl (t_278 ok hX _ x1 (sc ((g32 (x4 + 1)) : Int).toNat) (sc ((g32 (x4 + 2)) : Int).toNat) x3 s) (fun v24 s23 => ?_)
      refine g_istore ok rfl (L' := [(0, (5, 0, 0)), (1, (27, 0, x1)), (2, (28, 0, x2)), (3, (125, 0, x3)), (4, (0, x4, 0)), (5, (0, v24, 0))]) rfl ?_
      refine g_aload_n ok rfl rfl ?_
      refine g_aload_n ok rfl rfl ?_
      refine g_iload ok rfl ?_
      refine g_iconst ok (v := 1) rfl ?_
      refine g_iadd ok ?_
      refine g_sld ok hSL hsc (fun _ _ => ?_)
      refine g_aload_n ok rfl rfl ?_
      refine g_iload ok rfl ?_
      refine g_iconst ok (v := 2) rfl ?_
      refine g_iadd ok ?_
      refine g_sld ok hSL hsc (fun _ _ => ?_)
      refine g_cv1 ok (me_203 hX) rfl rfl (gcal_s rfl (show cs + 2 + 0 ≤ 601024 by omega) (show ss + 12 + 0 ≤ 7293034 by omega)) rfl (t_203 ok hX _ x2 (sc ((g32 (x4 + 1)) : Int).toNat) (sc ((g32 (x4 + 2)) : Int).toNat) s23) (fun v26 s25 => ?_)
      refine g_istore ok rfl (L' := [(0, (5, 0, 0)), (1, (27, 0, x1)), (2, (28, 0, x2)), (3, (125, 0, x3)), (4, (0, x4, 0)), (5, (0, v24, 0)), (6, (0, v26, 0))]) rfl ?_
      refine g_goto ok rfl ?_
      refine g_rb gs_511 109 (cd' := gb_511_1859) rfl rfl ?_
      refine g_iinc ok rfl rfl (L' := [(0, (5, 0, 0)), (1, (27, 0, x1)), (2, (28, 0, x2)), (3, (125, 0, x3)), (4, (0, (g32 (x4 + 6)), 0)), (5, (0, v24, 0)), (6, (0, v26, 0))]) rfl ?_
      refine g_goto ok rfl ?_
      refine g_wd ok (cs' := cs + 4) (ss' := ss + 408) (Nat.ble_eq.mpr (show cs + 2 ≤ cs + 4 by omega)) (Nat.ble_eq.mpr (show ss + 12 ≤ ss + 408 by omega)) ?_
      exact g_wk ok [(0, (5, 0, 0)), (1, (27, 0, x1)), (2, (28, 0, x2)), (3, (125, 0, x3)), (4, (0, (g32 (x4 + 6)), 0))] ⟨rfl, rfl, rfl, rfl, rfl, trivial⟩ (hl23 (x1, x2, x3, (g32 (x4 + 6)), s25))
    refine g_ite (fun hq => g_tsw ok (c := 6) (by omega) rfl rfl ?_) (fun hq7 => ?_)
    · refine g_rb gs_511 9 (cd' := gb_511_427) rfl rfl ?_
      refine g_aload_n ok rfl rfl ?_
      refine g_aload_n ok rfl rfl ?_
      refine g_iload ok rfl ?_
      refine g_iconst ok (v := 1) rfl ?_
      refine g_iadd ok ?_
      refine g_sld ok hSL hsc (fun _ _ => ?_)
      refine g_aload_n ok rfl rfl ?_
      refine g_iload ok rfl ?_
      refine g_iconst ok (v := 2) rfl ?_
      refine g_iadd ok ?_
      refine g_sld ok hSL hsc (fun _ _ => ?_)
      refine g_aload_n ok rfl rfl ?_
      refine g_cs1 ok (me_279 hX) rfl (gcal_s rfl (show cs + 0 + 2 ≤ 601024 by omega) (show ss + 0 + 12 ≤ 7293034 by omega)) rfl (t_279 ok hX _ x1 (sc ((g32 (x4 + 1)) : Int).toNat) (sc ((g32 (x4 + 2)) : Int).toNat) x3 s) (fun v28 s27 => ?_)
      refine g_istore ok rfl (L' := [(0, (5, 0, 0)), (1, (27, 0, x1)), (2, (28, 0, x2)), (3, (125, 0, x3)), (4, (0, x4, 0)), (5, (0, v28, 0))]) rfl ?_
      refine g_aload_n ok rfl rfl ?_
      refine g_aload_n ok rfl rfl ?_
      refine g_iload ok rfl ?_
      refine g_iconst ok (v := 1) rfl ?_
      refine g_iadd ok ?_
      refine g_sld ok hSL hsc (fun _ _ => ?_)
      refine g_aload_n ok rfl rfl ?_
      refine g_iload ok rfl ?_
      refine g_iconst ok (v := 2) rfl ?_
      refine g_iadd ok ?_
      refine g_sld ok hSL hsc (fun _ _ => ?_)
      refine g_cv1 ok (me_206 hX) rfl rfl (gcal_s rfl (show cs + 2 + 0 ≤ 601024 by omega) (show ss + 12 + 0 ≤ 7293034 by omega)) rfl (t_206 ok hX _ x2 (sc ((g32 (x4 + 1)) : Int).toNat) (sc ((g32 (x4 + 2)) : Int).toNat) s27) (fun v30 s29 => ?_)
      refine g_istore ok rfl (L' := [(0, (5, 0, 0)), (1, (27, 0, x1)), (2, (28, 0, x2)), (3, (125, 0, x3)), (4, (0, x4, 0)), (5, (0, v28, 0)), (6, (0, v30, 0))]) rfl ?_
      refine g_goto ok rfl ?_
      refine g_rb gs_511 109 (cd' := gb_511_1859) rfl rfl ?_
      refine g_iinc ok rfl rfl (L' := [(0, (5, 0, 0)), (1, (27, 0, x1)), (2, (28, 0, x2)), (3, (125, 0, x3)), (4, (0, (g32 (x4 + 6)), 0)), (5, (0, v28, 0)), (6, (0, v30, 0))]) rfl ?_
      refine g_goto ok rfl ?_
      refine g_wd ok (cs' := cs + 4) (ss' := ss + 408) (Nat.ble_eq.mpr (show cs + 2 ≤ cs + 4 by omega)) (Nat.ble_eq.mpr (show ss + 12 ≤ ss + 408 by omega)) ?_
      exact g_wk ok [(0, (5, 0, 0)), (1, (27, 0, x1)), (2, (28, 0, x2)), (3, (125, 0, x3)), (4, (0, (g32 (x4 + 6)), 0))] ⟨rfl, rfl, rfl, rfl, rfl, trivial⟩ (hl23 (x1, x2, x3, (g32 (x4 + 6)), s29))
    refine g_ite (fun hq => g_tsw ok (c := 7) (by omega) rfl rfl ?_) (fun hq8 => ?_)
    · refine g_rb gs_511 10 (cd' := gb_511_467) rfl rfl ?_
      refine g_aload_n ok rfl rfl ?_
      refine g_aload_n ok rfl rfl ?_
      refine g_iload ok rfl ?_
      refine g_iconst ok (v := 1) rfl ?_
      refine g_iadd ok ?_
      refine g_sld ok hSL hsc (fun _ _ => ?_)
      refine g_aload_n ok rfl rfl ?_
      refine g_iload ok rfl ?_
      refine g_iconst ok (v := 2) rfl ?_
      refine g_iadd ok ?_
      refine g_sld ok hSL hsc (fun _ _ => ?_)
      refine g_if_eq ok rfl (fun _ => ?_) (fun _ => ?_)
      · refine g_rb gs_511 12 (cd' := gb_511_487) rfl rfl ?_
        refine g_iconst ok (v := 0) rfl ?_
        exact g_wk ok [(0, (5, 0, 0)), (1, (27, 0, x1)), (2, (28, 0, x2)), (3, (125, 0, x3)), (4, (0, x4, 0))] ⟨rfl, rfl, rfl, rfl, rfl, trivial⟩ (tb_511_488 ok hX d hSL hsc hcs hss hl23 hr23 x1 x2 x3 x4 0 (sc ((g32 (x4 + 1)) : Int).toNat) x1 s)
      · refine g_rb gs_511 11 (cd' := gb_511_483) rfl rfl ?_
        refine g_iconst ok (v := 1) rfl ?_
        refine g_goto ok rfl ?_
        exact g_wk ok [(0, (5, 0, 0)), (1, (27, 0, x1)), (2, (28, 0, x2)), (3, (125, 0, x3)), (4, (0, x4, 0))] ⟨rfl, rfl, rfl, rfl, rfl, trivial⟩ (tb_511_488 ok hX d hSL hsc hcs hss hl23 hr23 x1 x2 x3 x4 1 (sc ((g32 (x4 + 1)) : Int).toNat) x1 s)
    refine g_ite (fun hq => g_tsw ok (c := 8) (by omega) rfl rfl ?_) (fun hq9 => ?_)
    · refine g_rb gs_511 17 (cd' := gb_511_523) rfl rfl ?_
      refine g_aload_n ok rfl rfl ?_
      refine g_aload_n ok rfl rfl ?_
      refine g_iload ok rfl ?_
      refine g_iconst ok (v := 1) rfl ?_
      refine g_iadd ok ?_
      refine g_sld ok hSL hsc (fun _ _ => ?_)
      refine g_aload_n ok rfl rfl ?_
      refine g_iload ok rfl ?_
      refine g_iconst ok (v := 2) rfl ?_
      refine g_iadd ok ?_
      refine g_sld ok hSL hsc (fun _ _ => ?_)
      refine g_if_eq ok rfl (fun _ => ?_) (fun _ => ?_)
      · refine g_rb gs_511 19 (cd' := gb_511_543) rfl rfl ?_
        refine g_iconst ok (v := 0) rfl ?_
        exact g_wk ok [(0, (5, 0, 0)), (1, (27, 0, x1)), (2, (28, 0, x2)), (3, (125, 0, x3)), (4, (0, x4, 0))] ⟨rfl, rfl, rfl, rfl, rfl, trivial⟩ (tb_511_544 ok hX d hSL hsc hcs hss hl23 hr23 x1 x2 x3 x4 0 (sc ((g32 (x4 + 1)) : Int).toNat) x1 s)
      · refine g_rb gs_511 18 (cd' := gb_511_539) rfl rfl ?_
        refine g_iconst ok (v := 1) rfl ?_
        refine g_goto ok rfl ?_
        exact g_wk ok [(0, (5, 0, 0)), (1, (27, 0, x1)), (2, (28, 0, x2)), (3, (125, 0, x3)), (4, (0, x4, 0))] ⟨rfl, rfl, rfl, rfl, rfl, trivial⟩ (tb_511_544 ok hX d hSL hsc hcs hss hl23 hr23 x1 x2 x3 x4 1 (sc ((g32 (x4 + 1)) : Int).toNat) x1 s)
    refine g_ite (fun hq => g_tsw ok (c := 9) (by omega) rfl rfl ?_) (fun hq10 => ?_)
    · refine g_rb gs_511 24 (cd' := gb_511_579) rfl rfl ?_
      refine g_aload_n ok rfl rfl ?_
      refine g_aload_n ok rfl rfl ?_
      refine g_iload ok rfl ?_
      refine g_iconst ok (v := 1) rfl ?_
      refine g_iadd ok ?_
      refine g_sld ok hSL hsc (fun _ _ => ?_)
      refine g_aload_n ok rfl rfl ?_
      refine g_cs1 ok (me_282 hX) rfl (gcal_s rfl (show cs + 0 + 3 ≤ 601024 by omega) (show ss + 0 + 18 ≤ 7293034 by omega)) rfl (t_282 ok hX _ x1 (sc ((g32 (x4 + 1)) : Int).toNat) x3 s) (fun v40 s39 => ?_)
      refine g_istore ok rfl (L' := [(0, (5, 0, 0)), (1, (27, 0, x1)), (2, (28, 0, x2)), (3, (125, 0, x3)), (4, (0, x4, 0)), (5, (0, v40, 0))]) rfl ?_
      refine g_aload_n ok rfl rfl ?_
      refine g_aload_n ok rfl rfl ?_
      refine g_iload ok rfl ?_
      refine g_iconst ok (v := 1) rfl ?_
      refine g_iadd ok ?_
      refine g_sld ok hSL hsc (fun _ _ => ?_)
      refine g_cv1 ok (me_211 hX) rfl rfl (gcal_s rfl (show cs + 3 + 0 ≤ 601024 by omega) (show ss + 18 + 0 ≤ 7293034 by omega)) rfl (t_211 ok hX _ x2 (sc ((g32 (x4 + 1)) : Int).toNat) s39) (fun v42 s41 => ?_)
      refine g_istore ok rfl (L' := [(0, (5, 0, 0)), (1, (27, 0, x1)), (2, (28, 0, x2)), (3, (125, 0, x3)), (4, (0, x4, 0)), (5, (0, v40, 0)), (6, (0, v42, 0))]) rfl ?_
      refine g_goto ok rfl ?_
      refine g_rb gs_511 109 (cd' := gb_511_1859) rfl rfl ?_
      refine g_iinc ok rfl rfl (L' := [(0, (5, 0, 0)), (1, (27, 0, x1)), (2, (28, 0, x2)), (3, (125, 0, x3)), (4, (0, (g32 (x4 + 6)), 0)), (5, (0, v40, 0)), (6, (0, v42, 0))]) rfl ?_
      refine g_goto ok rfl ?_
      refine g_wd ok (cs' := cs + 4) (ss' := ss + 408) (Nat.ble_eq.mpr (show cs + 3 ≤ cs + 4 by omega)) (Nat.ble_eq.mpr (show ss + 18 ≤ ss + 408 by omega)) ?_
      exact g_wk ok [(0, (5, 0, 0)), (1, (27, 0, x1)), (2, (28, 0, x2)), (3, (125, 0, x3)), (4, (0, (g32 (x4 + 6)), 0))] ⟨rfl, rfl, rfl, rfl, rfl, trivial⟩ (hl23 (x1, x2, x3, (g32 (x4 + 6)), s41))
    refine g_ite (fun hq => g_tsw ok (c := 10) (by omega) rfl rfl ?_) (fun hq11 => ?_)
    · refine g_rb gs_511 25 (cd' := gb_511_607) rfl rfl ?_
      refine g_aload_n ok rfl rfl ?_
      refine g_aload_n ok rfl rfl ?_
      refine g_iload ok rfl ?_
      refine g_iconst ok (v := 1) rfl ?_
      refine g_iadd ok ?_
      refine g_sld ok hSL hsc (fun _ _ => ?_)
      refine g_aload_n ok rfl rfl ?_
      refine g_iload ok rfl ?_
      refine g_iconst ok (v := 2) rfl ?_
      refine g_iadd ok ?_
      refine g_sld ok hSL hsc (fun _ _ => ?_)
      refine g_aload_n ok rfl rfl ?_
      refine g_cs1 ok (me_283 hX) rfl (gcal_s rfl (show cs + 0 + 3 ≤ 601024 by omega) (show ss + 0 + 18 ≤ 7293034 by omega)) rfl (t_283 ok hX _ x1 (sc ((g32 (x4 + 1)) : Int).toNat) (sc ((g32 (x4 + 2)) : Int).toNat) x3 s) (fun v44 s43 => ?_)
      refine g_istore ok rfl (L' := [(0, (5, 0, 0)), (1, (27, 0, x1)), (2, (28, 0, x2)), (3, (125, 0, x3)), (4, (0, x4, 0)), (5, (0, v44, 0))]) rfl ?_
      refine g_aload_n ok rfl rfl ?_
      refine g_aload_n ok rfl rfl ?_
      refine g_iload ok rfl ?_
      refine g_iconst ok (v := 1) rfl ?_
      refine g_iadd ok ?_
      refine g_sld ok hSL hsc (fun _ _ => ?_)
      refine g_aload_n ok rfl rfl ?_
      refine g_iload ok rfl ?_
      refine g_iconst ok (v := 2) rfl ?_
      refine g_iadd ok ?_
      refine g_sld ok hSL hsc (fun _ _ => ?_)
      refine g_cvz ok (me_213 hX) rfl rfl (gcal_s rfl (show cs + 3 + 0 ≤ 601024 by omega) (show ss + 18 + 0 ≤ 7293034 by omega)) rfl (t_213 ok hX _ x2 (sc ((g32 (x4 + 1)) : Int).toNat) (sc ((g32 (x4 + 2)) : Int).toNat) s43) (fun v46 s45 hb47 => ?_)
      refine g_istore ok rfl (L' := [(0, (5, 0, 0)), (1, (27, 0, x1)), (2, (28, 0, x2)), (3, (125, 0, x3)), (4, (0, x4, 0)), (5, (0, v44, 0)), (6, (0, v46, 0))]) rfl ?_
      refine g_goto ok rfl ?_
      refine g_rb gs_511 109 (cd' := gb_511_1859) rfl rfl ?_
      refine g_iinc ok rfl rfl (L' := [(0, (5, 0, 0)), (1, (27, 0, x1)), (2, (28, 0, x2)), (3, (125, 0, x3)), (4, (0, (g32 (x4 + 6)), 0)), (5, (0, v44, 0)), (6, (0, v46, 0))]) rfl ?_
      refine g_goto ok rfl ?_
      refine g_wd ok (cs' := cs + 4) (ss' := ss + 408) (Nat.ble_eq.mpr (show cs + 3 ≤ cs + 4 by omega)) (Nat.ble_eq.mpr (show ss + 18 ≤ ss + 408 by omega)) ?_
      exact g_wk ok [(0, (5, 0, 0)), (1, (27, 0, x1)), (2, (28, 0, x2)), (3, (125, 0, x3)), (4, (0, (g32 (x4 + 6)), 0))] ⟨rfl, rfl, rfl, rfl, rfl, trivial⟩ (hl23 (x1, x2, x3, (g32 (x4 + 6)), s45))
    refine g_ite (fun hq => g_tsw ok (c := 11) (by omega) rfl rfl ?_) (fun hq12 => ?_)
    · refine g_rb gs_511 26 (cd' := gb_511_647) rfl rfl ?_
      refine g_aload_n ok rfl rfl ?_
      refine g_aload_n ok rfl rfl ?_
      refine g_iload ok rfl ?_
      refine g_iconst ok (v := 1) rfl ?_
      refine g_iadd ok ?_
      refine g_sld ok hSL hsc (fun _ _ => ?_)
      refine g_aload_n ok rfl rfl ?_
      refine g_cs1 ok (me_284 hX) rfl (gcal_s rfl (show cs + 0 + 3 ≤ 601024 by omega) (show ss + 0 + 18 ≤ 7293034 by omega)) rfl (t_284 ok hX _ x1 (sc ((g32 (x4 + 1)) : Int).toNat) x3 s) (fun v49 s48 => ?_)
      refine g_istore ok rfl (L' := [(0, (5, 0, 0)), (1, (27, 0, x1)), (2, (28, 0, x2)), (3, (125, 0, x3)), (4, (0, x4, 0)), (5, (0, v49, 0))]) rfl ?_
      refine g_aload_n ok rfl rfl ?_
      refine g_aload_n ok rfl rfl ?_
      refine g_iload ok rfl ?_
      refine g_iconst ok (v := 1) rfl ?_
      refine g_iadd ok ?_
      refine g_sld ok hSL hsc (fun _ _ => ?_)
      refine g_cv1 ok (me_214 hX) rfl rfl (gcal_s rfl (show cs + 3 + 0 ≤ 601024 by omega) (show ss + 18 + 0 ≤ 7293034 by omega)) rfl (t_214 ok hX _ x2 (sc ((g32 (x4 + 1)) : Int).toNat) s48) (fun v51 s50 => ?_)
      refine g_istore ok rfl (L' := [(0, (5, 0, 0)), (1, (27, 0, x1)), (2, (28, 0, x2)), (3, (125, 0, x3)), (4, (0, x4, 0)), (5, (0, v49, 0)), (6, (0, v51, 0))]) rfl ?_
      refine g_goto ok rfl ?_
      refine g_rb gs_511 109 (cd' := gb_511_1859) rfl rfl ?_
      refine g_iinc ok rfl rfl (L' := [(0, (5, 0, 0)), (1, (27, 0, x1)), (2, (28, 0, x2)), (3, (125, 0, x3)), (4, (0, (g32 (x4 + 6)), 0)), (5, (0, v49, 0)), (6, (0, v51, 0))]) rfl ?_
      refine g_goto ok rfl ?_
      refine g_wd ok (cs' := cs + 4) (ss' := ss + 408) (Nat.ble_eq.mpr (show cs + 3 ≤ cs + 4 by omega)) (Nat.ble_eq.mpr (show ss + 18 ≤ ss + 408 by omega)) ?_
      exact g_wk ok [(0, (5, 0, 0)), (1, (27, 0, x1)), (2, (28, 0, x2)), (3, (125, 0, x3)), (4, (0, (g32 (x4 + 6)), 0))] ⟨rfl, rfl, rfl, rfl, rfl, trivial⟩ (hl23 (x1, x2, x3, (g32 (x4 + 6)), s50))
    refine g_ite (fun hq => g_tsw ok (c := 12) (by omega) rfl rfl ?_) (fun hq13 => ?_)
    · refine g_rb gs_511 27 (cd' := gb_511_675) rfl rfl ?_
      refine g_aload_n ok rfl rfl ?_
      refine g_aload_n ok rfl rfl ?_
      refine g_iload ok rfl ?_
      refine g_iconst ok (v := 1) rfl ?_
      refine g_iadd ok ?_
      refine g_sld ok hSL hsc (fun _ _ => ?_)
      refine g_aload_n ok rfl rfl ?_
      refine g_iload ok rfl ?_
      refine g_iconst ok (v := 2) rfl ?_
      refine g_iadd ok ?_
      refine g_sld ok hSL hsc (fun _ _ => ?_)
      refine g_aload_n ok rfl rfl ?_
      refine g_iload ok rfl ?_
      refine g_iconst ok (v := 3) rfl ?_
      refine g_iadd ok ?_
      refine g_sld ok hSL hsc (fun _ _ => ?_)
      refine g_aload_n ok rfl rfl ?_
      refine g_cs1 ok (me_285 hX) rfl (gcal_s rfl (show cs + 0 + 4 ≤ 601024 by omega) (show ss + 0 + 24 ≤ 7293034 by omega)) rfl (t_285 ok hX _ x1 (sc ((g32 (x4 + 1)) : Int).toNat) (sc ((g32 (x4 + 2)) : Int).toNat) (sc ((g32 (x4 + 3)) : Int).toNat) x3 s) (fun v53 s52 => ?_)
      refine g_istore ok rfl (L' := [(0, (5, 0, 0)), (1, (27, 0, x1)), (2, (28, 0, x2)), (3, (125, 0, x3)), (4, (0, x4, 0)), (5, (0, v53, 0))]) rfl ?_
      refine g_aload_n ok rfl rfl ?_
      refine g_aload_n ok rfl rfl ?_
      refine g_iload ok rfl ?_
      refine g_iconst ok (v := 1) rfl ?_
      refine g_iadd ok ?_
      refine g_sld ok hSL hsc (fun _ _ => ?_)
      refine g_aload_n ok rfl rfl ?_
      refine g_iload ok rfl ?_
      refine g_iconst ok (v := 2) rfl ?_
      refine g_iadd ok ?_
      refine g_sld ok hSL hsc (fun _ _ => ?_)
      refine g_aload_n ok rfl rfl ?_
      refine g_iload ok rfl ?_
      refine g_iconst ok (v := 3) rfl ?_
      refine g_iadd ok ?_
      refine g_sld ok hSL hsc (fun _ _ => ?_)
      refine g_cv1 ok (me_215 hX) rfl rfl (gcal_s rfl (show cs + 4 + 0 ≤ 601024 by omega) (show ss + 24 + 0 ≤ 7293034 by omega)) rfl (t_215 ok hX _ x2 (sc ((g32 (x4 + 1)) : Int).toNat) (sc ((g32 (x4 + 2)) : Int).toNat) (sc ((g32 (x4 + 3)) : Int).toNat) s52) (fun v55 s54 => ?_)
      refine g_istore ok rfl (L' := [(0, (5, 0, 0)), (1, (27, 0, x1)), (2, (28, 0, x2)), (3, (125, 0, x3)), (4, (0, x4, 0)), (5, (0, v53, 0)), (6, (0, v55, 0))]) rfl ?_
      refine g_goto ok rfl ?_
      refine g_rb gs_511 109 (cd' := gb_511_1859) rfl rfl ?_
      refine g_iinc ok rfl rfl (L' := [(0, (5, 0, 0)), (1, (27, 0, x1)), (2, (28, 0, x2)), (3, (125, 0, x3)), (4, (0, (g32 (x4 + 6)), 0)), (5, (0, v53, 0)), (6, (0, v55, 0))]) rfl ?_
      refine g_goto ok rfl ?_
      refine g_wd ok (cs' := cs + 4) (ss' := ss + 408) (Nat.ble_eq.mpr (show cs + 4 ≤ cs + 4 by omega)) (Nat.ble_eq.mpr (show ss + 24 ≤ ss + 408 by omega)) ?_
      exact g_wk ok [(0, (5, 0, 0)), (1, (27, 0, x1)), (2, (28, 0, x2)), (3, (125, 0, x3)), (4, (0, (g32 (x4 + 6)), 0))] ⟨rfl, rfl, rfl, rfl, rfl, trivial⟩ (hl23 (x1, x2, x3, (g32 (x4 + 6)), s54))
    refine g_ite (fun hq => g_tsw ok (c := 13) (by omega) rfl rfl ?_) (fun hq14 => ?_)
    · refine g_rb gs_511 28 (cd' := gb_511_727) rfl rfl ?_
      refine g_aload_n ok rfl rfl ?_
      refine g_aload_n ok rfl rfl ?_
      refine g_iload ok rfl ?_
      refine g_iconst ok (v := 1) rfl ?_
      refine g_iadd ok ?_
      refine g_sld ok hSL hsc (fun _ _ => ?_)
      refine g_aload_n ok rfl rfl ?_
      refine g_iload ok rfl ?_
      refine g_iconst ok (v := 2) rfl ?_
      refine g_iadd ok ?_
      refine g_sld ok hSL hsc (fun _ _ => ?_)
      refine g_aload_n ok rfl rfl ?_
      refine g_cs1 ok (me_286 hX) rfl (gcal_s rfl (show cs + 0 + 3 ≤ 601024 by omega) (show ss + 0 + 18 ≤ 7293034 by omega)) rfl (t_286 ok hX _ x1 (sc ((g32 (x4 + 1)) : Int).toNat) (sc ((g32 (x4 + 2)) : Int).toNat) x3 s) (fun v57 s56 => ?_)
      refine g_istore ok rfl (L' := [(0, (5, 0, 0)), (1, (27, 0, x1)), (2, (28, 0, x2)), (3, (125, 0, x3)), (4, (0, x4, 0)), (5, (0, v57, 0))]) rfl ?_
      refine g_aload_n ok rfl rfl ?_
      refine g_aload_n ok rfl rfl ?_
      refine g_iload ok rfl ?_
      refine g_iconst ok (v := 1) rfl ?_
      refine g_iadd ok ?_
      refine g_sld ok hSL hsc (fun _ _ => ?_)
      refine g_aload_n ok rfl rfl ?_
      refine g_iload ok rfl ?_
      refine g_iconst ok (v := 2) rfl ?_
      refine g_iadd ok ?_
      refine g_sld ok hSL hsc (fun _ _ => ?_)
      refine g_cv1 ok (me_216 hX) rfl rfl (gcal_s rfl (show cs + 3 + 0 ≤ 601024 by omega) (show ss + 18 + 0 ≤ 7293034 by omega)) rfl (t_216 ok hX _ x2 (sc ((g32 (x4 + 1)) : Int).toNat) (sc ((g32 (x4 + 2)) : Int).toNat) s56) (fun v59 s58 => ?_)
      refine g_istore ok rfl (L' := [(0, (5, 0, 0)), (1, (27, 0, x1)), (2, (28, 0, x2)), (3, (125, 0, x3)), (4, (0, x4, 0)), (5, (0, v57, 0)), (6, (0, v59, 0))]) rfl ?_
      refine g_goto ok rfl ?_
      refine g_rb gs_511 109 (cd' := gb_511_1859) rfl rfl ?_
      refine g_iinc ok rfl rfl (L' := [(0, (5, 0, 0)), (1, (27, 0, x1)), (2, (28, 0, x2)), (3, (125, 0, x3)), (4, (0, (g32 (x4 + 6)), 0)), (5, (0, v57, 0)), (6, (0, v59, 0))]) rfl ?_
      refine g_goto ok rfl ?_
      refine g_wd ok (cs' := cs + 4) (ss' := ss + 408) (Nat.ble_eq.mpr (show cs + 3 ≤ cs + 4 by omega)) (Nat.ble_eq.mpr (show ss + 18 ≤ ss + 408 by omega)) ?_
      exact g_wk ok [(0, (5, 0, 0)), (1, (27, 0, x1)), (2, (28, 0, x2)), (3, (125, 0, x3)), (4, (0, (g32 (x4 + 6)), 0))] ⟨rfl, rfl, rfl, rfl, rfl, trivial⟩ (hl23 (x1, x2, x3, (g32 (x4 + 6)), s58))
    refine g_ite (fun hq => g_tsw ok (c := 14) (by omega) rfl rfl ?_) (fun hq15 => ?_)
    · refine g_rb gs_511 29 (cd' := gb_511_767) rfl rfl ?_
      refine g_aload_n ok rfl rfl ?_
      refine g_aload_n ok rfl rfl ?_
      refine g_iload ok rfl ?_
      refine g_iconst ok (v := 1) rfl ?_
      refine g_iadd ok ?_
      refine g_sld ok hSL hsc (fun _ _ => ?_)
      refine g_aload_n ok rfl rfl ?_
      refine g_cs1 ok (me_287 hX) rfl (gcal_s rfl (show cs + 0 + 1 ≤ 601024 by omega) (show ss + 0 + 6 ≤ 7293034 by omega)) rfl (t_287 ok hX _ x1 (sc ((g32 (x4 + 1)) : Int).toNat) x3 s) (fun v61 s60 => ?_)
      refine g_istore ok rfl (L' := [(0, (5, 0, 0)), (1, (27, 0, x1)), (2, (28, 0, x2)), (3, (125, 0, x3)), (4, (0, x4, 0)), (5, (0, v61, 0))]) rfl ?_
      refine g_aload_n ok rfl rfl ?_
      refine g_aload_n ok rfl rfl ?_
      refine g_iload ok rfl ?_
      refine g_iconst ok (v := 1) rfl ?_
      refine g_iadd ok ?_
      refine g_sld ok hSL hsc (fun _ _ => ?_)
      refine g_cv1 ok (me_217 hX) rfl rfl (gcal_s rfl (show cs + 1 + 0 ≤ 601024 by omega) (show ss + 6 + 0 ≤ 7293034 by omega)) rfl (t_217 ok hX _ x2 (sc ((g32 (x4 + 1)) : Int).toNat) s60) (fun v63 s62 => ?_)
      refine g_istore ok rfl (L' := [(0, (5, 0, 0)), (1, (27, 0, x1)), (2, (28, 0, x2)), (3, (125, 0, x3)), (4, (0, x4, 0)), (5, (0, v61, 0)), (6, (0, v63, 0))]) rfl ?_
      refine g_goto ok rfl ?_
      refine g_rb gs_511 109 (cd' := gb_511_1859) rfl rfl ?_
      refine g_iinc ok rfl rfl (L' := [(0, (5, 0, 0)), (1, (27, 0, x1)), (2, (28, 0, x2)), (3, (125, 0, x3)), (4, (0, (g32 (x4 + 6)), 0)), (5, (0, v61, 0)), (6, (0, v63, 0))]) rfl ?_
      refine g_goto ok rfl ?_
      refine g_wd ok (cs' := cs + 4) (ss' := ss + 408) (Nat.ble_eq.mpr (show cs + 1 ≤ cs + 4 by omega)) (Nat.ble_eq.mpr (show ss + 6 ≤ ss + 408 by omega)) ?_
      exact g_wk ok [(0, (5, 0, 0)), (1, (27, 0, x1)), (2, (28, 0, x2)), (3, (125, 0, x3)), (4, (0, (g32 (x4 + 6)), 0))] ⟨rfl, rfl, rfl, rfl, rfl, trivial⟩ (hl23 (x1, x2, x3, (g32 (x4 + 6)), s62))
    refine g_ite (fun hq => g_tsw ok (c := 15) (by omega) rfl rfl ?_) (fun hq16 => ?_)
    · refine g_rb gs_511 30 (cd' := gb_511_795) rfl rfl ?_
      refine g_aload_n ok rfl rfl ?_
      refine g_aload_n ok rfl rfl ?_
      refine g_iload ok rfl ?_
      refine g_iconst ok (v := 1) rfl ?_
      refine g_iadd ok ?_
      refine g_sld ok hSL hsc (fun _ _ => ?_)
      refine g_aload_n ok rfl rfl ?_
      refine g_cs1 ok (me_288 hX) rfl (gcal_s rfl (show cs + 0 + 1 ≤ 601024 by omega) (show ss + 0 + 6 ≤ 7293034 by omega)) rfl (t_288 ok hX _ x1 (sc ((g32 (x4 + 1)) : Int).toNat) x3 s) (fun v65 s64 => ?_)
      refine g_istore ok rfl (L' := [(0, (5, 0, 0)), (1, (27, 0, x1)), (2, (28, 0, x2)), (3, (125, 0, x3)), (4, (0, x4, 0)), (5, (0, v65, 0))]) rfl ?_
      refine g_aload_n ok rfl rfl ?_
      refine g_aload_n ok rfl rfl ?_
      refine g_iload ok rfl ?_
      refine g_iconst ok (v := 1) rfl ?_
      refine g_iadd ok ?_
      refine g_sld ok hSL hsc (fun _ _ => ?_)
      refine g_cv1 ok (me_218 hX) rfl rfl (gcal_s rfl (show cs + 1 + 0 ≤ 601024 by omega) (show ss + 6 + 0 ≤ 7293034 by omega)) rfl (t_218 ok hX _ x2 (sc ((g32 (x4 + 1)) : Int).toNat) s64) (fun v67 s66 => ?_)
      refine g_istore ok rfl (L' := [(0, (5, 0, 0)), (1, (27, 0, x1)), (2, (28, 0, x2)), (3, (125, 0, x3)), (4, (0, x4, 0)), (5, (0, v65, 0)), (6, (0, v67, 0))]) rfl ?_
      refine g_goto ok rfl ?_
      refine g_rb gs_511 109 (cd' := gb_511_1859) rfl rfl ?_
      refine g_iinc ok rfl rfl (L' := [(0, (5, 0, 0)), (1, (27, 0, x1)), (2, (28, 0, x2)), (3, (125, 0, x3)), (4, (0, (g32 (x4 + 6)), 0)), (5, (0, v65, 0)), (6, (0, v67, 0))]) rfl ?_
      refine g_goto ok rfl ?_
      refine g_wd ok (cs' := cs + 4) (ss' := ss + 408) (Nat.ble_eq.mpr (show cs + 1 ≤ cs + 4 by omega)) (Nat.ble_eq.mpr (show ss + 6 ≤ ss + 408 by omega)) ?_
      exact g_wk ok [(0, (5, 0, 0)), (1, (27, 0, x1)), (2, (28, 0, x2)), (3, (125, 0, x3)), (4, (0, (g32 (x4 + 6)), 0))] ⟨rfl, rfl, rfl, rfl, rfl, trivial⟩ (hl23 (x1, x2, x3, (g32 (x4 + 6)), s66))
    refine g_ite (fun hq => g_tsw ok (c := 16) (by omega) rfl rfl ?_) (fun hq17 => ?_)
    · refine g_rb gs_511 31 (cd' := gb_511_823) rfl rfl ?_
      refine g_aload_n ok rfl rfl ?_
      refine g_aload_n ok rfl rfl ?_
      refine g_iload ok rfl ?_
      refine g_iconst ok (v := 1) rfl ?_
      refine g_iadd ok ?_
      refine g_sld ok hSL hsc (fun _ _ => ?_)
      refine g_aload_n ok rfl rfl ?_
      refine g_iload ok rfl ?_
      refine g_iconst ok (v := 2) rfl ?_
      refine g_iadd ok ?_
      refine g_sld ok hSL hsc (fun _ _ => ?_)
      refine g_aload_n ok rfl rfl ?_
      refine g_iload ok rfl ?_
      refine g_iconst ok (v := 3) rfl ?_
      refine g_iadd ok ?_
      refine g_sld ok hSL hsc (fun _ _ => ?_)
      refine g_aload_n ok rfl rfl ?_
      refine g_cs1 ok (me_289 hX) rfl (gcal_s rfl (show cs + 0 + 3 ≤ 601024 by omega) (show ss + 0 + 18 ≤ 7293034 by omega)) rfl (t_289 ok hX _ x1 (sc ((g32 (x4 + 1)) : Int).toNat) (sc ((g32 (x4 + 2)) : Int).toNat) (sc ((g32 (x4 + 3)) : Int).toNat) x3 s) (fun v69 s68 => ?_)
      refine g_istore ok rfl (L' := [(0, (5, 0, 0)), (1, (27, 0, x1)), (2, (28, 0, x2)), (3, (125, 0, x3)), (4, (0, x4, 0)), (5, (0, v69, 0))]) rfl ?_
      refine g_aload_n ok rfl rfl ?_
      refine g_aload_n ok rfl rfl ?_
      refine g_iload ok rfl ?_
      refine g_iconst ok (v := 1) rfl ?_
      refine g_iadd ok ?_
      refine g_sld ok hSL hsc (fun _ _ => ?_)
      refine g_aload_n ok rfl rfl ?_
      refine g_iload ok rfl ?_
      refine g_iconst ok (v := 2) rfl ?_
      refine g_iadd ok ?_
      refine g_sld ok hSL hsc (fun _ _ => ?_)
      refine g_aload_n ok rfl rfl ?_
      refine g_iload ok rfl ?_
      refine g_iconst ok (v := 3) rfl ?_
      refine g_iadd ok ?_
      refine g_sld ok hSL hsc (fun _ _ => ?_)
      refine g_cv1 ok (me_219 hX) rfl rfl (gcal_s rfl (show cs + 3 + 0 ≤ 601024 by omega) (show ss + 18 + 0 ≤ 7293034 by omega)) rfl (t_219 ok hX _ x2 (sc ((g32 (x4 + 1)) : Int).toNat) (sc ((g32 (x4 + 2)) : Int).toNat) (sc ((g32 (x4 + 3)) : Int).toNat) s68) (fun v71 s70 => ?_)
      refine g_istore ok rfl (L' := [(0, (5, 0, 0)), (1, (27, 0, x1)), (2, (28, 0, x2)), (3, (125, 0, x3)), (4, (0, x4, 0)), (5, (0, v69, 0)), (6, (0, v71, 0))]) rfl ?_
      refine g_goto ok rfl ?_
      refine g_rb gs_511 109 (cd' := gb_511_1859) rfl rfl ?_
      refine g_iinc ok rfl rfl (L' := [(0, (5, 0, 0)), (1, (27, 0, x1)), (2, (28, 0, x2)), (3, (125, 0, x3)), (4, (0, (g32 (x4 + 6)), 0)), (5, (0, v69, 0)), (6, (0, v71, 0))]) rfl ?_
      refine g_goto ok rfl ?_
      refine g_wd ok (cs' := cs + 4) (ss' := ss + 408) (Nat.ble_eq.mpr (show cs + 3 ≤ cs + 4 by omega)) (Nat.ble_eq.mpr (show ss + 18 ≤ ss + 408 by omega)) ?_
      exact g_wk ok [(0, (5, 0, 0)), (1, (27, 0, x1)), (2, (28, 0, x2)), (3, (125, 0, x3)), (4, (0, (g32 (x4 + 6)), 0))] ⟨rfl, rfl, rfl, rfl, rfl, trivial⟩ (hl23 (x1, x2, x3, (g32 (x4 + 6)), s70))
    refine g_ite (fun hq => g_tsw ok (c := 17) (by omega) rfl rfl ?_) (fun hq18 => ?_)
    · refine g_rb gs_511 32 (cd' := gb_511_875) rfl rfl ?_
      refine g_aload_n ok rfl rfl ?_
      refine g_aload_n ok rfl rfl ?_
      refine g_iload ok rfl ?_
      refine g_iconst ok (v := 1) rfl ?_
      refine g_iadd ok ?_
      refine g_sld ok hSL hsc (fun _ _ => ?_)
      refine g_aload_n ok rfl rfl ?_
      refine g_cs1 ok (me_290 hX) rfl (gcal_s rfl (show cs + 0 + 1 ≤ 601024 by omega) (show ss + 0 + 6 ≤ 7293034 by omega)) rfl (t_290 ok hX _ x1 (sc ((g32 (x4 + 1)) : Int).toNat) x3 s) (fun v73 s72 => ?_)
      refine g_istore ok rfl (L' := [(0, (5, 0, 0)), (1, (27, 0, x1)), (2, (28, 0, x2)), (3, (125, 0, x3)), (4, (0, x4, 0)), (5, (0, v73, 0))]) rfl ?_
      refine g_aload_n ok rfl rfl ?_
      refine g_aload_n ok rfl rfl ?_
      refine g_iload ok rfl ?_
      refine g_iconst ok (v := 1) rfl ?_
      refine g_iadd ok ?_
      refine g_sld ok hSL hsc (fun _ _ => ?_)
      refine g_cv1 ok (me_220 hX) rfl rfl (gcal_s rfl (show cs + 1 + 0 ≤ 601024 by omega) (show ss + 6 + 0 ≤ 7293034 by omega)) rfl (t_220 ok hX _ x2 (sc ((g32 (x4 + 1)) : Int).toNat) s72) (fun v75 s74 => ?_)
      refine g_istore ok rfl (L' := [(0, (5, 0, 0)), (1, (27, 0, x1)), (2, (28, 0, x2)), (3, (125, 0, x3)), (4, (0, x4, 0)), (5, (0, v73, 0)), (6, (0, v75, 0))]) rfl ?_
      refine g_aload_n ok rfl rfl ?_
      refine g_cv1 ok (me_310 hX) rfl rfl (gcal_s rfl (show cs + 1 + 0 ≤ 601024 by omega) (show ss + 6 + 0 ≤ 7293034 by omega)) rfl (t_310 ok hX _ x2 s74) (fun v77 s76 => ?_)
      refine g_iload ok rfl ?_
      refine g_ic_eq ok rfl (fun _ => ?_) (fun _ => ?_)
      · refine g_rb gs_511 34 (cd' := gb_511_911) rfl rfl ?_
        refine g_iload ok rfl ?_
        refine g_if_ne ok rfl (fun _ => ?_) (fun _ => ?_)
        · refine g_rb gs_511 35 (cd' := gb_511_916) rfl rfl ?_
          refine g_aload_n ok rfl rfl ?_
          refine g_iconst ok (v := 0) rfl ?_
          refine g_laload ok (n := 1) rfl rfl (fun _ _ => ?_)
          refine g_iload ok rfl ?_
          refine g_i2l ok ?_
          refine g_lcmp ok ?_
          refine g_if_eq ok rfl (fun _ => ?_) (fun _ => ?_)
          · refine g_rb gs_511 37 (cd' := gb_511_928) rfl rfl ?_
            refine g_goto ok rfl ?_
            refine g_rb gs_511 109 (cd' := gb_511_1859) rfl rfl ?_
            refine g_iinc ok rfl rfl (L' := [(0, (5, 0, 0)), (1, (27, 0, x1)), (2, (28, 0, x2)), (3, (125, 0, x3)), (4, (0, (g32 (x4 + 6)), 0)), (5, (0, v73, 0)), (6, (0, v75, 0))]) rfl ?_
            refine g_goto ok rfl ?_
            refine g_wd ok (cs' := cs + 4) (ss' := ss + 408) (Nat.ble_eq.mpr (show cs + 1 ≤ cs + 4 by omega)) (Nat.ble_eq.mpr (show ss + 6 ≤ ss + 408 by omega)) ?_
            exact g_wk ok [(0, (5, 0, 0)), (1, (27, 0, x1)), (2, (28, 0, x2)), (3, (125, 0, x3)), (4, (0, (g32 (x4 + 6)), 0))] ⟨rfl, rfl, rfl, rfl, rfl, trivial⟩ (hl23 (x1, x2, x3, (g32 (x4 + 6)), s76))
          · refine g_map hr23 ?_
            refine g_rb gs_511 36 (cd' := gb_511_926) rfl rfl ?_
            refine g_iconst ok (v := 0) rfl ?_
            exact g_zreturn ok rfl (Or.inl rfl) (gcap_s (show cs + 1 ≤ 601024 by omega) (show ss + 6 ≤ 7293034 by omega)) (rfl)
        · refine g_rb gs_511 37 (cd' := gb_511_928) rfl rfl ?_
          refine g_goto ok rfl ?_
          refine g_rb gs_511 109 (cd' := gb_511_1859) rfl rfl ?_
          refine g_iinc ok rfl rfl (L' := [(0, (5, 0, 0)), (1, (27, 0, x1)), (2, (28, 0, x2)), (3, (125, 0, x3)), (4, (0, (g32 (x4 + 6)), 0)), (5, (0, v73, 0)), (6, (0, v75, 0))]) rfl ?_
          refine g_goto ok rfl ?_
          refine g_wd ok (cs' := cs + 4) (ss' := ss + 408) (Nat.ble_eq.mpr (show cs + 1 ≤ cs + 4 by omega)) (Nat.ble_eq.mpr (show ss + 6 ≤ ss + 408 by omega)) ?_
          exact g_wk ok [(0, (5, 0, 0)), (1, (27, 0, x1)), (2, (28, 0, x2)), (3, (125, 0, x3)), (4, (0, (g32 (x4 + 6)), 0))] ⟨rfl, rfl, rfl, rfl, rfl, trivial⟩ (hl23 (x1, x2, x3, (g32 (x4 + 6)), s76))
      · refine g_map hr23 ?_
        refine g_rb gs_511 33 (cd' := gb_511_909) rfl rfl ?_
        refine g_iconst ok (v := 0) rfl ?_
        exact g_zreturn ok rfl (Or.inl rfl) (gcap_s (show cs + 1 ≤ 601024 by omega) (show ss + 6 ≤ 7293034 by omega)) (rfl)
    refine g_ite (fun hq => g_tsw ok (c := 18) (by omega) rfl rfl ?_) (fun hq19 => ?_)
    · refine g_rb gs_511 38 (cd' := gb_511_931) rfl rfl ?_
      refine g_aload_n ok rfl rfl ?_
      refine g_aload_n ok rfl rfl ?_
      refine g_iload ok rfl ?_
      refine g_iconst ok (v := 1) rfl ?_
      refine g_iadd ok ?_
      refine g_sld ok hSL hsc (fun _ _ => ?_)
      refine g_aload_n ok rfl rfl ?_
      refine g_cs1 ok (me_291 hX) rfl (gcal_s rfl (show cs + 0 + 1 ≤ 601024 by omega) (show ss + 0 + 6 ≤ 7293034 by omega)) rfl (t_291 ok hX _ x1 (sc ((g32 (x4 + 1)) : Int).toNat) x3 s) (fun v79 s78 => ?_)
      refine g_istore ok rfl (L' := [(0, (5, 0, 0)), (1, (27, 0, x1)), (2, (28, 0, x2)), (3, (125, 0, x3)), (4, (0, x4, 0)), (5, (0, v79, 0))]) rfl ?_
      refine g_aload_n ok rfl rfl ?_
      refine g_aload_n ok rfl rfl ?_
      refine g_iload ok rfl ?_
      refine g_iconst ok (v := 1) rfl ?_
      refine g_iadd ok ?_
      refine g_sld ok hSL hsc (fun _ _ => ?_)
      refine g_cv1 ok (me_221 hX) rfl rfl (gcal_s rfl (show cs + 1 + 0 ≤ 601024 by omega) (show ss + 6 + 0 ≤ 7293034 by omega)) rfl (t_221 ok hX _ x2 (sc ((g32 (x4 + 1)) : Int).toNat) s78) (fun v81 s80 => ?_)
      refine g_istore ok rfl (L' := [(0, (5, 0, 0)), (1, (27, 0, x1)), (2, (28, 0, x2)), (3, (125, 0, x3)), (4, (0, x4, 0)), (5, (0, v79, 0)), (6, (0, v81, 0))]) rfl ?_
      refine g_goto ok rfl ?_
      refine g_rb gs_511 109 (cd' := gb_511_1859) rfl rfl ?_
      refine g_iinc ok rfl rfl (L' := [(0, (5, 0, 0)), (1, (27, 0, x1)), (2, (28, 0, x2)), (3, (125, 0, x3)), (4, (0, (g32 (x4 + 6)), 0)), (5, (0, v79, 0)), (6, (0, v81, 0))]) rfl ?_
      refine g_goto ok rfl ?_
      refine g_wd ok (cs' := cs + 4) (ss' := ss + 408) (Nat.ble_eq.mpr (show cs + 1 ≤ cs + 4 by omega)) (Nat.ble_eq.mpr (show ss + 6 ≤ ss + 408 by omega)) ?_
      exact g_wk ok [(0, (5, 0, 0)), (1, (27, 0, x1)), (2, (28, 0, x2)), (3, (125, 0, x3)), (4, (0, (g32 (x4 + 6)), 0))] ⟨rfl, rfl, rfl, rfl, rfl, trivial⟩ (hl23 (x1, x2, x3, (g32 (x4 + 6)), s80))
    refine g_ite (fun hq => g_tsw ok (c := 19) (by omega) rfl rfl ?_) (fun hq20 => ?_)
    · refine g_rb gs_511 39 (cd' := gb_511_959) rfl rfl ?_
      refine g_aload_n ok rfl rfl ?_
      refine g_aload_n ok rfl rfl ?_
      refine g_iload ok rfl ?_
      refine g_iconst ok (v := 1) rfl ?_
      refine g_iadd ok ?_
      refine g_sld ok hSL hsc (fun _ _ => ?_)
      refine g_aload_n ok rfl rfl ?_
      refine g_cs1 ok (me_292 hX) rfl (gcal_s rfl (show cs + 0 + 1 ≤ 601024 by omega) (show ss + 0 + 6 ≤ 7293034 by omega)) rfl (t_292 ok hX _ x1 (sc ((g32 (x4 + 1)) : Int).toNat) x3 s) (fun v83 s82 => ?_)
      refine g_istore ok rfl (L' := [(0, (5, 0, 0)), (1, (27, 0, x1)), (2, (28, 0, x2)), (3, (125, 0, x3)), (4, (0, x4, 0)), (5, (0, v83, 0))]) rfl ?_
      refine g_aload_n ok rfl rfl ?_
      refine g_aload_n ok rfl rfl ?_
      refine g_iload ok rfl ?_
      refine g_iconst ok (v := 1) rfl ?_
      refine g_iadd ok ?_
      refine g_sld ok hSL hsc (fun _ _ => ?_)
      refine g_cv1 ok (me_223 hX) rfl rfl (gcal_s rfl (show cs + 1 + 0 ≤ 601024 by omega) (show ss + 6 + 0 ≤ 7293034 by omega)) rfl (t_223 ok hX _ x2 (sc ((g32 (x4 + 1)) : Int).toNat) s82) (fun v85 s84 => ?_)
      refine g_istore ok rfl (L' := [(0, (5, 0, 0)), (1, (27, 0, x1)), (2, (28, 0, x2)), (3, (125, 0, x3)), (4, (0, x4, 0)), (5, (0, v83, 0)), (6, (0, v85, 0))]) rfl ?_
      refine g_goto ok rfl ?_
      refine g_rb gs_511 109 (cd' := gb_511_1859) rfl rfl ?_
      refine g_iinc ok rfl rfl (L' := [(0, (5, 0, 0)), (1, (27, 0, x1)), (2, (28, 0, x2)), (3, (125, 0, x3)), (4, (0, (g32 (x4 + 6)), 0)), (5, (0, v83, 0)), (6, (0, v85, 0))]) rfl ?_
      refine g_goto ok rfl ?_
      refine g_wd ok (cs' := cs + 4) (ss' := ss + 408) (Nat.ble_eq.mpr (show cs + 1 ≤ cs + 4 by omega)) (Nat.ble_eq.mpr (show ss + 6 ≤ ss + 408 by omega)) ?_
      exact g_wk ok [(0, (5, 0, 0)), (1, (27, 0, x1)), (2, (28, 0, x2)), (3, (125, 0, x3)), (4, (0, (g32 (x4 + 6)), 0))] ⟨rfl, rfl, rfl, rfl, rfl, trivial⟩ (hl23 (x1, x2, x3, (g32 (x4 + 6)), s84))
    refine g_ite (fun hq => g_tsw ok (c := 20) (by omega) rfl rfl ?_) (fun hq21 => ?_)
    · refine g_rb gs_511 40 (cd' := gb_511_987) rfl rfl ?_
      refine g_aload_n ok rfl rfl ?_
      refine g_aload_n ok rfl rfl ?_
      refine g_iload ok rfl ?_
      refine g_iconst ok (v := 1) rfl ?_
      refine g_iadd ok ?_
      refine g_sld ok hSL hsc (fun _ _ => ?_)
      refine g_aload_n ok rfl rfl ?_
      refine g_cs1 ok (me_293 hX) rfl (gcal_s rfl (show cs + 0 + 1 ≤ 601024 by omega) (show ss + 0 + 6 ≤ 7293034 by omega)) rfl (t_293 ok hX _ x1 (sc ((g32 (x4 + 1)) : Int).toNat) x3 s) (fun v87 s86 => ?_)
      refine g_istore ok rfl (L' := [(0, (5, 0, 0)), (1, (27, 0, x1)), (2, (28, 0, x2)), (3, (125, 0, x3)), (4, (0, x4, 0)), (5, (0, v87, 0))]) rfl ?_
      refine g_aload_n ok rfl rfl ?_
      refine g_aload_n ok rfl rfl ?_
      refine g_iload ok rfl ?_
      refine g_iconst ok (v := 1) rfl ?_
      refine g_iadd ok ?_
      refine g_sld ok hSL hsc (fun _ _ => ?_)
      refine g_cv1 ok (me_224 hX) rfl rfl (gcal_s rfl (show cs + 1 + 0 ≤ 601024 by omega) (show ss + 6 + 0 ≤ 7293034 by omega)) rfl (t_224 ok hX _ x2 (sc ((g32 (x4 + 1)) : Int).toNat) s86) (fun v89 s88 => ?_)
      refine g_istore ok rfl (L' := [(0, (5, 0, 0)), (1, (27, 0, x1)), (2, (28, 0, x2)), (3, (125, 0, x3)), (4, (0, x4, 0)), (5, (0, v87, 0)), (6, (0, v89, 0))]) rfl ?_
      refine g_goto ok rfl ?_
      refine g_rb gs_511 109 (cd' := gb_511_1859) rfl rfl ?_
      refine g_iinc ok rfl rfl (L' := [(0, (5, 0, 0)), (1, (27, 0, x1)), (2, (28, 0, x2)), (3, (125, 0, x3)), (4, (0, (g32 (x4 + 6)), 0)), (5, (0, v87, 0)), (6, (0, v89, 0))]) rfl ?_
      refine g_goto ok rfl ?_
      refine g_wd ok (cs' := cs + 4) (ss' := ss + 408) (Nat.ble_eq.mpr (show cs + 1 ≤ cs + 4 by omega)) (Nat.ble_eq.mpr (show ss + 6 ≤ ss + 408 by omega)) ?_
      exact g_wk ok [(0, (5, 0, 0)), (1, (27, 0, x1)), (2, (28, 0, x2)), (3, (125, 0, x3)), (4, (0, (g32 (x4 + 6)), 0))] ⟨rfl, rfl, rfl, rfl, rfl, trivial⟩ (hl23 (x1, x2, x3, (g32 (x4 + 6)), s88))
    refine g_ite (fun hq => g_tsw ok (c := 21) (by omega) rfl rfl ?_) (fun hq22 => ?_)
    · refine g_rb gs_511 41 (cd' := gb_511_1015) rfl rfl ?_
      refine g_aload_n ok rfl rfl ?_
      refine g_aload_n ok rfl rfl ?_
      refine g_iload ok rfl ?_
      refine g_iconst ok (v := 1) rfl ?_
      refine g_iadd ok ?_
      refine g_sld ok hSL hsc (fun _ _ => ?_)
      refine g_aload_n ok rfl rfl ?_
      refine g_iload ok rfl ?_
      refine g_iconst ok (v := 2) rfl ?_
      refine g_iadd ok ?_
      refine g_sld ok hSL hsc (fun _ _ => ?_)
      refine g_aload_n ok rfl rfl ?_
      refine g_cs1 ok (me_294 hX) rfl (gcal_s rfl (show cs + 0 + 2 ≤ 601024 by omega) (show ss + 0 + 12 ≤ 7293034 by omega)) rfl (t_294 ok hX _ x1 (sc ((g32 (x4 + 1)) : Int).toNat) (sc ((g32 (x4 + 2)) : Int).toNat) x3 s) (fun v91 s90 => ?_)
      refine g_istore ok rfl (L' := [(0, (5, 0, 0)), (1, (27, 0, x1)), (2, (28, 0, x2)), (3, (125, 0, x3)), (4, (0, x4, 0)), (5, (0, v91, 0))]) rfl ?_
      refine g_aload_n ok rfl rfl ?_
      refine g_aload_n ok rfl rfl ?_
      refine g_iload ok rfl ?_
      refine g_iconst ok (v := 1) rfl ?_
      refine g_iadd ok ?_
      refine g_sld ok hSL hsc (fun _ _ => ?_)
      refine g_aload_n ok rfl rfl ?_
      refine g_iload ok rfl ?_
      refine g_iconst ok (v := 2) rfl ?_
      refine g_iadd ok ?_
      refine g_sld ok hSL hsc (fun _ _ => ?_)
      refine g_cv1 ok (me_229 hX) rfl rfl (gcal_s rfl (show cs + 2 + 0 ≤ 601024 by omega) (show ss + 12 + 0 ≤ 7293034 by omega)) rfl (t_229 ok hX _ x2 (sc ((g32 (x4 + 1)) : Int).toNat) (sc ((g32 (x4 + 2)) : Int).toNat) s90) (fun v93 s92 => ?_)
      refine g_istore ok rfl (L' := [(0, (5, 0, 0)), (1, (27, 0, x1)), (2, (28, 0, x2)), (3, (125, 0, x3)), (4, (0, x4, 0)), (5, (0, v91, 0)), (6, (0, v93, 0))]) rfl ?_
      refine g_goto ok rfl ?_
      refine g_rb gs_511 109 (cd' := gb_511_1859) rfl rfl ?_
      refine g_iinc ok rfl rfl (L' := [(0, (5, 0, 0)), (1, (27, 0, x1)), (2, (28, 0, x2)), (3, (125, 0, x3)), (4, (0, (g32 (x4 + 6)), 0)), (5, (0, v91, 0)), (6, (0, v93, 0))]) rfl ?_
      refine g_goto ok rfl ?_
      refine g_wd ok (cs' := cs + 4) (ss' := ss + 408) (Nat.ble_eq.mpr (show cs + 2 ≤ cs + 4 by omega)) (Nat.ble_eq.mpr (show ss + 12 ≤ ss + 408 by omega)) ?_
      exact g_wk ok [(0, (5, 0, 0)), (1, (27, 0, x1)), (2, (28, 0, x2)), (3, (125, 0, x3)), (4, (0, (g32 (x4 + 6)), 0))] ⟨rfl, rfl, rfl, rfl, rfl, trivial⟩ (hl23 (x1, x2, x3, (g32 (x4 + 6)), s92))
    refine g_ite (fun hq => g_tsw ok (c := 22) (by omega) rfl rfl ?_) (fun hq23 => ?_)
    · refine g_rb gs_511 42 (cd' := gb_511_1055) rfl rfl ?_
      refine g_aload_n ok rfl rfl ?_
      refine g_aload_n ok rfl rfl ?_
      refine g_iload ok rfl ?_
      refine g_iconst ok (v := 1) rfl ?_
      refine g_iadd ok ?_
      refine g_sld ok hSL hsc (fun _ _ => ?_)
      refine g_aload_n ok rfl rfl ?_
      refine g_iload ok rfl ?_
      refine g_iconst ok (v := 2) rfl ?_
      refine g_iadd ok ?_
      refine g_sld ok hSL hsc (fun _ _ => ?_)
      refine g_aload_n ok rfl rfl ?_
      refine g_cs1 ok (me_295 hX) rfl (gcal_s rfl (show cs + 0 + 2 ≤ 601024 by omega) (show ss + 0 + 12 ≤ 7293034 by omega)) rfl (t_295 ok hX _ x1 (sc ((g32 (x4 + 1)) : Int).toNat) (sc ((g32 (x4 + 2)) : Int).toNat) x3 s) (fun v95 s94 => ?_)
      refine g_istore ok rfl (L' := [(0, (5, 0, 0)), (1, (27, 0, x1)), (2, (28, 0, x2)), (3, (125, 0, x3)), (4, (0, x4, 0)), (5, (0, v95, 0))]) rfl ?_
      refine g_aload_n ok rfl rfl ?_
      refine g_aload_n ok rfl rfl ?_
      refine g_iload ok rfl ?_
      refine g_iconst ok (v := 1) rfl ?_
      refine g_iadd ok ?_
      refine g_sld ok hSL hsc (fun _ _ => ?_)
      refine g_aload_n ok rfl rfl ?_
      refine g_iload ok rfl ?_
      refine g_iconst ok (v := 2) rfl ?_
      refine g_iadd ok ?_
      refine g_sld ok hSL hsc (fun _ _ => ?_)
      refine g_cv1 ok (me_230 hX) rfl rfl (gcal_s rfl (show cs + 2 + 0 ≤ 601024 by omega) (show ss + 12 + 0 ≤ 7293034 by omega)) rfl (t_230 ok hX _ x2 (sc ((g32 (x4 + 1)) : Int).toNat) (sc ((g32 (x4 + 2)) : Int).toNat) s94) (fun v97 s96 => ?_)
      refine g_istore ok rfl (L' := [(0, (5, 0, 0)), (1, (27, 0, x1)), (2, (28, 0, x2)), (3, (125, 0, x3)), (4, (0, x4, 0)), (5, (0, v95, 0)), (6, (0, v97, 0))]) rfl ?_
      refine g_goto ok rfl ?_
      refine g_rb gs_511 109 (cd' := gb_511_1859) rfl rfl ?_
      refine g_iinc ok rfl rfl (L' := [(0, (5, 0, 0)), (1, (27, 0, x1)), (2, (28, 0, x2)), (3, (125, 0, x3)), (4, (0, (g32 (x4 + 6)), 0)), (5, (0, v95, 0)), (6, (0, v97, 0))]) rfl ?_
      refine g_goto ok rfl ?_
      refine g_wd ok (cs' := cs + 4) (ss' := ss + 408) (Nat.ble_eq.mpr (show cs + 2 ≤ cs + 4 by omega)) (Nat.ble_eq.mpr (show ss + 12 ≤ ss + 408 by omega)) ?_
      exact g_wk ok [(0, (5, 0, 0)), (1, (27, 0, x1)), (2, (28, 0, x2)), (3, (125, 0, x3)), (4, (0, (g32 (x4 + 6)), 0))] ⟨rfl, rfl, rfl, rfl, rfl, trivial⟩ (hl23 (x1, x2, x3, (g32 (x4 + 6)), s96))
    refine g_ite (fun hq => g_tsw ok (c := 23) (by omega) rfl rfl ?_) (fun hq24 => ?_)
    · refine g_rb gs_511 43 (cd' := gb_511_1095) rfl rfl ?_
      refine g_aload_n ok rfl rfl ?_
      refine g_aload_n ok rfl rfl ?_
      refine g_iload ok rfl ?_
      refine g_iconst ok (v := 1) rfl ?_
      refine g_iadd ok ?_
      refine g_sld ok hSL hsc (fun _ _ => ?_)
      refine g_aload_n ok rfl rfl ?_
      refine g_iload ok rfl ?_
      refine g_iconst ok (v := 2) rfl ?_
      refine g_iadd ok ?_
      refine g_sld ok hSL hsc (fun _ _ => ?_)
      refine g_aload_n ok rfl rfl ?_
      refine g_cs1 ok (me_296 hX) rfl (gcal_s rfl (show cs + 0 + 1 ≤ 601024 by omega) (show ss + 0 + 6 ≤ 7293034 by omega)) rfl (t_296 ok hX _ x1 (sc ((g32 (x4 + 1)) : Int).toNat) (sc ((g32 (x4 + 2)) : Int).toNat) x3 s) (fun v99 s98 => ?_)
      refine g_istore ok rfl (L' := [(0, (5, 0, 0)), (1, (27, 0, x1)), (2, (28, 0, x2)), (3, (125, 0, x3)), (4, (0, x4, 0)), (5, (0, v99, 0))]) rfl ?_
      refine g_aload_n ok rfl rfl ?_
      refine g_aload_n ok rfl rfl ?_
      refine g_iload ok rfl ?_
      refine g_iconst ok (v := 1) rfl ?_
      refine g_iadd ok ?_
      refine g_sld ok hSL hsc (fun _ _ => ?_)
      refine g_aload_n ok rfl rfl ?_
      refine g_iload ok rfl ?_
      refine g_iconst ok (v := 2) rfl ?_
      refine g_iadd ok ?_
      refine g_sld ok hSL hsc (fun _ _ => ?_)
      refine g_cvz ok (me_233 hX) rfl rfl (gcal_s rfl (show cs + 1 + 0 ≤ 601024 by omega) (show ss + 6 + 0 ≤ 7293034 by omega)) rfl (t_233 ok hX _ x2 (sc ((g32 (x4 + 1)) : Int).toNat) (sc ((g32 (x4 + 2)) : Int).toNat) s98) (fun v101 s100 hb102 => ?_)
      refine g_istore ok rfl (L' := [(0, (5, 0, 0)), (1, (27, 0, x1)), (2, (28, 0, x2)), (3, (125, 0, x3)), (4, (0, x4, 0)), (5, (0, v99, 0)), (6, (0, v101, 0))]) rfl ?_
      refine g_goto ok rfl ?_
      refine g_rb gs_511 109 (cd' := gb_511_1859) rfl rfl ?_
      refine g_iinc ok rfl rfl (L' := [(0, (5, 0, 0)), (1, (27, 0, x1)), (2, (28, 0, x2)), (3, (125, 0, x3)), (4, (0, (g32 (x4 + 6)), 0)), (5, (0, v99, 0)), (6, (0, v101, 0))]) rfl ?_
      refine g_goto ok rfl ?_
      refine g_wd ok (cs' := cs + 4) (ss' := ss + 408) (Nat.ble_eq.mpr (show cs + 1 ≤ cs + 4 by omega)) (Nat.ble_eq.mpr (show ss + 6 ≤ ss + 408 by omega)) ?_
      exact g_wk ok [(0, (5, 0, 0)), (1, (27, 0, x1)), (2, (28, 0, x2)), (3, (125, 0, x3)), (4, (0, (g32 (x4 + 6)), 0))] ⟨rfl, rfl, rfl, rfl, rfl, trivial⟩ (hl23 (x1, x2, x3, (g32 (x4 + 6)), s100))
    refine g_ite (fun hq => g_tsw ok (c := 24) (by omega) rfl rfl ?_) (fun hq25 => ?_)
    · refine g_rb gs_511 44 (cd' := gb_511_1135) rfl rfl ?_
      refine g_aload_n ok rfl rfl ?_
      refine g_aload_n ok rfl rfl ?_
      refine g_iload ok rfl ?_
      refine g_iconst ok (v := 1) rfl ?_
      refine g_iadd ok ?_
      refine g_sld ok hSL hsc (fun _ _ => ?_)
      refine g_aload_n ok rfl rfl ?_
      refine g_cs1 ok (me_297 hX) rfl (gcal_s rfl (show cs + 0 + 1 ≤ 601024 by omega) (show ss + 0 + 6 ≤ 7293034 by omega)) rfl (t_297 ok hX _ x1 (sc ((g32 (x4 + 1)) : Int).toNat) x3 s) (fun v104 s103 => ?_)
      refine g_istore ok rfl (L' := [(0, (5, 0, 0)), (1, (27, 0, x1)), (2, (28, 0, x2)), (3, (125, 0, x3)), (4, (0, x4, 0)), (5, (0, v104, 0))]) rfl ?_
      refine g_aload_n ok rfl rfl ?_
      refine g_aload_n ok rfl rfl ?_
      refine g_iload ok rfl ?_
      refine g_iconst ok (v := 1) rfl ?_
      refine g_iadd ok ?_
      refine g_sld ok hSL hsc (fun _ _ => ?_)
      refine g_cv1 ok (me_235 hX) rfl rfl (gcal_s rfl (show cs + 1 + 0 ≤ 601024 by omega) (show ss + 6 + 0 ≤ 7293034 by omega)) rfl (t_235 ok hX _ x2 (sc ((g32 (x4 + 1)) : Int).toNat) s103) (fun v106 s105 => ?_)
      refine g_istore ok rfl (L' := [(0, (5, 0, 0)), (1, (27, 0, x1)), (2, (28, 0, x2)), (3, (125, 0, x3)), (4, (0, x4, 0)), (5, (0, v104, 0)), (6, (0, v106, 0))]) rfl ?_
      refine g_goto ok rfl ?_
      refine g_rb gs_511 109 (cd' := gb_511_1859) rfl rfl ?_
      refine g_iinc ok rfl rfl (L' := [(0, (5, 0, 0)), (1, (27, 0, x1)), (2, (28, 0, x2)), (3, (125, 0, x3)), (4, (0, (g32 (x4 + 6)), 0)), (5, (0, v104, 0)), (6, (0, v106, 0))]) rfl ?_
      refine g_goto ok rfl ?_
      refine g_wd ok (cs' := cs + 4) (ss' := ss + 408) (Nat.ble_eq.mpr (show cs + 1 ≤ cs + 4 by omega)) (Nat.ble_eq.mpr (show ss + 6 ≤ ss + 408 by omega)) ?_
      exact g_wk ok [(0, (5, 0, 0)), (1, (27, 0, x1)), (2, (28, 0, x2)), (3, (125, 0, x3)), (4, (0, (g32 (x4 + 6)), 0))] ⟨rfl, rfl, rfl, rfl, rfl, trivial⟩ (hl23 (x1, x2, x3, (g32 (x4 + 6)), s105))
    refine g_ite (fun hq => g_tsw ok (c := 25) (by omega) rfl rfl ?_) (fun hq26 => ?_)
    · refine g_rb gs_511 45 (cd' := gb_511_1163) rfl rfl ?_
      refine g_aload_n ok rfl rfl ?_
      refine g_aload_n ok rfl rfl ?_
      refine g_iload ok rfl ?_
      refine g_iconst ok (v := 1) rfl ?_
      refine g_iadd ok ?_
      refine g_sld ok hSL hsc (fun _ _ => ?_)
      refine g_aload_n ok rfl rfl ?_
      refine g_iload ok rfl ?_
      refine g_iconst ok (v := 2) rfl ?_
      refine g_iadd ok ?_
      refine g_sld ok hSL hsc (fun _ _ => ?_)
      refine g_if_eq ok rfl (fun _ => ?_) (fun _ => ?_)
      · refine g_rb gs_511 47 (cd' := gb_511_1183) rfl rfl ?_
        refine g_iconst ok (v := 0) rfl ?_
        exact g_wk ok [(0, (5, 0, 0)), (1, (27, 0, x1)), (2, (28, 0, x2)), (3, (125, 0, x3)), (4, (0, x4, 0))] ⟨rfl, rfl, rfl, rfl, rfl, trivial⟩ (tb_511_1184 ok hX d hSL hsc hcs hss hl23 hr23 x1 x2 x3 x4 0 (sc ((g32 (x4 + 1)) : Int).toNat) x1 s)
      · refine g_rb gs_511 46 (cd' := gb_511_1179) rfl rfl ?_
        refine g_iconst ok (v := 1) rfl ?_
        refine g_goto ok rfl ?_
        exact g_wk ok [(0, (5, 0, 0)), (1, (27, 0, x1)), (2, (28, 0, x2)), (3, (125, 0, x3)), (4, (0, x4, 0))] ⟨rfl, rfl, rfl, rfl, rfl, trivial⟩ (tb_511_1184 ok hX d hSL hsc hcs hss hl23 hr23 x1 x2 x3 x4 1 (sc ((g32 (x4 + 1)) : Int).toNat) x1 s)
    refine g_ite (fun hq => g_tsw ok (c := 26) (by omega) rfl rfl ?_) (fun hq27 => ?_)
    · refine g_rb gs_511 52 (cd' := gb_511_1219) rfl rfl ?_
      refine g_aload_n ok rfl rfl ?_
      refine g_aload_n ok rfl rfl ?_
      refine g_iload ok rfl ?_
      refine g_iconst ok (v := 1) rfl ?_
      refine g_iadd ok ?_
      refine g_sld ok hSL hsc (fun _ _ => ?_)
      refine g_aload_n ok rfl rfl ?_
      refine g_cs1 ok (me_299 hX) rfl (gcal_s rfl (show cs + 0 + 1 ≤ 601024 by omega) (show ss + 0 + 6 ≤ 7293034 by omega)) rfl (t_299 ok hX _ x1 (sc ((g32 (x4 + 1)) : Int).toNat) x3 s) (fun v112 s111 => ?_)
      refine g_istore ok rfl (L' := [(0, (5, 0, 0)), (1, (27, 0, x1)), (2, (28, 0, x2)), (3, (125, 0, x3)), (4, (0, x4, 0)), (5, (0, v112, 0))]) rfl ?_
      refine g_aload_n ok rfl rfl ?_
      refine g_aload_n ok rfl rfl ?_
      refine g_iload ok rfl ?_
      refine g_iconst ok (v := 1) rfl ?_
      refine g_iadd ok ?_
      refine g_sld ok hSL hsc (fun _ _ => ?_)
      refine g_cv1 ok (me_237 hX) rfl rfl (gcal_s rfl (show cs + 1 + 0 ≤ 601024 by omega) (show ss + 6 + 0 ≤ 7293034 by omega)) rfl (t_237 ok hX _ x2 (sc ((g32 (x4 + 1)) : Int).toNat) s111) (fun v114 s113 => ?_)
      refine g_istore ok rfl (L' := [(0, (5, 0, 0)), (1, (27, 0, x1)), (2, (28, 0, x2)), (3, (125, 0, x3)), (4, (0, x4, 0)), (5, (0, v112, 0)), (6, (0, v114, 0))]) rfl ?_
      refine g_goto ok rfl ?_
      refine g_rb gs_511 109 (cd' := gb_511_1859) rfl rfl ?_
      refine g_iinc ok rfl rfl (L' := [(0, (5, 0, 0)), (1, (27, 0, x1)), (2, (28, 0, x2)), (3, (125, 0, x3)), (4, (0, (g32 (x4 + 6)), 0)), (5, (0, v112, 0)), (6, (0, v114, 0))]) rfl ?_
      refine g_goto ok rfl ?_
      refine g_wd ok (cs' := cs + 4) (ss' := ss + 408) (Nat.ble_eq.mpr (show cs + 1 ≤ cs + 4 by omega)) (Nat.ble_eq.mpr (show ss + 6 ≤ ss + 408 by omega)) ?_
      exact g_wk ok [(0, (5, 0, 0)), (1, (27, 0, x1)), (2, (28, 0, x2)), (3, (125, 0, x3)), (4, (0, (g32 (x4 + 6)), 0))] ⟨rfl, rfl, rfl, rfl, rfl, trivial⟩ (hl23 (x1, x2, x3, (g32 (x4 + 6)), s113))
    refine g_ite (fun hq => g_tsw ok (c := 27) (by omega) rfl rfl ?_) (fun hq28 => ?_)
    · refine g_rb gs_511 53 (cd' := gb_511_1247) rfl rfl ?_
      refine g_aload_n ok rfl rfl ?_
      refine g_aload_n ok rfl rfl ?_
      refine g_iload ok rfl ?_
      refine g_iconst ok (v := 1) rfl ?_
      refine g_iadd ok ?_
      refine g_sld ok hSL hsc (fun _ _ => ?_)
      refine g_if_eq ok rfl (fun _ => ?_) (fun _ => ?_)
      · refine g_rb gs_511 55 (cd' := gb_511_1261) rfl rfl ?_
        refine g_iconst ok (v := 0) rfl ?_
        exact g_wk ok [(0, (5, 0, 0)), (1, (27, 0, x1)), (2, (28, 0, x2)), (3, (125, 0, x3)), (4, (0, x4, 0))] ⟨rfl, rfl, rfl, rfl, rfl, trivial⟩ (tb_511_1262 ok hX d hSL hsc hcs hss hl23 hr23 x1 x2 x3 x4 0 x1 s)
      · refine g_rb gs_511 54 (cd' := gb_511_1257) rfl rfl ?_
        refine g_iconst ok (v := 1) rfl ?_
        refine g_goto ok rfl ?_
        exact g_wk ok [(0, (5, 0, 0)), (1, (27, 0, x1)), (2, (28, 0, x2)), (3, (125, 0, x3)), (4, (0, x4, 0))] ⟨rfl, rfl, rfl, rfl, rfl, trivial⟩ (tb_511_1262 ok hX d hSL hsc hcs hss hl23 hr23 x1 x2 x3 x4 1 x1 s)
    refine g_ite (fun hq => g_tsw ok (c := 28) (by omega) rfl rfl ?_) (fun hq29 => ?_)
    · refine g_rb gs_511 60 (cd' := gb_511_1291) rfl rfl ?_
      refine g_aload_n ok rfl rfl ?_
      refine g_aload_n ok rfl rfl ?_
      refine g_cs1 ok (me_301 hX) rfl (gcal_s rfl (show cs + 0 + 1 ≤ 601024 by omega) (show ss + 0 + 6 ≤ 7293034 by omega)) rfl (t_301 ok hX _ x1 x3 s) (fun v120 s119 => ?_)
      refine g_istore ok rfl (L' := [(0, (5, 0, 0)), (1, (27, 0, x1)), (2, (28, 0, x2)), (3, (125, 0, x3)), (4, (0, x4, 0)), (5, (0, v120, 0))]) rfl ?_
      refine g_aload_n ok rfl rfl ?_
      refine g_cv1 ok (me_240 hX) rfl rfl (gcal_s rfl (show cs + 1 + 0 ≤ 601024 by omega) (show ss + 6 + 0 ≤ 7293034 by omega)) rfl (t_240 ok hX _ x2 s119) (fun v122 s121 => ?_)
      refine g_istore ok rfl (L' := [(0, (5, 0, 0)), (1, (27, 0, x1)), (2, (28, 0, x2)), (3, (125, 0, x3)), (4, (0, x4, 0)), (5, (0, v120, 0)), (6, (0, v122, 0))]) rfl ?_
      refine g_goto ok rfl ?_
      refine g_rb gs_511 109 (cd' := gb_511_1859) rfl rfl ?_
      refine g_iinc ok rfl rfl (L' := [(0, (5, 0, 0)), (1, (27, 0, x1)), (2, (28, 0, x2)), (3, (125, 0, x3)), (4, (0, (g32 (x4 + 6)), 0)), (5, (0, v120, 0)), (6, (0, v122, 0))]) rfl ?_
      refine g_goto ok rfl ?_
      refine g_wd ok (cs' := cs + 4) (ss' := ss + 408) (Nat.ble_eq.mpr (show cs + 1 ≤ cs + 4 by omega)) (Nat.ble_eq.mpr (show ss + 6 ≤ ss + 408 by omega)) ?_
      exact g_wk ok [(0, (5, 0, 0)), (1, (27, 0, x1)), (2, (28, 0, x2)), (3, (125, 0, x3)), (4, (0, (g32 (x4 + 6)), 0))] ⟨rfl, rfl, rfl, rfl, rfl, trivial⟩ (hl23 (x1, x2, x3, (g32 (x4 + 6)), s121))
    refine g_ite (fun hq => g_tsw ok (c := 29) (by omega) rfl rfl ?_) (fun hq30 => ?_)
    · refine g_rb gs_511 61 (cd' := gb_511_1307) rfl rfl ?_
      refine g_aload_n ok rfl rfl ?_
      refine g_aload_n ok rfl rfl ?_
      refine g_iload ok rfl ?_
      refine g_iconst ok (v := 1) rfl ?_
      refine g_iadd ok ?_
      refine g_sld ok hSL hsc (fun _ _ => ?_)
      refine g_aload_n ok rfl rfl ?_
      refine g_iload ok rfl ?_
      refine g_iconst ok (v := 2) rfl ?_
      refine g_iadd ok ?_
      refine g_sld ok hSL hsc (fun _ _ => ?_)
      refine g_aload_n ok rfl rfl ?_
      refine g_cs1 ok (me_302 hX) rfl (gcal_s rfl (show cs + 0 + 2 ≤ 601024 by omega) (show ss + 0 + 12 ≤ 7293034 by omega)) rfl (t_302 ok hX _ x1 (sc ((g32 (x4 + 1)) : Int).toNat) (sc ((g32 (x4 + 2)) : Int).toNat) x3 s) (fun v124 s123 => ?_)
      refine g_istore ok rfl (L' := [(0, (5, 0, 0)), (1, (27, 0, x1)), (2, (28, 0, x2)), (3, (125, 0, x3)), (4, (0, x4, 0)), (5, (0, v124, 0))]) rfl ?_
      refine g_aload_n ok rfl rfl ?_
      refine g_aload_n ok rfl rfl ?_
      refine g_iload ok rfl ?_
      refine g_iconst ok (v := 1) rfl ?_
      refine g_iadd ok ?_
      refine g_sld ok hSL hsc (fun _ _ => ?_)
      refine g_aload_n ok rfl rfl ?_
      refine g_iload ok rfl ?_
      refine g_iconst ok (v := 2) rfl ?_
      refine g_iadd ok ?_
      refine g_sld ok hSL hsc (fun _ _ => ?_)
      refine g_cv1 ok (me_243 hX) rfl rfl (gcal_s rfl (show cs + 2 + 0 ≤ 601024 by omega) (show ss + 12 + 0 ≤ 7293034 by omega)) rfl (t_243 ok hX _ x2 (sc ((g32 (x4 + 1)) : Int).toNat) (sc ((g32 (x4 + 2)) : Int).toNat) s123) (fun v126 s125 => ?_)
      refine g_istore ok rfl (L' := [(0, (5, 0, 0)), (1, (27, 0, x1)), (2, (28, 0, x2)), (3, (125, 0, x3)), (4, (0, x4, 0)), (5, (0, v124, 0)), (6, (0, v126, 0))]) rfl ?_
      refine g_goto ok rfl ?_
      refine g_rb gs_511 109 (cd' := gb_511_1859) rfl rfl ?_
      refine g_iinc ok rfl rfl (L' := [(0, (5, 0, 0)), (1, (27, 0, x1)), (2, (28, 0, x2)), (3, (125, 0, x3)), (4, (0, (g32 (x4 + 6)), 0)), (5, (0, v124, 0)), (6, (0, v126, 0))]) rfl ?_
      refine g_goto ok rfl ?_
      refine g_wd ok (cs' := cs + 4) (ss' := ss + 408) (Nat.ble_eq.mpr (show cs + 2 ≤ cs + 4 by omega)) (Nat.ble_eq.mpr (show ss + 12 ≤ ss + 408 by omega)) ?_
      exact g_wk ok [(0, (5, 0, 0)), (1, (27, 0, x1)), (2, (28, 0, x2)), (3, (125, 0, x3)), (4, (0, (g32 (x4 + 6)), 0))] ⟨rfl, rfl, rfl, rfl, rfl, trivial⟩ (hl23 (x1, x2, x3, (g32 (x4 + 6)), s125))
    refine g_ite (fun hq => g_tsw ok (c := 30) (by omega) rfl rfl ?_) (fun hq31 => ?_)
    · refine g_rb gs_511 62 (cd' := gb_511_1347) rfl rfl ?_
      refine g_aload_n ok rfl rfl ?_
      refine g_aload_n ok rfl rfl ?_
      refine g_iload ok rfl ?_
      refine g_iconst ok (v := 1) rfl ?_
      refine g_iadd ok ?_
      refine g_sld ok hSL hsc (fun _ _ => ?_)
      refine g_aload_n ok rfl rfl ?_
      refine g_iload ok rfl ?_
      refine g_iconst ok (v := 2) rfl ?_
      refine g_iadd ok ?_
      refine g_sld ok hSL hsc (fun _ _ => ?_)
      refine g_aload_n ok rfl rfl ?_
      refine g_cs1 ok (me_303 hX) rfl (gcal_s rfl (show cs + 0 + 2 ≤ 601024 by omega) (show ss + 0 + 12 ≤ 7293034 by omega)) rfl (t_303 ok hX _ x1 (sc ((g32 (x4 + 1)) : Int).toNat) (sc ((g32 (x4 + 2)) : Int).toNat) x3 s) (fun v128 s127 => ?_)
      refine g_istore ok rfl (L' := [(0, (5, 0, 0)), (1, (27, 0, x1)), (2, (28, 0, x2)), (3, (125, 0, x3)), (4, (0, x4, 0)), (5, (0, v128, 0))]) rfl ?_
      refine g_aload_n ok rfl rfl ?_
      refine g_aload_n ok rfl rfl ?_
      refine g_iload ok rfl ?_
      refine g_iconst ok (v := 1) rfl ?_
      refine g_iadd ok ?_
      refine g_sld ok hSL hsc (fun _ _ => ?_)
      refine g_aload_n ok rfl rfl ?_
      refine g_iload ok rfl ?_
      refine g_iconst ok (v := 2) rfl ?_
      refine g_iadd ok ?_
      refine g_sld ok hSL hsc (fun _ _ => ?_)
      refine g_cv1 ok (me_244 hX) rfl rfl (gcal_s rfl (show cs + 2 + 0 ≤ 601024 by omega) (show ss + 12 + 0 ≤ 7293034 by omega)) rfl (t_244 ok hX _ x2 (sc ((g32 (x4 + 1)) : Int).toNat) (sc ((g32 (x4 + 2)) : Int).toNat) s127) (fun v130 s129 => ?_)
      refine g_istore ok rfl (L' := [(0, (5, 0, 0)), (1, (27, 0, x1)), (2, (28, 0, x2)), (3, (125, 0, x3)), (4, (0, x4, 0)), (5, (0, v128, 0)), (6, (0, v130, 0))]) rfl ?_
      refine g_goto ok rfl ?_
      refine g_rb gs_511 109 (cd' := gb_511_1859) rfl rfl ?_
      refine g_iinc ok rfl rfl (L' := [(0, (5, 0, 0)), (1, (27, 0, x1)), (2, (28, 0, x2)), (3, (125, 0, x3)), (4, (0, (g32 (x4 + 6)), 0)), (5, (0, v128, 0)), (6, (0, v130, 0))]) rfl ?_
      refine g_goto ok rfl ?_
      refine g_wd ok (cs' := cs + 4) (ss' := ss + 408) (Nat.ble_eq.mpr (show cs + 2 ≤ cs + 4 by omega)) (Nat.ble_eq.mpr (show ss + 12 ≤ ss + 408 by omega)) ?_
      exact g_wk ok [(0, (5, 0, 0)), (1, (27, 0, x1)), (2, (28, 0, x2)), (3, (125, 0, x3)), (4, (0, (g32 (x4 + 6)), 0))] ⟨rfl, rfl, rfl, rfl, rfl, trivial⟩ (hl23 (x1, x2, x3, (g32 (x4 + 6)), s129))
    refine g_ite (fun hq => g_tsw ok (c := 31) (by omega) rfl rfl ?_) (fun hq32 => ?_)
    · refine g_rb gs_511 63 (cd' := gb_511_1387) rfl rfl ?_
      refine g_aload_n ok rfl rfl ?_
      refine g_aload_n ok rfl rfl ?_
      refine g_iload ok rfl ?_
      refine g_iconst ok (v := 1) rfl ?_
      refine g_iadd ok ?_
      refine g_sld ok hSL hsc (fun _ _ => ?_)
      refine g_if_eq ok rfl (fun _ => ?_) (fun _ => ?_)
      · refine g_rb gs_511 65 (cd' := gb_511_1401) rfl rfl ?_
        refine g_iconst ok (v := 0) rfl ?_
        exact g_wk ok [(0, (5, 0, 0)), (1, (27, 0, x1)), (2, (28, 0, x2)), (3, (125, 0, x3)), (4, (0, x4, 0))] ⟨rfl, rfl, rfl, rfl, rfl, trivial⟩ (tb_511_1402 ok hX d hSL hsc hcs hss hl23 hr23 x1 x2 x3 x4 0 x1 s)
      · refine g_rb gs_511 64 (cd' := gb_511_1397) rfl rfl ?_
        refine g_iconst ok (v := 1) rfl ?_
        refine g_goto ok rfl ?_
        exact g_wk ok [(0, (5, 0, 0)), (1, (27, 0, x1)), (2, (28, 0, x2)), (3, (125, 0, x3)), (4, (0, x4, 0))] ⟨rfl, rfl, rfl, rfl, rfl, trivial⟩ (tb_511_1402 ok hX d hSL hsc hcs hss hl23 hr23 x1 x2 x3 x4 1 x1 s)
    refine g_ite (fun hq => g_tsw ok (c := 32) (by omega) rfl rfl ?_) (fun hq33 => ?_)
    · refine g_rb gs_511 70 (cd' := gb_511_1428) rfl rfl ?_
      refine g_aload_n ok rfl rfl ?_
      refine g_aload_n ok rfl rfl ?_
      refine g_iload ok rfl ?_
      refine g_iconst ok (v := 1) rfl ?_
      refine g_iadd ok ?_
      refine g_sld ok hSL hsc (fun _ _ => ?_)
      refine g_aload_n ok rfl rfl ?_
      refine g_cs1 ok (me_304 hX) rfl (gcal_s rfl (show cs + 0 + 1 ≤ 601024 by omega) (show ss + 0 + 6 ≤ 7293034 by omega)) rfl (t_304 ok hX _ x1 (sc ((g32 (x4 + 1)) : Int).toNat) x3 s) (fun v136 s135 => ?_)
      refine g_istore ok rfl (L' := [(0, (5, 0, 0)), (1, (27, 0, x1)), (2, (28, 0, x2)), (3, (125, 0, x3)), (4, (0, x4, 0)), (5, (0, v136, 0))]) rfl ?_
      refine g_aload_n ok rfl rfl ?_
      refine g_aload_n ok rfl rfl ?_
      refine g_iload ok rfl ?_
      refine g_iconst ok (v := 1) rfl ?_
      refine g_iadd ok ?_
      refine g_sld ok hSL hsc (fun _ _ => ?_)
      refine g_cv1 ok (me_247 hX) rfl rfl (gcal_s rfl (show cs + 1 + 0 ≤ 601024 by omega) (show ss + 6 + 0 ≤ 7293034 by omega)) rfl (t_247 ok hX _ x2 (sc ((g32 (x4 + 1)) : Int).toNat) s135) (fun v138 s137 => ?_)
      refine g_istore ok rfl (L' := [(0, (5, 0, 0)), (1, (27, 0, x1)), (2, (28, 0, x2)), (3, (125, 0, x3)), (4, (0, x4, 0)), (5, (0, v136, 0)), (6, (0, v138, 0))]) rfl ?_
      refine g_goto ok rfl ?_
      refine g_rb gs_511 109 (cd' := gb_511_1859) rfl rfl ?_
      refine g_iinc ok rfl rfl (L' := [(0, (5, 0, 0)), (1, (27, 0, x1)), (2, (28, 0, x2)), (3, (125, 0, x3)), (4, (0, (g32 (x4 + 6)), 0)), (5, (0, v136, 0)), (6, (0, v138, 0))]) rfl ?_
      refine g_goto ok rfl ?_
      refine g_wd ok (cs' := cs + 4) (ss' := ss + 408) (Nat.ble_eq.mpr (show cs + 1 ≤ cs + 4 by omega)) (Nat.ble_eq.mpr (show ss + 6 ≤ ss + 408 by omega)) ?_
      exact g_wk ok [(0, (5, 0, 0)), (1, (27, 0, x1)), (2, (28, 0, x2)), (3, (125, 0, x3)), (4, (0, (g32 (x4 + 6)), 0))] ⟨rfl, rfl, rfl, rfl, rfl, trivial⟩ (hl23 (x1, x2, x3, (g32 (x4 + 6)), s137))
    refine g_ite (fun hq => g_tsw ok (c := 33) (by omega) rfl rfl ?_) (fun hq34 => ?_)
    · refine g_rb gs_511 71 (cd' := gb_511_1456) rfl rfl ?_
      refine g_aload_n ok rfl rfl ?_
      refine g_cv1 ok (me_120 hX) rfl rfl (gcal_s rfl (show cs + 0 + 0 ≤ 601024 by omega) (show ss + 0 + 0 ≤ 7293034 by omega)) rfl (t_120 ok hX _ x1 s) (fun v140 s139 => ?_)
      refine g_pop ok rfl ?_
      refine g_aload_n ok rfl rfl ?_
      refine g_cv1 ok (me_248 hX) rfl rfl (gcal_s rfl (show cs + 0 + 0 ≤ 601024 by omega) (show ss + 0 + 0 ≤ 7293034 by omega)) rfl (t_248 ok hX _ x2 s139) (fun v142 s141 => ?_)
      refine g_pop ok rfl ?_
      refine g_goto ok rfl ?_
      refine g_rb gs_511 109 (cd' := gb_511_1859) rfl rfl ?_
      refine g_iinc ok rfl rfl (L' := [(0, (5, 0, 0)), (1, (27, 0, x1)), (2, (28, 0, x2)), (3, (125, 0, x3)), (4, (0, (g32 (x4 + 6)), 0))]) rfl ?_
      refine g_goto ok rfl ?_
      refine g_wd ok (cs' := cs + 4) (ss' := ss + 408) (Nat.ble_eq.mpr (show cs + 0 ≤ cs + 4 by omega)) (Nat.ble_eq.mpr (show ss + 0 ≤ ss + 408 by omega)) ?_
      exact g_wk ok [(0, (5, 0, 0)), (1, (27, 0, x1)), (2, (28, 0, x2)), (3, (125, 0, x3)), (4, (0, (g32 (x4 + 6)), 0))] ⟨rfl, rfl, rfl, rfl, rfl, trivial⟩ (hl23 (x1, x2, x3, (g32 (x4 + 6)), s141))
    refine g_ite (fun hq => g_tsw ok (c := 34) (by omega) rfl rfl ?_) (fun hq35 => ?_)
    · refine g_rb gs_511 72 (cd' := gb_511_1469) rfl rfl ?_
      refine g_aload_n ok rfl rfl ?_
      refine g_cv1 ok (me_121 hX) rfl rfl (gcal_s rfl (show cs + 0 + 0 ≤ 601024 by omega) (show ss + 0 + 0 ≤ 7293034 by omega)) rfl (t_121 ok hX _ x1 s) (fun v144 s143 => ?_)
      refine g_pop ok rfl ?_
      refine g_aload_n ok rfl rfl ?_
      refine g_cv1 ok (me_249 hX) rfl rfl (gcal_s rfl (show cs + 0 + 0 ≤ 601024 by omega) (show ss + 0 + 0 ≤ 7293034 by omega)) rfl (t_249 ok hX _ x2 s143) (fun v146 s145 => ?_)
      refine g_pop ok rfl ?_
      refine g_goto ok rfl ?_
      refine g_rb gs_511 109 (cd' := gb_511_1859) rfl rfl ?_
      refine g_iinc ok rfl rfl (L' := [(0, (5, 0, 0)), (1, (27, 0, x1)), (2, (28, 0, x2)), (3, (125, 0, x3)), (4, (0, (g32 (x4 + 6)), 0))]) rfl ?_
      refine g_goto ok rfl ?_
      refine g_wd ok (cs' := cs + 4) (ss' := ss + 408) (Nat.ble_eq.mpr (show cs + 0 ≤ cs + 4 by omega)) (Nat.ble_eq.mpr (show ss + 0 ≤ ss + 408 by omega)) ?_
      exact g_wk ok [(0, (5, 0, 0)), (1, (27, 0, x1)), (2, (28, 0, x2)), (3, (125, 0, x3)), (4, (0, (g32 (x4 + 6)), 0))] ⟨rfl, rfl, rfl, rfl, rfl, trivial⟩ (hl23 (x1, x2, x3, (g32 (x4 + 6)), s145))
    refine g_ite (fun hq => g_tsw ok (c := 35) (by omega) rfl rfl ?_) (fun hq36 => ?_)
    · refine g_rb gs_511 73 (cd' := gb_511_1482) rfl rfl ?_
      refine g_aload_n ok rfl rfl ?_
      refine g_aload_n ok rfl rfl ?_
      refine g_iload ok rfl ?_
      refine g_iconst ok (v := 1) rfl ?_
      refine g_iadd ok ?_
      refine g_sld ok hSL hsc (fun _ _ => ?_)
      refine g_aload_n ok rfl rfl ?_
      refine g_cs1 ok (me_305 hX) rfl (gcal_s rfl (show cs + 0 + 1 ≤ 601024 by omega) (show ss + 0 + 6 ≤ 7293034 by omega)) rfl (t_305 ok hX _ x1 (sc ((g32 (x4 + 1)) : Int).toNat) x3 s) (fun v148 s147 => ?_)
      refine g_istore ok rfl (L' := [(0, (5, 0, 0)), (1, (27, 0, x1)), (2, (28, 0, x2)), (3, (125, 0, x3)), (4, (0, x4, 0)), (5, (0, v148, 0))]) rfl ?_
      refine g_aload_n ok rfl rfl ?_
      refine g_aload_n ok rfl rfl ?_
      refine g_iload ok rfl ?_
      refine g_iconst ok (v := 1) rfl ?_
      refine g_iadd ok ?_
      refine g_sld ok hSL hsc (fun _ _ => ?_)
      refine g_cv1 ok (me_250 hX) rfl rfl (gcal_s rfl (show cs + 1 + 0 ≤ 601024 by omega) (show ss + 6 + 0 ≤ 7293034 by omega)) rfl (t_250 ok hX _ x2 (sc ((g32 (x4 + 1)) : Int).toNat) s147) (fun v150 s149 => ?_)
      refine g_istore ok rfl (L' := [(0, (5, 0, 0)), (1, (27, 0, x1)), (2, (28, 0, x2)), (3, (125, 0, x3)), (4, (0, x4, 0)), (5, (0, v148, 0)), (6, (0, v150, 0))]) rfl ?_
      refine g_goto ok rfl ?_
      refine g_rb gs_511 109 (cd' := gb_511_1859) rfl rfl ?_
      refine g_iinc ok rfl rfl (L' := [(0, (5, 0, 0)), (1, (27, 0, x1)), (2, (28, 0, x2)), (3, (125, 0, x3)), (4, (0, (g32 (x4 + 6)), 0)), (5, (0, v148, 0)), (6, (0, v150, 0))]) rfl ?_
      refine g_goto ok rfl ?_
      refine g_wd ok (cs' := cs + 4) (ss' := ss + 408) (Nat.ble_eq.mpr (show cs + 1 ≤ cs + 4 by omega)) (Nat.ble_eq.mpr (show ss + 6 ≤ ss + 408 by omega)) ?_
      exact g_wk ok [(0, (5, 0, 0)), (1, (27, 0, x1)), (2, (28, 0, x2)), (3, (125, 0, x3)), (4, (0, (g32 (x4 + 6)), 0))] ⟨rfl, rfl, rfl, rfl, rfl, trivial⟩ (hl23 (x1, x2, x3, (g32 (x4 + 6)), s149))
    refine g_ite (fun hq => g_tsw ok (c := 36) (by omega) rfl rfl ?_) (fun hq37 => ?_)
    · refine g_rb gs_511 74 (cd' := gb_511_1510) rfl rfl ?_
      refine g_aload_n ok rfl rfl ?_
      refine g_cv1 ok (me_123 hX) rfl rfl (gcal_s rfl (show cs + 0 + 0 ≤ 601024 by omega) (show ss + 0 + 0 ≤ 7293034 by omega)) rfl (t_123 ok hX _ x1 s) (fun v152 s151 => ?_)
      refine g_pop ok rfl ?_
      refine g_aload_n ok rfl rfl ?_
      refine g_cv1 ok (me_251 hX) rfl rfl (gcal_s rfl (show cs + 0 + 0 ≤ 601024 by omega) (show ss + 0 + 0 ≤ 7293034 by omega)) rfl (t_251 ok hX _ x2 s151) (fun v154 s153 => ?_)
      refine g_pop ok rfl ?_
      refine g_goto ok rfl ?_
      refine g_rb gs_511 109 (cd' := gb_511_1859) rfl rfl ?_
      refine g_iinc ok rfl rfl (L' := [(0, (5, 0, 0)), (1, (27, 0, x1)), (2, (28, 0, x2)), (3, (125, 0, x3)), (4, (0, (g32 (x4 + 6)), 0))]) rfl ?_
      refine g_goto ok rfl ?_
      refine g_wd ok (cs' := cs + 4) (ss' := ss + 408) (Nat.ble_eq.mpr (show cs + 0 ≤ cs + 4 by omega)) (Nat.ble_eq.mpr (show ss + 0 ≤ ss + 408 by omega)) ?_
      exact g_wk ok [(0, (5, 0, 0)), (1, (27, 0, x1)), (2, (28, 0, x2)), (3, (125, 0, x3)), (4, (0, (g32 (x4 + 6)), 0))] ⟨rfl, rfl, rfl, rfl, rfl, trivial⟩ (hl23 (x1, x2, x3, (g32 (x4 + 6)), s153))
    refine g_ite (fun hq => g_tsw ok (c := 37) (by omega) rfl rfl ?_) (fun hq38 => ?_)
    · refine g_rb gs_511 75 (cd' := gb_511_1523) rfl rfl ?_
      refine g_aload_n ok rfl rfl ?_
      refine g_aload_n ok rfl rfl ?_
      refine g_iload ok rfl ?_
      refine g_iconst ok (v := 1) rfl ?_
      refine g_iadd ok ?_
      refine g_sld ok hSL hsc (fun _ _ => ?_)
      refine g_if_eq ok rfl (fun _ => ?_) (fun _ => ?_)
      · refine g_rb gs_511 77 (cd' := gb_511_1537) rfl rfl ?_
        refine g_iconst ok (v := 0) rfl ?_
        exact g_wk ok [(0, (5, 0, 0)), (1, (27, 0, x1)), (2, (28, 0, x2)), (3, (125, 0, x3)), (4, (0, x4, 0))] ⟨rfl, rfl, rfl, rfl, rfl, trivial⟩ (tb_511_1538 ok hX d hSL hsc hcs hss hl23 hr23 x1 x2 x3 x4 0 x1 s)
      · refine g_rb gs_511 76 (cd' := gb_511_1533) rfl rfl ?_
        refine g_iconst ok (v := 1) rfl ?_
        refine g_goto ok rfl ?_
        exact g_wk ok [(0, (5, 0, 0)), (1, (27, 0, x1)), (2, (28, 0, x2)), (3, (125, 0, x3)), (4, (0, x4, 0))] ⟨rfl, rfl, rfl, rfl, rfl, trivial⟩ (tb_511_1538 ok hX d hSL hsc hcs hss hl23 hr23 x1 x2 x3 x4 1 x1 s)
    refine g_ite (fun hq => g_tsw ok (c := 38) (by omega) rfl rfl ?_) (fun hq39 => ?_)
    · refine g_rb gs_511 82 (cd' := gb_511_1564) rfl rfl ?_
      refine g_aload_n ok rfl rfl ?_
      refine g_aload_n ok rfl rfl ?_
      refine g_iload ok rfl ?_
      refine g_iconst ok (v := 1) rfl ?_
      refine g_iadd ok ?_
      refine g_sld ok hSL hsc (fun _ _ => ?_)
      refine g_aload_n ok rfl rfl ?_
      refine g_iload ok rfl ?_
      refine g_iconst ok (v := 2) rfl ?_
      refine g_iadd ok ?_
      refine g_sld ok hSL hsc (fun _ _ => ?_)
      refine g_if_eq ok rfl (fun _ => ?_) (fun _ => ?_)
      · refine g_rb gs_511 84 (cd' := gb_511_1584) rfl rfl ?_
        refine g_iconst ok (v := 0) rfl ?_
        exact g_wk ok [(0, (5, 0, 0)), (1, (27, 0, x1)), (2, (28, 0, x2)), (3, (125, 0, x3)), (4, (0, x4, 0))] ⟨rfl, rfl, rfl, rfl, rfl, trivial⟩ (tb_511_1585 ok hX d hSL hsc hcs hss hl23 hr23 x1 x2 x3 x4 0 (sc ((g32 (x4 + 1)) : Int).toNat) x1 s)
      · refine g_rb gs_511 83 (cd' := gb_511_1580) rfl rfl ?_
        refine g_iconst ok (v := 1) rfl ?_
        refine g_goto ok rfl ?_
        exact g_wk ok [(0, (5, 0, 0)), (1, (27, 0, x1)), (2, (28, 0, x2)), (3, (125, 0, x3)), (4, (0, x4, 0))] ⟨rfl, rfl, rfl, rfl, rfl, trivial⟩ (tb_511_1585 ok hX d hSL hsc hcs hss hl23 hr23 x1 x2 x3 x4 1 (sc ((g32 (x4 + 1)) : Int).toNat) x1 s)
    refine g_ite (fun hq => g_tsw ok (c := 39) (by omega) rfl rfl ?_) (fun hq40 => ?_)
    · refine g_rb gs_511 89 (cd' := gb_511_1620) rfl rfl ?_
      refine g_aload_n ok rfl rfl ?_
      refine g_aload_n ok rfl rfl ?_
      refine g_iload ok rfl ?_
      refine g_iconst ok (v := 1) rfl ?_
      refine g_iadd ok ?_
      refine g_sld ok hSL hsc (fun _ _ => ?_)
      refine g_aload_n ok rfl rfl ?_
      refine g_iload ok rfl ?_
      refine g_iconst ok (v := 2) rfl ?_
      refine g_iadd ok ?_
      refine g_sld ok hSL hsc (fun _ _ => ?_)
      refine g_if_eq ok rfl (fun _ => ?_) (fun _ => ?_)
      · refine g_rb gs_511 91 (cd' := gb_511_1640) rfl rfl ?_
        refine g_iconst ok (v := 0) rfl ?_
        exact g_wk ok [(0, (5, 0, 0)), (1, (27, 0, x1)), (2, (28, 0, x2)), (3, (125, 0, x3)), (4, (0, x4, 0))] ⟨rfl, rfl, rfl, rfl, rfl, trivial⟩ (tb_511_1641 ok hX d hSL hsc hcs hss hl23 hr23 x1 x2 x3 x4 0 (sc ((g32 (x4 + 1)) : Int).toNat) x1 s)
      · refine g_rb gs_511 90 (cd' := gb_511_1636) rfl rfl ?_
        refine g_iconst ok (v := 1) rfl ?_
        refine g_goto ok rfl ?_
        exact g_wk ok [(0, (5, 0, 0)), (1, (27, 0, x1)), (2, (28, 0, x2)), (3, (125, 0, x3)), (4, (0, x4, 0))] ⟨rfl, rfl, rfl, rfl, rfl, trivial⟩ (tb_511_1641 ok hX d hSL hsc hcs hss hl23 hr23 x1 x2 x3 x4 1 (sc ((g32 (x4 + 1)) : Int).toNat) x1 s)
    refine g_ite (fun hq => g_tsw ok (c := 40) (by omega) rfl rfl ?_) (fun hq41 => ?_)
    · refine g_rb gs_511 96 (cd' := gb_511_1676) rfl rfl ?_
      refine g_aload_n ok rfl rfl ?_
      refine g_aload_n ok rfl rfl ?_
      refine g_iload ok rfl ?_
      refine g_iconst ok (v := 1) rfl ?_
      refine g_iadd ok ?_
      refine g_sld ok hSL hsc (fun _ _ => ?_)
      refine g_aload_n ok rfl rfl ?_
      refine g_iload ok rfl ?_
      refine g_iconst ok (v := 2) rfl ?_
      refine g_iadd ok ?_
      refine g_sld ok hSL hsc (fun _ _ => ?_)
      refine g_if_eq ok rfl (fun _ => ?_) (fun _ => ?_)
      · refine g_rb gs_511 98 (cd' := gb_511_1696) rfl rfl ?_
        refine g_iconst ok (v := 0) rfl ?_
        exact g_wk ok [(0, (5, 0, 0)), (1, (27, 0, x1)), (2, (28, 0, x2)), (3, (125, 0, x3)), (4, (0, x4, 0))] ⟨rfl, rfl, rfl, rfl, rfl, trivial⟩ (tb_511_1697 ok hX d hSL hsc hcs hss hl23 hr23 x1 x2 x3 x4 0 (sc ((g32 (x4 + 1)) : Int).toNat) x1 s)
      · refine g_rb gs_511 97 (cd' := gb_511_1692) rfl rfl ?_
        refine g_iconst ok (v := 1) rfl ?_
        refine g_goto ok rfl ?_
        exact g_wk ok [(0, (5, 0, 0)), (1, (27, 0, x1)), (2, (28, 0, x2)), (3, (125, 0, x3)), (4, (0, x4, 0))] ⟨rfl, rfl, rfl, rfl, rfl, trivial⟩ (tb_511_1697 ok hX d hSL hsc hcs hss hl23 hr23 x1 x2 x3 x4 1 (sc ((g32 (x4 + 1)) : Int).toNat) x1 s)
    refine g_ite (fun hq => g_tsw ok (c := 41) (by omega) rfl rfl ?_) (fun hq42 => ?_)
    · refine g_rb gs_511 103 (cd' := gb_511_1732) rfl rfl ?_
      refine g_aload_n ok rfl rfl ?_
      refine g_aload_n ok rfl rfl ?_
      refine g_iload ok rfl ?_
      refine g_iconst ok (v := 1) rfl ?_
      refine g_iadd ok ?_
      refine g_sld ok hSL hsc (fun _ _ => ?_)
      refine g_aload_n ok rfl rfl ?_
      refine g_iload ok rfl ?_
      refine g_iconst ok (v := 2) rfl ?_
      refine g_iadd ok ?_
      refine g_sld ok hSL hsc (fun _ _ => ?_)
      refine g_aload_n ok rfl rfl ?_
      refine g_cs1 ok (me_309 hX) rfl (gcal_s rfl (show cs + 0 + 1 ≤ 601024 by omega) (show ss + 0 + 6 ≤ 7293034 by omega)) rfl (t_309 ok hX _ x1 (sc ((g32 (x4 + 1)) : Int).toNat) (sc ((g32 (x4 + 2)) : Int).toNat) x3 s) (fun v172 s171 => ?_)
      refine g_istore ok rfl (L' := [(0, (5, 0, 0)), (1, (27, 0, x1)), (2, (28, 0, x2)), (3, (125, 0, x3)), (4, (0, x4, 0)), (5, (0, v172, 0))]) rfl ?_
      refine g_aload_n ok rfl rfl ?_
      refine g_aload_n ok rfl rfl ?_
      refine g_iload ok rfl ?_
      refine g_iconst ok (v := 1) rfl ?_
      refine g_iadd ok ?_
      refine g_sld ok hSL hsc (fun _ _ => ?_)
      refine g_aload_n ok rfl rfl ?_
      refine g_iload ok rfl ?_
      refine g_iconst ok (v := 2) rfl ?_
      refine g_iadd ok ?_
      refine g_sld ok hSL hsc (fun _ _ => ?_)
      refine g_cv1 ok (me_258 hX) rfl rfl (gcal_s rfl (show cs + 1 + 0 ≤ 601024 by omega) (show ss + 6 + 0 ≤ 7293034 by omega)) rfl (t_258 ok hX _ x2 (sc ((g32 (x4 + 1)) : Int).toNat) (sc ((g32 (x4 + 2)) : Int).toNat) s171) (fun v174 s173 => ?_)
      refine g_istore ok rfl (L' := [(0, (5, 0, 0)), (1, (27, 0, x1)), (2, (28, 0, x2)), (3, (125, 0, x3)), (4, (0, x4, 0)), (5, (0, v172, 0)), (6, (0, v174, 0))]) rfl ?_
      refine g_goto ok rfl ?_
      refine g_rb gs_511 109 (cd' := gb_511_1859) rfl rfl ?_
      refine g_iinc ok rfl rfl (L' := [(0, (5, 0, 0)), (1, (27, 0, x1)), (2, (28, 0, x2)), (3, (125, 0, x3)), (4, (0, (g32 (x4 + 6)), 0)), (5, (0, v172, 0)), (6, (0, v174, 0))]) rfl ?_
      refine g_goto ok rfl ?_
      refine g_wd ok (cs' := cs + 4) (ss' := ss + 408) (Nat.ble_eq.mpr (show cs + 1 ≤ cs + 4 by omega)) (Nat.ble_eq.mpr (show ss + 6 ≤ ss + 408 by omega)) ?_
      exact g_wk ok [(0, (5, 0, 0)), (1, (27, 0, x1)), (2, (28, 0, x2)), (3, (125, 0, x3)), (4, (0, (g32 (x4 + 6)), 0))] ⟨rfl, rfl, rfl, rfl, rfl, trivial⟩ (hl23 (x1, x2, x3, (g32 (x4 + 6)), s173))
    refine g_ite (fun hq => g_tsw ok (c := 42) (by omega) rfl rfl ?_) (fun hq43 => ?_)
    · refine g_rb gs_511 104 (cd' := gb_511_1772) rfl rfl ?_
      refine g_aload_n ok rfl rfl ?_
      refine g_aload_n ok rfl rfl ?_
      refine g_iload ok rfl ?_
      refine g_iconst ok (v := 1) rfl ?_
      refine g_iadd ok ?_
      refine g_sld ok hSL hsc (fun _ _ => ?_)
      refine g_cv1 ok (me_129 hX) rfl rfl (gcal_s rfl (show cs + 0 + 0 ≤ 601024 by omega) (show ss + 0 + 0 ≤ 7293034 by omega)) rfl (t_129 ok hX _ x1 (sc ((g32 (x4 + 1)) : Int).toNat) s) (fun v176 s175 => ?_)
      refine g_pop ok rfl ?_
      refine g_aload_n ok rfl rfl ?_
      refine g_aload_n ok rfl rfl ?_
      refine g_iload ok rfl ?_
      refine g_iconst ok (v := 1) rfl ?_
      refine g_iadd ok ?_
      refine g_sld ok hSL hsc (fun _ _ => ?_)
      refine g_cv1 ok (me_259 hX) rfl rfl (gcal_s rfl (show cs + 0 + 0 ≤ 601024 by omega) (show ss + 0 + 0 ≤ 7293034 by omega)) rfl (t_259 ok hX _ x2 (sc ((g32 (x4 + 1)) : Int).toNat) s175) (fun v178 s177 => ?_)
      refine g_pop ok rfl ?_
      refine g_goto ok rfl ?_
      refine g_rb gs_511 109 (cd' := gb_511_1859) rfl rfl ?_
      refine g_iinc ok rfl rfl (L' := [(0, (5, 0, 0)), (1, (27, 0, x1)), (2, (28, 0, x2)), (3, (125, 0, x3)), (4, (0, (g32 (x4 + 6)), 0))]) rfl ?_
      refine g_goto ok rfl ?_
      refine g_wd ok (cs' := cs + 4) (ss' := ss + 408) (Nat.ble_eq.mpr (show cs + 0 ≤ cs + 4 by omega)) (Nat.ble_eq.mpr (show ss + 0 ≤ ss + 408 by omega)) ?_
      exact g_wk ok [(0, (5, 0, 0)), (1, (27, 0, x1)), (2, (28, 0, x2)), (3, (125, 0, x3)), (4, (0, (g32 (x4 + 6)), 0))] ⟨rfl, rfl, rfl, rfl, rfl, trivial⟩ (hl23 (x1, x2, x3, (g32 (x4 + 6)), s177))
    refine g_ite (fun hq => g_tsw ok (c := 43) (by omega) rfl rfl ?_) (fun hq44 => ?_)
    · refine g_rb gs_511 105 (cd' := gb_511_1797) rfl rfl ?_
      refine g_aload_n ok rfl rfl ?_
      refine g_cvz ok (me_130 hX) rfl rfl (gcal_s rfl (show cs + 0 + 0 ≤ 601024 by omega) (show ss + 0 + 0 ≤ 7293034 by omega)) rfl (t_130 ok hX _ x1 s) (fun v180 s179 hb181 => ?_)
      refine g_pop ok rfl ?_
      refine g_aload_n ok rfl rfl ?_
      refine g_cvz ok (me_260 hX) rfl rfl (gcal_s rfl (show cs + 0 + 0 ≤ 601024 by omega) (show ss + 0 + 0 ≤ 7293034 by omega)) rfl (t_260 ok hX _ x2 s179) (fun v183 s182 hb184 => ?_)
      refine g_pop ok rfl ?_
      refine g_goto ok rfl ?_
      refine g_rb gs_511 109 (cd' := gb_511_1859) rfl rfl ?_
      refine g_iinc ok rfl rfl (L' := [(0, (5, 0, 0)), (1, (27, 0, x1)), (2, (28, 0, x2)), (3, (125, 0, x3)), (4, (0, (g32 (x4 + 6)), 0))]) rfl ?_
      refine g_goto ok rfl ?_
      refine g_wd ok (cs' := cs + 4) (ss' := ss + 408) (Nat.ble_eq.mpr (show cs + 0 ≤ cs + 4 by omega)) (Nat.ble_eq.mpr (show ss + 0 ≤ ss + 408 by omega)) ?_
      exact g_wk ok [(0, (5, 0, 0)), (1, (27, 0, x1)), (2, (28, 0, x2)), (3, (125, 0, x3)), (4, (0, (g32 (x4 + 6)), 0))] ⟨rfl, rfl, rfl, rfl, rfl, trivial⟩ (hl23 (x1, x2, x3, (g32 (x4 + 6)), s182))
    refine g_ite (fun hq => g_tsw ok (c := 44) (by omega) rfl rfl ?_) (fun hq45 => ?_)
    · refine g_rb gs_511 106 (cd' := gb_511_1810) rfl rfl ?_
      refine g_aload_n ok rfl rfl ?_
      refine g_cv0 ok (me_131 hX) rfl rfl (gcal_s rfl (show cs + 0 + 0 ≤ 601024 by omega) (show ss + 0 + 0 ≤ 7293034 by omega)) (t_131 ok hX _ x1 s) (fun s185 => ?_)
      refine g_aload_n ok rfl rfl ?_
      refine g_cv0 ok (me_261 hX) rfl rfl (gcal_s rfl (show cs + 0 + 0 ≤ 601024 by omega) (show ss + 0 + 0 ≤ 7293034 by omega)) (t_261 ok hX _ x2 s185) (fun s187 => ?_)
      refine g_goto ok rfl ?_
      refine g_rb gs_511 109 (cd' := gb_511_1859) rfl rfl ?_
      refine g_iinc ok rfl rfl (L' := [(0, (5, 0, 0)), (1, (27, 0, x1)), (2, (28, 0, x2)), (3, (125, 0, x3)), (4, (0, (g32 (x4 + 6)), 0))]) rfl ?_
      refine g_goto ok rfl ?_
      refine g_wd ok (cs' := cs + 4) (ss' := ss + 408) (Nat.ble_eq.mpr (show cs + 0 ≤ cs + 4 by omega)) (Nat.ble_eq.mpr (show ss + 0 ≤ ss + 408 by omega)) ?_
      exact g_wk ok [(0, (5, 0, 0)), (1, (27, 0, x1)), (2, (28, 0, x2)), (3, (125, 0, x3)), (4, (0, (g32 (x4 + 6)), 0))] ⟨rfl, rfl, rfl, rfl, rfl, trivial⟩ (hl23 (x1, x2, x3, (g32 (x4 + 6)), s187))
    refine g_ite (fun hq => g_tsw ok (c := 45) (by omega) rfl rfl ?_) (fun hq46 => ?_)
    · refine g_rb gs_511 107 (cd' := gb_511_1821) rfl rfl ?_
      refine g_aload_n ok rfl rfl ?_
      refine g_cvz ok (me_132 hX) rfl rfl (gcal_s rfl (show cs + 0 + 0 ≤ 601024 by omega) (show ss + 0 + 0 ≤ 7293034 by omega)) rfl (t_132 ok hX _ x1 s) (fun v190 s189 hb191 => ?_)
      refine g_pop ok rfl ?_
      refine g_aload_n ok rfl rfl ?_
      refine g_cvz ok (me_262 hX) rfl rfl (gcal_s rfl (show cs + 0 + 0 ≤ 601024 by omega) (show ss + 0 + 0 ≤ 7293034 by omega)) rfl (t_262 ok hX _ x2 s189) (fun v193 s192 hb194 => ?_)
      refine g_pop ok rfl ?_
      refine g_goto ok rfl ?_
      refine g_rb gs_511 109 (cd' := gb_511_1859) rfl rfl ?_
      refine g_iinc ok rfl rfl (L' := [(0, (5, 0, 0)), (1, (27, 0, x1)), (2, (28, 0, x2)), (3, (125, 0, x3)), (4, (0, (g32 (x4 + 6)), 0))]) rfl ?_
      refine g_goto ok rfl ?_
      refine g_wd ok (cs' := cs + 4) (ss' := ss + 408) (Nat.ble_eq.mpr (show cs + 0 ≤ cs + 4 by omega)) (Nat.ble_eq.mpr (show ss + 0 ≤ ss + 408 by omega)) ?_
      exact g_wk ok [(0, (5, 0, 0)), (1, (27, 0, x1)), (2, (28, 0, x2)), (3, (125, 0, x3)), (4, (0, (g32 (x4 + 6)), 0))] ⟨rfl, rfl, rfl, rfl, rfl, trivial⟩ (hl23 (x1, x2, x3, (g32 (x4 + 6)), s192))
    refine g_ite (fun hq => g_tsw ok (c := 46) (by omega) rfl rfl ?_) (fun hq47 => ?_)
    · refine g_rb gs_511 108 (cd' := gb_511_1834) rfl rfl ?_
      refine g_aload_n ok rfl rfl ?_
      refine g_aload_n ok rfl rfl ?_
      refine g_iload ok rfl ?_
      refine g_iconst ok (v := 1) rfl ?_
      refine g_iadd ok ?_
      refine g_sld ok hSL hsc (fun _ _ => ?_)
      refine g_cv1 ok (me_133 hX) rfl rfl (gcal_s rfl (show cs + 0 + 0 ≤ 601024 by omega) (show ss + 0 + 0 ≤ 7293034 by omega)) rfl (t_133 ok hX _ x1 (sc ((g32 (x4 + 1)) : Int).toNat) s) (fun v196 s195 => ?_)
      refine g_pop ok rfl ?_
      refine g_aload_n ok rfl rfl ?_
      refine g_aload_n ok rfl rfl ?_
      refine g_iload ok rfl ?_
      refine g_iconst ok (v := 1) rfl ?_
      refine g_iadd ok ?_
      refine g_sld ok hSL hsc (fun _ _ => ?_)
      refine g_cv1 ok (me_263 hX) rfl rfl (gcal_s rfl (show cs + 0 + 0 ≤ 601024 by omega) (show ss + 0 + 0 ≤ 7293034 by omega)) rfl (t_263 ok hX _ x2 (sc ((g32 (x4 + 1)) : Int).toNat) s195) (fun v198 s197 => ?_)
      refine g_pop ok rfl ?_
      refine g_goto ok rfl ?_
      refine g_rb gs_511 109 (cd' := gb_511_1859) rfl rfl ?_
      refine g_iinc ok rfl rfl (L' := [(0, (5, 0, 0)), (1, (27, 0, x1)), (2, (28, 0, x2)), (3, (125, 0, x3)), (4, (0, (g32 (x4 + 6)), 0))]) rfl ?_
      refine g_goto ok rfl ?_
      refine g_wd ok (cs' := cs + 4) (ss' := ss + 408) (Nat.ble_eq.mpr (show cs + 0 ≤ cs + 4 by omega)) (Nat.ble_eq.mpr (show ss + 0 ≤ ss + 408 by omega)) ?_
      exact g_wk ok [(0, (5, 0, 0)), (1, (27, 0, x1)), (2, (28, 0, x2)), (3, (125, 0, x3)), (4, (0, (g32 (x4 + 6)), 0))] ⟨rfl, rfl, rfl, rfl, rfl, trivial⟩ (hl23 (x1, x2, x3, (g32 (x4 + 6)), s197))
    refine g_tswo ok (Or.inr (by omega)) rfl ?_
    refine g_rb gs_511 109 (cd' := gb_511_1859) rfl rfl ?_
    refine g_iinc ok rfl rfl (L' := [(0, (5, 0, 0)), (1, (27, 0, x1)), (2, (28, 0, x2)), (3, (125, 0, x3)), (4, (0, (g32 (x4 + 6)), 0))]) rfl ?_
    refine g_goto ok rfl ?_
    refine g_wd ok (cs' := cs + 4) (ss' := ss + 408) (Nat.ble_eq.mpr (show cs + 0 ≤ cs + 4 by omega)) (Nat.ble_eq.mpr (show ss + 0 ≤ ss + 408 by omega)) ?_
    exact g_wk ok [(0, (5, 0, 0)), (1, (27, 0, x1)), (2, (28, 0, x2)), (3, (125, 0, x3)), (4, (0, (g32 (x4 + 6)), 0))] ⟨rfl, rfl, rfl, rfl, rfl, trivial⟩ (hl23 (x1, x2, x3, (g32 (x4 + 6)), s))
