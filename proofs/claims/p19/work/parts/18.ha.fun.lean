noncomputable def gtx (a : Nat) : List Nat := match es_strs[a]? with
  | some q => es_bs q.2.2
  | none => []
noncomputable def gsl (a : Nat) : Int := ((gtx a).length : Int)
noncomputable def gsc (a : Nat) (j : Nat) : Int := ((gtx a).getD j 0 : Int)
noncomputable def f_268 (_a0 : Nat) (s : gS) : Option gO := some (1, 0, 0, s)
noncomputable def f_269 (_a0 : Nat) (s : gS) : Option gO := some (1, 1, 0, s)
noncomputable def f_266 (a0 : Nat) (s : gS) : Option gO := some (1, gshr (gsl a0) 0, 0, s)
noncomputable def f_275 (a0 a1 : Int) (s : gS) : Option gO := gchk a0 a1 (some (1, a0, 0, s))
noncomputable def f_270 (a0 a1 : Int) (s : gS) : Option gO := gchk a0 a1 (some (0, 0, 0, s))
noncomputable def f_271 (a0 : Nat) (a1 : Int) (s : gS) : Option gO := gchk a1 (gsl a0) (some (1, gi2c (gand (gsc a0 a1.toNat) 255), 0, s))
noncomputable def f_267 (a0 : Nat) (a1 : Int) (s : gS) : Option gO := gchk a1 (gsl a0) (some (1, gi2c (gand (gsc a0 a1.toNat) 255), 0, s))
noncomputable def f_274 (a0 : Nat) (a1 : Int) (s : gS) : Option gO := if a1 = 400 then none else gchk a1 400 (if gn s = 0 then none else some (1, 0, gn s, gcpy (gnw s (100 + 8 * a1.toNat)) a0 0 (gn s) 0 a1.toNat))
-- X0_copyFrom
noncomputable def f_1 (a0 : Nat) (a1 : Nat) (s : gS) : Option gO :=
  let s1 : gS := gcpy s (gR s a1 0) 0 (gR s a0 0) 0 8; let s2 : gS := gcpy s1 (gR s1 a1 1) 0 (gR s1 a0 1) 0 8; let s3 : gS := gcpy s2 (gR s2 a1 2) 0 (gR s2 a0 2) 0 8; let s4 : gS := gcpy s3 (gR s3 a1 3) 0 (gR s3 a0 3) 0 6; let s5 : gS := gcpy s4 (gR s4 a1 4) 0 (gR s4 a0 4) 0 6; let s6 : gS := gw s5 a0 5 (gI s5 a1 5); let s7 : gS := gw s6 a0 6 (gI s6 a1 6); let s8 : gS := gw s7 a0 7 (gI s7 a1 7); let s9 : gS := gw s8 a0 8 (gI s8 a1 8); let s10 : gS := gw s9 a0 9 (gI s9 a1 9); let s11 : gS := gw s10 a0 10 (gI s10 a1 10); let s12 : gS := gwr s11 a0 11 (gR s11 a1 11); some ((0, 0, 0, s12))
-- X0_addStep
noncomputable def f_2 (a0 : Nat) (a1 : Int) (a2 : Int) (a3 : Int) (s : gS) : Option gO :=
  if (gI s a0 5) < 8 then gchk (gI s a0 5) 8 (let s1 : gS := gw s (gR s a0 0) ((gI s a0 5) : Int).toNat a1; gchk (gI s1 a0 5) 8 (let s2 : gS := gw s1 (gR s1 a0 1) ((gI s1 a0 5) : Int).toNat a2; gchk (gI s2 a0 5) 8 (let s3 : gS := gw s2 (gR s2 a0 2) ((gI s2 a0 5) : Int).toNat a3; let s4 : gS := gw s3 a0 5 (g32 ((gI s3 a0 5) + 1)); some ((0, 0, 0, s4))))) else some ((0, 0, 0, s))
-- X0_addTest
noncomputable def f_3 (a0 : Nat) (a1 : Int) (a2 : Int) (s : gS) : Option gO :=
  if (gI s a0 6) < 6 then gchk (gI s a0 6) 6 (let s1 : gS := gw s (gR s a0 3) ((gI s a0 6) : Int).toNat a1; gchk (gI s1 a0 6) 6 (let s2 : gS := gw s1 (gR s1 a0 4) ((gI s1 a0 6) : Int).toNat a2; let s3 : gS := gw s2 a0 6 (g32 ((gI s2 a0 6) + 1)); some ((0, 0, 0, s3)))) else some ((0, 0, 0, s))
-- X0_catches
noncomputable def f_4 (a0 : Nat) (a1 : Int) (a2 : Int) (s : gS) : Option gO :=
  gchk a1 6 (if (gand a2 (gxor (gI s (gR s a0 4) (a1 : Int).toNat) (-1))) = 0 then some ((1, 1, 0, s)) else some ((1, 0, 0, s)))
-- X0_stopsAll
noncomputable def sb_5_5 (x0 : Nat) (x1 : Int) (x3 : Int) (x4 : Int) (s : gS) : Option ((Nat × Int × Int × Int × gS) ⊕ gO) :=
  if x4 < (gI s x0 6) then if (gand (gshr x1 x4) 1) = 0 then some (Sum.inl (x0, x1, x3, (g32 (x4 + 1)), s)) else gchk x4 6 (let v1 : Int := (gand x3 (gxor (gI s (gR s x0 4) (x4 : Int).toNat) (-1))); some (Sum.inl (x0, x1, v1, (g32 (x4 + 1)), s))) else (if x3 = 0 then some ((1, 1, 0, s)) else some ((1, 0, 0, s))).map Sum.inr
noncomputable def st_5_5 (y : (Nat × Int × Int × Int × gS)) : Option ((Nat × Int × Int × Int × gS) ⊕ gO) := sb_5_5 y.1 y.2.1 y.2.2.1 y.2.2.2.1 y.2.2.2.2
noncomputable def f_5 (a0 : Nat) (a1 : Int) (a2 : Int) (s : gS) : Option gO :=
  gloop (st_5_5) (a0, a1, a2, 0, s)
-- X0_costOfTests
noncomputable def sb_6_4 (x0 : Nat) (x1 : Int) (x2 : Int) (x3 : Int) (s : gS) : Option ((Nat × Int × Int × Int × gS) ⊕ gO) :=
  if x3 < (gI s x0 6) then if (gand (gshr x1 x3) 1) = 0 then some (Sum.inl (x0, x1, x2, (g32 (x3 + 1)), s)) else gchk x3 6 (let v1 : Int := (g32 (x2 + (gI s (gR s x0 3) (x3 : Int).toNat))); some (Sum.inl (x0, x1, v1, (g32 (x3 + 1)), s))) else (some ((1, x2, 0, s))).map Sum.inr
noncomputable def st_6_4 (y : (Nat × Int × Int × Int × gS)) : Option ((Nat × Int × Int × Int × gS) ⊕ gO) := sb_6_4 y.1 y.2.1 y.2.2.1 y.2.2.2.1 y.2.2.2.2
noncomputable def f_6 (a0 : Nat) (a1 : Int) (s : gS) : Option gO :=
  gloop (st_6_4) (a0, a1, 0, 0, s)
-- X0_outlayOf
noncomputable def sb_7_23 (x0 : Nat) (x2 : Int) (x3 : Int) (s : gS) : Option ((Nat × Int × Int × gS) ⊕ gO) :=
  if x3 < (gI s x0 5) then gchk x3 8 (let v1 : Int := (g32 (x2 + (gI s (gR s x0 1) (x3 : Int).toNat))); some (Sum.inl (x0, v1, (g32 (x3 + 1)), s))) else (some ((1, x2, 0, s))).map Sum.inr
noncomputable def st_7_23 (y : (Nat × Int × Int × gS)) : Option ((Nat × Int × Int × gS) ⊕ gO) := sb_7_23 y.1 y.2.1 y.2.2.1 y.2.2.2
noncomputable def fb_7_22 (x0 : Nat) (x2 : Int) (w0 : Int) (s : gS) : Option gO :=
  gloop (st_7_23) (x0, x2, w0, s)
noncomputable def f_7 (a0 : Nat) (a1 : Nat) (s : gS) : Option gO :=
  if 0 < (gI s a1 4) then fb_7_22 a0 0 (g32 ((gI s a1 3) + 1)) s else fb_7_22 a0 0 (gI s a1 3) s
-- X0_daysLeftOf
noncomputable def sb_8_11 (x0 : Nat) (x2 : Int) (x3 : Int) (s : gS) : Option ((Nat × Int × Int × gS) ⊕ gO) :=
  if x3 < (gI s x0 5) then gchk x3 8 (let v2 : Int := (g32 (x2 + (gI s (gR s x0 0) (x3 : Int).toNat))); some (Sum.inl (x0, v2, (g32 (x3 + 1)), s))) else (some ((1, x2, 0, s))).map Sum.inr
noncomputable def st_8_11 (y : (Nat × Int × Int × gS)) : Option ((Nat × Int × Int × gS) ⊕ gO) := sb_8_11 y.1 y.2.1 y.2.2.1 y.2.2.2
noncomputable def f_8 (a0 : Nat) (a1 : Nat) (s : gS) : Option gO :=
  let v1 : Int := (g32 (-(gI s a1 4))); gloop (st_8_11) (a0, v1, (gI s a1 3), s)
-- X0_showsLeftOf
noncomputable def sb_9_7 (x0 : Nat) (x2 : Int) (x3 : Int) (s : gS) : Option ((Nat × Int × Int × gS) ⊕ gO) :=
  if x3 < (gI s x0 5) then gchk x3 8 (let v1 : Int := (g32 (x2 + (gI s (gR s x0 2) (x3 : Int).toNat))); some (Sum.inl (x0, v1, (g32 (x3 + 1)), s))) else (some ((1, x2, 0, s))).map Sum.inr
noncomputable def st_9_7 (y : (Nat × Int × Int × gS)) : Option ((Nat × Int × Int × gS) ⊕ gO) := sb_9_7 y.1 y.2.1 y.2.2.1 y.2.2.2
noncomputable def f_9 (a0 : Nat) (a1 : Nat) (s : gS) : Option gO :=
  gloop (st_9_7) (a0, 0, (gI s a1 3), s)
-- X10_advance
noncomputable def sb_78_174 (x0 : Nat) (x4 : Int) (x5 : Int) (s : gS) : Option ((Nat × Int × Int × gS) ⊕ gO) :=
  if (gI s x0 2) = 3 then (some ((0, 0, 0, s))).map Sum.inr else if (gI s x0 4) < (gI s x0 1) then gchk (gI s x0 4) 400 (if (gI s (gR s x0 0) ((gI s x0 4) : Int).toNat) < x4 then (some ((0, 0, 0, s))).map Sum.inr else gchk (gI s x0 4) 400 (if x5 < (gI s (gR s x0 0) ((gI s x0 4) : Int).toNat) then (some ((0, 0, 0, s))).map Sum.inr else let s7 : gS := gw s x0 4 (g32 ((gI s x0 4) + 1)); some (Sum.inl (x0, x4, x5, s7)))) else (some ((0, 0, 0, s))).map Sum.inr
noncomputable def st_78_174 (y : (Nat × Int × Int × gS)) : Option ((Nat × Int × Int × gS) ⊕ gO) := sb_78_174 y.1 y.2.1 y.2.2.1 y.2.2.2
noncomputable def fb_78_172 (x0 : Nat) (x4 : Int) (w0 : Int) (s : gS) : Option gO :=
  gloop (st_78_174) (x0, x4, w0, s)
noncomputable def fb_78_159 (x0 : Nat) (x2 : Int) (w0 : Int) (s : gS) : Option gO :=
  if x2 = 0 then fb_78_172 x0 w0 57 s else fb_78_172 x0 w0 122 s
noncomputable def fb_78_135 (x0 : Nat) (x2 : Int) (w0 : Int) (w1 : Nat) (s : gS) : Option gO :=
  let s5 : gS := gw s w1 2 w0; let s6 : gS := gw s5 x0 4 (g32 ((gI s5 x0 4) + 1)); if x2 = 0 then fb_78_159 x0 x2 48 s6 else fb_78_159 x0 x2 97 s6
noncomputable def fb_78_116 (x0 : Nat) (x2 : Int) (w0 : Int) (s : gS) : Option gO :=
  if x2 = 0 then if w0 = 0 then fb_78_135 x0 x2 3 x0 s else fb_78_135 x0 x2 2 x0 s else fb_78_135 x0 x2 1 x0 s
noncomputable def fb_78_115 (x0 : Nat) (x2 : Int) (s : gS) : Option gO :=
  fb_78_116 x0 x2 0 s
noncomputable def fb_78_98 (x0 : Nat) (x1 : Int) (w0 : Int) (s : gS) : Option gO :=
  if x1 < 48 then fb_78_115 x0 w0 s else if 57 < x1 then fb_78_115 x0 w0 s else fb_78_116 x0 w0 1 s
noncomputable def fb_78_97 (x0 : Nat) (x1 : Int) (s : gS) : Option gO :=
  fb_78_98 x0 x1 0 s
noncomputable def fb_78_46 (x0 : Nat) (s : gS) : Option gO :=
  let s3 : gS := gw s x0 4 (gI s x0 3); if (gI s3 x0 3) < (gI s3 x0 1) then gchk (gI s3 x0 3) 400 (let v4 : Int := (gI s3 (gR s3 x0 0) ((gI s3 x0 3) : Int).toNat); if v4 < 97 then fb_78_97 x0 v4 s3 else if 122 < v4 then fb_78_97 x0 v4 s3 else fb_78_98 x0 v4 1 s3) else let s8 : gS := gw s3 x0 2 0; some ((0, 0, 0, s8))
noncomputable def sb_78_8 (x0 : Nat) (s : gS) : Option ((Nat × gS) ⊕ gO) :=
  if (gI s x0 3) < (gI s x0 1) then gchk (gI s x0 3) 400 (if (gI s (gR s x0 0) ((gI s x0 3) : Int).toNat) = 32 then let s2 : gS := gw s x0 3 (g32 ((gI s x0 3) + 1)); some (Sum.inl (x0, s2)) else (fb_78_46 x0 s).map Sum.inr) else (fb_78_46 x0 s).map Sum.inr
noncomputable def st_78_8 (y : (Nat × gS)) : Option ((Nat × gS) ⊕ gO) := sb_78_8 y.1 y.2
noncomputable def f_78 (a0 : Nat) (s : gS) : Option gO :=
  let s1 : gS := gw s a0 3 (gI s a0 4); gloop (st_78_8) (a0, s1)
-- X10_rewind
noncomputable def f_77 (a0 : Nat) (s : gS) : Option gO :=
  let s1 : gS := gw s a0 4 0; (f_78 a0 s1).bind (gv0 (fun s2 => some ((0, 0, 0, s2))))
-- X10_atEnd
noncomputable def f_79 (a0 : Nat) (s : gS) : Option gO :=
  if (gI s a0 2) = 0 then some ((1, 1, 0, s)) else some ((1, 0, 0, s))
-- X10_isWord
noncomputable def sb_80_28 (x0 : Nat) (x1 : Nat) (x2 : Int) (s : gS) : Option ((Nat × Nat × Int × gS) ⊕ gO) :=
  (f_266 x1 s).bind (gv1 (fun v4 s3 => if x2 < v4 then gchk (g32 ((gI s3 x0 3) + x2)) 400 ((f_267 x1 x2 s3).bind (gv1 (fun v6 s5 => if (gI s3 (gR s3 x0 0) ((g32 ((gI s3 x0 3) + x2)) : Int).toNat) = v6 then some (Sum.inl (x0, x1, (g32 (x2 + 1)), s5)) else (some ((1, 0, 0, s5))).map Sum.inr))) else (some ((1, 1, 0, s3))).map Sum.inr))
noncomputable def st_80_28 (y : (Nat × Nat × Int × gS)) : Option ((Nat × Nat × Int × gS) ⊕ gO) := sb_80_28 y.1 y.2.1 y.2.2.1 y.2.2.2
noncomputable def f_80 (a0 : Nat) (a1 : Nat) (s : gS) : Option gO :=
  if (gI s a0 2) = 1 then (f_266 a1 s).bind (gv1 (fun v2 s1 => if (g32 ((gI s a0 4) - (gI s a0 3))) = v2 then gloop (st_80_28) (a0, a1, 0, s1) else some ((1, 0, 0, s1)))) else some ((1, 0, 0, s))
-- X10_takeWord
noncomputable def f_82 (a0 : Nat) (a1 : Nat) (s : gS) : Option gO :=
  (f_80 a0 a1 s).bind (gv1 (fun v2 s1 => if v2 = 0 then some ((1, v2, 0, s1)) else (f_78 a0 s1).bind (gv0 (fun s4 => some ((1, v2, 0, s4))))))
-- X10_takeNumber
noncomputable def sb_84_31 (x0 : Nat) (x1 : Int) (x2 : Int) (x3 : Int) (x4 : Int) (s : gS) : Option ((Nat × Int × Int × Int × Int × gS) ⊕ gO) :=
  if x4 < (gI s x0 4) then gchk x4 400 (let v1 : Int := (g32 ((g32 ((g32 (x3 * 10)) + (gI s (gR s x0 0) (x4 : Int).toNat))) - 48)); some (Sum.inl (x0, x1, x2, v1, (g32 (x4 + 1)), s))) else (if x3 < x1 then some ((1, (-1), 0, s)) else if x2 < x3 then some ((1, (-1), 0, s)) else (f_78 x0 s).bind (gv0 (fun s2 => some ((1, x3, 0, s2))))).map Sum.inr
noncomputable def st_84_31 (y : (Nat × Int × Int × Int × Int × gS)) : Option ((Nat × Int × Int × Int × Int × gS) ⊕ gO) := sb_84_31 y.1 y.2.1 y.2.2.1 y.2.2.2.1 y.2.2.2.2.1 y.2.2.2.2.2
noncomputable def f_84 (a0 : Nat) (a1 : Int) (a2 : Int) (s : gS) : Option gO :=
  if (gI s a0 2) = 2 then if 3 < (g32 ((gI s a0 4) - (gI s a0 3))) then some ((1, (-1), 0, s)) else gloop (st_84_31) (a0, a1, a2, 0, (gI s a0 3), s) else some ((1, (-1), 0, s))
-- X1_numberBehind
noncomputable def f_13 (a0 : Nat) (a1 : Nat) (a2 : Int) (a3 : Int) (s : gS) : Option gO :=
  (f_82 (gR s a0 0) a1 s).bind (gv1 (fun v2 s1 => if v2 = 0 then some ((1, (-1), 0, s1)) else (f_84 (gR s1 a0 0) a2 a3 s1).bind (gv1 (fun v5 s4 => some ((1, v5, 0, s4))))))
-- X1_readsStep
noncomputable def fb_15_54 (x1 : Nat) (x2 : Int) (x3 : Int) (w0 : Int) (s : gS) : Option gO :=
  if w0 = (-1) then some ((1, 0, 0, s)) else (f_2 x1 x2 x3 w0 s).bind (gv0 (fun s5 => some ((1, 1, 0, s5))))
noncomputable def fb_15_35 (x0 : Nat) (x1 : Nat) (x2 : Int) (w0 : Int) (s : gS) : Option gO :=
  if w0 = (-1) then fb_15_54 x1 x2 w0 (-1) s else (f_13 x0 20 0 50 s).bind (gv1 (fun v8 s7 => fb_15_54 x1 x2 w0 v8 s7))
noncomputable def f_15 (a0 : Nat) (a1 : Nat) (s : gS) : Option gO :=
  (f_78 (gR s a0 0) s).bind (gv0 (fun s1 => (f_13 a0 18 1 30 s1).bind (gv1 (fun v4 s3 => if v4 = (-1) then fb_15_35 a0 a1 v4 (-1) s3 else (f_13 a0 19 0 99 s3).bind (gv1 (fun v10 s9 => fb_15_35 a0 a1 v4 v10 s9))))))
-- X10_takeTricks
noncomputable def sb_85_17 (x0 : Nat) (x1 : Int) (x2 : Int) (s : gS) : Option ((Nat × Int × Int × gS) ⊕ gO) :=
  if x2 < (gI s x0 4) then gchk x2 400 (let v1 : Int := (g32 ((gI s (gR s x0 0) (x2 : Int).toNat) - 97)); if v1 < 6 then if (gand (gshr x1 v1) 1) = 0 then let v2 : Int := (gor x1 (gshl 1 v1)); some (Sum.inl (x0, v2, (g32 (x2 + 1)), s)) else (some ((1, (-1), 0, s))).map Sum.inr else (some ((1, (-1), 0, s))).map Sum.inr) else ((f_78 x0 s).bind (gv0 (fun s3 => some ((1, x1, 0, s3))))).map Sum.inr
noncomputable def st_85_17 (y : (Nat × Int × Int × gS)) : Option ((Nat × Int × Int × gS) ⊕ gO) := sb_85_17 y.1 y.2.1 y.2.2.1 y.2.2.2
noncomputable def f_85 (a0 : Nat) (s : gS) : Option gO :=
  if (gI s a0 2) = 1 then gloop (st_85_17) (a0, 0, (gI s a0 3), s) else some ((1, (-1), 0, s))
-- X1_tricksBehind
noncomputable def f_14 (a0 : Nat) (a1 : Nat) (s : gS) : Option gO :=
  (f_82 (gR s a0 0) a1 s).bind (gv1 (fun v2 s1 => if v2 = 0 then some ((1, (-1), 0, s1)) else (f_85 (gR s1 a0 0) s1).bind (gv1 (fun v5 s4 => some ((1, v5, 0, s4))))))
-- X2_addMan
noncomputable def f_24 (a0 : Nat) (a1 : Int) (a2 : Int) (a3 : Int) (s : gS) : Option gO :=
  if (gI s a0 4) < 6 then gchk (gI s a0 4) 6 (let v1 : Nat := (gR s (gR s a0 0) ((gI s a0 4) : Int).toNat); let s2 : gS := gw s v1 0 a1; let s3 : gS := gw s2 v1 1 a2; let s4 : gS := gw s3 v1 2 a3; let s5 : gS := gw s4 v1 3 0; let s6 : gS := gw s5 v1 4 0; let s7 : gS := gw s6 v1 5 0; let s8 : gS := gw s7 a0 4 (g32 ((gI s7 a0 4) + 1)); some ((0, 0, 0, s8))) else some ((0, 0, 0, s))
-- X1_readsMan
noncomputable def fb_16_51 (x1 : Nat) (x2 : Int) (x3 : Int) (w0 : Int) (s : gS) : Option gO :=
  if w0 = (-1) then some ((1, 0, 0, s)) else (f_24 x1 x2 x3 w0 s).bind (gv0 (fun s5 => some ((1, 1, 0, s5))))
noncomputable def fb_16_35 (x0 : Nat) (x1 : Nat) (x2 : Int) (w0 : Int) (s : gS) : Option gO :=
  if w0 = (-1) then fb_16_51 x1 x2 w0 (-1) s else (f_14 x0 23 s).bind (gv1 (fun v8 s7 => fb_16_51 x1 x2 w0 v8 s7))
noncomputable def f_16 (a0 : Nat) (a1 : Nat) (s : gS) : Option gO :=
  (f_78 (gR s a0 0) s).bind (gv0 (fun s1 => (f_13 a0 21 0 99 s1).bind (gv1 (fun v4 s3 => if v4 = (-1) then fb_16_35 a0 a1 v4 (-1) s3 else (f_13 a0 22 0 9 s3).bind (gv1 (fun v10 s9 => fb_16_35 a0 a1 v4 v10 s9))))))
-- X1_readsTest
noncomputable def fb_17_32 (x1 : Nat) (x2 : Int) (w0 : Int) (s : gS) : Option gO :=
  if w0 = (-1) then some ((1, 0, 0, s)) else (f_3 x1 x2 w0 s).bind (gv0 (fun s5 => some ((1, 1, 0, s5))))
noncomputable def f_17 (a0 : Nat) (a1 : Nat) (s : gS) : Option gO :=
  (f_78 (gR s a0 0) s).bind (gv0 (fun s1 => (f_13 a0 19 0 99 s1).bind (gv1 (fun v4 s3 => if v4 = (-1) then fb_17_32 a1 v4 (-1) s3 else (f_14 a0 24 s3).bind (gv1 (fun v8 s7 => fb_17_32 a1 v4 v8 s7))))))
-- X2_addRival
noncomputable def f_25 (a0 : Nat) (a1 : Int) (s : gS) : Option gO :=
  if (gI s a0 5) < 6 then gchk (gI s a0 5) 6 (let s1 : gS := gw s (gR s a0 1) ((gI s a0 5) : Int).toNat a1; gchk (gI s1 a0 5) 6 (let s2 : gS := gw s1 (gR s1 a0 2) ((gI s1 a0 5) : Int).toNat 0; let s3 : gS := gw s2 a0 5 (g32 ((gI s2 a0 5) + 1)); some ((0, 0, 0, s3)))) else some ((0, 0, 0, s))
-- X1_readsRival
noncomputable def f_18 (a0 : Nat) (a1 : Nat) (s : gS) : Option gO :=
  (f_13 a0 16 0 999 s).bind (gv1 (fun v2 s1 => if v2 = (-1) then some ((1, 0, 0, s1)) else (f_25 a1 v2 s1).bind (gv0 (fun s3 => some ((1, 1, 0, s3))))))
-- X1_readsChest
noncomputable def f_19 (a0 : Nat) (a1 : Nat) (s : gS) : Option gO :=
  (f_13 a0 17 0 999 s).bind (gv1 (fun v2 s1 => let s3 : gS := gw s1 a1 6 v2; if (gI s3 a1 6) = (-1) then some ((1, 0, 0, s3)) else some ((1, 1, 0, s3))))
-- X1_readsRule
noncomputable def f_20 (a0 : Nat) (a1 : Nat) (s : gS) : Option gO :=
  (f_80 (gR s a0 0) 25 s).bind (gv1 (fun v2 s1 => if v2 = 0 then (f_80 (gR s1 a0 0) 26 s1).bind (gv1 (fun v5 s4 => if v5 = 0 then (f_80 (gR s4 a0 0) 27 s4).bind (gv1 (fun v8 s7 => if v8 = 0 then some ((1, 0, 0, s7)) else (f_13 a0 27 0 50 s7).bind (gv1 (fun v11 s10 => let s12 : gS := gw s10 a1 9 v11; if (gI s12 a1 9) = (-1) then some ((1, 0, 0, s12)) else some ((1, 1, 0, s12)))))) else (f_13 a0 26 0 100 s4).bind (gv1 (fun v14 s13 => let s15 : gS := gw s13 a1 8 v14; if (gI s15 a1 8) = (-1) then some ((1, 0, 0, s15)) else some ((1, 1, 0, s15)))))) else (f_13 a0 25 0 99 s1).bind (gv1 (fun v17 s16 => let s18 : gS := gw s16 a1 7 v17; if (gI s18 a1 7) = (-1) then some ((1, 0, 0, s18)) else some ((1, 1, 0, s18))))))
-- X1_readsLine
noncomputable def fb_12_138  (s : gS) : Option gO :=
  some ((1, 0, 0, s))
noncomputable def fb_12_103  (s : gS) : Option gO :=
  some ((1, 0, 0, s))
noncomputable def fb_12_68  (s : gS) : Option gO :=
  some ((1, 0, 0, s))
noncomputable def fb_12_33  (s : gS) : Option gO :=
  some ((1, 0, 0, s))
noncomputable def f_12 (a0 : Nat) (a1 : Nat) (a2 : Nat) (s : gS) : Option gO :=
  (f_80 (gR s a0 0) 13 s).bind (gv1 (fun v2 s1 => if v2 = 0 then (f_80 (gR s1 a0 0) 14 s1).bind (gv1 (fun v5 s4 => if v5 = 0 then (f_80 (gR s4 a0 0) 15 s4).bind (gv1 (fun v8 s7 => if v8 = 0 then (f_80 (gR s7 a0 0) 16 s7).bind (gv1 (fun v11 s10 => if v11 = 0 then (f_80 (gR s10 a0 0) 17 s10).bind (gv1 (fun v14 s13 => if v14 = 0 then (f_20 a0 a1 s13).bind (gv1 (fun v17 s16 => some ((1, v17, 0, s16)))) else (f_19 a0 a2 s13).bind (gv1 (fun v20 s19 => some ((1, v20, 0, s19)))))) else if (gI s10 a2 5) < 6 then (f_18 a0 a2 s10).bind (gv1 (fun v23 s22 => if v23 = 0 then fb_12_138  s22 else some ((1, 1, 0, s22)))) else fb_12_138  s10)) else if (gI s7 a1 6) < 6 then (f_17 a0 a1 s7).bind (gv1 (fun v26 s25 => if v26 = 0 then fb_12_103  s25 else some ((1, 1, 0, s25)))) else fb_12_103  s7)) else if (gI s4 a2 4) < 6 then (f_16 a0 a2 s4).bind (gv1 (fun v29 s28 => if v29 = 0 then fb_12_68  s28 else some ((1, 1, 0, s28)))) else fb_12_68  s4)) else if (gI s1 a1 5) < 8 then (f_15 a0 a1 s1).bind (gv1 (fun v32 s31 => if v32 = 0 then fb_12_33  s31 else some ((1, 1, 0, s31)))) else fb_12_33  s1))
-- X10_isSign
noncomputable def fb_81_25  (s : gS) : Option gO :=
  some ((1, 0, 0, s))
noncomputable def f_81 (a0 : Nat) (a1 : Int) (s : gS) : Option gO :=
  if (gI s a0 2) = 3 then gchk (gI s a0 3) 400 (if (gI s (gR s a0 0) ((gI s a0 3) : Int).toNat) = a1 then some ((1, 1, 0, s)) else fb_81_25  s) else fb_81_25  s
-- X10_takeSign
noncomputable def f_83 (a0 : Nat) (a1 : Int) (s : gS) : Option gO :=
  (f_81 a0 a1 s).bind (gv1 (fun v2 s1 => if v2 = 0 then some ((1, v2, 0, s1)) else (f_78 a0 s1).bind (gv0 (fun s4 => some ((1, v2, 0, s4))))))
-- X1_reads
noncomputable def sb_11_21 (x0 : Nat) (x1 : Nat) (x2 : Nat) (x3 : Int) (s : gS) : Option ((Nat × Nat × Nat × Int × gS) ⊕ gO) :=
  if x3 < 14 then (f_12 x0 x1 x2 s).bind (gv1 (fun v7 s6 => if v7 = 0 then (some ((1, 0, 0, s6))).map Sum.inr else (f_79 (gR s6 x0 0) s6).bind (gv1 (fun v10 s9 => if v10 = 0 then (f_83 (gR s9 x0 0) 59 s9).bind (gv1 (fun v13 s12 => if v13 = 0 then (some ((1, 0, 0, s12))).map Sum.inr else some (Sum.inl (x0, x1, x2, (g32 (x3 + 1)), s12)))) else (some ((1, 1, 0, s9))).map Sum.inr)))) else (some ((1, 0, 0, s))).map Sum.inr
noncomputable def st_11_21 (y : (Nat × Nat × Nat × Int × gS)) : Option ((Nat × Nat × Nat × Int × gS) ⊕ gO) := sb_11_21 y.1 y.2.1 y.2.2.1 y.2.2.2.1 y.2.2.2.2
noncomputable def f_11 (a0 : Nat) (a1 : Nat) (a2 : Nat) (s : gS) : Option gO :=
  (f_77 (gR s a0 0) s).bind (gv0 (fun s1 => (f_79 (gR s1 a0 0) s1).bind (gv1 (fun v4 s3 => if v4 = 0 then gloop (st_11_21) (a0, a1, a2, 0, s3) else some ((1, 1, 0, s3))))))
-- X7_copyFrom
noncomputable def f_59 (a0 : Nat) (a1 : Nat) (s : gS) : Option gO :=
  let s1 : gS := gw s a0 0 (gI s a1 0); let s2 : gS := gw s1 a0 1 (gI s1 a1 1); let s3 : gS := gw s2 a0 2 (gI s2 a1 2); let s4 : gS := gw s3 a0 3 (gI s3 a1 3); let s5 : gS := gw s4 a0 4 (gI s4 a1 4); let s6 : gS := gw s5 a0 5 (gI s5 a1 5); some ((0, 0, 0, s6))
-- X2_copyCourse
noncomputable def sb_23_2 (x0 : Nat) (x1 : Nat) (x2 : Int) (s : gS) : Option ((Nat × Nat × Int × gS) ⊕ gO) :=
  if x2 < 6 then gchk x2 6 (gchk x2 6 ((f_59 (gR s (gR s x0 0) (x2 : Int).toNat) (gR s (gR s x1 0) (x2 : Int).toNat) s).bind (gv0 (fun s1 => some (Sum.inl (x0, x1, (g32 (x2 + 1)), s1)))))) else (let s3 : gS := gcpy s (gR s x1 1) 0 (gR s x0 1) 0 6; let s4 : gS := gcpy s3 (gR s3 x1 2) 0 (gR s3 x0 2) 0 6; let s5 : gS := gw s4 x0 4 (gI s4 x1 4); let s6 : gS := gw s5 x0 5 (gI s5 x1 5); let s7 : gS := gw s6 x0 6 (gI s6 x1 6); let s8 : gS := gw s7 x0 7 (gI s7 x1 7); let s9 : gS := gw s8 x0 8 (gI s8 x1 8); let s10 : gS := gw s9 x0 9 (gI s9 x1 9); some ((0, 0, 0, s10))).map Sum.inr
noncomputable def st_23_2 (y : (Nat × Nat × Int × gS)) : Option ((Nat × Nat × Int × gS) ⊕ gO) := sb_23_2 y.1 y.2.1 y.2.2.1 y.2.2.2
noncomputable def f_23 (a0 : Nat) (a1 : Nat) (s : gS) : Option gO :=
  gloop (st_23_2) (a0, a1, 0, s)
-- X6_copyFrom
noncomputable def f_54 (a0 : Nat) (a1 : Nat) (s : gS) : Option gO :=
  let s1 : gS := gcpy s (gR s a1 0) 0 (gR s a0 0) 0 240; let s2 : gS := gw s1 a0 1 (gI s1 a1 1); some ((0, 0, 0, s2))
-- X2_copyFrom
noncomputable def f_22 (a0 : Nat) (a1 : Nat) (s : gS) : Option gO :=
  (f_23 a0 a1 s).bind (gv0 (fun s1 => (f_54 (gR s1 a0 3) (gR s1 a1 3) s1).bind (gv0 (fun s3 => some ((0, 0, 0, s3))))))
-- X2_spend
noncomputable def f_26 (a0 : Nat) (a1 : Int) (s : gS) : Option gO :=
  let v1 : Int := (min (gI s a0 6) a1); let s2 : gS := gw s a0 6 (g32 ((gI s a0 6) - v1)); let s3 : gS := gw s2 a0 7 (min 9999 (g32 ((g32 ((gI s2 a0 7) + a1)) - v1))); some ((0, 0, 0, s3))
-- X7_heat
noncomputable def f_61 (a0 : Nat) (a1 : Nat) (s : gS) : Option gO :=
  if (gI s a0 3) < (gI s a1 5) then let s1 : gS := gw s a0 4 (g32 ((gI s a0 4) + 1)); gchk (gI s1 a0 3) 8 (if (gI s1 a0 4) < (gI s1 (gR s1 a1 0) ((gI s1 a0 3) : Int).toNat) then some ((1, 0, 0, s1)) else let s2 : gS := gw s1 a0 4 0; let s3 : gS := gw s2 a0 3 (g32 ((gI s2 a0 3) + 1)); gchk (g32 ((gI s3 a0 3) - 1)) 8 (some ((1, (gI s3 (gR s3 a1 2) ((g32 ((gI s3 a0 3) - 1)) : Int).toNat), 0, s3)))) else some ((1, 0, 0, s))
-- X7_trustMore
noncomputable def f_60 (a0 : Nat) (a1 : Int) (s : gS) : Option gO :=
  let s1 : gS := gw s a0 0 (max 0 (min 99 (g32 ((gI s a0 0) + a1)))); some ((0, 0, 0, s1))
-- X3_see
noncomputable def fb_35_65 (x0 : Nat) (x2 : Nat) (x3 : Int) (w0 : Int) (w1 : Int) (w2 : Nat) (s : gS) : Option gO :=
  gchk w1 9 (let s6 : gS := gw s w2 (w1 : Int).toNat w0; if (gI s6 x2 3) < x3 then let s7 : gS := gw s6 (gR s6 x0 0) 8 0; some ((0, 0, 0, s7)) else let s8 : gS := gw s6 (gR s6 x0 0) 8 1; some ((0, 0, 0, s8)))
noncomputable def f_35 (a0 : Nat) (a1 : Int) (a2 : Nat) (a3 : Int) (s : gS) : Option gO :=
  let s1 : gS := gw s (gR s a0 0) 0 a1; let s2 : gS := gw s1 (gR s1 a0 0) 1 (gI s1 a2 0); let s3 : gS := gw s2 (gR s2 a0 0) 2 (gI s2 a2 1); let s4 : gS := gw s3 (gR s3 a0 0) 3 (gI s3 a2 3); let s5 : gS := gw s4 (gR s4 a0 0) 4 (gI s4 a2 4); if 0 < (gI s5 a2 4) then fb_35_65 a0 a2 a3 1 7 (gR s5 a0 0) s5 else fb_35_65 a0 a2 a3 0 7 (gR s5 a0 0) s5
-- X3_seeTime
noncomputable def f_36 (a0 : Nat) (a1 : Int) (a2 : Int) (s : gS) : Option gO :=
  let s1 : gS := gw s (gR s a0 0) 5 (gdiv a1 10); let s2 : gS := gw s1 (gR s1 a0 0) 6 a2; some ((0, 0, 0, s2))
-- X3_pop
noncomputable def f_41 (a0 : Nat) (s : gS) : Option gO :=
  if (gI s a0 2) < 1 then some ((1, 0, 0, s)) else let s1 : gS := gw s a0 2 (g32 ((gI s a0 2) - 1)); gchk (gI s1 a0 2) 32 (some ((1, (gI s1 (gR s1 a0 1) ((gI s1 a0 2) : Int).toNat), 0, s1)))
-- X3_push
noncomputable def f_40 (a0 : Nat) (a1 : Int) (s : gS) : Option gO :=
  if (gI s a0 2) < 32 then gchk (gI s a0 2) 32 (let s1 : gS := gw s (gR s a0 1) ((gI s a0 2) : Int).toNat a1; let s2 : gS := gw s1 a0 2 (g32 ((gI s1 a0 2) + 1)); some ((0, 0, 0, s2))) else some ((0, 0, 0, s))
-- X3_combine
noncomputable def fb_38_114 (x0 : Nat) (x2 : Int) (x3 : Int) (s : gS) : Option gO :=
  (f_40 x0 (gor x3 x2) s).bind (gv0 (fun s7 => some ((0, 0, 0, s7))))
noncomputable def fb_38_81 (w0 : Int) (w1 : Nat) (s : gS) : Option gO :=
  (f_40 w1 w0 s).bind (gv0 (fun s11 => some ((0, 0, 0, s11))))
noncomputable def fb_38_98 (w0 : Int) (w1 : Nat) (s : gS) : Option gO :=
  (f_40 w1 w0 s).bind (gv0 (fun s13 => some ((0, 0, 0, s13))))
noncomputable def f_38 (a0 : Nat) (a1 : Int) (s : gS) : Option gO :=
  (f_41 a0 s).bind (gv1 (fun v2 s1 => if a1 = 2003 then (f_40 a0 (g32 (1 - v2)) s1).bind (gv0 (fun s3 => some ((0, 0, 0, s3)))) else (f_41 a0 s1).bind (gv1 (fun v6 s5 => if a1 < 2000 then fb_38_114 a0 v2 v6 s5 else if a1 < 2001 then (f_40 a0 (g32 (v6 + v2)) s5).bind (gv0 (fun s9 => some ((0, 0, 0, s9)))) else if a1 < 2002 then if v6 < v2 then fb_38_81 1 a0 s5 else fb_38_81 0 a0 s5 else if a1 < 2003 then if v2 < v6 then fb_38_98 1 a0 s5 else fb_38_98 0 a0 s5 else if a1 < 2004 then fb_38_114 a0 v2 v6 s5 else if a1 < 2005 then (f_40 a0 (gand v6 v2) s5).bind (gv0 (fun s15 => some ((0, 0, 0, s15)))) else fb_38_114 a0 v2 v6 s5))))
-- X3_factAt
noncomputable def fb_39_19  (s : gS) : Option gO :=
  some ((1, 0, 0, s))
noncomputable def f_39 (a0 : Nat) (a1 : Int) (s : gS) : Option gO :=
  if a1 < 0 then fb_39_19  s else if a1 < 9 then gchk a1 9 (some ((1, (gI s (gR s a0 0) (a1 : Int).toNat), 0, s))) else fb_39_19  s
-- X3_turn
noncomputable def sb_37_15 (x0 : Nat) (x1 : Nat) (x2 : Int) (x3 : Int) (s : gS) : Option ((Nat × Nat × Int × Int × gS) ⊕ gO) :=
  if x1 = 0 then none else if (gR s x1 1) = 0 then none else if x3 < (glen s (gR s x1 1)) then if x1 = 0 then none else if (gR s x1 1) = 0 then none else gchk x3 (glen s (gR s x1 1)) (let v2 : Int := (gI s (gR s x1 1) (x3 : Int).toNat); if v2 < 4000 then if v2 < 3000 then if v2 < 2000 then if v2 < 1000 then (f_40 x0 v2 s).bind (gv0 (fun s3 => some (Sum.inl (x0, x1, x2, (g32 (x3 + 1)), s3)))) else (f_39 x0 (g32 (v2 - 1000)) s).bind (gv1 (fun v6 s5 => (f_40 x0 v6 s5).bind (gv0 (fun s7 => some (Sum.inl (x0, x1, x2, (g32 (x3 + 1)), s7)))))) else (f_38 x0 v2 s).bind (gv0 (fun s9 => some (Sum.inl (x0, x1, x2, (g32 (x3 + 1)), s9)))) else (f_41 x0 s).bind (gv1 (fun v12 s11 => let v13 : Int := (g32 (x2 + (g32 (v12 * (g32 (v2 - 3000)))))); some (Sum.inl (x0, x1, v13, (g32 (x3 + 1)), s11)))) else (f_41 x0 s).bind (gv1 (fun v15 s14 => let v16 : Int := (g32 (x2 - (g32 (v15 * (g32 (v2 - 4000)))))); some (Sum.inl (x0, x1, v16, (g32 (x3 + 1)), s14))))) else (some ((1, x2, 0, s))).map Sum.inr
noncomputable def st_37_15 (y : (Nat × Nat × Int × Int × gS)) : Option ((Nat × Nat × Int × Int × gS) ⊕ gO) := sb_37_15 y.1 y.2.1 y.2.2.1 y.2.2.2.1 y.2.2.2.2
noncomputable def f_37 (a0 : Nat) (a1 : Nat) (s : gS) : Option gO :=
  if a1 = 0 then some ((1, (-1), 0, s)) else let s1 : gS := gw s a0 2 0; gloop (st_37_15) (a0, a1, 0, 0, s1)
-- X3_turnOf
noncomputable def f_34 (a0 : Nat) (a1 : Int) (a2 : Nat) (a3 : Nat) (s : gS) : Option gO :=
  gchk a1 6 ((f_35 a0 a1 (gR s (gR s a3 0) (a1 : Int).toNat) (gI s a2 5) s).bind (gv0 (fun s1 => (f_36 a0 (gI s1 a3 7) (gI s1 a3 8) s1).bind (gv0 (fun s3 => (f_37 a0 (gR s3 a2 11) s3).bind (gv1 (fun v6 s5 => some ((1, v6, 0, s5)))))))))
-- X2_passDayOf
noncomputable def fb_28_42 (x0 : Nat) (x1 : Int) (x2 : Nat) (x3 : Nat) (x4 : Nat) (s : gS) : Option gO :=
  (f_61 x4 x2 s).bind (gv1 (fun v5 s4 => (f_60 x4 v5 s4).bind (gv0 (fun s6 => (f_34 x3 x1 x2 x0 s6).bind (gv1 (fun v9 s8 => (f_60 x4 v9 s8).bind (gv0 (fun s10 => if (gI s10 x4 0) < (gI s10 x2 7) then let s12 : gS := gw s10 x4 5 1; some ((0, 0, 0, s12)) else some ((0, 0, 0, s10))))))))))
noncomputable def f_28 (a0 : Nat) (a1 : Int) (a2 : Nat) (a3 : Nat) (s : gS) : Option gO :=
  gchk a1 6 (let v1 : Nat := (gR s (gR s a0 0) (a1 : Int).toNat); if (gI s v1 4) = 0 then if (gI s v1 3) < (gI s a2 5) then gchk (gI s v1 3) 8 ((f_26 a0 (gI s (gR s a2 1) ((gI s v1 3) : Int).toNat) s).bind (gv0 (fun s2 => fb_28_42 a0 a1 a2 a3 v1 s2))) else fb_28_42 a0 a1 a2 a3 v1 s else fb_28_42 a0 a1 a2 a3 v1 s)
-- X2_menIn
noncomputable def sb_29_4 (x0 : Nat) (x1 : Int) (x2 : Int) (x3 : Int) (s : gS) : Option ((Nat × Int × Int × Int × gS) ⊕ gO) :=
  if x3 < (gI s x0 4) then gchk x3 6 (if (gI s (gR s (gR s x0 0) (x3 : Int).toNat) 5) = x1 then let v1 : Int := (gor x2 (gshl 1 x3)); some (Sum.inl (x0, x1, v1, (g32 (x3 + 1)), s)) else some (Sum.inl (x0, x1, x2, (g32 (x3 + 1)), s))) else (some ((1, x2, 0, s))).map Sum.inr
noncomputable def st_29_4 (y : (Nat × Int × Int × Int × gS)) : Option ((Nat × Int × Int × Int × gS) ⊕ gO) := sb_29_4 y.1 y.2.1 y.2.2.1 y.2.2.2.1 y.2.2.2.2
noncomputable def f_29 (a0 : Nat) (a1 : Int) (s : gS) : Option gO :=
  gloop (st_29_4) (a0, a1, 0, 0, s)
-- X2_passDay
noncomputable def fb_27_57 (x0 : Nat) (x1 : Nat) (x2 : Nat) (x3 : Int) (x5 : Int) (w0 : Int) (w1 : Int) (s : gS) : Option ((Nat × Nat × Nat × Int × Int × Int × gS) ⊕ gO) :=
  some (Sum.inl (x0, x1, x2, x3, (g32 (w1 + w0)), (g32 (x5 + 1)), s))
noncomputable def fb_27_128 (x0 : Nat) (x4 : Int) (s : gS) : Option gO :=
  let s7 : gS := gw s x0 8 (min 9999 (g32 ((gI s x0 8) + 1))); some ((1, x4, 0, s7))
noncomputable def sb_27_6 (x0 : Nat) (x1 : Nat) (x2 : Nat) (x3 : Int) (x4 : Int) (x5 : Int) (s : gS) : Option ((Nat × Nat × Nat × Int × Int × Int × gS) ⊕ gO) :=
  if x5 < (gI s x0 4) then gchk x5 6 (if (gI s (gR s (gR s x0 0) (x5 : Int).toNat) 5) = 0 then (f_28 x0 x5 x1 x2 s).bind (gv0 (fun s1 => gchk x5 6 (if (gI s1 (gR s1 (gR s1 x0 0) (x5 : Int).toNat) 5) = 1 then fb_27_57 x0 x1 x2 x3 x5 1 x4 s1 else fb_27_57 x0 x1 x2 x3 x5 0 x4 s1))) else some (Sum.inl (x0, x1, x2, x3, x4, (g32 (x5 + 1)), s))) else (let s3 : gS := gw s x0 9 (g32 ((g32 (1103515245 * (gI s x0 9))) + 12345)); let v4 : Int := (gand (gshr (gI s3 x0 9) 16) 32767); if (grem v4 100) < x3 then (f_29 x0 0 s3).bind (gv1 (fun v6 s5 => if v6 = 0 then fb_27_128 x0 x4 s5 else let s8 : gS := gw s5 x0 6 (min 9999 (g32 ((gI s5 x0 6) + 50))); fb_27_128 x0 x4 s8)) else fb_27_128 x0 x4 s3).map Sum.inr
noncomputable def st_27_6 (y : (Nat × Nat × Nat × Int × Int × Int × gS)) : Option ((Nat × Nat × Nat × Int × Int × Int × gS) ⊕ gO) := sb_27_6 y.1 y.2.1 y.2.2.1 y.2.2.2.1 y.2.2.2.2.1 y.2.2.2.2.2.1 y.2.2.2.2.2.2
noncomputable def f_27 (a0 : Nat) (a1 : Nat) (a2 : Nat) (a3 : Int) (s : gS) : Option gO :=
  gloop (st_27_6) (a0, a1, a2, a3, 0, 0, s)
-- X2_trustOfKept
noncomputable def sb_30_4 (x0 : Nat) (x1 : Int) (x2 : Int) (s : gS) : Option ((Nat × Int × Int × gS) ⊕ gO) :=
  if x2 < (gI s x0 4) then gchk x2 6 (if (gI s (gR s (gR s x0 0) (x2 : Int).toNat) 5) = 0 then gchk x2 6 (let v1 : Int := (g32 (x1 + (gI s (gR s (gR s x0 0) (x2 : Int).toNat) 0))); some (Sum.inl (x0, v1, (g32 (x2 + 1)), s))) else some (Sum.inl (x0, x1, (g32 (x2 + 1)), s))) else (some ((1, x1, 0, s))).map Sum.inr
noncomputable def st_30_4 (y : (Nat × Int × Int × gS)) : Option ((Nat × Int × Int × gS) ⊕ gO) := sb_30_4 y.1 y.2.1 y.2.2.1 y.2.2.2
noncomputable def f_30 (a0 : Nat) (s : gS) : Option gO :=
  gloop (st_30_4) (a0, 0, 0, s)
-- X2_holdersOf
noncomputable def sb_31_4 (x0 : Nat) (x1 : Int) (x2 : Int) (x3 : Int) (s : gS) : Option ((Nat × Int × Int × Int × gS) ⊕ gO) :=
  if x3 < (gI s x0 5) then gchk x3 6 (let v1 : Int := (gor x2 (gshl (gand (gshr (gI s (gR s x0 2) (x3 : Int).toNat) x1) 1) x3)); some (Sum.inl (x0, x1, v1, (g32 (x3 + 1)), s))) else (some ((1, x2, 0, s))).map Sum.inr
noncomputable def st_31_4 (y : (Nat × Int × Int × Int × gS)) : Option ((Nat × Int × Int × Int × gS) ⊕ gO) := sb_31_4 y.1 y.2.1 y.2.2.1 y.2.2.2.1 y.2.2.2.2
noncomputable def f_31 (a0 : Nat) (a1 : Int) (s : gS) : Option gO :=
  gloop (st_31_4) (a0, a1, 0, 0, s)
-- X2_partsOf
noncomputable def sb_32_4 (x0 : Nat) (x1 : Int) (x2 : Int) (x3 : Int) (s : gS) : Option ((Nat × Int × Int × Int × gS) ⊕ gO) :=
  if x3 < (gI s x0 5) then if (gand (gshr x1 x3) 1) = 0 then some (Sum.inl (x0, x1, x2, (g32 (x3 + 1)), s)) else gchk x3 6 (let v1 : Int := (gor x2 (gI s (gR s x0 2) (x3 : Int).toNat)); some (Sum.inl (x0, x1, v1, (g32 (x3 + 1)), s))) else (some ((1, x2, 0, s))).map Sum.inr
noncomputable def st_32_4 (y : (Nat × Int × Int × Int × gS)) : Option ((Nat × Int × Int × Int × gS) ⊕ gO) := sb_32_4 y.1 y.2.1 y.2.2.1 y.2.2.2.1 y.2.2.2.2
noncomputable def f_32 (a0 : Nat) (a1 : Int) (s : gS) : Option gO :=
  gloop (st_32_4) (a0, a1, 0, 0, s)
-- X4_init
noncomputable def f_42 (a0 : Nat) (a1 : Int) (a2 : Nat) (s : gS) : Option gO :=
  let s1 : gS := gw s a0 0 a1; let s2 : gS := gwr s1 a0 1 a2; some ((0, 0, 0, s2))
-- X5_emit
noncomputable def f_45 (a0 : Nat) (a1 : Int) (s : gS) : Option gO :=
  if (gI s a0 2) < 400 then gchk (gI s a0 2) 400 (let s1 : gS := gw s (gR s a0 1) ((gI s a0 2) : Int).toNat a1; let s2 : gS := gw s1 a0 2 (g32 ((gI s1 a0 2) + 1)); some ((1, 1, 0, s2))) else some ((1, 0, 0, s))
-- X5_namedFact
noncomputable def f_52 (a0 : Nat) (s : gS) : Option gO :=
  (f_80 (gR s a0 0) 36 s).bind (gv1 (fun v2 s1 => if v2 = 0 then (f_80 (gR s1 a0 0) 37 s1).bind (gv1 (fun v5 s4 => if v5 = 0 then (f_80 (gR s4 a0 0) 38 s4).bind (gv1 (fun v8 s7 => if v8 = 0 then (f_80 (gR s7 a0 0) 39 s7).bind (gv1 (fun v11 s10 => if v11 = 0 then (f_80 (gR s10 a0 0) 40 s10).bind (gv1 (fun v14 s13 => if v14 = 0 then (f_80 (gR s13 a0 0) 41 s13).bind (gv1 (fun v17 s16 => if v17 = 0 then (f_80 (gR s16 a0 0) 42 s16).bind (gv1 (fun v20 s19 => if v20 = 0 then some ((1, (-1), 0, s19)) else some ((1, 6, 0, s19)))) else some ((1, 5, 0, s16)))) else some ((1, 4, 0, s13)))) else some ((1, 3, 0, s10)))) else some ((1, 2, 0, s7)))) else some ((1, 1, 0, s4)))) else some ((1, 0, 0, s1))))
-- X5_readsPart
noncomputable def f_51 (a0 : Nat) (s : gS) : Option gO :=
  (f_84 (gR s a0 0) 0 999 s).bind (gv1 (fun v2 s1 => if v2 = (-1) then (f_52 a0 s1).bind (gv1 (fun v4 s3 => if v4 = (-1) then some ((1, 0, 0, s3)) else (f_78 (gR s3 a0 0) s3).bind (gv0 (fun s5 => (f_45 a0 (g32 (1000 + v4)) s5).bind (gv1 (fun v8 s7 => some ((1, v8, 0, s7)))))))) else (f_45 a0 v2 s1).bind (gv1 (fun v11 s10 => some ((1, v11, 0, s10))))))
-- X5_readsSum
noncomputable def fb_50_51 (x0 : Nat) (x2 : Int) (s : gS) : Option ((Nat × Int × Int × gS) ⊕ gO) :=
  some (Sum.inl (x0, 0, (g32 (x2 + 1)), s))
noncomputable def sb_50_7 (x0 : Nat) (x1 : Int) (x2 : Int) (s : gS) : Option ((Nat × Int × Int × gS) ⊕ gO) :=
  if x2 < 400 then if x1 = 0 then (gbool x1 (some ((1, x1, 0, s)))).map Sum.inr else (f_83 (gR s x0 0) 43 s).bind (gv1 (fun v5 s4 => if v5 = 0 then (gbool x1 (some ((1, x1, 0, s4)))).map Sum.inr else (f_51 x0 s4).bind (gv1 (fun v8 s7 => if v8 = 0 then fb_50_51 x0 x2 s7 else (f_45 x0 2000 s7).bind (gv1 (fun v11 s10 => if v11 = 0 then fb_50_51 x0 x2 s10 else some (Sum.inl (x0, 1, (g32 (x2 + 1)), s10)))))))) else (gbool x1 (some ((1, x1, 0, s)))).map Sum.inr
noncomputable def st_50_7 (y : (Nat × Int × Int × gS)) : Option ((Nat × Int × Int × gS) ⊕ gO) := sb_50_7 y.1 y.2.1 y.2.2.1 y.2.2.2
noncomputable def f_50 (a0 : Nat) (s : gS) : Option gO :=
  (f_51 a0 s).bind (gv1 (fun v2 s1 => gloop (st_50_7) (a0, v2, 0, s1)))
-- X5_readsChoice
noncomputable def fb_47_53 (r_48 : Nat → Int → gS → Option gO) (x0 : Nat) (x1 : Int) (x3 : Int) (s : gS) : Option ((Nat × Int × Int × Int × gS) ⊕ gO) :=
  some (Sum.inl (x0, x1, 0, (g32 (x3 + 1)), s))
noncomputable def sb_47_8 (r_48 : Nat → Int → gS → Option gO) (x0 : Nat) (x1 : Int) (x2 : Int) (x3 : Int) (s : gS) : Option ((Nat × Int × Int × Int × gS) ⊕ gO) :=
  if x3 < 400 then if x2 = 0 then (gbool x2 (some ((1, x2, 0, s)))).map Sum.inr else (f_82 (gR s x0 0) 31 s).bind (gv1 (fun v5 s4 => if v5 = 0 then (gbool x2 (some ((1, x2, 0, s4)))).map Sum.inr else (r_48 x0 x1 s4).bind (gv1 (fun v8 s7 => if v8 = 0 then fb_47_53 r_48 x0 x1 x3 s7 else (f_45 x0 2005 s7).bind (gv1 (fun v11 s10 => if v11 = 0 then fb_47_53 r_48 x0 x1 x3 s10 else some (Sum.inl (x0, x1, 1, (g32 (x3 + 1)), s10)))))))) else (gbool x2 (some ((1, x2, 0, s)))).map Sum.inr
noncomputable def st_47_8 (r_48 : Nat → Int → gS → Option gO) (y : (Nat × Int × Int × Int × gS)) : Option ((Nat × Int × Int × Int × gS) ⊕ gO) := sb_47_8 r_48 y.1 y.2.1 y.2.2.1 y.2.2.2.1 y.2.2.2.2
noncomputable def fo_47 (r_48 : Nat → Int → gS → Option gO) (a0 : Nat) (a1 : Int) (s : gS) : Option gO :=
  (r_48 a0 a1 s).bind (gv1 (fun v2 s1 => gloop (st_47_8 r_48) (a0, a1, v2, 0, s1)))
-- X5_readsAll
noncomputable def fb_48_53 (r_49 : Nat → Int → gS → Option gO) (x0 : Nat) (x1 : Int) (x3 : Int) (s : gS) : Option ((Nat × Int × Int × Int × gS) ⊕ gO) :=
  some (Sum.inl (x0, x1, 0, (g32 (x3 + 1)), s))
noncomputable def sb_48_8 (r_49 : Nat → Int → gS → Option gO) (x0 : Nat) (x1 : Int) (x2 : Int) (x3 : Int) (s : gS) : Option ((Nat × Int × Int × Int × gS) ⊕ gO) :=
  if x3 < 400 then if x2 = 0 then (gbool x2 (some ((1, x2, 0, s)))).map Sum.inr else (f_82 (gR s x0 0) 32 s).bind (gv1 (fun v5 s4 => if v5 = 0 then (gbool x2 (some ((1, x2, 0, s4)))).map Sum.inr else (r_49 x0 x1 s4).bind (gv1 (fun v8 s7 => if v8 = 0 then fb_48_53 r_49 x0 x1 x3 s7 else (f_45 x0 2004 s7).bind (gv1 (fun v11 s10 => if v11 = 0 then fb_48_53 r_49 x0 x1 x3 s10 else some (Sum.inl (x0, x1, 1, (g32 (x3 + 1)), s10)))))))) else (gbool x2 (some ((1, x2, 0, s)))).map Sum.inr
noncomputable def st_48_8 (r_49 : Nat → Int → gS → Option gO) (y : (Nat × Int × Int × Int × gS)) : Option ((Nat × Int × Int × Int × gS) ⊕ gO) := sb_48_8 r_49 y.1 y.2.1 y.2.2.1 y.2.2.2.1 y.2.2.2.2
noncomputable def fo_48 (r_49 : Nat → Int → gS → Option gO) (a0 : Nat) (a1 : Int) (s : gS) : Option gO :=
  (r_49 a0 a1 s).bind (gv1 (fun v2 s1 => gloop (st_48_8 r_49) (a0, a1, v2, 0, s1)))
-- X5_readsAtom
noncomputable def fb_49_207 (r_47 : Nat → Int → gS → Option gO) (r_49 : Nat → Int → gS → Option gO)  (s : gS) : Option gO :=
  some ((1, 0, 0, s))
noncomputable def fb_49_197 (r_47 : Nat → Int → gS → Option gO) (r_49 : Nat → Int → gS → Option gO) (w0 : Int) (w1 : Nat) (s : gS) : Option gO :=
  (f_45 w1 w0 s).bind (gv1 (fun v26 s25 => if v26 = 0 then fb_49_207 r_47 r_49  s25 else some ((1, 1, 0, s25))))
noncomputable def fb_49_176 (r_47 : Nat → Int → gS → Option gO) (r_49 : Nat → Int → gS → Option gO) (x0 : Nat) (x3 : Int) (s : gS) : Option gO :=
  (f_50 x0 s).bind (gv1 (fun v23 s22 => if v23 = 0 then fb_49_207 r_47 r_49  s22 else if x3 = 0 then fb_49_197 r_47 r_49 2002 x0 s22 else fb_49_197 r_47 r_49 2001 x0 s22))
noncomputable def fb_49_99 (r_47 : Nat → Int → gS → Option gO) (r_49 : Nat → Int → gS → Option gO)  (s : gS) : Option gO :=
  some ((1, 0, 0, s))
noncomputable def fb_49_26 (r_47 : Nat → Int → gS → Option gO) (r_49 : Nat → Int → gS → Option gO) (x0 : Nat) (x1 : Int) (x2 : Int) (s : gS) : Option gO :=
  if x1 < 6 then (f_78 (gR s x0 0) s).bind (gv0 (fun s34 => if x2 = 0 then (r_47 x0 (g32 (x1 + 1)) s34).bind (gv1 (fun v37 s36 => if v37 = 0 then fb_49_99 r_47 r_49  s36 else (f_83 (gR s36 x0 0) 41 s36).bind (gv1 (fun v40 s39 => if v40 = 0 then fb_49_99 r_47 r_49  s39 else some ((1, 1, 0, s39)))))) else (r_49 x0 (g32 (x1 + 1)) s34).bind (gv1 (fun v43 s42 => if v43 = 0 then some ((1, 0, 0, s42)) else (f_45 x0 2003 s42).bind (gv1 (fun v46 s45 => if v46 = 0 then some ((1, 0, 0, s45)) else some ((1, 1, 0, s45)))))))) else some ((1, 0, 0, s))
noncomputable def fo_49 (r_47 : Nat → Int → gS → Option gO) (r_49 : Nat → Int → gS → Option gO) (a0 : Nat) (a1 : Int) (s : gS) : Option gO :=
  (f_80 (gR s a0 0) 33 s).bind (gv1 (fun v2 s1 => if v2 = 0 then (f_81 (gR s1 a0 0) 40 s1).bind (gv1 (fun v5 s4 => if v5 = 0 then (f_82 (gR s4 a0 0) 34 s4).bind (gv1 (fun v8 s7 => if v8 = 0 then (f_82 (gR s7 a0 0) 35 s7).bind (gv1 (fun v11 s10 => if v11 = 0 then (f_50 a0 s10).bind (gv1 (fun v14 s13 => if v14 = 0 then some ((1, 0, 0, s13)) else (f_83 (gR s13 a0 0) 60 s13).bind (gv1 (fun v17 s16 => if v17 = 0 then (f_83 (gR s16 a0 0) 62 s16).bind (gv1 (fun v20 s19 => if v20 = 0 then fb_49_207 r_47 r_49  s19 else fb_49_176 r_47 r_49 a0 v17 s19)) else fb_49_176 r_47 r_49 a0 v17 s16)))) else (f_45 a0 1008 s10).bind (gv1 (fun v29 s28 => some ((1, v29, 0, s28)))))) else (f_45 a0 1007 s7).bind (gv1 (fun v32 s31 => some ((1, v32, 0, s31)))))) else fb_49_26 r_47 r_49 a0 a1 v2 s4)) else fb_49_26 r_47 r_49 a0 a1 v2 s1))
noncomputable def rg_47 : Nat → (Nat → Int → gS → Option gO) × (Nat → Int → gS → Option gO) × (Nat → Int → gS → Option gO)
  | 0 => ((fun _ _ _ => none), (fun _ _ _ => none), (fun _ _ _ => none))
  | n + 1 => (fo_47 (rg_47 n).2.1, fo_48 (rg_47 n).2.2, fo_49 (rg_47 n).1 (rg_47 n).2.2)
noncomputable def fn_47 (n : Nat) : Nat → Int → gS → Option gO := (rg_47 n).1
noncomputable def f_47 : Nat → Int → gS → Option gO := fn_47 24
noncomputable def fn_48 (n : Nat) : Nat → Int → gS → Option gO := (rg_47 n).2.1
noncomputable def fn_49 (n : Nat) : Nat → Int → gS → Option gO := (rg_47 n).2.2
-- X5_readsLine
noncomputable def fb_46_109  (s : gS) : Option gO :=
  some ((1, 0, 0, s))
noncomputable def fb_46_97 (x2 : Int) (w0 : Int) (w1 : Nat) (s : gS) : Option gO :=
  (f_45 w1 (g32 (w0 + x2)) s).bind (gv1 (fun v18 s17 => if v18 = 0 then fb_46_109  s17 else some ((1, 1, 0, s17))))
noncomputable def fb_46_78 (x0 : Nat) (x1 : Int) (x2 : Int) (w0 : Int) (s : gS) : Option gO :=
  if w0 = 0 then fb_46_109  s else if x1 = 0 then fb_46_97 x2 4000 x0 s else fb_46_97 x2 3000 x0 s
noncomputable def fb_46_28 (x0 : Nat) (x1 : Int) (s : gS) : Option gO :=
  (f_78 (gR s x0 0) s).bind (gv0 (fun s7 => (f_84 (gR s7 x0 0) 0 30 s7).bind (gv1 (fun v10 s9 => if v10 = (-1) then some ((1, 0, 0, s9)) else (f_82 (gR s9 x0 0) 30 s9).bind (gv1 (fun v12 s11 => if v12 = 0 then (f_45 x0 1 s11).bind (gv1 (fun v15 s14 => fb_46_78 x0 x1 v10 v15 s14)) else (f_47 x0 0 s11).bind (gv1 (fun v21 s20 => fb_46_78 x0 x1 v10 v21 s20))))))))
noncomputable def f_46 (a0 : Nat) (s : gS) : Option gO :=
  (f_80 (gR s a0 0) 28 s).bind (gv1 (fun v2 s1 => if v2 = 0 then (f_80 (gR s1 a0 0) 29 s1).bind (gv1 (fun v5 s4 => if v5 = 0 then some ((1, 0, 0, s4)) else fb_46_28 a0 v2 s4)) else fb_46_28 a0 v2 s1))
-- X5_readLaw
noncomputable def sb_44_41 (x0 : Nat) (x1 : Int) (s : gS) : Option ((Nat × Int × gS) ⊕ gO) :=
  if 12 < x1 then (some ((1, 0, 0, s))).map Sum.inr else (f_46 x0 s).bind (gv1 (fun v8 s7 => if v8 = 0 then (some ((1, 0, 0, s7))).map Sum.inr else (f_79 (gR s7 x0 0) s7).bind (gv1 (fun v11 s10 => if v11 = 0 then (f_83 (gR s10 x0 0) 59 s10).bind (gv1 (fun v14 s13 => if v14 = 0 then (some ((1, 0, 0, s13))).map Sum.inr else some (Sum.inl (x0, (g32 (x1 + 1)), s13)))) else (let s16 : gS := gnw s10 4; (f_274 (gR s16 x0 1) (gI s16 x0 2) s16).bind (gvr (fun v18 s17 => (f_42 (gn s10) x1 v18 s17).bind (gv0 (fun s19 => if (gn s10) = 0 then none else some ((1, 0, (gn s10), s19))))))).map Sum.inr))))
noncomputable def st_44_41 (y : (Nat × Int × gS)) : Option ((Nat × Int × gS) ⊕ gO) := sb_44_41 y.1 y.2.1 y.2.2
noncomputable def f_44 (a0 : Nat) (s : gS) : Option gO :=
  let s1 : gS := gw s a0 2 0; (f_77 (gR s1 a0 0) s1).bind (gv0 (fun s2 => (f_79 (gR s2 a0 0) s2).bind (gv1 (fun v5 s4 => if v5 = 0 then gloop (st_44_41) (a0, 1, s4) else let s21 : gS := gnw s4 4; (f_274 (gR s21 a0 1) 0 s21).bind (gvr (fun v23 s22 => (f_42 (gn s4) 0 v23 s22).bind (gv0 (fun s24 => if (gn s4) = 0 then none else some ((1, 0, (gn s4), s24))))))))))
-- X6_add
noncomputable def fb_55_31 (x0 : Nat) (x1 : Int) (x2 : Int) (x3 : Int) (x4 : Int) (s : gS) : Option gO :=
  let v1 : Int := (g32 ((gI s x0 1) * 4)); gchk v1 240 (let s2 : gS := gw s (gR s x0 0) (v1 : Int).toNat x1; gchk (g32 (v1 + 1)) 240 (let s3 : gS := gw s2 (gR s2 x0 0) ((g32 (v1 + 1)) : Int).toNat x2; gchk (g32 (v1 + 2)) 240 (let s4 : gS := gw s3 (gR s3 x0 0) ((g32 (v1 + 2)) : Int).toNat x3; gchk (g32 (v1 + 3)) 240 (let s5 : gS := gw s4 (gR s4 x0 0) ((g32 (v1 + 3)) : Int).toNat x4; let s6 : gS := gw s5 x0 1 (g32 ((gI s5 x0 1) + 1)); some ((0, 0, 0, s6))))))
noncomputable def f_55 (a0 : Nat) (a1 : Int) (a2 : Int) (a3 : Int) (a4 : Int) (s : gS) : Option gO :=
  if (gI s a0 1) < 60 then fb_55_31 a0 a1 a2 a3 a4 s else let s7 : gS := gcpy s (gR s a0 0) 4 (gR s a0 0) 0 236; let s8 : gS := gw s7 a0 1 59; fb_55_31 a0 a1 a2 a3 a4 s8
-- X6_cell
noncomputable def f_56 (a0 : Nat) (a1 : Int) (a2 : Int) (s : gS) : Option gO :=
  if a1 < 0 then some ((1, (-1), 0, s)) else if a1 < (gI s a0 1) then if a2 < 0 then some ((1, (-1), 0, s)) else if a2 < 4 then gchk (g32 ((g32 ((g32 ((g32 ((gI s a0 1) - 1)) - a1)) * 4)) + a2)) 240 (some ((1, (gI s (gR s a0 0) ((g32 ((g32 ((g32 ((g32 ((gI s a0 1) - 1)) - a1)) * 4)) + a2)) : Int).toNat), 0, s))) else some ((1, (-1), 0, s)) else some ((1, (-1), 0, s))
-- X6_rowsOf
noncomputable def fb_57_60 (x0 : Nat) (x1 : Int) (x2 : Int) (x3 : Int) (x4 : Int) (s : gS) : Option ((Nat × Int × Int × Int × Int × gS) ⊕ gO) :=
  some (Sum.inl (x0, x1, x2, (g32 (x3 + 1)), (g32 (x4 + 1)), s))
noncomputable def fb_57_34 (x0 : Nat) (x1 : Int) (x2 : Int) (x3 : Int) (x4 : Int) (w0 : Int) (s : gS) : Option ((Nat × Int × Int × Int × Int × gS) ⊕ gO) :=
  if w0 = 0 then some (Sum.inl (x0, x1, x2, x3, (g32 (x4 + 1)), s)) else if x2 = 0 then fb_57_60 x0 x1 x2 x3 x4 s else gchk (g32 ((g32 (x4 * 4)) + 2)) 240 (if (gI s (gR s x0 0) ((g32 ((g32 (x4 * 4)) + 2)) : Int).toNat) = 2 then fb_57_60 x0 x1 x2 x3 x4 s else some (Sum.inl (x0, x1, x2, x3, (g32 (x4 + 1)), s)))
noncomputable def sb_57_5 (x0 : Nat) (x1 : Int) (x2 : Int) (x3 : Int) (x4 : Int) (s : gS) : Option ((Nat × Int × Int × Int × Int × gS) ⊕ gO) :=
  if x4 < (gI s x0 1) then gchk (g32 ((g32 (x4 * 4)) + 1)) 240 (if (gI s (gR s x0 0) ((g32 ((g32 (x4 * 4)) + 1)) : Int).toNat) = x1 then fb_57_34 x0 x1 x2 x3 x4 1 s else fb_57_34 x0 x1 x2 x3 x4 0 s) else (some ((1, x3, 0, s))).map Sum.inr
noncomputable def st_57_5 (y : (Nat × Int × Int × Int × Int × gS)) : Option ((Nat × Int × Int × Int × Int × gS) ⊕ gO) := sb_57_5 y.1 y.2.1 y.2.2.1 y.2.2.2.1 y.2.2.2.2.1 y.2.2.2.2.2
noncomputable def f_57 (a0 : Nat) (a1 : Int) (a2 : Int) (s : gS) : Option gO :=
  gloop (st_57_5) (a0, a1, a2, 0, 0, s)
-- J7_fill_53178
noncomputable def sb_273_5 (x0 : Nat) (x1 : Int) (x2 : Int) (x3 : Int) (s : gS) : Option ((Nat × Int × Int × Int × gS) ⊕ gO) :=
  if x2 < x3 then gchk x2 448 (let s1 : gS := gw s x0 (x2 : Int).toNat x1; some (Sum.inl (x0, x1, (g32 (x2 + 1)), x3, s1))) else (some ((0, 0, 0, s))).map Sum.inr
noncomputable def st_273_5 (y : (Nat × Int × Int × Int × gS)) : Option ((Nat × Int × Int × Int × gS) ⊕ gO) := sb_273_5 y.1 y.2.1 y.2.2.1 y.2.2.2.1 y.2.2.2.2
noncomputable def f_273 (a0 : Nat) (a1 : Int) (s : gS) : Option gO :=
  gloop (st_273_5) (a0, a1, 0, 448, s)
-- X8_given
noncomputable def f_64 (a0 : Nat) (a1 : Int) (a2 : Int) (a3 : Int) (s : gS) : Option gO :=
  let v1 : Int := (g32 ((g32 (a1 + 1)) * 64)); if a3 = (-1) then gchk (g32 (v1 + a2)) 448 (some ((1, (gI s (gR s a0 1) ((g32 (v1 + a2)) : Int).toNat), 0, s))) else gchk a3 6 (let v2 : Nat := (gR s (gR s (gR s a0 0) 0) (a3 : Int).toNat); if (gI s v2 5) = 0 then if (gand (gshr a2 a3) 1) = 0 then gchk a1 6 (gchk (g32 (v1 + (gor a2 (gshl 1 a3)))) 448 (some ((1, (g32 ((min (gI s (gR s (gR s a0 0) 1) (a1 : Int).toNat) (g32 ((gI s v2 0) * 3))) + (gI s (gR s a0 1) ((g32 (v1 + (gor a2 (gshl 1 a3)))) : Int).toNat))), 0, s)))) else some ((1, (-1), 0, s)) else some ((1, (-1), 0, s)))
-- X8_weigh
noncomputable def sb_63_48 (x0 : Nat) (x1 : Int) (x2 : Int) (x3 : Int) (x4 : Int) (s : gS) : Option ((Nat × Int × Int × Int × Int × gS) ⊕ ((Nat × Int × Int × gS) ⊕ ((Nat × Int × gS) ⊕ gO))) :=
  if x4 < (gI s (gR s x0 0) 4) then (f_64 x0 x1 x2 x4 s).bind (gv1 (fun v7 s6 => some (Sum.inl (x0, x1, x2, (max x3 v7), (g32 (x4 + 1)), s6)))) else (gchk (g32 ((g32 (x1 * 64)) + x2)) 448 (let s8 : gS := gw s (gR s x0 1) ((g32 ((g32 (x1 * 64)) + x2)) : Int).toNat x3; some (Sum.inl (x0, x1, (g32 (x2 + 1)), s8)))).map Sum.inr
noncomputable def st_63_48 (y : (Nat × Int × Int × Int × Int × gS)) : Option ((Nat × Int × Int × Int × Int × gS) ⊕ ((Nat × Int × Int × gS) ⊕ ((Nat × Int × gS) ⊕ gO))) := sb_63_48 y.1 y.2.1 y.2.2.1 y.2.2.2.1 y.2.2.2.2.1 y.2.2.2.2.2
noncomputable def sb_63_24 (x0 : Nat) (x1 : Int) (x2 : Int) (s : gS) : Option ((Nat × Int × Int × gS) ⊕ ((Nat × Int × gS) ⊕ gO)) :=
  if x2 < (gshl 1 (gI s (gR s x0 0) 4)) then (f_64 x0 x1 x2 (-1) s).bind (gv1 (fun v5 s4 => gloop (st_63_48) (x0, x1, x2, v5, 0, s4))) else (some (Sum.inl (x0, (g32 (x1 + (-1))), s))).map Sum.inr
noncomputable def st_63_24 (y : (Nat × Int × Int × gS)) : Option ((Nat × Int × Int × gS) ⊕ ((Nat × Int × gS) ⊕ gO)) := sb_63_24 y.1 y.2.1 y.2.2.1 y.2.2.2
noncomputable def sb_63_18 (x0 : Nat) (x1 : Int) (s : gS) : Option ((Nat × Int × gS) ⊕ gO) :=
  if x1 < 0 then (some ((0, 0, 0, s))).map Sum.inr else gloop (st_63_24) (x0, x1, 0, s)
noncomputable def st_63_18 (y : (Nat × Int × gS)) : Option ((Nat × Int × gS) ⊕ gO) := sb_63_18 y.1 y.2.1 y.2.2
noncomputable def f_63 (a0 : Nat) (s : gS) : Option gO :=
  (f_273 (gR s a0 1) 0 s).bind (gv0 (fun s1 => let v3 : Int := (g32 ((gI s1 (gR s1 a0 0) 5) - 1)); gloop (st_63_18) (a0, v3, s1)))
-- X8_most
noncomputable def f_65 (a0 : Nat) (s : gS) : Option gO :=
  some ((1, (gI s (gR s a0 1) 0), 0, s))
-- X8_gets
noncomputable def fb_66_57 (x0 : Nat) (x1 : Int) (x2 : Int) (x3 : Int) (x4 : Int) (s : gS) : Option ((Nat × Int × Int × Int × Int × gS) ⊕ gO) :=
  if x3 = (-1) then some (Sum.inl (x0, x1, x2, x3, (g32 (x4 + 1)), s)) else let v3 : Int := (gor x2 (gshl 1 x3)); some (Sum.inl (x0, x1, v3, x3, (g32 (x4 + 1)), s))
noncomputable def sb_66_15 (x0 : Nat) (x1 : Int) (x2 : Int) (x3 : Int) (x4 : Int) (s : gS) : Option ((Nat × Int × Int × Int × Int × gS) ⊕ ((Nat × Int × Int × Int × Int × gS) ⊕ gO)) :=
  if x3 < (g32 ((gI s (gR s x0 0) 4) - 1)) then (f_64 x0 x4 x2 x3 s).bind (gv1 (fun v2 s1 => gchk (g32 ((g32 (x4 * 64)) + x2)) 448 (if v2 < (gI s1 (gR s1 x0 1) ((g32 ((g32 (x4 * 64)) + x2)) : Int).toNat) then some (Sum.inl (x0, x1, x2, (g32 (x3 + 1)), x4, s1)) else (fb_66_57 x0 x1 x2 x3 x4 s1).map Sum.inr))) else (fb_66_57 x0 x1 x2 x3 x4 s).map Sum.inr
noncomputable def st_66_15 (y : (Nat × Int × Int × Int × Int × gS)) : Option ((Nat × Int × Int × Int × Int × gS) ⊕ ((Nat × Int × Int × Int × Int × gS) ⊕ gO)) := sb_66_15 y.1 y.2.1 y.2.2.1 y.2.2.2.1 y.2.2.2.2.1 y.2.2.2.2.2
noncomputable def sb_66_7 (x0 : Nat) (x1 : Int) (x2 : Int) (x3 : Int) (x4 : Int) (s : gS) : Option ((Nat × Int × Int × Int × Int × gS) ⊕ gO) :=
  if x1 < x4 then (some ((1, x3, 0, s))).map Sum.inr else gloop (st_66_15) (x0, x1, x2, (-1), x4, s)
noncomputable def st_66_7 (y : (Nat × Int × Int × Int × Int × gS)) : Option ((Nat × Int × Int × Int × Int × gS) ⊕ gO) := sb_66_7 y.1 y.2.1 y.2.2.1 y.2.2.2.1 y.2.2.2.2.1 y.2.2.2.2.2
noncomputable def f_66 (a0 : Nat) (a1 : Int) (s : gS) : Option gO :=
  gloop (st_66_7) (a0, a1, 0, (-1), 0, s)
-- J7_fill_d0a16
noncomputable def sb_272_6 (x0 : Nat) (x1 : Int) (x3 : Int) (x4 : Int) (s : gS) : Option ((Nat × Int × Int × Int × gS) ⊕ gO) :=
  if x3 < x4 then gchk x3 3000 (let s1 : gS := gw s x0 (x3 : Int).toNat x1; some (Sum.inl (x0, x1, (g32 (x3 + 1)), x4, s1))) else (some ((0, 0, 0, s))).map Sum.inr
noncomputable def st_272_6 (y : (Nat × Int × Int × Int × gS)) : Option ((Nat × Int × Int × Int × gS) ⊕ gO) := sb_272_6 y.1 y.2.1 y.2.2.1 y.2.2.2.1 y.2.2.2.2
noncomputable def f_272 (a0 : Nat) (a1 : Int) (s : gS) : Option gO :=
  gloop (st_272_6) (a0, a1, 0, 3000, s)
-- X9_lookAt
noncomputable def sb_68_47 (x0 : Nat) (x2 : Nat) (x4 : Int) (s : gS) : Option ((Nat × Nat × Int × gS) ⊕ gO) :=
  if x4 < (gI s x0 8) then gchk x4 30 (let s8 : gS := gw s (gR s x0 3) (x4 : Int).toNat (gI s x2 7); (f_27 x2 (gR s8 x0 1) (gR s8 x0 0) 0 s8).bind (gv1 (fun v10 s9 => (f_61 (gR s9 x0 2) (gR s9 x0 1) s9).bind (gv1 (fun v12 s11 => gchk x4 30 (let s13 : gS := gw s11 (gR s9 x0 6) (x4 : Int).toNat v12; gchk x4 30 (let s14 : gS := gw s13 (gR s13 x0 4) (x4 : Int).toNat (gI s13 (gR s13 x0 2) 3); gchk x4 30 (let s15 : gS := gw s14 (gR s14 x0 5) (x4 : Int).toNat (gI s14 (gR s14 x0 2) 4); some (Sum.inl (x0, x2, (g32 (x4 + 1)), s15)))))))))) else (some ((0, 0, 0, s))).map Sum.inr
noncomputable def st_68_47 (y : (Nat × Nat × Int × gS)) : Option ((Nat × Nat × Int × gS) ⊕ gO) := sb_68_47 y.1 y.2.1 y.2.2.1 y.2.2.2
noncomputable def f_68 (a0 : Nat) (a1 : Int) (a2 : Nat) (a3 : Int) (s : gS) : Option gO :=
  let s1 : gS := gw s a0 9 a1; let s2 : gS := gw s1 a0 8 (min 30 a3); let s3 : gS := gw s2 a0 10 (gI s2 a2 8); (f_272 (gR s3 a0 7) 0 s3).bind (gv0 (fun s4 => gchk a1 6 ((f_59 (gR s4 a0 2) (gR s4 (gR s4 a2 0) (a1 : Int).toNat) s4).bind (gv0 (fun s6 => gloop (st_68_47) (a0, a2, 0, s6))))))
-- X9_trustBehind
noncomputable def f_73 (a0 : Nat) (a1 : Int) (a2 : Int) (a3 : Int) (s : gS) : Option gO :=
  let s1 : gS := gw s (gR s a0 2) 0 a3; let s2 : gS := gw s1 (gR s1 a0 2) 1 a2; gchk a1 30 (let s3 : gS := gw s2 (gR s2 a0 2) 3 (gI s2 (gR s2 a0 4) (a1 : Int).toNat); gchk a1 30 (let s4 : gS := gw s3 (gR s3 a0 2) 4 (gI s3 (gR s3 a0 5) (a1 : Int).toNat); gchk a1 30 ((f_60 (gR s4 a0 2) (gI s4 (gR s4 a0 6) (a1 : Int).toNat) s4).bind (gv0 (fun s5 => (f_35 (gR s5 a0 0) (gI s5 a0 9) (gR s5 a0 2) (gI s5 (gR s5 a0 1) 5) s5).bind (gv0 (fun s7 => gchk a1 30 ((f_36 (gR s7 a0 0) (gI s7 (gR s7 a0 3) (a1 : Int).toNat) (min 9999 (g32 ((gI s7 a0 10) + a1))) s7).bind (gv0 (fun s9 => (f_37 (gR s9 a0 0) (gR s9 (gR s9 a0 1) 11) s9).bind (gv1 (fun v12 s11 => (f_60 (gR s9 a0 2) v12 s11).bind (gv0 (fun s13 => some ((1, (gI s13 (gR s13 a0 2) 0), 0, s13))))))))))))))))
-- X9_proven
noncomputable def f_72 (a0 : Nat) (a1 : Int) (s : gS) : Option gO :=
  some ((1, (min 99 (g32 (a1 + (gI s (gR s a0 1) 9)))), 0, s))
-- X9_keptFrom
noncomputable def fb_70_117 (r_70 : Nat → Int → Int → Int → gS → Option gO) (r_71 : Nat → Int → Int → Int → gS → Option gO) (x0 : Nat) (x4 : Int) (x5 : Int) (x7 : Int) (s : gS) : Option gO :=
  gchk x4 3000 (gchk x4 3000 (let s10 : gS := gw s (gR s x0 7) (x4 : Int).toNat (glor (gI s (gR s x0 7) (x4 : Int).toNat) (glshl (g32 (x7 + 1)) x5)); some ((1, x7, 0, s10))))
noncomputable def fo_70 (r_70 : Nat → Int → Int → Int → gS → Option gO) (r_71 : Nat → Int → Int → Int → gS → Option gO) (a0 : Nat) (a1 : Int) (a2 : Int) (a3 : Int) (s : gS) : Option gO :=
  if a1 < (gI s a0 8) then if a2 < 10 then if a3 < 100 then let v1 : Int := (g32 ((g32 ((g32 ((g32 ((gdiv a1 12) * 10)) + a2)) * 100)) + a3)); let v2 : Int := (g32 ((grem a1 12) * 5)); gchk v1 3000 (let v3 : Int := (g32 (gland (glshr (gI s (gR s a0 7) (v1 : Int).toNat) v2) 31)); if 0 < v3 then some ((1, (g32 (v3 - 1)), 0, s)) else (r_71 a0 a1 a2 a3 s).bind (gv1 (fun v5 s4 => if 0 < a2 then if v5 < (g32 ((gI s4 a0 8) - a1)) then (f_72 a0 a3 s4).bind (gv1 (fun v7 s6 => (r_70 a0 a1 (g32 (a2 - 1)) v7 s6).bind (gv1 (fun v9 s8 => fb_70_117 r_70 r_71 a0 v1 v2 (max v5 v9) s8)))) else fb_70_117 r_70 r_71 a0 v1 v2 v5 s4 else fb_70_117 r_70 r_71 a0 v1 v2 v5 s4))) else some ((1, 0, 0, s)) else some ((1, 0, 0, s)) else some ((1, 0, 0, s))
-- X9_keptIfPassed
noncomputable def fo_71 (r_70 : Nat → Int → Int → Int → gS → Option gO) (a0 : Nat) (a1 : Int) (a2 : Int) (a3 : Int) (s : gS) : Option gO :=
  (f_73 a0 a1 a2 a3 s).bind (gv1 (fun v2 s1 => if v2 < (gI s1 (gR s1 a0 1) 7) then some ((1, 0, 0, s1)) else (r_70 a0 (g32 (a1 + 1)) a2 v2 s1).bind (gv1 (fun v4 s3 => some ((1, (g32 (1 + v4)), 0, s3))))))
noncomputable def rg_70 : Nat → (Nat → Int → Int → Int → gS → Option gO) × (Nat → Int → Int → Int → gS → Option gO)
  | 0 => ((fun _ _ _ _ _ => none), (fun _ _ _ _ _ => none))
  | n + 1 => (fo_70 (rg_70 n).1 (rg_70 n).2, fo_71 (rg_70 n).1)
noncomputable def fn_70 (n : Nat) : Nat → Int → Int → Int → gS → Option gO := (rg_70 n).1
noncomputable def f_70 : Nat → Int → Int → Int → gS → Option gO := fn_70 80
noncomputable def fn_71 (n : Nat) : Nat → Int → Int → Int → gS → Option gO := (rg_70 n).2
noncomputable def f_71 : Nat → Int → Int → Int → gS → Option gO := fn_71 80
-- X9_mostKept
noncomputable def f_69 (a0 : Nat) (a1 : Int) (a2 : Int) (s : gS) : Option gO :=
  (f_70 a0 0 a1 a2 s).bind (gv1 (fun v2 s1 => some ((1, v2, 0, s1))))
-- X9_usedAheadOf
noncomputable def fb_74_63 (x0 : Nat) (x1 : Int) (x4 : Int) (x5 : Int) (x6 : Int) (x7 : Int) (s : gS) : Option ((Nat × Int × Int × Int × Int × gS) ⊕ gO) :=
  if x6 = x1 then (some ((1, x7, 0, s))).map Sum.inr else (f_73 x0 x6 x4 x5 s).bind (gv1 (fun v8 s7 => if v8 < (gI s7 (gR s7 x0 1) 7) then (some ((1, 0, 0, s7))).map Sum.inr else some (Sum.inl (x0, x1, x4, v8, (g32 (x6 + 1)), s7))))
noncomputable def sb_74_18 (x0 : Nat) (x1 : Int) (x4 : Int) (x5 : Int) (x6 : Int) (x7 : Int) (s : gS) : Option ((Nat × Int × Int × Int × Int × Int × gS) ⊕ ((Nat × Int × Int × Int × Int × gS) ⊕ gO)) :=
  if 0 < x4 then (f_71 x0 x6 x4 x5 s).bind (gv1 (fun v2 s1 => (f_70 x0 x6 x4 x5 s1).bind (gv1 (fun v4 s3 => if v2 < v4 then (f_72 x0 x5 s3).bind (gv1 (fun v6 s5 => some (Sum.inl (x0, x1, (g32 (x4 + (-1))), v6, x6, (g32 (x7 + 1)), s5)))) else (fb_74_63 x0 x1 x4 x5 x6 x7 s3).map Sum.inr)))) else (fb_74_63 x0 x1 x4 x5 x6 x7 s).map Sum.inr
noncomputable def st_74_18 (y : (Nat × Int × Int × Int × Int × Int × gS)) : Option ((Nat × Int × Int × Int × Int × Int × gS) ⊕ ((Nat × Int × Int × Int × Int × gS) ⊕ gO)) := sb_74_18 y.1 y.2.1 y.2.2.1 y.2.2.2.1 y.2.2.2.2.1 y.2.2.2.2.2.1 y.2.2.2.2.2.2
noncomputable def sb_74_9 (x0 : Nat) (x1 : Int) (x4 : Int) (x5 : Int) (x6 : Int) (s : gS) : Option ((Nat × Int × Int × Int × Int × gS) ⊕ gO) :=
  if x1 < x6 then (some ((1, 0, 0, s))).map Sum.inr else gloop (st_74_18) (x0, x1, x4, x5, x6, 0, s)
noncomputable def st_74_9 (y : (Nat × Int × Int × Int × Int × gS)) : Option ((Nat × Int × Int × Int × Int × gS) ⊕ gO) := sb_74_9 y.1 y.2.1 y.2.2.1 y.2.2.2.1 y.2.2.2.2.1 y.2.2.2.2.2
noncomputable def f_74 (a0 : Nat) (a1 : Int) (a2 : Int) (a3 : Int) (s : gS) : Option gO :=
  gloop (st_74_9) (a0, a1, a2, a3, 0, s)
-- X10_put
noncomputable def sb_76_3 (x0 : Nat) (x1 : Int) (x2 : Int) (s : gS) : Option ((Nat × Int × Int × gS) ⊕ gO) :=
  if x2 < 0 then (some ((0, 0, 0, s))).map Sum.inr else if (gI s x0 1) < 400 then gchk (gI s x0 1) 400 (let s1 : gS := gw s (gR s x0 0) ((gI s x0 1) : Int).toNat (gand (gshr x1 x2) 255); let s2 : gS := gw s1 x0 1 (g32 ((gI s1 x0 1) + 1)); some (Sum.inl (x0, x1, (g32 (x2 + (-8))), s2))) else (some ((0, 0, 0, s))).map Sum.inr
noncomputable def st_76_3 (y : (Nat × Int × Int × gS)) : Option ((Nat × Int × Int × gS) ⊕ gO) := sb_76_3 y.1 y.2.1 y.2.2.1 y.2.2.2
noncomputable def f_76 (a0 : Nat) (a1 : Int) (s : gS) : Option gO :=
  gloop (st_76_3) (a0, a1, 24, s)
-- X11_feed
noncomputable def f_87 (a0 : Nat) (a1 : Int) (a2 : Int) (a3 : Int) (a4 : Int) (a5 : Int) (s : gS) : Option gO :=
  if 400 < (g32 ((gI s (gR s a0 0) 1) + 20)) then some ((1, (-1), 0, s)) else (f_76 (gR s a0 0) a1 s).bind (gv0 (fun s1 => (f_76 (gR s1 a0 0) a2 s1).bind (gv0 (fun s3 => (f_76 (gR s3 a0 0) a3 s3).bind (gv0 (fun s5 => (f_76 (gR s5 a0 0) a4 s5).bind (gv0 (fun s7 => (f_76 (gR s7 a0 0) a5 s7).bind (gv0 (fun s9 => some ((1, (gI s9 (gR s9 a0 0) 1), 0, s9))))))))))))
-- X11_end
noncomputable def f_88 (a0 : Nat) (a1 : Int) (s : gS) : Option gO :=
  if a1 < 0 then some ((1, 0, 0, s)) else if (gI s (gR s a0 0) 1) < a1 then some ((1, 0, 0, s)) else let s1 : gS := gw s (gR s a0 0) 1 a1; some ((1, 1, 0, s1))
-- X11_book
noncomputable def fb_89_54 (x0 : Nat) (x1 : Int) (w0 : Int) (w1 : Nat) (s : gS) : Option gO :=
  let s8 : gS := gw s w1 16 w0; let s9 : gS := gw s8 (gR s8 x0 0) 1 0; if x1 = 0 then some ((2, 0, 0, gnw s9 99)) else if (gI s9 (gR s9 x0 4) 10) < 12 then (f_1 (gR s9 x0 4) (gR s9 x0 8) s9).bind (gv0 (fun s10 => let s12 : gS := gw s10 (gR s10 x0 4) 10 (g32 ((gI s10 (gR s10 x0 4) 10) + 1)); (f_23 (gR s12 x0 5) (gR s12 x0 9) s12).bind (gv0 (fun s13 => let s15 : gS := gw s13 x0 14 0; some ((1, (gI s15 (gR s15 x0 4) 10), 0, s15)))))) else some ((3, 0, 0, gnw s9 99))
noncomputable def f_89 (a0 : Nat) (s : gS) : Option gO :=
  (f_1 (gR s a0 8) (gR s a0 4) s).bind (gv0 (fun s1 => (f_23 (gR s1 a0 9) (gR s1 a0 5) s1).bind (gv0 (fun s3 => (f_11 (gR s3 a0 2) (gR s3 a0 8) (gR s3 a0 9) s3).bind (gv1 (fun v6 s5 => if v6 = 0 then fb_89_54 a0 v6 (gI s5 (gR s5 a0 0) 3) a0 s5 else fb_89_54 a0 v6 (-1) a0 s5))))))
-- X11_law
noncomputable def fb_90_24 (x0 : Nat) (x1 : Nat) (w0 : Int) (w1 : Nat) (s : gS) : Option gO :=
  let s3 : gS := gw s w1 16 w0; let s4 : gS := gw s3 (gR s3 x0 0) 1 0; if x1 = 0 then some ((2, 0, 0, gnw s4 99)) else let s5 : gS := gwr s4 (gR s4 x0 4) 11 x1; let s6 : gS := gw s5 x0 14 0; if x1 = 0 then none else some ((1, (gI s6 x1 0), 0, s6))
noncomputable def f_90 (a0 : Nat) (s : gS) : Option gO :=
  (f_44 (gR s a0 3) s).bind (gvr (fun v2 s1 => if v2 = 0 then fb_90_24 a0 v2 (gI s1 (gR s1 a0 0) 3) a0 s1 else fb_90_24 a0 v2 (-1) a0 s1))
-- X11_fault
noncomputable def f_91 (a0 : Nat) (s : gS) : Option gO :=
  some ((1, (gI s a0 16), 0, s))
-- X11_needStep
noncomputable def fb_134_15  (s : gS) : Option gO :=
  some ((5, 0, 0, gnw s 99))
noncomputable def f_134 (a0 : Nat) (a1 : Int) (s : gS) : Option gO :=
  if a1 < 0 then fb_134_15  s else if a1 < (gI s (gR s a0 4) 5) then some ((0, 0, 0, s)) else fb_134_15  s
-- X11_step
noncomputable def f_92 (a0 : Nat) (a1 : Int) (a2 : Int) (s : gS) : Option gO :=
  (f_134 a0 a1 s).bind (gt0 (fun r => r) (fun s1 => if a2 < 0 then some ((4, 0, 0, gnw s1 99)) else if a2 < 1 then gchk a1 8 (some ((1, (gI s1 (gR s1 (gR s1 a0 4) 0) (a1 : Int).toNat), 0, s1))) else if a2 < 2 then gchk a1 8 (some ((1, (gI s1 (gR s1 (gR s1 a0 4) 1) (a1 : Int).toNat), 0, s1))) else if a2 < 3 then gchk a1 8 (some ((1, (gI s1 (gR s1 (gR s1 a0 4) 2) (a1 : Int).toNat), 0, s1))) else if a2 < 4 then (f_31 (gR s1 a0 5) a1 s1).bind (gv1 (fun v4 s3 => some ((1, v4, 0, s3)))) else some ((4, 0, 0, gnw s1 99))))
-- X11_needMan
noncomputable def fb_135_15  (s : gS) : Option gO :=
  some ((5, 0, 0, gnw s 99))
noncomputable def f_135 (a0 : Nat) (a1 : Int) (s : gS) : Option gO :=
  if a1 < 0 then fb_135_15  s else if a1 < (gI s (gR s a0 5) 4) then some ((0, 0, 0, s)) else fb_135_15  s
-- X11_man
noncomputable def f_93 (a0 : Nat) (a1 : Int) (a2 : Int) (s : gS) : Option gO :=
  (f_135 a0 a1 s).bind (gt0 (fun r => r) (fun s1 => gchk a1 6 (let v3 : Nat := (gR s1 (gR s1 (gR s1 a0 5) 0) (a1 : Int).toNat); if a2 < 0 then some ((4, 0, 0, gnw s1 99)) else if a2 < 1 then some ((1, (gI s1 v3 0), 0, s1)) else if a2 < 2 then some ((1, (gI s1 v3 1), 0, s1)) else if a2 < 3 then some ((1, (gI s1 v3 2), 0, s1)) else if a2 < 4 then some ((1, (gI s1 v3 3), 0, s1)) else if a2 < 5 then some ((1, (gI s1 v3 4), 0, s1)) else if a2 < 6 then some ((1, (gI s1 v3 5), 0, s1)) else if a2 < 7 then (f_34 (gR s1 a0 1) a1 (gR s1 a0 4) (gR s1 a0 5) s1).bind (gv1 (fun v5 s4 => some ((1, v5, 0, s4)))) else if a2 < 8 then (f_7 (gR s1 a0 4) v3 s1).bind (gv1 (fun v7 s6 => some ((1, v7, 0, s6)))) else if a2 < 9 then (f_8 (gR s1 a0 4) v3 s1).bind (gv1 (fun v9 s8 => some ((1, v9, 0, s8)))) else if a2 < 10 then (f_9 (gR s1 a0 4) v3 s1).bind (gv1 (fun v11 s10 => (f_7 (gR s10 a0 4) v3 s10).bind (gv1 (fun v13 s12 => some ((1, (g32 (v11 - v13)), 0, s12)))))) else some ((4, 0, 0, gnw s1 99)))))
-- X11_needTest
noncomputable def fb_136_15  (s : gS) : Option gO :=
  some ((5, 0, 0, gnw s 99))
noncomputable def f_136 (a0 : Nat) (a1 : Int) (s : gS) : Option gO :=
  if a1 < 0 then fb_136_15  s else if a1 < (gI s (gR s a0 4) 6) then some ((0, 0, 0, s)) else fb_136_15  s
-- X11_test
noncomputable def f_94 (a0 : Nat) (a1 : Int) (a2 : Int) (s : gS) : Option gO :=
  (f_136 a0 a1 s).bind (gt0 (fun r => r) (fun s1 => if a2 = 0 then gchk a1 6 (some ((1, (gI s1 (gR s1 (gR s1 a0 4) 3) (a1 : Int).toNat), 0, s1))) else gchk a1 6 (some ((1, (gI s1 (gR s1 (gR s1 a0 4) 4) (a1 : Int).toNat), 0, s1)))))
-- X11_needRival
noncomputable def fb_137_15  (s : gS) : Option gO :=
  some ((5, 0, 0, gnw s 99))
noncomputable def f_137 (a0 : Nat) (a1 : Int) (s : gS) : Option gO :=
  if a1 < 0 then fb_137_15  s else if a1 < (gI s (gR s a0 5) 5) then some ((0, 0, 0, s)) else fb_137_15  s
-- X11_rival
noncomputable def f_95 (a0 : Nat) (a1 : Int) (a2 : Int) (s : gS) : Option gO :=
  (f_137 a0 a1 s).bind (gt0 (fun r => r) (fun s1 => if a2 = 0 then gchk a1 6 (some ((1, (gI s1 (gR s1 (gR s1 a0 5) 1) (a1 : Int).toNat), 0, s1))) else gchk a1 6 (some ((1, (gI s1 (gR s1 (gR s1 a0 5) 2) (a1 : Int).toNat), 0, s1)))))
-- X11_needKept
noncomputable def f_139 (a0 : Nat) (a1 : Int) (s : gS) : Option gO :=
  gchk a1 6 (if (gI s (gR s (gR s (gR s a0 5) 0) (a1 : Int).toNat) 5) = 0 then some ((0, 0, 0, s)) else some ((6, 0, 0, gnw s 99)))
-- X11_remember
noncomputable def f_140 (a0 : Nat) (s : gS) : Option gO :=
  let s1 : gS := gw s a0 13 (grem (g32 ((gI s a0 13) + 1)) 12); gchk (gI s1 a0 13) 12 ((f_22 (gR s1 (gR s1 a0 12) ((gI s1 a0 13) : Int).toNat) (gR s1 a0 5) s1).bind (gv0 (fun s2 => let s4 : gS := gw s2 a0 14 (min 12 (g32 ((gI s2 a0 14) + 1))); some ((0, 0, 0, s4)))))
-- X11_proof
noncomputable def f_96 (a0 : Nat) (a1 : Int) (s : gS) : Option gO :=
  (f_135 a0 a1 s).bind (gt0 (fun r => r) (fun s1 => (f_139 a0 a1 s1).bind (gt0 (fun r => r) (fun s3 => gchk a1 6 (let v5 : Nat := (gR s3 (gR s3 (gR s3 a0 5) 0) (a1 : Int).toNat); if (gI s3 v5 1) < 1 then some ((6, 0, 0, gnw s3 99)) else (f_140 a0 s3).bind (gv0 (fun s6 => let s8 : gS := gw s6 v5 1 (g32 ((gI s6 v5 1) - 1)); (f_60 v5 (gI s8 (gR s8 a0 4) 9) s8).bind (gv0 (fun s9 => (f_55 (gR s9 (gR s9 a0 5) 3) (gI s9 (gR s9 a0 5) 8) a1 0 (gI s9 v5 0) s9).bind (gv0 (fun s11 => some ((1, (gI s11 v5 0), 0, s11)))))))))))))
-- X11_tried
noncomputable def fb_97_126 (x3 : Nat) (x4 : Int) (w0 : Int) (w1 : Int) (w2 : Int) (w3 : Nat) (s : gS) : Option gO :=
  (f_55 w3 w2 w1 w0 (gI s x3 0) s).bind (gv0 (fun s18 => gbool x4 (some ((1, x4, 0, s18)))))
noncomputable def fb_97_101 (x0 : Nat) (x1 : Int) (x3 : Nat) (x4 : Int) (s : gS) : Option gO :=
  if x4 = 0 then fb_97_126 x3 x4 1 x1 (gI s (gR s x0 5) 8) (gR s (gR s x0 5) 3) s else fb_97_126 x3 x4 2 x1 (gI s (gR s x0 5) 8) (gR s (gR s x0 5) 3) s
noncomputable def fb_97_82 (x0 : Nat) (x1 : Int) (x3 : Nat) (x4 : Int) (s : gS) : Option gO :=
  if (gI s x3 0) < (gI s (gR s x0 4) 7) then let s17 : gS := gw s x3 5 1; fb_97_101 x0 x1 x3 x4 s17 else fb_97_101 x0 x1 x3 x4 s
noncomputable def f_97 (a0 : Nat) (a1 : Int) (a2 : Int) (s : gS) : Option gO :=
  (f_135 a0 a1 s).bind (gt0 (fun r => r) (fun s1 => (f_136 a0 a2 s1).bind (gt0 (fun r => r) (fun s3 => (f_139 a0 a1 s3).bind (gt0 (fun r => r) (fun s5 => (f_140 a0 s5).bind (gv0 (fun s7 => gchk a2 6 ((f_26 (gR s7 a0 5) (gI s7 (gR s7 (gR s7 a0 4) 3) (a2 : Int).toNat) s7).bind (gv0 (fun s9 => gchk a1 6 (let v11 : Nat := (gR s9 (gR s9 (gR s9 a0 5) 0) (a1 : Int).toNat); (f_4 (gR s9 a0 4) a2 (gI s9 v11 2) s9).bind (gv1 (fun v13 s12 => if v13 = 0 then (f_60 v11 5 s12).bind (gv0 (fun s15 => fb_97_82 a0 a1 v11 v13 s15)) else let s20 : gS := gw s12 v11 0 (gdiv (gI s12 v11 0) 2); fb_97_82 a0 a1 v11 v13 s20))))))))))))))
-- X11_flee
noncomputable def f_98 (a0 : Nat) (a1 : Int) (s : gS) : Option gO :=
  (f_135 a0 a1 s).bind (gt0 (fun r => r) (fun s1 => (f_139 a0 a1 s1).bind (gt0 (fun r => r) (fun s3 => gchk a1 6 (let v5 : Nat := (gR s3 (gR s3 (gR s3 a0 5) 0) (a1 : Int).toNat); if 0 < (gI s3 v5 4) then some ((6, 0, 0, gnw s3 99)) else (f_140 a0 s3).bind (gv0 (fun s6 => let s8 : gS := gw s6 v5 5 2; some ((1, (gI s8 v5 0), 0, s8)))))))))
-- X11_needWithin
noncomputable def fb_138_10  (s : gS) : Option gO :=
  some ((2, 0, 0, gnw s 99))
noncomputable def f_138 (a0 : Nat) (a1 : Int) (a2 : Int) (a3 : Int) (s : gS) : Option gO :=
  if a1 < a2 then fb_138_10  s else if a3 < a1 then fb_138_10  s else some ((0, 0, 0, s))
-- X11_sell
noncomputable def f_99 (a0 : Nat) (a1 : Int) (a2 : Int) (a3 : Int) (s : gS) : Option gO :=
  (f_135 a0 a1 s).bind (gt0 (fun r => r) (fun s1 => (f_137 a0 a2 s1).bind (gt0 (fun r => r) (fun s3 => gchk a2 6 ((f_138 a0 a3 0 (gI s3 (gR s3 (gR s3 a0 5) 1) (a2 : Int).toNat) s3).bind (gt0 (fun r => r) (fun s5 => (f_139 a0 a1 s5).bind (gt0 (fun r => r) (fun s7 => (f_140 a0 s7).bind (gv0 (fun s9 => gchk a1 6 (let v11 : Nat := (gR s9 (gR s9 (gR s9 a0 5) 0) (a1 : Int).toNat); gchk a2 6 (gchk a2 6 (let s12 : gS := gw s9 (gR s9 (gR s9 a0 5) 1) (a2 : Int).toNat (g32 ((gI s9 (gR s9 (gR s9 a0 5) 1) (a2 : Int).toNat) - a3)); let s13 : gS := gw s12 (gR s12 a0 5) 6 (min 9999 (g32 ((gI s12 (gR s12 a0 5) 6) + a3))); gchk a2 6 (gchk a2 6 (let s14 : gS := gw s13 (gR s13 (gR s13 a0 5) 2) (a2 : Int).toNat (gor (gI s13 (gR s13 (gR s13 a0 5) 2) (a2 : Int).toNat) (g32 ((gshl 1 (gI s13 v11 3)) - 1))); let s15 : gS := gw s14 v11 5 3; some ((1, (gI s15 (gR s15 a0 5) 6), 0, s15))))))))))))))))))
-- X11_part
noncomputable def fb_100_40  (s : gS) : Option gO :=
  some ((6, 0, 0, gnw s 99))
noncomputable def f_100 (a0 : Nat) (a1 : Int) (a2 : Int) (s : gS) : Option gO :=
  (f_134 a0 a1 s).bind (gt0 (fun r => r) (fun s1 => (f_137 a0 a2 s1).bind (gt0 (fun r => r) (fun s3 => gchk a2 6 (if (gand (gshr (gI s3 (gR s3 (gR s3 a0 5) 2) (a2 : Int).toNat) a1) 1) = 0 then gchk a2 6 (if (gI s3 (gR s3 (gR s3 a0 5) 1) (a2 : Int).toNat) < 20 then fb_100_40  s3 else (f_140 a0 s3).bind (gv0 (fun s5 => gchk a2 6 (gchk a2 6 (let s7 : gS := gw s5 (gR s5 (gR s5 a0 5) 1) (a2 : Int).toNat (g32 ((gI s5 (gR s5 (gR s5 a0 5) 1) (a2 : Int).toNat) - 20)); gchk a2 6 (gchk a2 6 (let s8 : gS := gw s7 (gR s7 (gR s7 a0 5) 2) (a2 : Int).toNat (gor (gI s7 (gR s7 (gR s7 a0 5) 2) (a2 : Int).toNat) (gshl 1 a1)); gchk a2 6 (some ((1, (gI s8 (gR s8 (gR s8 a0 5) 2) (a2 : Int).toNat), 0, s8)))))))))) else fb_100_40  s3)))))
-- X11_pay
noncomputable def f_101 (a0 : Nat) (a1 : Int) (s : gS) : Option gO :=
  (f_138 a0 a1 1 (min (gI s (gR s a0 5) 7) (gI s (gR s a0 5) 6)) s).bind (gt0 (fun r => r) (fun s1 => (f_140 a0 s1).bind (gv0 (fun s3 => let s5 : gS := gw s3 (gR s3 a0 5) 7 (g32 ((gI s3 (gR s3 a0 5) 7) - a1)); let s6 : gS := gw s5 (gR s5 a0 5) 6 (g32 ((gI s5 (gR s5 a0 5) 6) - a1)); some ((1, (gI s6 (gR s6 a0 5) 7), 0, s6))))))
-- X11_days
noncomputable def sb_102_17 (x0 : Nat) (x1 : Int) (x2 : Int) (x3 : Int) (s : gS) : Option ((Nat × Int × Int × Int × gS) ⊕ gO) :=
  if x3 < x1 then (f_27 (gR s x0 5) (gR s x0 4) (gR s x0 1) (gI s (gR s x0 4) 8) s).bind (gv1 (fun v6 s5 => some (Sum.inl (x0, x1, (g32 (x2 + v6)), (g32 (x3 + 1)), s5)))) else (some ((1, x2, 0, s))).map Sum.inr
noncomputable def st_102_17 (y : (Nat × Int × Int × Int × gS)) : Option ((Nat × Int × Int × Int × gS) ⊕ gO) := sb_102_17 y.1 y.2.1 y.2.2.1 y.2.2.2.1 y.2.2.2.2
noncomputable def f_102 (a0 : Nat) (a1 : Int) (s : gS) : Option gO :=
  (f_138 a0 a1 1 200 s).bind (gt0 (fun r => r) (fun s1 => (f_140 a0 s1).bind (gv0 (fun s3 => gloop (st_102_17) (a0, a1, 0, 0, s3)))))
-- X11_draftDays
noncomputable def sb_141_22 (x0 : Nat) (x1 : Int) (x2 : Int) (x4 : Int) (s : gS) : Option ((Nat × Int × Int × Int × gS) ⊕ gO) :=
  if x4 < x1 then (f_27 (gR s x0 9) (gR s x0 4) (gR s x0 1) x2 s).bind (gv1 (fun v5 s4 => some (Sum.inl (x0, x1, x2, (g32 (x4 + 1)), s4)))) else (some ((0, 0, 0, s))).map Sum.inr
noncomputable def st_141_22 (y : (Nat × Int × Int × Int × gS)) : Option ((Nat × Int × Int × Int × gS) ⊕ gO) := sb_141_22 y.1 y.2.1 y.2.2.1 y.2.2.2.1 y.2.2.2.2
noncomputable def f_141 (a0 : Nat) (a1 : Int) (a2 : Int) (a3 : Int) (s : gS) : Option gO :=
  (f_23 (gR s a0 9) (gR s a0 5) s).bind (gv0 (fun s1 => let s3 : gS := gw s1 (gR s1 a0 9) 9 a3; gloop (st_141_22) (a0, a1, a2, 0, s3)))
-- X11_ahead
noncomputable def fb_103_23  (s : gS) : Option gO :=
  some ((4, 0, 0, gnw s 99))
noncomputable def f_103 (a0 : Nat) (a1 : Int) (a2 : Int) (a3 : Int) (s : gS) : Option gO :=
  (f_135 a0 a1 s).bind (gt0 (fun r => r) (fun s1 => (f_138 a0 a2 0 200 s1).bind (gt0 (fun r => r) (fun s3 => if a3 < 0 then fb_103_23  s3 else if 3 < a3 then fb_103_23  s3 else (f_141 a0 a2 0 (gI s3 (gR s3 a0 5) 9) s3).bind (gv0 (fun s5 => gchk a1 6 (let v7 : Nat := (gR s5 (gR s5 (gR s5 a0 9) 0) (a1 : Int).toNat); if a3 < 0 then some ((1, (gI s5 v7 5), 0, s5)) else if a3 < 1 then some ((1, (gI s5 v7 0), 0, s5)) else if a3 < 2 then some ((1, (gI s5 v7 3), 0, s5)) else if a3 < 3 then some ((1, (gI s5 v7 4), 0, s5)) else some ((1, (gI s5 v7 5), 0, s5)))))))))
-- X11_owes
noncomputable def f_104 (a0 : Nat) (a1 : Int) (s : gS) : Option gO :=
  (f_138 a0 a1 0 200 s).bind (gt0 (fun r => r) (fun s1 => (f_141 a0 a1 0 (gI s1 (gR s1 a0 5) 9) s1).bind (gv0 (fun s3 => some ((1, (gI s3 (gR s3 a0 9) 7), 0, s3))))))
-- X11_chest
noncomputable def f_105 (a0 : Nat) (a1 : Int) (s : gS) : Option gO :=
  (f_138 a0 a1 0 200 s).bind (gt0 (fun r => r) (fun s1 => (f_141 a0 a1 0 (gI s1 (gR s1 a0 5) 9) s1).bind (gv0 (fun s3 => some ((1, (gI s3 (gR s3 a0 9) 6), 0, s3))))))
-- X11_lives
noncomputable def sb_106_28 (x0 : Nat) (x2 : Nat) (x3 : Int) (s : gS) : Option ((Nat × Nat × Int × gS) ⊕ gO) :=
  if 200 < x3 then (some ((1, (-1), 0, s))).map Sum.inr else if (gI s x2 5) = 0 then (f_27 (gR s x0 9) (gR s x0 4) (gR s x0 1) 0 s).bind (gv1 (fun v7 s6 => if (gI s6 x2 5) = 1 then (some ((1, x3, 0, s6))).map Sum.inr else some (Sum.inl (x0, x2, (g32 (x3 + 1)), s6)))) else (some ((1, (-1), 0, s))).map Sum.inr
noncomputable def st_106_28 (y : (Nat × Nat × Int × gS)) : Option ((Nat × Nat × Int × gS) ⊕ gO) := sb_106_28 y.1 y.2.1 y.2.2.1 y.2.2.2
noncomputable def f_106 (a0 : Nat) (a1 : Int) (s : gS) : Option gO :=
  (f_135 a0 a1 s).bind (gt0 (fun r => r) (fun s1 => (f_23 (gR s1 a0 9) (gR s1 a0 5) s1).bind (gv0 (fun s3 => gchk a1 6 (let v5 : Nat := (gR s3 (gR s3 (gR s3 a0 9) 0) (a1 : Int).toNat); gloop (st_106_28) (a0, v5, 1, s3))))))
-- X11_done
noncomputable def sb_107_28 (x0 : Nat) (x2 : Nat) (x3 : Int) (s : gS) : Option ((Nat × Nat × Int × gS) ⊕ gO) :=
  if 200 < x3 then (some ((1, (-1), 0, s))).map Sum.inr else if (gI s x2 5) = 0 then if (gI s x2 3) < (gI s (gR s x0 4) 5) then (f_27 (gR s x0 9) (gR s x0 4) (gR s x0 1) 0 s).bind (gv1 (fun v7 s6 => some (Sum.inl (x0, x2, (g32 (x3 + 1)), s6)))) else (some ((1, x3, 0, s))).map Sum.inr else (some ((1, (-1), 0, s))).map Sum.inr
noncomputable def st_107_28 (y : (Nat × Nat × Int × gS)) : Option ((Nat × Nat × Int × gS) ⊕ gO) := sb_107_28 y.1 y.2.1 y.2.2.1 y.2.2.2
noncomputable def f_107 (a0 : Nat) (a1 : Int) (s : gS) : Option gO :=
  (f_135 a0 a1 s).bind (gt0 (fun r => r) (fun s1 => (f_23 (gR s1 a0 9) (gR s1 a0 5) s1).bind (gv0 (fun s3 => gchk a1 6 (let v5 : Nat := (gR s3 (gR s3 (gR s3 a0 9) 0) (a1 : Int).toNat); gloop (st_107_28) (a0, v5, 0, s3))))))
-- X11_longest
noncomputable def f_108 (a0 : Nat) (a1 : Int) (a2 : Int) (s : gS) : Option gO :=
  (f_135 a0 a1 s).bind (gt0 (fun r => r) (fun s1 => (f_138 a0 a2 (-1) 29 s1).bind (gt0 (fun r => r) (fun s3 => gchk a1 6 (let v5 : Nat := (gR s3 (gR s3 (gR s3 a0 5) 0) (a1 : Int).toNat); if (gI s3 v5 5) = 0 then (f_23 (gR s3 a0 9) (gR s3 a0 5) s3).bind (gv0 (fun s6 => (f_68 (gR s6 a0 6) a1 (gR s6 a0 9) 30 s6).bind (gv0 (fun s8 => if a2 = (-1) then (f_69 (gR s8 a0 6) (gI s8 v5 1) (gI s8 v5 0) s8).bind (gv1 (fun v11 s10 => some ((1, v11, 0, s10)))) else (f_74 (gR s8 a0 6) a2 (gI s8 v5 1) (gI s8 v5 0) s8).bind (gv1 (fun v13 s12 => some ((1, v13, 0, s12)))))))) else some ((1, (-1), 0, s3)))))))
-- X11_needs
noncomputable def sb_109_35 (x0 : Nat) (x1 : Int) (x2 : Int) (x3 : Nat) (x4 : Int) (s : gS) : Option ((Nat × Int × Int × Nat × Int × gS) ⊕ gO) :=
  if x4 < 10 then (f_23 (gR s x0 9) (gR s x0 5) s).bind (gv0 (fun s6 => gchk x1 6 (let s8 : gS := gw s6 (gR s6 (gR s6 (gR s6 x0 9) 0) (x1 : Int).toNat) 1 x4; (f_68 (gR s8 x0 6) x1 (gR s8 x0 9) x2 s8).bind (gv0 (fun s9 => (f_69 (gR s9 x0 6) x4 (gI s9 x3 0) s9).bind (gv1 (fun v12 s11 => if v12 < x2 then some (Sum.inl (x0, x1, x2, x3, (g32 (x4 + 1)), s11)) else (some ((1, x4, 0, s11))).map Sum.inr))))))) else (some ((1, (-1), 0, s))).map Sum.inr
noncomputable def st_109_35 (y : (Nat × Int × Int × Nat × Int × gS)) : Option ((Nat × Int × Int × Nat × Int × gS) ⊕ gO) := sb_109_35 y.1 y.2.1 y.2.2.1 y.2.2.2.1 y.2.2.2.2.1 y.2.2.2.2.2
noncomputable def f_109 (a0 : Nat) (a1 : Int) (a2 : Int) (s : gS) : Option gO :=
  (f_135 a0 a1 s).bind (gt0 (fun r => r) (fun s1 => (f_138 a0 a2 1 30 s1).bind (gt0 (fun r => r) (fun s3 => gchk a1 6 (let v5 : Nat := (gR s3 (gR s3 (gR s3 a0 5) 0) (a1 : Int).toNat); if (gI s3 v5 5) = 0 then gloop (st_109_35) (a0, a1, a2, v5, 0, s3) else some ((1, (-1), 0, s3)))))))
-- X11_stopped
noncomputable def f_110 (a0 : Nat) (a1 : Int) (a2 : Int) (s : gS) : Option gO :=
  (f_135 a0 a1 s).bind (gt0 (fun r => r) (fun s1 => gchk a1 6 ((f_5 (gR s1 a0 4) a2 (gI s1 (gR s1 (gR s1 (gR s1 a0 5) 0) (a1 : Int).toNat) 2) s1).bind (gv1 (fun v4 s3 => some ((1, v4, 0, s3)))))))
-- J6_bitCount_0f7a4
noncomputable def f_264 (a0 : Int) (s : gS) : Option gO :=
  let v1 : Int := (g32 (a0 - (gand (gushr a0 1) 1431655765))); let v2 : Int := (g32 ((gand v1 858993459) + (gand (gushr v1 2) 858993459))); let v3 : Int := (gand (g32 (v2 + (gushr v2 4))) 252645135); let v4 : Int := (g32 (v3 + (gushr v3 8))); let v5 : Int := (g32 (v4 + (gushr v4 16))); some ((1, (gand v5 63), 0, s))
-- X11_fewest
noncomputable def fb_111_61 (x0 : Nat) (x1 : Int) (x3 : Int) (s : gS) : Option ((Nat × Int × Int × Int × gS) ⊕ gO) :=
  some (Sum.inl (x0, x1, x3, (g32 (x3 + 1)), s))
noncomputable def sb_111_9 (x0 : Nat) (x1 : Int) (x2 : Int) (x3 : Int) (s : gS) : Option ((Nat × Int × Int × Int × gS) ⊕ gO) :=
  if x3 < (gshl 1 (gI s (gR s x0 4) 6)) then gchk x1 6 ((f_5 (gR s x0 4) x3 (gI s (gR s (gR s (gR s x0 5) 0) (x1 : Int).toNat) 2) s).bind (gv1 (fun v4 s3 => if v4 = 0 then some (Sum.inl (x0, x1, x2, (g32 (x3 + 1)), s3)) else if x2 = (-1) then fb_111_61 x0 x1 x3 s3 else (f_264 x3 s3).bind (gv1 (fun v7 s6 => (f_264 x2 s6).bind (gv1 (fun v9 s8 => if v7 < v9 then fb_111_61 x0 x1 x3 s8 else some (Sum.inl (x0, x1, x2, (g32 (x3 + 1)), s8))))))))) else (some ((1, x2, 0, s))).map Sum.inr
noncomputable def st_111_9 (y : (Nat × Int × Int × Int × gS)) : Option ((Nat × Int × Int × Int × gS) ⊕ gO) := sb_111_9 y.1 y.2.1 y.2.2.1 y.2.2.2.1 y.2.2.2.2
noncomputable def f_111 (a0 : Nat) (a1 : Int) (s : gS) : Option gO :=
  (f_135 a0 a1 s).bind (gt0 (fun r => r) (fun s1 => gloop (st_111_9) (a0, a1, (-1), 0, s1)))
-- X11_cheapest
noncomputable def fb_112_74 (x0 : Nat) (x1 : Int) (x2 : Int) (x5 : Int) (x6 : Int) (s : gS) : Option ((Nat × Int × Int × Int × Int × Int × gS) ⊕ gO) :=
  some (Sum.inl (x0, x1, x2, x5, x6, (g32 (x5 + 1)), s))
noncomputable def sb_112_13 (x0 : Nat) (x1 : Int) (x2 : Int) (x3 : Int) (x4 : Int) (x5 : Int) (s : gS) : Option ((Nat × Int × Int × Int × Int × Int × gS) ⊕ gO) :=
  if x5 < (gshl 1 (gI s (gR s x0 4) 6)) then gchk x1 6 ((f_5 (gR s x0 4) x5 (gI s (gR s (gR s (gR s x0 5) 0) (x1 : Int).toNat) 2) s).bind (gv1 (fun v4 s3 => if v4 = 0 then some (Sum.inl (x0, x1, x2, x3, x4, (g32 (x5 + 1)), s3)) else (f_6 (gR s3 x0 4) x5 s3).bind (gv1 (fun v7 s6 => if x3 = (-1) then fb_112_74 x0 x1 x2 x5 v7 s6 else if v7 < x4 then fb_112_74 x0 x1 x2 x5 v7 s6 else some (Sum.inl (x0, x1, x2, x3, x4, (g32 (x5 + 1)), s6))))))) else (if x2 = 0 then some ((1, x3, 0, s)) else some ((1, x4, 0, s))).map Sum.inr
noncomputable def st_112_13 (y : (Nat × Int × Int × Int × Int × Int × gS)) : Option ((Nat × Int × Int × Int × Int × Int × gS) ⊕ gO) := sb_112_13 y.1 y.2.1 y.2.2.1 y.2.2.2.1 y.2.2.2.2.1 y.2.2.2.2.2.1 y.2.2.2.2.2.2
noncomputable def f_112 (a0 : Nat) (a1 : Int) (a2 : Int) (s : gS) : Option gO :=
  (f_135 a0 a1 s).bind (gt0 (fun r => r) (fun s1 => gloop (st_112_13) (a0, a1, a2, (-1), (-1), 0, s1)))
-- X11_slips
noncomputable def sb_113_9 (x0 : Nat) (x1 : Int) (x2 : Int) (x3 : Int) (s : gS) : Option ((Nat × Int × Int × Int × gS) ⊕ gO) :=
  if x3 < (gI s (gR s x0 4) 6) then gchk x1 6 ((f_4 (gR s x0 4) x3 (gI s (gR s (gR s (gR s x0 5) 0) (x1 : Int).toNat) 2) s).bind (gv1 (fun v4 s3 => if v4 = 0 then let v6 : Int := (gor x2 (gshl 1 x3)); some (Sum.inl (x0, x1, v6, (g32 (x3 + 1)), s3)) else some (Sum.inl (x0, x1, x2, (g32 (x3 + 1)), s3))))) else (some ((1, x2, 0, s))).map Sum.inr
noncomputable def st_113_9 (y : (Nat × Int × Int × Int × gS)) : Option ((Nat × Int × Int × Int × gS) ⊕ gO) := sb_113_9 y.1 y.2.1 y.2.2.1 y.2.2.2.1 y.2.2.2.2
noncomputable def f_113 (a0 : Nat) (a1 : Int) (s : gS) : Option gO :=
  (f_135 a0 a1 s).bind (gt0 (fun r => r) (fun s1 => gloop (st_113_9) (a0, a1, 0, 0, s1)))
-- X11_isTale
noncomputable def sb_143_16 (x0 : Nat) (x1 : Int) (x2 : Int) (s : gS) : Option ((Nat × Int × Int × gS) ⊕ gO) :=
  if (g32 (x2 + 1)) < x1 then gchk x2 400 (if (gI s (gR s (gR s x0 0) 0) (x2 : Int).toNat) < (gI s (gR s x0 4) 6) then gchk (g32 (x2 + 1)) 400 (if 1 < (gI s (gR s (gR s x0 0) 0) ((g32 (x2 + 1)) : Int).toNat) then (some ((1, 0, 0, s))).map Sum.inr else some (Sum.inl (x0, x1, (g32 (x2 + 2)), s))) else (some ((1, 0, 0, s))).map Sum.inr) else (some ((1, 1, 0, s))).map Sum.inr
noncomputable def st_143_16 (y : (Nat × Int × Int × gS)) : Option ((Nat × Int × Int × gS) ⊕ gO) := sb_143_16 y.1 y.2.1 y.2.2.1 y.2.2.2
noncomputable def f_143 (a0 : Nat) (a1 : Int) (s : gS) : Option gO :=
  if 40 < a1 then some ((1, 0, 0, s)) else if (grem a1 2) = 0 then gloop (st_143_16) (a0, a1, 0, s) else some ((1, 0, 0, s))
-- X11_fitsTale
noncomputable def fb_144_46 (x0 : Nat) (x1 : Int) (x2 : Int) (x3 : Int) (w0 : Int) (w1 : Int) (s : gS) : Option ((Nat × Int × Int × Int × gS) ⊕ gO) :=
  if w1 = w0 then some (Sum.inl (x0, x1, x2, (g32 (x3 + 2)), s)) else (some ((1, 0, 0, s))).map Sum.inr
noncomputable def sb_144_2 (x0 : Nat) (x1 : Int) (x2 : Int) (x3 : Int) (s : gS) : Option ((Nat × Int × Int × Int × gS) ⊕ gO) :=
  if (g32 (x3 + 1)) < x2 then gchk x3 400 ((f_4 (gR s x0 4) (gI s (gR s (gR s x0 0) 0) (x3 : Int).toNat) x1 s).bind (gv1 (fun v2 s1 => gchk (g32 (x3 + 1)) 400 (if (gI s1 (gR s1 (gR s1 x0 0) 0) ((g32 (x3 + 1)) : Int).toNat) = 1 then fb_144_46 x0 x1 x2 x3 1 v2 s1 else fb_144_46 x0 x1 x2 x3 0 v2 s1)))) else (some ((1, 1, 0, s))).map Sum.inr
noncomputable def st_144_2 (y : (Nat × Int × Int × Int × gS)) : Option ((Nat × Int × Int × Int × gS) ⊕ gO) := sb_144_2 y.1 y.2.1 y.2.2.1 y.2.2.2.1 y.2.2.2.2
noncomputable def f_144 (a0 : Nat) (a1 : Int) (a2 : Int) (s : gS) : Option gO :=
  gloop (st_144_2) (a0, a1, a2, 0, s)
-- X11_takeFittingSets
noncomputable def sb_142_40 (x0 : Nat) (x1 : Int) (x2 : Int) (x4 : Int) (s : gS) : Option ((Nat × Int × Int × Int × gS) ⊕ gO) :=
  if x4 < 64 then (f_144 x0 x4 x1 s).bind (gv1 (fun v7 s6 => if v7 = 0 then some (Sum.inl (x0, x1, x2, (g32 (x4 + 1)), s6)) else let v9 : Int := (glor x2 (glshl 1 x4)); some (Sum.inl (x0, x1, v9, (g32 (x4 + 1)), s6)))) else (some ((1, x2, 0, s))).map Sum.inr
noncomputable def st_142_40 (y : (Nat × Int × Int × Int × gS)) : Option ((Nat × Int × Int × Int × gS) ⊕ gO) := sb_142_40 y.1 y.2.1 y.2.2.1 y.2.2.2.1 y.2.2.2.2
noncomputable def f_142 (a0 : Nat) (s : gS) : Option gO :=
  let v1 : Int := (gI s (gR s a0 0) 1); let s2 : gS := gw s (gR s a0 0) 1 0; (f_143 a0 v1 s2).bind (gv1 (fun v4 s3 => if v4 = 0 then some ((2, 0, 0, gnw s3 99)) else gloop (st_142_40) (a0, v1, 0, 1, s3)))
-- J13_bitCount_95d88
noncomputable def f_265 (a0 : Int) (s : gS) : Option gO :=
  let v1 : Int := (g64 (a0 - (gland (glushr a0 1) 6148914691236517205))); let v2 : Int := (g64 ((gland v1 3689348814741910323) + (gland (glushr v1 2) 3689348814741910323))); let v3 : Int := (gland (g64 (v2 + (glushr v2 4))) 1085102592571150095); let v4 : Int := (g64 (v3 + (glushr v3 8))); let v5 : Int := (g64 (v4 + (glushr v4 16))); let v6 : Int := (g64 (v5 + (glushr v5 32))); some ((1, (gand (g32 v6) 127), 0, s))
-- X11_seen
noncomputable def sb_114_29 (x2 : Int) (x4 : Int) (x5 : Int) (s : gS) : Option ((Int × Int × Int × gS) ⊕ gO) :=
  if x5 < 64 then if (gcmp (gland (glshr x2 x5) 1) 0) = 0 then some (Sum.inl (x2, x4, (g32 (x5 + 1)), s)) else some (Sum.inl (x2, (gand x4 x5), (g32 (x5 + 1)), s)) else (some ((1, x4, 0, s))).map Sum.inr
noncomputable def st_114_29 (y : (Int × Int × Int × gS)) : Option ((Int × Int × Int × gS) ⊕ gO) := sb_114_29 y.1 y.2.1 y.2.2.1 y.2.2.2
noncomputable def f_114 (a0 : Nat) (a1 : Int) (s : gS) : Option gO :=
  (f_142 a0 s).bind (gt1 (fun r => r) (fun v2 s1 => if a1 = 0 then (f_265 v2 s1).bind (gv1 (fun v4 s3 => some ((1, v4, 0, s3)))) else if (gcmp v2 0) = 0 then some ((1, 0, 0, s1)) else gloop (st_114_29) (v2, 63, 1, s1)))
-- X11_caughtAmong
noncomputable def sb_145_6 (x0 : Nat) (x1 : Int) (x3 : Int) (x4 : Int) (x5 : Int) (s : gS) : Option ((Nat × Int × Int × Int × Int × gS) ⊕ gO) :=
  if x5 < 64 then if (gcmp (gland (glshr x1 x5) 1) 0) = 0 then some (Sum.inl (x0, x1, x3, x4, (g32 (x5 + 1)), s)) else (f_4 (gR s x0 4) x3 x5 s).bind (gv1 (fun v2 s1 => if v2 = 0 then some (Sum.inl (x0, x1, x3, x4, (g32 (x5 + 1)), s1)) else some (Sum.inl (x0, x1, x3, (g32 (x4 + 1)), (g32 (x5 + 1)), s1)))) else (some ((1, x4, 0, s))).map Sum.inr
noncomputable def st_145_6 (y : (Nat × Int × Int × Int × Int × gS)) : Option ((Nat × Int × Int × Int × Int × gS) ⊕ gO) := sb_145_6 y.1 y.2.1 y.2.2.1 y.2.2.2.1 y.2.2.2.2.1 y.2.2.2.2.2
noncomputable def f_145 (a0 : Nat) (a1 : Int) (a3 : Int) (s : gS) : Option gO :=
  gloop (st_145_6) (a0, a1, a3, 0, 1, s)
-- X11_ask
noncomputable def fb_115_69 (x0 : Nat) (x1 : Int) (x3 : Int) (x6 : Int) (x8 : Int) (s : gS) : Option ((Nat × Int × Int × Int × Int × Int × gS) ⊕ gO) :=
  some (Sum.inl (x0, x1, x3, x6, x8, (g32 (x6 + 1)), s))
noncomputable def sb_115_19 (x0 : Nat) (x1 : Int) (x3 : Int) (x4 : Int) (x5 : Int) (x6 : Int) (s : gS) : Option ((Nat × Int × Int × Int × Int × Int × gS) ⊕ gO) :=
  if x6 < (gI s (gR s x0 4) 6) then if x3 < 2 then (some ((1, x4, 0, s))).map Sum.inr else (f_145 x0 x1 x6 s).bind (gv1 (fun v6 s5 => let v7 : Int := (max v6 (g32 (x3 - v6))); if x4 = (-1) then fb_115_69 x0 x1 x3 x6 v7 s5 else if v7 < x5 then fb_115_69 x0 x1 x3 x6 v7 s5 else some (Sum.inl (x0, x1, x3, x4, x5, (g32 (x6 + 1)), s5)))) else (some ((1, x4, 0, s))).map Sum.inr
noncomputable def st_115_19 (y : (Nat × Int × Int × Int × Int × Int × gS)) : Option ((Nat × Int × Int × Int × Int × Int × gS) ⊕ gO) := sb_115_19 y.1 y.2.1 y.2.2.1 y.2.2.2.1 y.2.2.2.2.1 y.2.2.2.2.2.1 y.2.2.2.2.2.2
noncomputable def f_115 (a0 : Nat) (s : gS) : Option gO :=
  (f_142 a0 s).bind (gt1 (fun r => r) (fun v2 s1 => (f_265 v2 s1).bind (gv1 (fun v4 s3 => gloop (st_115_19) (a0, v2, v4, (-1), (-1), 0, s3)))))
-- X11_princePays
noncomputable def fb_146_38 (x5 : Int) (w0 : Int) (s : gS) : Option gO :=
  if w0 = 0 then some ((1, x5, 0, s)) else some ((1, (g32 (x5 + 50)), 0, s))
noncomputable def fb_146_37 (x5 : Int) (s : gS) : Option gO :=
  fb_146_38 x5 0 s
noncomputable def fb_146_17 (x1 : Int) (x2 : Int) (x4 : Int) (w0 : Int) (s : gS) : Option gO :=
  if x2 = 0 then if x1 = 1 then fb_146_38 w0 1 s else if x4 = 0 then fb_146_38 w0 1 s else fb_146_37 w0 s else fb_146_37 w0 s
noncomputable def f_146 (a0 : Nat) (a1 : Int) (a2 : Int) (a3 : Int) (a4 : Int) (s : gS) : Option gO :=
  if a1 = 0 then gchk a3 6 (fb_146_17 a1 a2 a4 (gI s (gR s (gR s a0 4) 3) (a3 : Int).toNat) s) else fb_146_17 a1 a2 a4 0 s
-- X11_manHas
noncomputable def fb_147_21  (s : gS) : Option gO :=
  some ((1, 30, 0, s))
noncomputable def f_147 (a0 : Int) (a1 : Int) (a2 : Int) (a3 : Int) (s : gS) : Option gO :=
  if a1 = 1 then some ((1, 10, 0, s)) else if a0 = 0 then if a3 = 0 then fb_147_21  s else some ((1, (g32 (-a2)), 0, s)) else fb_147_21  s
-- X11_rests
noncomputable def fb_116_128 (x0 : Nat) (x2 : Int) (x3 : Nat) (x4 : Int) (x5 : Int) (x6 : Int) (x9 : Int) (w0 : Int) (s : gS) : Option ((Nat × Int × Nat × Int × Int × Int × gS) ⊕ gO) :=
  if x9 = 0 then some (Sum.inl (x0, x2, x3, x4, x5, (g32 (x6 + 1)), s)) else if w0 = 0 then some (Sum.inl (x0, x2, x3, x4, x5, (g32 (x6 + 1)), s)) else let v17 : Int := (gor x5 (gshl 1 x6)); some (Sum.inl (x0, x2, x3, x4, v17, (g32 (x6 + 1)), s))
noncomputable def fb_116_90 (x0 : Nat) (x2 : Int) (x3 : Nat) (x4 : Int) (x5 : Int) (x6 : Int) (x7 : Int) (x8 : Int) (w0 : Int) (s : gS) : Option ((Nat × Int × Nat × Int × Int × Int × gS) ⊕ gO) :=
  (f_147 x7 x8 (gI s x3 0) x4 s).bind (gv1 (fun v14 s13 => (f_147 x7 (g32 (1 - x8)) (gI s13 x3 0) x4 s13).bind (gv1 (fun v16 s15 => if v14 < v16 then fb_116_128 x0 x2 x3 x4 x5 x6 w0 0 s15 else fb_116_128 x0 x2 x3 x4 x5 x6 w0 1 s15))))
noncomputable def sb_116_40 (x0 : Nat) (x2 : Int) (x3 : Nat) (x4 : Int) (x5 : Int) (x6 : Int) (s : gS) : Option ((Nat × Int × Nat × Int × Int × Int × gS) ⊕ gO) :=
  if x6 < 4 then (f_146 x0 (gshr x6 1) (gand x6 1) x2 x4 s).bind (gv1 (fun v10 s9 => (f_146 x0 (g32 (1 - (gshr x6 1))) (gand x6 1) x2 x4 s9).bind (gv1 (fun v12 s11 => if v12 < v10 then fb_116_90 x0 x2 x3 x4 x5 x6 (gshr x6 1) (gand x6 1) 0 s11 else fb_116_90 x0 x2 x3 x4 x5 x6 (gshr x6 1) (gand x6 1) 1 s11)))) else (some ((1, x5, 0, s))).map Sum.inr
noncomputable def st_116_40 (y : (Nat × Int × Nat × Int × Int × Int × gS)) : Option ((Nat × Int × Nat × Int × Int × Int × gS) ⊕ gO) := sb_116_40 y.1 y.2.1 y.2.2.1 y.2.2.2.1 y.2.2.2.2.1 y.2.2.2.2.2.1 y.2.2.2.2.2.2
noncomputable def f_116 (a0 : Nat) (a1 : Int) (a2 : Int) (s : gS) : Option gO :=
  (f_135 a0 a1 s).bind (gt0 (fun r => r) (fun s1 => (f_136 a0 a2 s1).bind (gt0 (fun r => r) (fun s3 => gchk a1 6 (let v5 : Nat := (gR s3 (gR s3 (gR s3 a0 5) 0) (a1 : Int).toNat); (f_4 (gR s3 a0 4) a2 (gI s3 v5 2) s3).bind (gv1 (fun v7 s6 => gloop (st_116_40) (a0, a2, v5, v7, 0, 0, s6))))))))
-- X11_waysOf
noncomputable def sb_148_34 (x0 : Nat) (x1 : Int) (x2 : Int) (x3 : Int) (x5 : Int) (s : gS) : Option ((Nat × Int × Int × Int × Int × gS) ⊕ gO) :=
  if x5 < x1 then if x5 < x2 then let v2 : Int := (g64 (x3 * (gI s (gR s x0 4) 8))); some (Sum.inl (x0, x1, x2, v2, (g32 (x5 + 1)), s)) else let v3 : Int := (g64 (x3 * (g32 (100 - (gI s (gR s x0 4) 8))))); some (Sum.inl (x0, x1, x2, v3, (g32 (x5 + 1)), s)) else (some ((1, x3, 0, s))).map Sum.inr
noncomputable def st_148_34 (y : (Nat × Int × Int × Int × Int × gS)) : Option ((Nat × Int × Int × Int × Int × gS) ⊕ gO) := sb_148_34 y.1 y.2.1 y.2.2.1 y.2.2.2.1 y.2.2.2.2.1 y.2.2.2.2.2
noncomputable def sb_148_5 (x0 : Nat) (x1 : Int) (x2 : Int) (x3 : Int) (x5 : Int) (s : gS) : Option ((Nat × Int × Int × Int × Int × gS) ⊕ gO) :=
  if x5 < x2 then if (g32 (x5 + 1)) = 0 then none else let v1 : Int := (gldiv (g64 (x3 * (g32 (x1 - x5)))) (g32 (x5 + 1))); some (Sum.inl (x0, x1, x2, v1, (g32 (x5 + 1)), s)) else (gloop (st_148_34) (x0, x1, x2, x3, 0, s)).map Sum.inr
noncomputable def st_148_5 (y : (Nat × Int × Int × Int × Int × gS)) : Option ((Nat × Int × Int × Int × Int × gS) ⊕ gO) := sb_148_5 y.1 y.2.1 y.2.2.1 y.2.2.2.1 y.2.2.2.2.1 y.2.2.2.2.2
noncomputable def f_148 (a0 : Nat) (a1 : Int) (a2 : Int) (s : gS) : Option gO :=
  gloop (st_148_5) (a0, a1, a2, 1, 0, s)
-- X11_odds
noncomputable def sb_117_45 (x0 : Nat) (x1 : Int) (x3 : Int) (x5 : Int) (x7 : Int) (s : gS) : Option ((Nat × Int × Int × Int × Int × gS) ⊕ gO) :=
  if x1 < x7 then (if x5 = 0 then none else some ((1, (g32 (gldiv (g64 (x3 * 10000)) x5)), 0, s))).map Sum.inr else (f_148 x0 x1 x7 s).bind (gv1 (fun v6 s5 => some (Sum.inl (x0, x1, (g64 (x3 + v6)), x5, (g32 (x7 + 1)), s5))))
noncomputable def st_117_45 (y : (Nat × Int × Int × Int × Int × gS)) : Option ((Nat × Int × Int × Int × Int × gS) ⊕ gO) := sb_117_45 y.1 y.2.1 y.2.2.1 y.2.2.2.1 y.2.2.2.2.1 y.2.2.2.2.2
noncomputable def sb_117_22 (x0 : Nat) (x1 : Int) (x2 : Int) (x3 : Int) (x5 : Int) (x7 : Int) (s : gS) : Option ((Nat × Int × Int × Int × Int × Int × gS) ⊕ gO) :=
  if x7 < x1 then some (Sum.inl (x0, x1, x2, x3, (g64 (x5 * 100)), (g32 (x7 + 1)), s)) else (gloop (st_117_45) (x0, x1, x3, x5, x2, s)).map Sum.inr
noncomputable def st_117_22 (y : (Nat × Int × Int × Int × Int × Int × gS)) : Option ((Nat × Int × Int × Int × Int × Int × gS) ⊕ gO) := sb_117_22 y.1 y.2.1 y.2.2.1 y.2.2.2.1 y.2.2.2.2.1 y.2.2.2.2.2.1 y.2.2.2.2.2.2
noncomputable def f_117 (a0 : Nat) (a1 : Int) (a2 : Int) (s : gS) : Option gO :=
  (f_138 a0 a1 0 5 s).bind (gt0 (fun r => r) (fun s1 => (f_138 a0 a2 0 5 s1).bind (gt0 (fun r => r) (fun s3 => gloop (st_117_22) (a0, a1, a2, 0, 1, 0, s3)))))
-- X11_bids
noncomputable def sb_118_7 (x0 : Nat) (x1 : Int) (x2 : Int) (x3 : Int) (x4 : Int) (s : gS) : Option ((Nat × Int × Int × Int × Int × gS) ⊕ gO) :=
  if x4 < (gI s (gR s x0 5) 5) then gchk x4 6 (let v1 : Int := (gI s (gR s (gR s x0 5) 1) (x4 : Int).toNat); if x2 = (-1) then some (Sum.inl (x0, x1, x4, x3, (g32 (x4 + 1)), s)) else gchk x2 6 (if (gI s (gR s (gR s x0 5) 1) (x2 : Int).toNat) < v1 then gchk x2 6 (let v2 : Int := (gI s (gR s (gR s x0 5) 1) (x2 : Int).toNat); some (Sum.inl (x0, x1, x4, v2, (g32 (x4 + 1)), s))) else some (Sum.inl (x0, x1, x2, (max x3 v1), (g32 (x4 + 1)), s)))) else (if x1 = 0 then some ((1, x2, 0, s)) else some ((1, x3, 0, s))).map Sum.inr
noncomputable def st_118_7 (y : (Nat × Int × Int × Int × Int × gS)) : Option ((Nat × Int × Int × Int × Int × gS) ⊕ gO) := sb_118_7 y.1 y.2.1 y.2.2.1 y.2.2.2.1 y.2.2.2.2.1 y.2.2.2.2.2
noncomputable def f_118 (a0 : Nat) (a1 : Int) (s : gS) : Option gO :=
  gloop (st_118_7) (a0, a1, (-1), 0, 0, s)
-- X11_sold
noncomputable def fb_119_10 (x0 : Nat) (x1 : Int) (s : gS) : Option gO :=
  (f_63 (gR s x0 7) s).bind (gv0 (fun s1 => if x1 = (-1) then (f_65 (gR s1 x0 7) s1).bind (gv1 (fun v4 s3 => some ((1, v4, 0, s3)))) else (f_66 (gR s1 x0 7) x1 s1).bind (gv1 (fun v6 s5 => some ((1, v6, 0, s5))))))
noncomputable def f_119 (a0 : Nat) (a1 : Int) (s : gS) : Option gO :=
  if a1 = (-1) then fb_119_10 a0 a1 s else (f_137 a0 a1 s).bind (gt0 (fun r => r) (fun s7 => fb_119_10 a0 a1 s7))
-- X11_secret
noncomputable def fb_120_57 (x0 : Nat) (x1 : Int) (x3 : Int) (s : gS) : Option ((Nat × Int × Int × Int × gS) ⊕ gO) :=
  some (Sum.inl (x0, x1, x3, (g32 (x3 + 1)), s))
noncomputable def sb_120_16 (x0 : Nat) (x1 : Int) (x2 : Int) (x3 : Int) (s : gS) : Option ((Nat × Int × Int × Int × gS) ⊕ gO) :=
  if x3 < (gshl 1 (gI s (gR s x0 5) 5)) then (f_32 (gR s x0 5) x3 s).bind (gv1 (fun v3 s2 => if v3 = x1 then if x2 = (-1) then fb_120_57 x0 x1 x3 s2 else (f_264 x3 s2).bind (gv1 (fun v5 s4 => (f_264 x2 s4).bind (gv1 (fun v7 s6 => if v5 < v7 then fb_120_57 x0 x1 x3 s6 else some (Sum.inl (x0, x1, x2, (g32 (x3 + 1)), s6)))))) else some (Sum.inl (x0, x1, x2, (g32 (x3 + 1)), s2)))) else (some ((1, x2, 0, s))).map Sum.inr
noncomputable def st_120_16 (y : (Nat × Int × Int × Int × gS)) : Option ((Nat × Int × Int × Int × gS) ⊕ gO) := sb_120_16 y.1 y.2.1 y.2.2.1 y.2.2.2.1 y.2.2.2.2
noncomputable def f_120 (a0 : Nat) (s : gS) : Option gO :=
  let v1 : Int := (g32 ((gshl 1 (gI s (gR s a0 4) 5)) - 1)); gloop (st_120_16) (a0, v1, (-1), 0, s)
-- X11_mates
noncomputable def sb_121_19 (x0 : Nat) (x1 : Int) (x2 : Int) (x3 : Int) (s : gS) : Option ((Nat × Int × Int × Int × gS) ⊕ ((Nat × Int × Int × gS) ⊕ gO)) :=
  if x3 < (gI s (gR s x0 5) 4) then gchk x2 6 (gchk x3 6 (if (gI s (gR s (gR s (gR s x0 5) 0) (x2 : Int).toNat) 2) = (gI s (gR s (gR s (gR s x0 5) 0) (x3 : Int).toNat) 2) then some (Sum.inl (x0, (g32 (x1 + 1)), x2, (g32 (x3 + 1)), s)) else some (Sum.inl (x0, x1, x2, (g32 (x3 + 1)), s)))) else (some (Sum.inl (x0, x1, (g32 (x2 + 1)), s))).map Sum.inr
noncomputable def st_121_19 (y : (Nat × Int × Int × Int × gS)) : Option ((Nat × Int × Int × Int × gS) ⊕ ((Nat × Int × Int × gS) ⊕ gO)) := sb_121_19 y.1 y.2.1 y.2.2.1 y.2.2.2.1 y.2.2.2.2
noncomputable def sb_121_4 (x0 : Nat) (x1 : Int) (x2 : Int) (s : gS) : Option ((Nat × Int × Int × gS) ⊕ gO) :=
  if x2 < (gI s (gR s x0 5) 4) then gloop (st_121_19) (x0, x1, x2, (g32 (x2 + 1)), s) else (some ((1, x1, 0, s))).map Sum.inr
noncomputable def st_121_4 (y : (Nat × Int × Int × gS)) : Option ((Nat × Int × Int × gS) ⊕ gO) := sb_121_4 y.1 y.2.1 y.2.2.1 y.2.2.2
noncomputable def f_121 (a0 : Nat) (s : gS) : Option gO :=
  gloop (st_121_4) (a0, 0, 0, s)
-- X11_knows
noncomputable def sb_122_11 (x0 : Nat) (x1 : Int) (x2 : Int) (x3 : Int) (s : gS) : Option ((Nat × Int × Int × Int × gS) ⊕ gO) :=
  if x3 < (gI s (gR s x0 5) 4) then gchk x3 6 (let v3 : Int := (gor x2 (gshl (gand (gshr (gI s (gR s (gR s (gR s x0 5) 0) (x3 : Int).toNat) 2) x1) 1) x3)); some (Sum.inl (x0, x1, v3, (g32 (x3 + 1)), s))) else (some ((1, x2, 0, s))).map Sum.inr
noncomputable def st_122_11 (y : (Nat × Int × Int × Int × gS)) : Option ((Nat × Int × Int × Int × gS) ⊕ gO) := sb_122_11 y.1 y.2.1 y.2.2.1 y.2.2.2.1 y.2.2.2.2
noncomputable def f_122 (a0 : Nat) (a1 : Int) (s : gS) : Option gO :=
  (f_138 a0 a1 0 5 s).bind (gt0 (fun r => r) (fun s1 => gloop (st_122_11) (a0, a1, 0, 0, s1)))
-- X11_dearest
noncomputable def fb_123_41 (x0 : Nat) (x2 : Int) (s : gS) : Option ((Nat × Int × Int × gS) ⊕ gO) :=
  some (Sum.inl (x0, x2, (g32 (x2 + 1)), s))
noncomputable def sb_123_4 (x0 : Nat) (x1 : Int) (x2 : Int) (s : gS) : Option ((Nat × Int × Int × gS) ⊕ gO) :=
  if x2 < (gI s (gR s x0 4) 5) then if x1 = (-1) then fb_123_41 x0 x2 s else gchk x2 8 (gchk x1 8 (if (gI s (gR s (gR s x0 4) 1) (x1 : Int).toNat) < (gI s (gR s (gR s x0 4) 1) (x2 : Int).toNat) then fb_123_41 x0 x2 s else some (Sum.inl (x0, x1, (g32 (x2 + 1)), s)))) else (some ((1, x1, 0, s))).map Sum.inr
noncomputable def st_123_4 (y : (Nat × Int × Int × gS)) : Option ((Nat × Int × Int × gS) ⊕ gO) := sb_123_4 y.1 y.2.1 y.2.2.1 y.2.2.2
noncomputable def f_123 (a0 : Nat) (s : gS) : Option gO :=
  gloop (st_123_4) (a0, (-1), 0, s)
-- X11_kept
noncomputable def fb_124_13 (w0 : Int) (w1 : Nat) (s : gS) : Option gO :=
  (f_29 w1 w0 s).bind (gv1 (fun v2 s1 => some ((1, v2, 0, s1))))
noncomputable def f_124 (a0 : Nat) (a1 : Int) (s : gS) : Option gO :=
  if a1 = 0 then fb_124_13 0 (gR s a0 5) s else fb_124_13 1 (gR s a0 5) s
-- X11_trial
noncomputable def f_125 (a0 : Nat) (a1 : Int) (a2 : Int) (s : gS) : Option gO :=
  (f_138 a0 a1 0 200 s).bind (gt0 (fun r => r) (fun s1 => (f_141 a0 a1 (gI s1 (gR s1 a0 4) 8) (gI s1 (gR s1 a0 5) 9) s1).bind (gv0 (fun s3 => if a2 = 0 then some ((1, (gI s3 (gR s3 a0 9) 6), 0, s3)) else (f_29 (gR s3 a0 9) 0 s3).bind (gv1 (fun v6 s5 => (f_264 v6 s5).bind (gv1 (fun v8 s7 => some ((1, v8, 0, s7))))))))))
-- X11_span
noncomputable def fb_126_48 (x0 : Nat) (x1 : Int) (x2 : Int) (x3 : Int) (x4 : Int) (s : gS) : Option ((Nat × Int × Int × Int × Int × gS) ⊕ gO) :=
  if x2 = 0 then let v6 : Int := (min x3 (gI s (gR s x0 9) 6)); some (Sum.inl (x0, x1, x2, v6, (g32 (x4 + 1)), s)) else let v7 : Int := (max x3 (gI s (gR s x0 9) 6)); some (Sum.inl (x0, x1, x2, v7, (g32 (x4 + 1)), s))
noncomputable def sb_126_14 (x0 : Nat) (x1 : Int) (x2 : Int) (x3 : Int) (x4 : Int) (s : gS) : Option ((Nat × Int × Int × Int × Int × gS) ⊕ gO) :=
  if 6 < x4 then (some ((1, x3, 0, s))).map Sum.inr else (f_141 x0 x1 (gI s (gR s x0 4) 8) x4 s).bind (gv0 (fun s3 => if x3 = (-1) then let v5 : Int := (gI s3 (gR s3 x0 9) 6); fb_126_48 x0 x1 x2 v5 x4 s3 else fb_126_48 x0 x1 x2 x3 x4 s3))
noncomputable def st_126_14 (y : (Nat × Int × Int × Int × Int × gS)) : Option ((Nat × Int × Int × Int × Int × gS) ⊕ gO) := sb_126_14 y.1 y.2.1 y.2.2.1 y.2.2.2.1 y.2.2.2.2.1 y.2.2.2.2.2
noncomputable def f_126 (a0 : Nat) (a1 : Int) (a2 : Int) (s : gS) : Option gO :=
  (f_138 a0 a1 0 200 s).bind (gt0 (fun r => r) (fun s1 => gloop (st_126_14) (a0, a1, a2, (-1), 1, s1)))
-- X11_led
noncomputable def f_127 (a0 : Nat) (a1 : Int) (a2 : Int) (s : gS) : Option gO :=
  (f_135 a0 a1 s).bind (gt0 (fun r => r) (fun s1 => (f_57 (gR s1 (gR s1 a0 5) 3) a1 a2 s1).bind (gv1 (fun v4 s3 => some ((1, v4, 0, s3))))))
-- X11_log
noncomputable def fb_128_9  (s : gS) : Option gO :=
  some ((4, 0, 0, gnw s 99))
noncomputable def f_128 (a0 : Nat) (a1 : Int) (a2 : Int) (s : gS) : Option gO :=
  if a2 < 0 then fb_128_9  s else if a2 < 4 then (f_56 (gR s (gR s a0 5) 3) a1 a2 s).bind (gv1 (fun v2 s1 => some ((1, v2, 0, s1)))) else fb_128_9  s
-- X11_seed
noncomputable def f_129 (a0 : Nat) (a1 : Int) (s : gS) : Option gO :=
  let v1 : Int := (gI s (gR s a0 5) 9); let s2 : gS := gw s (gR s a0 5) 9 a1; some ((1, v1, 0, s2))
-- X11_undo
noncomputable def f_130 (a0 : Nat) (s : gS) : Option gO :=
  if (gI s a0 14) < 1 then some ((1, 0, 0, s)) else gchk (gI s a0 13) 12 ((f_22 (gR s a0 5) (gR s (gR s a0 12) ((gI s a0 13) : Int).toNat) s).bind (gv0 (fun s1 => let s3 : gS := gw s1 a0 13 (grem (g32 ((g32 ((gI s1 a0 13) + 12)) - 1)) 12); let s4 : gS := gw s3 a0 14 (g32 ((gI s3 a0 14) - 1)); some ((1, 1, 0, s4)))))
-- X11_image
noncomputable def f_131 (a0 : Nat) (s : gS) : Option gO :=
  (f_1 (gR s a0 10) (gR s a0 4) s).bind (gv0 (fun s1 => (f_22 (gR s1 a0 11) (gR s1 a0 5) s1).bind (gv0 (fun s3 => gbool 1 (let s5 : gS := gw s3 a0 15 1; some ((0, 0, 0, s5)))))))
-- X11_back
noncomputable def f_132 (a0 : Nat) (s : gS) : Option gO :=
  if (gI s a0 15) = 0 then some ((1, 0, 0, s)) else (f_1 (gR s a0 4) (gR s a0 10) s).bind (gv0 (fun s1 => (f_22 (gR s1 a0 5) (gR s1 a0 11) s1).bind (gv0 (fun s3 => let s5 : gS := gw s3 a0 14 0; some ((1, 1, 0, s5))))))
-- X11_count
noncomputable def f_133 (a0 : Nat) (a1 : Int) (s : gS) : Option gO :=
  if a1 < 0 then some ((1, (-1), 0, s)) else if a1 < 1 then some ((1, (gI s (gR s a0 4) 5), 0, s)) else if a1 < 2 then some ((1, (gI s (gR s a0 5) 4), 0, s)) else if a1 < 3 then some ((1, (gI s (gR s a0 4) 6), 0, s)) else if a1 < 4 then some ((1, (gI s (gR s a0 5) 5), 0, s)) else if a1 < 5 then some ((1, (gI s (gR s a0 4) 10), 0, s)) else if a1 < 6 then if (gR s (gR s a0 4) 11) = 0 then some ((1, (-1), 0, s)) else if (gR s (gR s a0 4) 11) = 0 then none else some ((1, (gI s (gR s (gR s a0 4) 11) 0), 0, s)) else if a1 < 7 then some ((1, (gI s (gR s a0 5) 8), 0, s)) else if a1 < 8 then some ((1, (gI s (gR s a0 5) 6), 0, s)) else if a1 < 9 then some ((1, (gI s (gR s a0 5) 7), 0, s)) else if a1 < 10 then some ((1, (gI s (gR s a0 4) 7), 0, s)) else if a1 < 11 then some ((1, (gI s (gR s a0 4) 8), 0, s)) else if a1 < 12 then some ((1, (gI s (gR s a0 4) 9), 0, s)) else if a1 < 13 then (f_30 (gR s a0 5) s).bind (gv1 (fun v2 s1 => some ((1, v2, 0, s1)))) else if a1 < 14 then some ((1, (gI s (gR s (gR s a0 5) 3) 1), 0, s)) else if a1 < 15 then some ((1, (gI s a0 14), 0, s)) else some ((1, (-1), 0, s))
-- X12_isIn
noncomputable def fb_150_14  (s : gS) : Option gO :=
  some ((1, 0, 0, s))
noncomputable def f_150 (a0 : Int) (a1 : Int) (a2 : Int) (s : gS) : Option gO :=
  if a0 < a1 then fb_150_14  s else if a2 < a0 then fb_150_14  s else some ((1, 1, 0, s))
-- X12_lesser
noncomputable def f_151 (a0 : Int) (a1 : Int) (s : gS) : Option gO :=
  if a0 < a1 then some ((1, a0, 0, s)) else some ((1, a1, 0, s))
-- X12_greater
noncomputable def f_152 (a0 : Int) (a1 : Int) (s : gS) : Option gO :=
  if a1 < a0 then some ((1, a0, 0, s)) else some ((1, a1, 0, s))
-- X12_isOf
noncomputable def f_153 (a0 : Int) (a1 : Int) (s : gS) : Option gO :=
  if (gand (gshr a0 a1) 1) = 1 then some ((1, 1, 0, s)) else some ((1, 0, 0, s))
-- X12_bits
noncomputable def sb_154_4 (x0 : Int) (x1 : Int) (x2 : Int) (s : gS) : Option ((Int × Int × Int × gS) ⊕ gO) :=
  if x2 < 31 then let v1 : Int := (g32 (x1 + (gand (gshr x0 x2) 1))); some (Sum.inl (x0, v1, (g32 (x2 + 1)), s)) else (some ((1, x1, 0, s))).map Sum.inr
noncomputable def st_154_4 (y : (Int × Int × Int × gS)) : Option ((Int × Int × Int × gS) ⊕ gO) := sb_154_4 y.1 y.2.1 y.2.2.1 y.2.2.2
noncomputable def f_154 (a0 : Int) (s : gS) : Option gO :=
  gloop (st_154_4) (a0, 0, 0, s)
-- X12_ofStep
noncomputable def f_155 (a0 : Nat) (a1 : Int) (a2 : Int) (s : gS) : Option gO :=
  gchk (g32 ((g32 (16 + (g32 (3 * a1)))) + a2)) 740 (some ((1, (gI s (gR s a0 1) ((g32 ((g32 (16 + (g32 (3 * a1)))) + a2)) : Int).toNat), 0, s)))
-- X12_of
noncomputable def f_156 (a0 : Nat) (a1 : Int) (a2 : Int) (s : gS) : Option gO :=
  gchk (g32 ((g32 (40 + (g32 (6 * a1)))) + a2)) 740 (some ((1, (gI s (gR s a0 1) ((g32 ((g32 (40 + (g32 (6 * a1)))) + a2)) : Int).toNat), 0, s)))
-- X12_put
noncomputable def f_157 (a0 : Nat) (a1 : Int) (a2 : Int) (a3 : Int) (s : gS) : Option gO :=
  gchk (g32 ((g32 (40 + (g32 (6 * a1)))) + a2)) 740 (let s1 : gS := gw s (gR s a0 1) ((g32 ((g32 (40 + (g32 (6 * a1)))) + a2)) : Int).toNat a3; some ((0, 0, 0, s1)))
-- X12_costOf
noncomputable def f_158 (a0 : Nat) (a1 : Int) (s : gS) : Option gO :=
  gchk (g32 (76 + (g32 (2 * a1)))) 740 (some ((1, (gI s (gR s a0 1) ((g32 (76 + (g32 (2 * a1)))) : Int).toNat), 0, s)))
-- X12_stopsOf
noncomputable def f_159 (a0 : Nat) (a1 : Int) (s : gS) : Option gO :=
  gchk (g32 ((g32 (76 + (g32 (2 * a1)))) + 1)) 740 (some ((1, (gI s (gR s a0 1) ((g32 ((g32 (76 + (g32 (2 * a1)))) + 1)) : Int).toNat), 0, s)))
-- X12_ofRival
noncomputable def f_160 (a0 : Nat) (a1 : Int) (a2 : Int) (s : gS) : Option gO :=
  gchk (g32 ((g32 (88 + (g32 (2 * a1)))) + a2)) 740 (some ((1, (gI s (gR s a0 1) ((g32 ((g32 (88 + (g32 (2 * a1)))) + a2)) : Int).toNat), 0, s)))
-- X12_isStep
noncomputable def f_161 (a0 : Nat) (a1 : Int) (s : gS) : Option gO :=
  (f_150 a1 0 (g32 ((gI s (gR s a0 1) 3) - 1)) s).bind (gv1 (fun v2 s1 => some ((1, v2, 0, s1))))
-- X12_isMan
noncomputable def f_162 (a0 : Nat) (a1 : Int) (s : gS) : Option gO :=
  (f_150 a1 0 (g32 ((gI s (gR s a0 1) 4) - 1)) s).bind (gv1 (fun v2 s1 => some ((1, v2, 0, s1))))
-- X12_isTest
noncomputable def f_163 (a0 : Nat) (a1 : Int) (s : gS) : Option gO :=
  (f_150 a1 0 (g32 ((gI s (gR s a0 1) 5) - 1)) s).bind (gv1 (fun v2 s1 => some ((1, v2, 0, s1))))
-- X12_isRival
noncomputable def f_164 (a0 : Nat) (a1 : Int) (s : gS) : Option gO :=
  (f_150 a1 0 (g32 ((gI s (gR s a0 1) 6) - 1)) s).bind (gv1 (fun v2 s1 => some ((1, v2, 0, s1))))
-- X12_isKept
noncomputable def f_165 (a0 : Nat) (a1 : Int) (s : gS) : Option gO :=
  (f_156 a0 a1 5 s).bind (gv1 (fun v2 s1 => if v2 = 0 then some ((1, 1, 0, s1)) else some ((1, 0, 0, s1))))
-- X12_feed
noncomputable def fb_166_76 (x0 : Nat) (x1 : Int) (x2 : Int) (x3 : Int) (x4 : Int) (x5 : Int) (x6 : Int) (w0 : Int) (s : gS) : Option ((Nat × Int × Int × Int × Int × Int × Int × gS) ⊕ gO) :=
  gchk (gI s x0 8) 400 (let s2 : gS := gw s (gR s x0 7) ((gI s x0 8) : Int).toNat (gand (gushr w0 (g32 (24 - (g32 (8 * (grem x6 4)))))) 255); let s3 : gS := gw s2 x0 8 (g32 ((gI s2 x0 8) + 1)); some (Sum.inl (x0, x1, x2, x3, x4, x5, (g32 (x6 + 1)), s3)))
noncomputable def sb_166_23 (x0 : Nat) (x1 : Int) (x2 : Int) (x3 : Int) (x4 : Int) (x5 : Int) (x6 : Int) (s : gS) : Option ((Nat × Int × Int × Int × Int × Int × Int × gS) ⊕ gO) :=
  if x6 < 20 then if x6 < 4 then fb_166_76 x0 x1 x2 x3 x4 x5 x6 x1 s else if x6 < 8 then fb_166_76 x0 x1 x2 x3 x4 x5 x6 x2 s else if x6 < 12 then fb_166_76 x0 x1 x2 x3 x4 x5 x6 x3 s else if x6 < 16 then fb_166_76 x0 x1 x2 x3 x4 x5 x6 x4 s else fb_166_76 x0 x1 x2 x3 x4 x5 x6 x5 s else (some ((1, (gI s x0 8), 0, s))).map Sum.inr
noncomputable def st_166_23 (y : (Nat × Int × Int × Int × Int × Int × Int × gS)) : Option ((Nat × Int × Int × Int × Int × Int × Int × gS) ⊕ gO) := sb_166_23 y.1 y.2.1 y.2.2.1 y.2.2.2.1 y.2.2.2.2.1 y.2.2.2.2.2.1 y.2.2.2.2.2.2.1 y.2.2.2.2.2.2.2
noncomputable def f_166 (a0 : Nat) (a1 : Int) (a2 : Int) (a3 : Int) (a4 : Int) (a5 : Int) (s : gS) : Option gO :=
  let s1 : gS := gw s a0 0 0; if 400 < (g32 ((gI s1 a0 8) + 20)) then some ((1, (-1), 0, s1)) else gloop (st_166_23) (a0, a1, a2, a3, a4, a5, 0, s1)
-- X12_end
noncomputable def f_167 (a0 : Nat) (a1 : Int) (s : gS) : Option gO :=
  let s1 : gS := gw s a0 0 0; (f_150 a1 0 (gI s1 a0 8) s1).bind (gv1 (fun v3 s2 => if v3 = 0 then some ((1, 0, 0, s2)) else let s5 : gS := gw s2 a0 8 a1; some ((1, 1, 0, s5))))
-- X12_letter
noncomputable def f_168 (a0 : Nat) (a1 : Int) (s : gS) : Option gO :=
  if (gI s a0 9) = (-1) then gchk a1 400 (some ((1, (gI s (gR s a0 7) (a1 : Int).toNat), 0, s))) else gchk (g32 ((gI s a0 9) + a1)) 740 (some ((1, (gI s (gR s a0 1) ((g32 ((gI s a0 9) + a1)) : Int).toNat), 0, s)))
-- X12_skip
noncomputable def sb_169_0 (x0 : Nat) (s : gS) : Option ((Nat × gS) ⊕ gO) :=
  if (gI s x0 11) < (gI s x0 10) then (f_168 x0 (gI s x0 11) s).bind (gv1 (fun v2 s1 => if v2 = 32 then let s3 : gS := gw s1 x0 11 (g32 ((gI s1 x0 11) + 1)); some (Sum.inl (x0, s3)) else (some ((0, 0, 0, s1))).map Sum.inr)) else (some ((0, 0, 0, s))).map Sum.inr
noncomputable def st_169_0 (y : (Nat × gS)) : Option ((Nat × gS) ⊕ gO) := sb_169_0 y.1 y.2
noncomputable def f_169 (a0 : Nat) (s : gS) : Option gO :=
  gloop (st_169_0) (a0, s)
-- X12_isSign
noncomputable def fb_170_31  (s : gS) : Option gO :=
  some ((1, 0, 0, s))
noncomputable def f_170 (a0 : Nat) (a1 : Int) (s : gS) : Option gO :=
  (f_169 a0 s).bind (gv0 (fun s1 => if (gI s1 a0 11) < (gI s1 a0 10) then (f_168 a0 (gI s1 a0 11) s1).bind (gv1 (fun v4 s3 => if v4 = a1 then some ((1, 1, 0, s3)) else fb_170_31  s3)) else fb_170_31  s1))
-- X12_has
noncomputable def sb_171_55 (x0 : Nat) (x1 : Nat) (x2 : Int) (x3 : Int) (s : gS) : Option ((Nat × Nat × Int × Int × gS) ⊕ gO) :=
  (f_266 x1 s).bind (gv1 (fun v11 s10 => if x3 < v11 then (f_168 x0 (g32 ((gI s10 x0 11) + x3)) s10).bind (gv1 (fun v13 s12 => (f_267 x1 x3 s12).bind (gv1 (fun v15 s14 => if v13 = v15 then some (Sum.inl (x0, x1, x2, (g32 (x3 + 1)), s14)) else (some ((1, 0, 0, s14))).map Sum.inr)))) else (let s16 : gS := gw s10 x0 11 x2; some ((1, 1, 0, s16))).map Sum.inr))
noncomputable def st_171_55 (y : (Nat × Nat × Int × Int × gS)) : Option ((Nat × Nat × Int × Int × gS) ⊕ gO) := sb_171_55 y.1 y.2.1 y.2.2.1 y.2.2.2.1 y.2.2.2.2
noncomputable def fb_171_38 (x0 : Nat) (x1 : Nat) (x2 : Int) (s : gS) : Option gO :=
  (f_266 x1 s).bind (gv1 (fun v9 s8 => if (g32 (x2 - (gI s x0 11))) = v9 then gloop (st_171_55) (x0, x1, x2, 0, s8) else some ((1, 0, 0, s8))))
noncomputable def sb_171_9 (x0 : Nat) (x1 : Nat) (x2 : Int) (s : gS) : Option ((Nat × Nat × Int × gS) ⊕ gO) :=
  if x2 < (gI s x0 10) then (f_168 x0 x2 s).bind (gv1 (fun v4 s3 => (f_150 v4 97 122 s3).bind (gv1 (fun v6 s5 => if v6 = 0 then (fb_171_38 x0 x1 x2 s5).map Sum.inr else some (Sum.inl (x0, x1, (g32 (x2 + 1)), s5)))))) else (fb_171_38 x0 x1 x2 s).map Sum.inr
noncomputable def st_171_9 (y : (Nat × Nat × Int × gS)) : Option ((Nat × Nat × Int × gS) ⊕ gO) := sb_171_9 y.1 y.2.1 y.2.2.1 y.2.2.2
noncomputable def f_171 (a0 : Nat) (a1 : Nat) (s : gS) : Option gO :=
  (f_169 a0 s).bind (gv0 (fun s1 => gloop (st_171_9) (a0, a1, (gI s1 a0 11), s1)))
-- X12_wrong
noncomputable def f_172 (a0 : Nat) (a1 : Int) (s : gS) : Option gO :=
  if (gI s a0 12) = (-1) then let s1 : gS := gw s a0 12 a1; some ((0, 0, 0, s1)) else some ((0, 0, 0, s))
-- X12_place
noncomputable def f_173 (a0 : Nat) (s : gS) : Option gO :=
  (f_169 a0 s).bind (gv0 (fun s1 => some ((1, (gI s1 a0 11), 0, s1))))
-- X12_figures
noncomputable def fb_174_119 (x0 : Nat) (x3 : Int) (x4 : Int) (s : gS) : Option gO :=
  (f_172 x0 x3 s).bind (gv0 (fun s8 => some ((1, x4, 0, s8))))
noncomputable def fb_174_89 (x0 : Nat) (x1 : Int) (x2 : Int) (x3 : Int) (x4 : Int) (s : gS) : Option gO :=
  if (gI s x0 11) = x3 then fb_174_119 x0 x3 x4 s else if 3 < (g32 ((gI s x0 11) - x3)) then fb_174_119 x0 x3 x4 s else if x4 < x1 then fb_174_119 x0 x3 x4 s else if x2 < x4 then fb_174_119 x0 x3 x4 s else some ((1, x4, 0, s))
noncomputable def sb_174_18 (x0 : Nat) (x1 : Int) (x2 : Int) (x3 : Int) (x4 : Int) (s : gS) : Option ((Nat × Int × Int × Int × Int × gS) ⊕ gO) :=
  if (gI s x0 11) < (gI s x0 10) then (f_168 x0 (gI s x0 11) s).bind (gv1 (fun v4 s3 => (f_150 v4 48 57 s3).bind (gv1 (fun v6 s5 => if v6 = 0 then (fb_174_89 x0 x1 x2 x3 x4 s5).map Sum.inr else if 3 < (g32 ((gI s5 x0 11) - x3)) then (fb_174_89 x0 x1 x2 x3 x4 s5).map Sum.inr else (f_168 x0 (gI s5 x0 11) s5).bind (gv1 (fun v11 s10 => let v12 : Int := (g32 ((g32 ((g32 (10 * x4)) + v11)) - 48)); let s13 : gS := gw s10 x0 11 (g32 ((gI s10 x0 11) + 1)); some (Sum.inl (x0, x1, x2, x3, v12, s13)))))))) else (fb_174_89 x0 x1 x2 x3 x4 s).map Sum.inr
noncomputable def st_174_18 (y : (Nat × Int × Int × Int × Int × gS)) : Option ((Nat × Int × Int × Int × Int × gS) ⊕ gO) := sb_174_18 y.1 y.2.1 y.2.2.1 y.2.2.2.1 y.2.2.2.2.1 y.2.2.2.2.2
noncomputable def f_174 (a0 : Nat) (a1 : Int) (a2 : Int) (s : gS) : Option gO :=
  if (gI s a0 12) = (-1) then (f_173 a0 s).bind (gv1 (fun v2 s1 => gloop (st_174_18) (a0, a1, a2, v2, 0, s1))) else some ((1, 0, 0, s))
-- X12_after
noncomputable def fb_175_24 (x0 : Nat) (x2 : Int) (x3 : Int) (s : gS) : Option gO :=
  (f_174 x0 x2 x3 s).bind (gv1 (fun v7 s6 => some ((1, v7, 0, s6))))
noncomputable def f_175 (a0 : Nat) (a1 : Nat) (a2 : Int) (a3 : Int) (s : gS) : Option gO :=
  if (gI s a0 12) = (-1) then (f_171 a0 a1 s).bind (gv1 (fun v2 s1 => if v2 = 0 then (f_172 a0 (gI s1 a0 11) s1).bind (gv0 (fun s4 => fb_175_24 a0 a2 a3 s4)) else fb_175_24 a0 a2 a3 s1)) else fb_175_24 a0 a2 a3 s
-- X12_lettersAfter
noncomputable def fb_176_154 (x0 : Nat) (x2 : Int) (x3 : Int) (s : gS) : Option gO :=
  (f_172 x0 x2 s).bind (gv0 (fun s13 => some ((1, x3, 0, s13))))
noncomputable def fb_176_145 (x0 : Nat) (x2 : Int) (x3 : Int) (x4 : Int) (s : gS) : Option gO :=
  if x4 = 0 then fb_176_154 x0 x2 x3 s else if x3 = 0 then fb_176_154 x0 x2 x3 s else some ((1, x3, 0, s))
noncomputable def fb_176_130 (x0 : Nat) (x2 : Int) (x4 : Int) (w0 : Int) (w1 : Int) (s : gS) : Option ((Nat × Int × Int × Int × gS) ⊕ gO) :=
  let s17 : gS := gw s x0 11 (g32 ((gI s x0 11) + 1)); some (Sum.inl (x0, x2, (gor w1 w0), x4, s17))
noncomputable def fb_176_112 (x0 : Nat) (x2 : Int) (x3 : Int) (x5 : Int) (w0 : Int) (s : gS) : Option ((Nat × Int × Int × Int × gS) ⊕ gO) :=
  if x5 < 6 then fb_176_130 x0 x2 w0 (gshl 1 x5) x3 s else fb_176_130 x0 x2 w0 0 x3 s
noncomputable def fb_176_111 (x0 : Nat) (x2 : Int) (x3 : Int) (x5 : Int) (s : gS) : Option ((Nat × Int × Int × Int × gS) ⊕ gO) :=
  fb_176_112 x0 x2 x3 x5 0 s
noncomputable def sb_176_44 (x0 : Nat) (x2 : Int) (x3 : Int) (x4 : Int) (s : gS) : Option ((Nat × Int × Int × Int × gS) ⊕ gO) :=
  if (gI s x0 11) < (gI s x0 10) then (f_168 x0 (gI s x0 11) s).bind (gv1 (fun v9 s8 => (f_150 v9 97 122 s8).bind (gv1 (fun v11 s10 => if v11 = 0 then (fb_176_145 x0 x2 x3 x4 s10).map Sum.inr else (f_168 x0 (gI s10 x0 11) s10).bind (gv1 (fun v16 s15 => if x4 = 0 then fb_176_111 x0 x2 x3 (g32 (v16 - 97)) s15 else if (g32 (v16 - 97)) < 6 then (f_153 x3 (g32 (v16 - 97)) s15).bind (gv1 (fun v19 s18 => if v19 = 0 then fb_176_112 x0 x2 x3 (g32 (v16 - 97)) 1 s18 else fb_176_111 x0 x2 x3 (g32 (v16 - 97)) s18)) else fb_176_111 x0 x2 x3 (g32 (v16 - 97)) s15)))))) else (fb_176_145 x0 x2 x3 x4 s).map Sum.inr
noncomputable def st_176_44 (y : (Nat × Int × Int × Int × gS)) : Option ((Nat × Int × Int × Int × gS) ⊕ gO) := sb_176_44 y.1 y.2.1 y.2.2.1 y.2.2.2.1 y.2.2.2.2
noncomputable def fb_176_24 (x0 : Nat) (s : gS) : Option gO :=
  if (gI s x0 12) = (-1) then (f_173 x0 s).bind (gv1 (fun v7 s6 => gloop (st_176_44) (x0, v7, 0, 1, s6))) else some ((1, 0, 0, s))
noncomputable def f_176 (a0 : Nat) (a1 : Nat) (s : gS) : Option gO :=
  if (gI s a0 12) = (-1) then (f_171 a0 a1 s).bind (gv1 (fun v2 s1 => if v2 = 0 then (f_172 a0 (gI s1 a0 11) s1).bind (gv0 (fun s4 => fb_176_24 a0 s4)) else fb_176_24 a0 s1)) else fb_176_24 a0 s
-- X12_stepLine
noncomputable def fb_177_16 (x0 : Nat) (s : gS) : Option gO :=
  (f_175 x0 43 1 30 s).bind (gv1 (fun v4 s3 => (f_175 x0 44 0 99 s3).bind (gv1 (fun v6 s5 => (f_175 x0 45 0 50 s5).bind (gv1 (fun v8 s7 => if (gI s7 x0 12) = (-1) then let v9 : Int := (g32 (16 + (g32 (3 * (gI s7 (gR s7 x0 1) 3))))); gchk (g32 (v9 + 0)) 740 (let s10 : gS := gw s7 (gR s7 x0 1) ((g32 (v9 + 0)) : Int).toNat v4; gchk (g32 (v9 + 1)) 740 (let s11 : gS := gw s10 (gR s10 x0 1) ((g32 (v9 + 1)) : Int).toNat v6; gchk (g32 (v9 + 2)) 740 (let s12 : gS := gw s11 (gR s11 x0 1) ((g32 (v9 + 2)) : Int).toNat v8; let s13 : gS := gw s12 (gR s12 x0 1) 3 (g32 ((gI s12 (gR s12 x0 1) 3) + 1)); some ((0, 0, 0, s13))))) else some ((0, 0, 0, s7))))))))
noncomputable def f_177 (a0 : Nat) (a1 : Int) (s : gS) : Option gO :=
  if (gI s (gR s a0 1) 3) = 8 then (f_172 a0 a1 s).bind (gv0 (fun s1 => fb_177_16 a0 s1)) else fb_177_16 a0 s
-- X12_manLine
noncomputable def fb_178_16 (x0 : Nat) (s : gS) : Option gO :=
  (f_175 x0 46 0 99 s).bind (gv1 (fun v4 s3 => (f_175 x0 47 0 9 s3).bind (gv1 (fun v6 s5 => (f_176 x0 48 s5).bind (gv1 (fun v8 s7 => if (gI s7 x0 12) = (-1) then let v9 : Int := (gI s7 (gR s7 x0 1) 4); (f_157 x0 v9 0 v4 s7).bind (gv0 (fun s10 => (f_157 x0 v9 1 v6 s10).bind (gv0 (fun s12 => (f_157 x0 v9 2 v8 s12).bind (gv0 (fun s14 => (f_157 x0 v9 3 0 s14).bind (gv0 (fun s16 => (f_157 x0 v9 4 0 s16).bind (gv0 (fun s18 => (f_157 x0 v9 5 0 s18).bind (gv0 (fun s20 => let s22 : gS := gw s20 (gR s20 x0 1) 4 (g32 ((gI s20 (gR s20 x0 1) 4) + 1)); some ((0, 0, 0, s22)))))))))))))) else some ((0, 0, 0, s7))))))))
noncomputable def f_178 (a0 : Nat) (a1 : Int) (s : gS) : Option gO :=
  if (gI s (gR s a0 1) 4) = 6 then (f_172 a0 a1 s).bind (gv0 (fun s1 => fb_178_16 a0 s1)) else fb_178_16 a0 s
-- X12_testLine
noncomputable def fb_179_16 (x0 : Nat) (s : gS) : Option gO :=
  (f_175 x0 44 0 99 s).bind (gv1 (fun v4 s3 => (f_176 x0 49 s3).bind (gv1 (fun v6 s5 => if (gI s5 x0 12) = (-1) then gchk (g32 (76 + (g32 (2 * (gI s5 (gR s5 x0 1) 5))))) 740 (let s7 : gS := gw s5 (gR s5 x0 1) ((g32 (76 + (g32 (2 * (gI s5 (gR s5 x0 1) 5))))) : Int).toNat v4; gchk (g32 ((g32 (76 + (g32 (2 * (gI s7 (gR s7 x0 1) 5))))) + 1)) 740 (let s8 : gS := gw s7 (gR s7 x0 1) ((g32 ((g32 (76 + (g32 (2 * (gI s7 (gR s7 x0 1) 5))))) + 1)) : Int).toNat v6; let s9 : gS := gw s8 (gR s8 x0 1) 5 (g32 ((gI s8 (gR s8 x0 1) 5) + 1)); some ((0, 0, 0, s9)))) else some ((0, 0, 0, s5))))))
noncomputable def f_179 (a0 : Nat) (a1 : Int) (s : gS) : Option gO :=
  if (gI s (gR s a0 1) 5) = 6 then (f_172 a0 a1 s).bind (gv0 (fun s1 => fb_179_16 a0 s1)) else fb_179_16 a0 s
-- X12_rivalLine
noncomputable def fb_180_17 (x0 : Nat) (s : gS) : Option gO :=
  (f_174 x0 0 999 s).bind (gv1 (fun v4 s3 => if (gI s3 x0 12) = (-1) then gchk (g32 ((g32 (88 + (g32 (2 * (gI s3 (gR s3 x0 1) 6))))) + 0)) 740 (let s5 : gS := gw s3 (gR s3 x0 1) ((g32 ((g32 (88 + (g32 (2 * (gI s3 (gR s3 x0 1) 6))))) + 0)) : Int).toNat v4; gchk (g32 ((g32 (88 + (g32 (2 * (gI s5 (gR s5 x0 1) 6))))) + 1)) 740 (let s6 : gS := gw s5 (gR s5 x0 1) ((g32 ((g32 (88 + (g32 (2 * (gI s5 (gR s5 x0 1) 6))))) + 1)) : Int).toNat 0; let s7 : gS := gw s6 (gR s6 x0 1) 6 (g32 ((gI s6 (gR s6 x0 1) 6) + 1)); some ((0, 0, 0, s7)))) else some ((0, 0, 0, s3))))
noncomputable def f_180 (a0 : Nat) (a1 : Int) (s : gS) : Option gO :=
  if (gI s (gR s a0 1) 6) = 6 then (f_172 a0 a1 s).bind (gv0 (fun s1 => fb_180_17 a0 s1)) else fb_180_17 a0 s
-- X12_tells
noncomputable def f_181 (a0 : Nat) (a1 : Int) (a2 : Int) (s : gS) : Option gO :=
  (f_174 a0 0 a2 s).bind (gv1 (fun v2 s1 => if (gI s1 a0 12) = (-1) then gchk a1 740 (let s3 : gS := gw s1 (gR s1 a0 1) (a1 : Int).toNat v2; some ((0, 0, 0, s3))) else some ((0, 0, 0, s1))))
-- X12_bookLine
noncomputable def f_182 (a0 : Nat) (s : gS) : Option gO :=
  (f_173 a0 s).bind (gv1 (fun v2 s1 => (f_171 a0 50 s1).bind (gv1 (fun v4 s3 => if v4 = 0 then (f_171 a0 51 s3).bind (gv1 (fun v7 s6 => if v7 = 0 then (f_171 a0 52 s6).bind (gv1 (fun v10 s9 => if v10 = 0 then (f_171 a0 53 s9).bind (gv1 (fun v13 s12 => if v13 = 0 then (f_171 a0 54 s12).bind (gv1 (fun v16 s15 => if v16 = 0 then (f_171 a0 55 s15).bind (gv1 (fun v19 s18 => if v19 = 0 then (f_171 a0 56 s18).bind (gv1 (fun v22 s21 => if v22 = 0 then (f_171 a0 57 s21).bind (gv1 (fun v25 s24 => if v25 = 0 then (f_172 a0 (gI s24 a0 11) s24).bind (gv0 (fun s27 => some ((0, 0, 0, s27)))) else (f_181 a0 12 50 s24).bind (gv0 (fun s29 => some ((0, 0, 0, s29)))))) else (f_181 a0 11 100 s21).bind (gv0 (fun s31 => some ((0, 0, 0, s31)))))) else (f_181 a0 10 99 s18).bind (gv0 (fun s33 => some ((0, 0, 0, s33)))))) else (f_181 a0 8 999 s15).bind (gv0 (fun s35 => some ((0, 0, 0, s35)))))) else (f_180 a0 v2 s12).bind (gv0 (fun s37 => some ((0, 0, 0, s37)))))) else (f_179 a0 v2 s9).bind (gv0 (fun s39 => some ((0, 0, 0, s39)))))) else (f_178 a0 v2 s6).bind (gv0 (fun s41 => some ((0, 0, 0, s41)))))) else (f_177 a0 v2 s3).bind (gv0 (fun s43 => some ((0, 0, 0, s43))))))))
-- X12_begins
noncomputable def f_183 (a0 : Nat) (s : gS) : Option gO :=
  let s1 : gS := gw s a0 12 (-1); let s2 : gS := gw s1 a0 9 (-1); let s3 : gS := gw s2 a0 10 (gI s2 a0 8); let s4 : gS := gw s3 a0 8 0; let s5 : gS := gw s4 a0 11 0; let s6 : gS := gw s5 a0 13 0; some ((0, 0, 0, s6))
-- X12_part
noncomputable def fb_188_145 (x0 : Nat) (w0 : Int) (s : gS) : Option gO :=
  if w0 = (-1) then (f_172 x0 (gI s x0 11) s).bind (gv0 (fun s29 => some ((1, 0, 0, s29)))) else gchk w0 7 (some ((1, (gI s (gR s x0 14) (w0 : Int).toNat), 0, s)))
noncomputable def fb_188_52 (x0 : Nat) (s : gS) : Option gO :=
  (f_171 x0 51 s).bind (gv1 (fun v9 s8 => if v9 = 0 then (f_171 x0 46 s8).bind (gv1 (fun v12 s11 => if v12 = 0 then (f_171 x0 47 s11).bind (gv1 (fun v15 s14 => if v15 = 0 then (f_171 x0 58 s14).bind (gv1 (fun v18 s17 => if v18 = 0 then (f_171 x0 59 s17).bind (gv1 (fun v21 s20 => if v21 = 0 then (f_171 x0 60 s20).bind (gv1 (fun v24 s23 => if v24 = 0 then (f_171 x0 61 s23).bind (gv1 (fun v27 s26 => if v27 = 0 then fb_188_145 x0 (-1) s26 else fb_188_145 x0 6 s26)) else fb_188_145 x0 5 s23)) else fb_188_145 x0 4 s20)) else fb_188_145 x0 3 s17)) else fb_188_145 x0 2 s14)) else fb_188_145 x0 1 s11)) else fb_188_145 x0 0 s8))
noncomputable def f_188 (a0 : Nat) (s : gS) : Option gO :=
  if (gI s a0 12) = (-1) then (f_169 a0 s).bind (gv0 (fun s1 => if (gI s1 a0 11) < (gI s1 a0 10) then (f_168 a0 (gI s1 a0 11) s1).bind (gv1 (fun v4 s3 => (f_150 v4 48 57 s3).bind (gv1 (fun v6 s5 => if v6 = 0 then fb_188_52 a0 s5 else (f_174 a0 0 999 s5).bind (gv1 (fun v32 s31 => some ((1, v32, 0, s31)))))))) else fb_188_52 a0 s1)) else some ((1, 0, 0, s))
-- X12_sum
noncomputable def sb_189_5 (x0 : Nat) (x1 : Int) (s : gS) : Option ((Nat × Int × gS) ⊕ gO) :=
  if (gI s x0 12) = (-1) then (f_170 x0 43 s).bind (gv1 (fun v4 s3 => if v4 = 0 then (some ((1, x1, 0, s3))).map Sum.inr else let s6 : gS := gw s3 x0 11 (g32 ((gI s3 x0 11) + 1)); (f_188 x0 s6).bind (gv1 (fun v8 s7 => some (Sum.inl (x0, (g32 (x1 + v8)), s7)))))) else (some ((1, x1, 0, s))).map Sum.inr
noncomputable def st_189_5 (y : (Nat × Int × gS)) : Option ((Nat × Int × gS) ⊕ gO) := sb_189_5 y.1 y.2.1 y.2.2
noncomputable def f_189 (a0 : Nat) (s : gS) : Option gO :=
  (f_188 a0 s).bind (gv1 (fun v2 s1 => gloop (st_189_5) (a0, v2, s1)))
-- X12_plain
noncomputable def fb_190_73 (x0 : Nat) (x1 : Int) (x2 : Int) (s : gS) : Option gO :=
  let s17 : gS := gw s x0 11 (g32 ((gI s x0 11) + 1)); (f_189 x0 s17).bind (gv1 (fun v19 s18 => if x2 = 0 then if v19 < x1 then some ((1, 1, 0, s18)) else some ((1, 0, 0, s18)) else if x1 < v19 then some ((1, 1, 0, s18)) else some ((1, 0, 0, s18))))
noncomputable def f_190 (a0 : Nat) (s : gS) : Option gO :=
  (f_171 a0 62 s).bind (gv1 (fun v2 s1 => if v2 = 0 then (f_171 a0 63 s1).bind (gv1 (fun v5 s4 => if v5 = 0 then (f_189 a0 s4).bind (gv1 (fun v8 s7 => if (gI s7 a0 12) = (-1) then (f_170 a0 60 s7).bind (gv1 (fun v10 s9 => if v10 = 0 then (f_170 a0 62 s9).bind (gv1 (fun v13 s12 => if v13 = 0 then (f_172 a0 (gI s12 a0 11) s12).bind (gv0 (fun s15 => some ((1, 0, 0, s15)))) else fb_190_73 a0 v8 v10 s12)) else fb_190_73 a0 v8 v10 s9)) else some ((1, 0, 0, s7)))) else gbool (gI s4 a0 16) (some ((1, (gI s4 a0 16), 0, s4))))) else gbool (gI s1 a0 15) (some ((1, (gI s1 a0 15), 0, s1)))))
-- X12_atom
noncomputable def fb_191_138 (r_191 : Nat → gS → Option gO) (r_193 : Nat → gS → Option gO) (x0 : Nat) (x3 : Int) (s : gS) : Option gO :=
  let s25 : gS := gw s x0 13 (g32 ((gI s x0 13) - 1)); gbool x3 (some ((1, x3, 0, s25)))
noncomputable def fb_191_128 (r_191 : Nat → gS → Option gO) (r_193 : Nat → gS → Option gO) (x0 : Nat) (x3 : Int) (s : gS) : Option gO :=
  let s24 : gS := gw s x0 11 (g32 ((gI s x0 11) + 1)); fb_191_138 r_191 r_193 x0 x3 s24
noncomputable def fb_191_40 (r_191 : Nat → gS → Option gO) (r_193 : Nat → gS → Option gO) (x0 : Nat) (x1 : Int) (x2 : Int) (s : gS) : Option gO :=
  if (gI s x0 13) = 6 then (f_172 x0 x1 s).bind (gv0 (fun s12 => some ((1, 0, 0, s12)))) else let s14 : gS := gw s x0 13 (g32 ((gI s x0 13) + 1)); if x2 = 0 then let s15 : gS := gw s14 x0 11 (g32 ((gI s14 x0 11) + 1)); (r_193 x0 s15).bind (gv1 (fun v17 s16 => if (gI s16 x0 12) = (-1) then (f_170 x0 41 s16).bind (gv1 (fun v20 s19 => if v20 = 0 then (f_172 x0 (gI s19 x0 11) s19).bind (gv0 (fun s22 => fb_191_128 r_191 r_193 x0 v17 s22)) else fb_191_128 r_191 r_193 x0 v17 s19)) else fb_191_128 r_191 r_193 x0 v17 s16)) else (r_191 x0 s14).bind (gv1 (fun v27 s26 => if v27 = 0 then fb_191_138 r_191 r_193 x0 1 s26 else fb_191_138 r_191 r_193 x0 0 s26))
noncomputable def fo_191 (r_191 : Nat → gS → Option gO) (r_193 : Nat → gS → Option gO) (a0 : Nat) (s : gS) : Option gO :=
  if (gI s a0 12) = (-1) then (f_173 a0 s).bind (gv1 (fun v2 s1 => (f_171 a0 64 s1).bind (gv1 (fun v4 s3 => if v4 = 0 then (f_170 a0 40 s3).bind (gv1 (fun v7 s6 => if v7 = 0 then (f_190 a0 s6).bind (gv1 (fun v10 s9 => some ((1, v10, 0, s9)))) else fb_191_40 r_191 r_193 a0 v2 v4 s6)) else fb_191_40 r_191 r_193 a0 v2 v4 s3)))) else some ((1, 0, 0, s))
-- X12_every
noncomputable def fb_192_39 (r_191 : Nat → gS → Option gO) (x0 : Nat) (s : gS) : Option ((Nat × Int × gS) ⊕ gO) :=
  some (Sum.inl (x0, 0, s))
noncomputable def sb_192_5 (r_191 : Nat → gS → Option gO) (x0 : Nat) (x1 : Int) (s : gS) : Option ((Nat × Int × gS) ⊕ gO) :=
  if (gI s x0 12) = (-1) then (f_171 x0 65 s).bind (gv1 (fun v5 s4 => if v5 = 0 then (gbool x1 (some ((1, x1, 0, s4)))).map Sum.inr else (r_191 x0 s4).bind (gv1 (fun v8 s7 => if x1 = 0 then fb_192_39 r_191 x0 s7 else if v8 = 0 then fb_192_39 r_191 x0 s7 else some (Sum.inl (x0, 1, s7)))))) else (gbool x1 (some ((1, x1, 0, s)))).map Sum.inr
noncomputable def st_192_5 (r_191 : Nat → gS → Option gO) (y : (Nat × Int × gS)) : Option ((Nat × Int × gS) ⊕ gO) := sb_192_5 r_191 y.1 y.2.1 y.2.2
noncomputable def fo_192 (r_191 : Nat → gS → Option gO) (a0 : Nat) (s : gS) : Option gO :=
  (r_191 a0 s).bind (gv1 (fun v2 s1 => gloop (st_192_5 r_191) (a0, v2, s1)))
-- X12_some
noncomputable def sb_193_5 (r_192 : Nat → gS → Option gO) (x0 : Nat) (x1 : Int) (s : gS) : Option ((Nat × Int × gS) ⊕ gO) :=
  if (gI s x0 12) = (-1) then (f_171 x0 66 s).bind (gv1 (fun v5 s4 => if v5 = 0 then (gbool x1 (some ((1, x1, 0, s4)))).map Sum.inr else (r_192 x0 s4).bind (gv1 (fun v8 s7 => if x1 = 0 then if v8 = 0 then some (Sum.inl (x0, 0, s7)) else some (Sum.inl (x0, 1, s7)) else some (Sum.inl (x0, 1, s7)))))) else (gbool x1 (some ((1, x1, 0, s)))).map Sum.inr
noncomputable def st_193_5 (r_192 : Nat → gS → Option gO) (y : (Nat × Int × gS)) : Option ((Nat × Int × gS) ⊕ gO) := sb_193_5 r_192 y.1 y.2.1 y.2.2
noncomputable def fo_193 (r_192 : Nat → gS → Option gO) (a0 : Nat) (s : gS) : Option gO :=
  (r_192 a0 s).bind (gv1 (fun v2 s1 => gloop (st_193_5 r_192) (a0, v2, s1)))
noncomputable def rg_191 : Nat → (Nat → gS → Option gO) × (Nat → gS → Option gO) × (Nat → gS → Option gO)
  | 0 => ((fun _ _ => none), (fun _ _ => none), (fun _ _ => none))
  | n + 1 => (fo_191 (rg_191 n).1 (rg_191 n).2.2, fo_192 (rg_191 n).1, fo_193 (rg_191 n).2.1)
noncomputable def fn_191 (n : Nat) : Nat → gS → Option gO := (rg_191 n).1
noncomputable def fn_192 (n : Nat) : Nat → gS → Option gO := (rg_191 n).2.1
noncomputable def fn_193 (n : Nat) : Nat → gS → Option gO := (rg_191 n).2.2
noncomputable def f_193 : Nat → gS → Option gO := fn_193 24
-- X12_lawLine
noncomputable def fb_194_95 (w0 : Int) (w1 : Int) (w2 : Nat) (s : gS) : Option gO :=
  let s14 : gS := gw s w2 17 (g32 (w1 + w0)); some ((0, 0, 0, s14))
noncomputable def fb_194_67 (x0 : Nat) (x1 : Int) (x2 : Int) (w0 : Int) (s : gS) : Option gO :=
  if (gI s x0 12) = (-1) then if w0 = 0 then some ((0, 0, 0, s)) else if x1 = 0 then fb_194_95 (g32 (-x2)) (gI s x0 17) x0 s else fb_194_95 x2 (gI s x0 17) x0 s else some ((0, 0, 0, s))
noncomputable def fb_194_29 (x0 : Nat) (x1 : Int) (s : gS) : Option gO :=
  (f_174 x0 0 30 s).bind (gv1 (fun v10 s9 => if (gI s9 x0 12) = (-1) then (f_171 x0 69 s9).bind (gv1 (fun v12 s11 => if v12 = 0 then fb_194_67 x0 x1 v10 1 s11 else (f_193 x0 s11).bind (gv1 (fun v16 s15 => if v16 = 0 then fb_194_67 x0 x1 v10 0 s15 else fb_194_67 x0 x1 v10 1 s15)))) else some ((0, 0, 0, s9))))
noncomputable def f_194 (a0 : Nat) (s : gS) : Option gO :=
  (f_171 a0 67 s).bind (gv1 (fun v2 s1 => if v2 = 0 then (f_171 a0 68 s1).bind (gv1 (fun v5 s4 => if v5 = 0 then (f_172 a0 (gI s4 a0 11) s4).bind (gv0 (fun s7 => some ((0, 0, 0, s7)))) else fb_194_29 a0 v2 s4)) else fb_194_29 a0 v2 s1))
-- X12_read
noncomputable def fb_184_80 (x0 : Nat) (x1 : Int) (x2 : Int) (x3 : Int) (s : gS) : Option ((Nat × Int × Int × Int × gS) ⊕ gO) :=
  (f_169 x0 s).bind (gv0 (fun s7 => if (gI s7 x0 12) = (-1) then if (gI s7 x0 11) = (gI s7 x0 10) then some (Sum.inl (x0, x1, 0, (g32 (x3 + 1)), s7)) else (f_170 x0 59 s7).bind (gv1 (fun v10 s9 => if v10 = 0 then (f_172 x0 (gI s9 x0 11) s9).bind (gv0 (fun s12 => some (Sum.inl (x0, x1, x2, (g32 (x3 + 1)), s12)))) else let s14 : gS := gw s9 x0 11 (g32 ((gI s9 x0 11) + 1)); some (Sum.inl (x0, x1, x2, (g32 (x3 + 1)), s14)))) else some (Sum.inl (x0, x1, 0, (g32 (x3 + 1)), s7))))
noncomputable def fb_184_51 (x0 : Nat) (x1 : Int) (x2 : Int) (x3 : Int) (w0 : Int) (w1 : Int) (s : gS) : Option ((Nat × Int × Int × Int × gS) ⊕ gO) :=
  if w1 = w0 then (f_172 x0 (gI s x0 11) s).bind (gv0 (fun s5 => fb_184_80 x0 x1 x2 x3 s5)) else if x1 = 0 then (f_182 x0 s).bind (gv0 (fun s15 => fb_184_80 x0 x1 x2 x3 s15)) else (f_194 x0 s).bind (gv0 (fun s17 => fb_184_80 x0 x1 x2 x3 s17))
noncomputable def sb_184_23 (x0 : Nat) (x1 : Int) (x2 : Int) (x3 : Int) (s : gS) : Option ((Nat × Int × Int × Int × gS) ⊕ gO) :=
  if x2 = 0 then (some ((1, x3, 0, s))).map Sum.inr else if (gI s x0 12) = (-1) then (f_169 x0 s).bind (gv0 (fun s3 => if x1 = 0 then fb_184_51 x0 x1 x2 x3 14 x3 s3 else fb_184_51 x0 x1 x2 x3 12 x3 s3)) else (some ((1, x3, 0, s))).map Sum.inr
noncomputable def st_184_23 (y : (Nat × Int × Int × Int × gS)) : Option ((Nat × Int × Int × Int × gS) ⊕ gO) := sb_184_23 y.1 y.2.1 y.2.2.1 y.2.2.2.1 y.2.2.2.2
noncomputable def fb_184_20 (x0 : Nat) (x1 : Int) (w0 : Int) (s : gS) : Option gO :=
  gloop (st_184_23) (x0, x1, w0, 0, s)
noncomputable def f_184 (a0 : Nat) (a1 : Int) (s : gS) : Option gO :=
  (f_169 a0 s).bind (gv0 (fun s1 => if (gI s1 a0 11) < (gI s1 a0 10) then fb_184_20 a0 a1 1 s1 else fb_184_20 a0 a1 0 s1))
-- X12_putsAside
noncomputable def sb_185_2 (x0 : Nat) (x1 : Int) (s : gS) : Option ((Nat × Int × gS) ⊕ gO) :=
  if x1 < 340 then gchk x1 740 (gchk x1 340 (let s1 : gS := gw s (gR s x0 4) (x1 : Int).toNat (gI s (gR s x0 1) (x1 : Int).toNat); some (Sum.inl (x0, (g32 (x1 + 1)), s1)))) else (some ((0, 0, 0, s))).map Sum.inr
noncomputable def st_185_2 (y : (Nat × Int × gS)) : Option ((Nat × Int × gS) ⊕ gO) := sb_185_2 y.1 y.2.1 y.2.2
noncomputable def f_185 (a0 : Nat) (s : gS) : Option gO :=
  gloop (st_185_2) (a0, 0, s)
-- X12_comesBack
noncomputable def sb_186_2 (x0 : Nat) (x1 : Int) (s : gS) : Option ((Nat × Int × gS) ⊕ gO) :=
  if x1 < 340 then gchk x1 340 (gchk x1 740 (let s1 : gS := gw s (gR s x0 1) (x1 : Int).toNat (gI s (gR s x0 4) (x1 : Int).toNat); some (Sum.inl (x0, (g32 (x1 + 1)), s1)))) else (some ((0, 0, 0, s))).map Sum.inr
noncomputable def st_186_2 (y : (Nat × Int × gS)) : Option ((Nat × Int × gS) ⊕ gO) := sb_186_2 y.1 y.2.1 y.2.2
noncomputable def f_186 (a0 : Nat) (s : gS) : Option gO :=
  gloop (st_186_2) (a0, 0, s)
-- X12_book
noncomputable def fb_187_43 (x0 : Nat) (w0 : Int) (w1 : Nat) (s : gS) : Option gO :=
  let s7 : gS := gw s w1 0 w0; if 0 < (gI s7 x0 0) then (f_186 x0 s7).bind (gv0 (fun s8 => some ((1, 0, 0, s8)))) else let s10 : gS := gw s7 (gR s7 x0 1) 0 (g32 ((gI s7 (gR s7 x0 1) 0) + 1)); let s11 : gS := gw s10 x0 6 0; some ((1, (gI s11 (gR s11 x0 1) 0), 0, s11))
noncomputable def f_187 (a0 : Nat) (s : gS) : Option gO :=
  (f_185 a0 s).bind (gv0 (fun s1 => (f_183 a0 s1).bind (gv0 (fun s3 => (f_184 a0 0 s3).bind (gv1 (fun v6 s5 => if (gI s5 a0 12) = (-1) then if (gI s5 (gR s5 a0 1) 0) = 12 then fb_187_43 a0 2 a0 s5 else fb_187_43 a0 0 a0 s5 else fb_187_43 a0 1 a0 s5))))))
-- X12_law
noncomputable def sb_195_55 (x0 : Nat) (x1 : Int) (x2 : Int) (s : gS) : Option ((Nat × Int × Int × gS) ⊕ gO) :=
  if x2 < (gI s x0 10) then gchk x2 400 (gchk (g32 (340 + x2)) 740 (let s8 : gS := gw s (gR s x0 1) ((g32 (340 + x2)) : Int).toNat (gI s (gR s x0 7) (x2 : Int).toNat); some (Sum.inl (x0, x1, (g32 (x2 + 1)), s8)))) else (let s9 : gS := gw s x0 6 0; some ((1, x1, 0, s9))).map Sum.inr
noncomputable def st_195_55 (y : (Nat × Int × Int × gS)) : Option ((Nat × Int × Int × gS) ⊕ gO) := sb_195_55 y.1 y.2.1 y.2.2.1 y.2.2.2
noncomputable def fb_195_24 (x0 : Nat) (x1 : Int) (w0 : Int) (w1 : Nat) (s : gS) : Option gO :=
  let s5 : gS := gw s w1 0 w0; if 0 < (gI s5 x0 0) then some ((1, 0, 0, s5)) else let s6 : gS := gw s5 (gR s5 x0 1) 1 x1; let s7 : gS := gw s6 (gR s6 x0 1) 2 (gI s6 x0 10); gloop (st_195_55) (x0, x1, 0, s7)
noncomputable def f_195 (a0 : Nat) (s : gS) : Option gO :=
  (f_183 a0 s).bind (gv0 (fun s1 => (f_184 a0 1 s1).bind (gv1 (fun v4 s3 => if (gI s3 a0 12) = (-1) then fb_195_24 a0 v4 0 a0 s3 else fb_195_24 a0 v4 1 a0 s3))))
-- X12_fault
noncomputable def f_196 (a0 : Nat) (s : gS) : Option gO :=
  let s1 : gS := gw s a0 0 0; some ((1, (gI s1 a0 12), 0, s1))
-- X12_turnsBy
noncomputable def fb_197_100 (x0 : Nat) (w0 : Int) (w1 : Nat) (s : gS) : Option gO :=
  gbool w0 (let s9 : gS := gw s w1 16 w0; let s10 : gS := gw s9 x0 17 0; let s11 : gS := gw s10 x0 12 (-1); let s12 : gS := gw s11 x0 9 340; let s13 : gS := gw s12 x0 10 (gI s12 (gR s12 x0 1) 2); let s14 : gS := gw s13 x0 11 0; let s15 : gS := gw s14 x0 13 0; (f_184 x0 1 s15).bind (gv1 (fun v17 s16 => let s18 : gS := gw s16 x0 12 (gI s10 x0 12); some ((1, (gI s18 x0 17), 0, s18)))))
noncomputable def fb_197_80 (x0 : Nat) (x4 : Int) (w0 : Int) (w1 : Nat) (s : gS) : Option gO :=
  gbool w0 (let s8 : gS := gw s w1 15 w0; if x4 < (gI s8 (gR s8 x0 1) 3) then fb_197_100 x0 0 x0 s8 else fb_197_100 x0 1 x0 s8)
noncomputable def f_197 (a0 : Nat) (a1 : Int) (a2 : Int) (a3 : Int) (a4 : Int) (a5 : Int) (a6 : Int) (a7 : Int) (s : gS) : Option gO :=
  if (gI s (gR s a0 1) 1) = (-1) then some ((1, (-1), 0, s)) else let s1 : gS := gw s (gR s a0 14) 0 a1; let s2 : gS := gw s1 (gR s1 a0 14) 1 a2; let s3 : gS := gw s2 (gR s2 a0 14) 2 a3; let s4 : gS := gw s3 (gR s3 a0 14) 3 a4; let s5 : gS := gw s4 (gR s4 a0 14) 4 a5; let s6 : gS := gw s5 (gR s5 a0 14) 5 (gdiv a6 10); let s7 : gS := gw s6 (gR s6 a0 14) 6 a7; if 0 < a5 then fb_197_80 a0 a4 1 a0 s7 else fb_197_80 a0 a4 0 a0 s7
-- X12_turnsNow
noncomputable def f_198 (a0 : Nat) (a1 : Int) (s : gS) : Option gO :=
  (f_156 a0 a1 0 s).bind (gv1 (fun v2 s1 => (f_156 a0 a1 1 s1).bind (gv1 (fun v4 s3 => (f_156 a0 a1 3 s3).bind (gv1 (fun v6 s5 => (f_156 a0 a1 4 s5).bind (gv1 (fun v8 s7 => (f_197 a0 a1 v2 v4 v6 v8 (gI s7 (gR s7 a0 1) 9) (gI s7 (gR s7 a0 1) 7) s7).bind (gv1 (fun v10 s9 => some ((1, v10, 0, s9))))))))))))
-- X12_draw
noncomputable def f_199 (a0 : Nat) (a1 : Int) (s : gS) : Option gO :=
  let s1 : gS := gw s (gR s a0 1) 14 (g32 ((g32 (1103515245 * (gI s (gR s a0 1) 14))) + 12345)); if a1 = 0 then none else some ((1, (grem (gand (gushr (gI s1 (gR s1 a0 1) 14) 16) 32767) a1), 0, s1))
-- X12_pays
noncomputable def f_200 (a0 : Nat) (a1 : Int) (s : gS) : Option gO :=
  (f_151 a1 (gI s (gR s a0 1) 8) s).bind (gv1 (fun v2 s1 => let s3 : gS := gw s1 (gR s1 a0 1) 8 (g32 ((gI s1 (gR s1 a0 1) 8) - v2)); (f_151 9999 (g32 ((g32 ((gI s3 (gR s3 a0 1) 9) + a1)) - v2)) s3).bind (gv1 (fun v5 s4 => let s6 : gS := gw s4 (gR s3 a0 1) 9 v5; some ((0, 0, 0, s6))))))
-- X12_works
noncomputable def fb_201_37 (x0 : Nat) (x1 : Int) (x2 : Int) (s : gS) : Option gO :=
  (f_156 x0 x1 4 s).bind (gv1 (fun v10 s9 => (f_157 x0 x1 4 (g32 (v10 + 1)) s9).bind (gv0 (fun s11 => (f_156 x0 x1 4 s11).bind (gv1 (fun v14 s13 => (f_155 x0 x2 0 s13).bind (gv1 (fun v16 s15 => if v14 < v16 then some ((0, 0, 0, s15)) else (f_156 x0 x1 0 s15).bind (gv1 (fun v18 s17 => (f_155 x0 x2 2 s17).bind (gv1 (fun v20 s19 => (f_151 99 (g32 (v18 + v20)) s19).bind (gv1 (fun v22 s21 => (f_157 x0 x1 0 v22 s21).bind (gv0 (fun s23 => (f_157 x0 x1 3 (g32 (x2 + 1)) s23).bind (gv0 (fun s25 => (f_157 x0 x1 4 0 s25).bind (gv0 (fun s27 => some ((0, 0, 0, s27))))))))))))))))))))))
noncomputable def f_201 (a0 : Nat) (a1 : Int) (s : gS) : Option gO :=
  (f_156 a0 a1 3 s).bind (gv1 (fun v2 s1 => if v2 < (gI s1 (gR s1 a0 1) 3) then (f_156 a0 a1 4 s1).bind (gv1 (fun v4 s3 => if v4 = 0 then (f_155 a0 v2 1 s3).bind (gv1 (fun v6 s5 => (f_200 a0 v6 s5).bind (gv0 (fun s7 => fb_201_37 a0 a1 v2 s7)))) else fb_201_37 a0 a1 v2 s3)) else some ((0, 0, 0, s1))))
-- X12_goes
noncomputable def fb_202_164 (x0 : Nat) (x1 : Int) (x2 : Int) (x3 : Int) (x4 : Int) (s : gS) : Option ((Nat × Int × Int × Int × Int × gS) ⊕ gO) :=
  (f_151 9999 (g32 ((gI s (gR s x0 1) 7) + 1)) s).bind (gv1 (fun v21 s20 => let s22 : gS := gw s20 (gR s x0 1) 7 v21; some (Sum.inl (x0, x1, x2, x3, (g32 (x4 + 1)), s22))))
noncomputable def sb_202_17 (x0 : Nat) (x1 : Int) (x2 : Int) (x3 : Int) (x4 : Int) (x5 : Int) (x6 : Int) (s : gS) : Option ((Nat × Int × Int × Int × Int × Int × Int × gS) ⊕ ((Nat × Int × Int × Int × Int × gS) ⊕ gO)) :=
  if x6 < (gI s (gR s x0 1) 4) then (f_165 x0 x6 s).bind (gv1 (fun v2 s1 => if v2 = 0 then some (Sum.inl (x0, x1, x2, x3, x4, x5, (g32 (x6 + 1)), s1)) else (f_201 x0 x6 s1).bind (gv0 (fun s4 => (f_156 x0 x6 0 s4).bind (gv1 (fun v7 s6 => (f_198 x0 x6 s6).bind (gv1 (fun v9 s8 => (f_151 99 (g32 (v7 + v9)) s8).bind (gv1 (fun v11 s10 => (f_152 0 v11 s10).bind (gv1 (fun v13 s12 => (f_157 x0 x6 0 v13 s12).bind (gv0 (fun s14 => (f_156 x0 x6 0 s14).bind (gv1 (fun v17 s16 => if v17 < (gI s16 (gR s16 x0 1) 10) then (f_157 x0 x6 5 1 s16).bind (gv0 (fun s18 => some (Sum.inl (x0, x1, x2, (g32 (x3 + 1)), x4, x5, (g32 (x6 + 1)), s18)))) else some (Sum.inl (x0, x1, x2, x3, x4, (g32 (x5 + 1)), (g32 (x6 + 1)), s16)))))))))))))))))) else (if x2 = 0 then fb_202_164 x0 x1 x2 x3 x4 s else (f_199 x0 100 s).bind (gv1 (fun v24 s23 => if v24 < (gI s23 (gR s23 x0 1) 11) then if 0 < x5 then (f_151 9999 (g32 ((gI s23 (gR s23 x0 1) 8) + 50)) s23).bind (gv1 (fun v26 s25 => let s27 : gS := gw s25 (gR s23 x0 1) 8 v26; fb_202_164 x0 x1 x2 x3 x4 s27)) else fb_202_164 x0 x1 x2 x3 x4 s23 else fb_202_164 x0 x1 x2 x3 x4 s23))).map Sum.inr
noncomputable def st_202_17 (y : (Nat × Int × Int × Int × Int × Int × Int × gS)) : Option ((Nat × Int × Int × Int × Int × Int × Int × gS) ⊕ ((Nat × Int × Int × Int × Int × gS) ⊕ gO)) := sb_202_17 y.1 y.2.1 y.2.2.1 y.2.2.2.1 y.2.2.2.2.1 y.2.2.2.2.2.1 y.2.2.2.2.2.2.1 y.2.2.2.2.2.2.2
noncomputable def sb_202_5 (x0 : Nat) (x1 : Int) (x2 : Int) (x3 : Int) (x4 : Int) (s : gS) : Option ((Nat × Int × Int × Int × Int × gS) ⊕ gO) :=
  if x4 < x1 then gloop (st_202_17) (x0, x1, x2, x3, x4, 0, 0, s) else (some ((1, x3, 0, s))).map Sum.inr
noncomputable def st_202_5 (y : (Nat × Int × Int × Int × Int × gS)) : Option ((Nat × Int × Int × Int × Int × gS) ⊕ gO) := sb_202_5 y.1 y.2.1 y.2.2.1 y.2.2.2.1 y.2.2.2.2.1 y.2.2.2.2.2
noncomputable def f_202 (a0 : Nat) (a1 : Int) (a2 : Int) (s : gS) : Option gO :=
  gloop (st_202_5) (a0, a1, a2, 0, 0, s)
-- X12_step
noncomputable def sb_203_56 (x0 : Nat) (x1 : Int) (x3 : Int) (x4 : Int) (s : gS) : Option ((Nat × Int × Int × Int × gS) ⊕ gO) :=
  if x4 < (gI s (gR s x0 1) 6) then (f_160 x0 x4 1 s).bind (gv1 (fun v8 s7 => (f_153 v8 x1 s7).bind (gv1 (fun v10 s9 => if v10 = 0 then some (Sum.inl (x0, x1, (gor x3 0), (g32 (x4 + 1)), s9)) else let v12 : Int := (gor x3 (gshl 1 x4)); some (Sum.inl (x0, x1, v12, (g32 (x4 + 1)), s9)))))) else (some ((1, x3, 0, s))).map Sum.inr
noncomputable def st_203_56 (y : (Nat × Int × Int × Int × gS)) : Option ((Nat × Int × Int × Int × gS) ⊕ gO) := sb_203_56 y.1 y.2.1 y.2.2.1 y.2.2.2.1 y.2.2.2.2
noncomputable def fb_203_27 (x0 : Nat) (x1 : Int) (x2 : Int) (w0 : Int) (w1 : Nat) (s : gS) : Option gO :=
  let s4 : gS := gw s w1 0 w0; if 0 < (gI s4 x0 0) then some ((1, 0, 0, s4)) else if x2 < 3 then (f_155 x0 x1 x2 s4).bind (gv1 (fun v6 s5 => some ((1, v6, 0, s5)))) else gloop (st_203_56) (x0, x1, 0, 0, s4)
noncomputable def f_203 (a0 : Nat) (a1 : Int) (a2 : Int) (s : gS) : Option gO :=
  (f_161 a0 a1 s).bind (gv1 (fun v2 s1 => if v2 = 0 then fb_203_27 a0 a1 a2 1 a0 s1 else (f_150 a2 0 3 s1).bind (gv1 (fun v14 s13 => if v14 = 0 then fb_203_27 a0 a1 a2 2 a0 s13 else fb_203_27 a0 a1 a2 0 a0 s13))))
-- X12_left
noncomputable def sb_204_10 (x0 : Nat) (x2 : Int) (x3 : Int) (x4 : Int) (s : gS) : Option ((Nat × Int × Int × Int × gS) ⊕ gO) :=
  if x4 < (gI s (gR s x0 1) 3) then (f_155 x0 x4 x2 s).bind (gv1 (fun v4 s3 => some (Sum.inl (x0, x2, (g32 (x3 + v4)), (g32 (x4 + 1)), s3)))) else (some ((1, x3, 0, s))).map Sum.inr
noncomputable def st_204_10 (y : (Nat × Int × Int × Int × gS)) : Option ((Nat × Int × Int × Int × gS) ⊕ gO) := sb_204_10 y.1 y.2.1 y.2.2.1 y.2.2.2.1 y.2.2.2.2
noncomputable def f_204 (a0 : Nat) (a1 : Int) (a2 : Int) (s : gS) : Option gO :=
  (f_156 a0 a1 3 s).bind (gv1 (fun v2 s1 => gloop (st_204_10) (a0, a2, 0, v2, s1)))
-- X12_outlay
noncomputable def f_205 (a0 : Nat) (a1 : Int) (s : gS) : Option gO :=
  (f_204 a0 a1 1 s).bind (gv1 (fun v2 s1 => (f_156 a0 a1 4 s1).bind (gv1 (fun v4 s3 => if 0 < v4 then (f_156 a0 a1 3 s3).bind (gv1 (fun v6 s5 => (f_155 a0 v6 1 s5).bind (gv1 (fun v8 s7 => some ((1, (g32 (v2 - v8)), 0, s7)))))) else some ((1, (g32 (v2 - 0)), 0, s3))))))
-- X12_man
noncomputable def fb_206_28 (x0 : Nat) (x1 : Int) (x2 : Int) (w0 : Int) (w1 : Nat) (s : gS) : Option gO :=
  let s4 : gS := gw s w1 0 w0; if 0 < (gI s4 x0 0) then some ((1, 0, 0, s4)) else if x2 < 6 then (f_156 x0 x1 x2 s4).bind (gv1 (fun v6 s5 => some ((1, v6, 0, s5)))) else if x2 = 6 then (f_198 x0 x1 s4).bind (gv1 (fun v8 s7 => some ((1, v8, 0, s7)))) else if x2 = 7 then (f_205 x0 x1 s4).bind (gv1 (fun v10 s9 => some ((1, v10, 0, s9)))) else if x2 = 8 then (f_204 x0 x1 0 s4).bind (gv1 (fun v12 s11 => (f_156 x0 x1 4 s11).bind (gv1 (fun v14 s13 => some ((1, (g32 (v12 - v14)), 0, s13)))))) else (f_204 x0 x1 2 s4).bind (gv1 (fun v16 s15 => (f_205 x0 x1 s15).bind (gv1 (fun v18 s17 => some ((1, (g32 (v16 - v18)), 0, s17))))))
noncomputable def f_206 (a0 : Nat) (a1 : Int) (a2 : Int) (s : gS) : Option gO :=
  (f_162 a0 a1 s).bind (gv1 (fun v2 s1 => if v2 = 0 then fb_206_28 a0 a1 a2 1 a0 s1 else (f_150 a2 0 9 s1).bind (gv1 (fun v20 s19 => if v20 = 0 then fb_206_28 a0 a1 a2 2 a0 s19 else fb_206_28 a0 a1 a2 0 a0 s19))))
-- X12_test
noncomputable def fb_207_14 (x0 : Nat) (x1 : Int) (x2 : Int) (w0 : Int) (w1 : Nat) (s : gS) : Option gO :=
  let s4 : gS := gw s w1 0 w0; if 0 < (gI s4 x0 0) then some ((1, 0, 0, s4)) else if x2 = 0 then (f_158 x0 x1 s4).bind (gv1 (fun v6 s5 => some ((1, v6, 0, s5)))) else (f_159 x0 x1 s4).bind (gv1 (fun v8 s7 => some ((1, v8, 0, s7))))
noncomputable def f_207 (a0 : Nat) (a1 : Int) (a2 : Int) (s : gS) : Option gO :=
  (f_163 a0 a1 s).bind (gv1 (fun v2 s1 => if v2 = 0 then fb_207_14 a0 a1 a2 1 a0 s1 else fb_207_14 a0 a1 a2 0 a0 s1))
-- X12_rival
noncomputable def fb_208_39 (w0 : Int) (w1 : Int) (w2 : Nat) (s : gS) : Option gO :=
  (f_160 w2 w1 w0 s).bind (gv1 (fun v6 s5 => some ((1, v6, 0, s5))))
noncomputable def fb_208_14 (x0 : Nat) (x1 : Int) (x2 : Int) (w0 : Int) (w1 : Nat) (s : gS) : Option gO :=
  let s4 : gS := gw s w1 0 w0; if 0 < (gI s4 x0 0) then some ((1, 0, 0, s4)) else if x2 = 0 then fb_208_39 0 x1 x0 s4 else fb_208_39 1 x1 x0 s4
noncomputable def f_208 (a0 : Nat) (a1 : Int) (a2 : Int) (s : gS) : Option gO :=
  (f_164 a0 a1 s).bind (gv1 (fun v2 s1 => if v2 = 0 then fb_208_14 a0 a1 a2 1 a0 s1 else fb_208_14 a0 a1 a2 0 a0 s1))
-- X12_remembers
noncomputable def sb_209_52 (x0 : Nat) (x1 : Int) (s : gS) : Option ((Nat × Int × gS) ⊕ gO) :=
  if x1 < 340 then gchk x1 740 (gchk (g32 ((g32 (340 * (gI s x0 6))) + x1)) 4080 (let s3 : gS := gw s (gR s x0 5) ((g32 ((g32 (340 * (gI s x0 6))) + x1)) : Int).toNat (gI s (gR s x0 1) (x1 : Int).toNat); some (Sum.inl (x0, (g32 (x1 + 1)), s3)))) else (let s4 : gS := gw s x0 6 (g32 ((gI s x0 6) + 1)); some ((0, 0, 0, s4))).map Sum.inr
noncomputable def st_209_52 (y : (Nat × Int × gS)) : Option ((Nat × Int × gS) ⊕ gO) := sb_209_52 y.1 y.2.1 y.2.2
noncomputable def fb_209_50 (x0 : Nat) (s : gS) : Option gO :=
  gloop (st_209_52) (x0, 0, s)
noncomputable def sb_209_11 (x0 : Nat) (x1 : Int) (s : gS) : Option ((Nat × Int × gS) ⊕ gO) :=
  if x1 < 3740 then gchk (g32 (x1 + 340)) 4080 (gchk x1 4080 (let s1 : gS := gw s (gR s x0 5) (x1 : Int).toNat (gI s (gR s x0 5) ((g32 (x1 + 340)) : Int).toNat); some (Sum.inl (x0, (g32 (x1 + 1)), s1)))) else (let s2 : gS := gw s x0 6 (g32 ((gI s x0 6) - 1)); fb_209_50 x0 s2).map Sum.inr
noncomputable def st_209_11 (y : (Nat × Int × gS)) : Option ((Nat × Int × gS) ⊕ gO) := sb_209_11 y.1 y.2.1 y.2.2
noncomputable def f_209 (a0 : Nat) (s : gS) : Option gO :=
  if (gI s a0 6) = 12 then gloop (st_209_11) (a0, 0, s) else fb_209_50 a0 s
-- X12_logs
noncomputable def sb_210_4 (x0 : Nat) (x1 : Int) (x2 : Int) (x3 : Int) (s : gS) : Option ((Nat × Int × Int × Int × gS) ⊕ gO) :=
  if x3 < 4 then (let s1 : gS := gw s (gR s x0 1) 100 (gI s (gR s x0 1) 7); let s2 : gS := gw s1 (gR s1 x0 1) 101 x1; let s3 : gS := gw s2 (gR s2 x0 1) 102 x2; (f_156 x0 x1 0 s3).bind (gv1 (fun v5 s4 => let s6 : gS := gw s4 (gR s3 x0 1) 103 v5; (f_151 60 (g32 ((gI s6 (gR s6 x0 1) 13) + 1)) s6).bind (gv1 (fun v8 s7 => let s9 : gS := gw s7 (gR s6 x0 1) 13 v8; some ((0, 0, 0, s9))))))).map Sum.inr else gchk (g32 ((g32 (100 + x3)) - 4)) 740 (gchk (g32 (100 + x3)) 740 (let s10 : gS := gw s (gR s x0 1) ((g32 (100 + x3)) : Int).toNat (gI s (gR s x0 1) ((g32 ((g32 (100 + x3)) - 4)) : Int).toNat); some (Sum.inl (x0, x1, x2, (g32 (x3 + (-1))), s10))))
noncomputable def st_210_4 (y : (Nat × Int × Int × Int × gS)) : Option ((Nat × Int × Int × Int × gS) ⊕ gO) := sb_210_4 y.1 y.2.1 y.2.2.1 y.2.2.2.1 y.2.2.2.2
noncomputable def f_210 (a0 : Nat) (a1 : Int) (a2 : Int) (s : gS) : Option gO :=
  gloop (st_210_4) (a0, a1, a2, 239, s)
-- X12_proof
noncomputable def fb_211_35 (x0 : Nat) (x1 : Int) (w0 : Int) (w1 : Nat) (s : gS) : Option gO :=
  let s4 : gS := gw s w1 0 w0; if 0 < (gI s4 x0 0) then some ((1, 0, 0, s4)) else (f_209 x0 s4).bind (gv0 (fun s5 => (f_156 x0 x1 1 s5).bind (gv1 (fun v8 s7 => (f_157 x0 x1 1 (g32 (v8 - 1)) s7).bind (gv0 (fun s9 => (f_156 x0 x1 0 s9).bind (gv1 (fun v12 s11 => (f_151 99 (g32 (v12 + (gI s11 (gR s11 x0 1) 12))) s11).bind (gv1 (fun v14 s13 => (f_157 x0 x1 0 v14 s13).bind (gv0 (fun s15 => (f_210 x0 x1 0 s15).bind (gv0 (fun s17 => (f_156 x0 x1 0 s17).bind (gv1 (fun v20 s19 => some ((1, v20, 0, s19))))))))))))))))))
noncomputable def f_211 (a0 : Nat) (a1 : Int) (s : gS) : Option gO :=
  (f_162 a0 a1 s).bind (gv1 (fun v2 s1 => if v2 = 0 then fb_211_35 a0 a1 1 a0 s1 else (f_165 a0 a1 s1).bind (gv1 (fun v22 s21 => if v22 = 0 then fb_211_35 a0 a1 2 a0 s21 else (f_156 a0 a1 1 s21).bind (gv1 (fun v25 s24 => if v25 = 0 then fb_211_35 a0 a1 2 a0 s24 else fb_211_35 a0 a1 0 a0 s24))))))
-- X12_catches
noncomputable def f_212 (a0 : Nat) (a1 : Int) (a2 : Int) (s : gS) : Option gO :=
  (f_159 a0 a1 s).bind (gv1 (fun v2 s1 => if (gand a2 (gxor v2 (-1))) = 0 then some ((1, 1, 0, s1)) else some ((1, 0, 0, s1))))
-- X12_tried
noncomputable def fb_213_139 (x3 : Int) (w0 : Int) (w1 : Int) (w2 : Nat) (s : gS) : Option gO :=
  (f_210 w2 w1 w0 s).bind (gv0 (fun s26 => gbool x3 (some ((1, x3, 0, s26)))))
noncomputable def fb_213_128 (x0 : Nat) (x1 : Int) (x3 : Int) (s : gS) : Option gO :=
  if x3 = 0 then fb_213_139 x3 1 x1 x0 s else fb_213_139 x3 2 x1 x0 s
noncomputable def fb_213_102 (x0 : Nat) (x1 : Int) (x3 : Int) (w0 : Int) (w1 : Int) (w2 : Int) (w3 : Nat) (s : gS) : Option gO :=
  (f_157 w3 w2 w1 w0 s).bind (gv0 (fun s20 => (f_156 x0 x1 0 s20).bind (gv1 (fun v23 s22 => if v23 < (gI s22 (gR s22 x0 1) 10) then (f_157 x0 x1 5 1 s22).bind (gv0 (fun s24 => fb_213_128 x0 x1 x3 s24)) else fb_213_128 x0 x1 x3 s22))))
noncomputable def fb_213_34 (x0 : Nat) (x1 : Int) (x2 : Int) (w0 : Int) (w1 : Nat) (s : gS) : Option gO :=
  let s4 : gS := gw s w1 0 w0; if 0 < (gI s4 x0 0) then some ((1, 0, 0, s4)) else (f_209 x0 s4).bind (gv0 (fun s5 => (f_158 x0 x2 s5).bind (gv1 (fun v8 s7 => (f_200 x0 v8 s7).bind (gv0 (fun s9 => (f_156 x0 x1 2 s9).bind (gv1 (fun v12 s11 => (f_212 x0 x2 v12 s11).bind (gv1 (fun v14 s13 => if v14 = 0 then (f_156 x0 x1 0 s13).bind (gv1 (fun v17 s16 => (f_151 99 (g32 (v17 + 5)) s16).bind (gv1 (fun v19 s18 => fb_213_102 x0 x1 v14 v19 0 x1 x0 s18)))) else (f_156 x0 x1 0 s13).bind (gv1 (fun v29 s28 => fb_213_102 x0 x1 v14 (gdiv v29 2) 0 x1 x0 s28))))))))))))
noncomputable def f_213 (a0 : Nat) (a1 : Int) (a2 : Int) (s : gS) : Option gO :=
  (f_162 a0 a1 s).bind (gv1 (fun v2 s1 => if v2 = 0 then fb_213_34 a0 a1 a2 1 a0 s1 else (f_163 a0 a2 s1).bind (gv1 (fun v31 s30 => if v31 = 0 then fb_213_34 a0 a1 a2 1 a0 s30 else (f_165 a0 a1 s30).bind (gv1 (fun v34 s33 => if v34 = 0 then fb_213_34 a0 a1 a2 2 a0 s33 else fb_213_34 a0 a1 a2 0 a0 s33))))))
-- X12_flee
noncomputable def fb_214_35 (x0 : Nat) (x1 : Int) (w0 : Int) (w1 : Nat) (s : gS) : Option gO :=
  let s4 : gS := gw s w1 0 w0; if 0 < (gI s4 x0 0) then some ((1, 0, 0, s4)) else (f_209 x0 s4).bind (gv0 (fun s5 => (f_157 x0 x1 5 2 s5).bind (gv0 (fun s7 => (f_156 x0 x1 0 s7).bind (gv1 (fun v10 s9 => some ((1, v10, 0, s9))))))))
noncomputable def f_214 (a0 : Nat) (a1 : Int) (s : gS) : Option gO :=
  (f_162 a0 a1 s).bind (gv1 (fun v2 s1 => if v2 = 0 then fb_214_35 a0 a1 1 a0 s1 else (f_165 a0 a1 s1).bind (gv1 (fun v12 s11 => if v12 = 0 then fb_214_35 a0 a1 2 a0 s11 else (f_156 a0 a1 4 s11).bind (gv1 (fun v15 s14 => if 0 < v15 then fb_214_35 a0 a1 2 a0 s14 else fb_214_35 a0 a1 0 a0 s14))))))
-- X12_sell
noncomputable def fb_215_52 (x0 : Nat) (x1 : Int) (x2 : Int) (x3 : Int) (w0 : Int) (w1 : Nat) (s : gS) : Option gO :=
  let s4 : gS := gw s w1 0 w0; if 0 < (gI s4 x0 0) then some ((1, 0, 0, s4)) else (f_209 x0 s4).bind (gv0 (fun s5 => gchk (g32 ((g32 (88 + (g32 (2 * x2)))) + 0)) 740 (gchk (g32 ((g32 (88 + (g32 (2 * x2)))) + 0)) 740 (let s7 : gS := gw s5 (gR s5 x0 1) ((g32 ((g32 (88 + (g32 (2 * x2)))) + 0)) : Int).toNat (g32 ((gI s5 (gR s5 x0 1) ((g32 ((g32 (88 + (g32 (2 * x2)))) + 0)) : Int).toNat) - x3)); gchk (g32 ((g32 (88 + (g32 (2 * x2)))) + 1)) 740 ((f_156 x0 x1 3 s7).bind (gv1 (fun v9 s8 => gchk (g32 ((g32 (88 + (g32 (2 * x2)))) + 1)) 740 (let s10 : gS := gw s8 (gR s7 x0 1) ((g32 ((g32 (88 + (g32 (2 * x2)))) + 1)) : Int).toNat (gor (gI s7 (gR s7 x0 1) ((g32 ((g32 (88 + (g32 (2 * x2)))) + 1)) : Int).toNat) (g32 ((gshl 1 v9) - 1))); (f_151 9999 (g32 ((gI s10 (gR s10 x0 1) 8) + x3)) s10).bind (gv1 (fun v12 s11 => let s13 : gS := gw s11 (gR s10 x0 1) 8 v12; (f_157 x0 x1 5 3 s13).bind (gv0 (fun s14 => some ((1, (gI s14 (gR s14 x0 1) 8), 0, s14))))))))))))))
noncomputable def f_215 (a0 : Nat) (a1 : Int) (a2 : Int) (a3 : Int) (s : gS) : Option gO :=
  (f_162 a0 a1 s).bind (gv1 (fun v2 s1 => if v2 = 0 then fb_215_52 a0 a1 a2 a3 1 a0 s1 else (f_164 a0 a2 s1).bind (gv1 (fun v17 s16 => if v17 = 0 then fb_215_52 a0 a1 a2 a3 1 a0 s16 else (f_160 a0 a2 0 s16).bind (gv1 (fun v20 s19 => (f_150 a3 0 v20 s19).bind (gv1 (fun v22 s21 => if v22 = 0 then fb_215_52 a0 a1 a2 a3 2 a0 s21 else (f_165 a0 a1 s21).bind (gv1 (fun v25 s24 => if v25 = 0 then fb_215_52 a0 a1 a2 a3 3 a0 s24 else fb_215_52 a0 a1 a2 a3 0 a0 s24))))))))))
-- X12_part_
noncomputable def fb_216_50 (x0 : Nat) (x1 : Int) (x2 : Int) (w0 : Int) (w1 : Nat) (s : gS) : Option gO :=
  let s4 : gS := gw s w1 0 w0; if 0 < (gI s4 x0 0) then some ((1, 0, 0, s4)) else (f_209 x0 s4).bind (gv0 (fun s5 => gchk (g32 ((g32 (88 + (g32 (2 * x2)))) + 0)) 740 (gchk (g32 ((g32 (88 + (g32 (2 * x2)))) + 0)) 740 (let s7 : gS := gw s5 (gR s5 x0 1) ((g32 ((g32 (88 + (g32 (2 * x2)))) + 0)) : Int).toNat (g32 ((gI s5 (gR s5 x0 1) ((g32 ((g32 (88 + (g32 (2 * x2)))) + 0)) : Int).toNat) - 20)); gchk (g32 ((g32 (88 + (g32 (2 * x2)))) + 1)) 740 (gchk (g32 ((g32 (88 + (g32 (2 * x2)))) + 1)) 740 (let s8 : gS := gw s7 (gR s7 x0 1) ((g32 ((g32 (88 + (g32 (2 * x2)))) + 1)) : Int).toNat (gor (gI s7 (gR s7 x0 1) ((g32 ((g32 (88 + (g32 (2 * x2)))) + 1)) : Int).toNat) (gshl 1 x1)); (f_160 x0 x2 1 s8).bind (gv1 (fun v10 s9 => some ((1, v10, 0, s9))))))))))
noncomputable def f_216 (a0 : Nat) (a1 : Int) (a2 : Int) (s : gS) : Option gO :=
  (f_161 a0 a1 s).bind (gv1 (fun v2 s1 => if v2 = 0 then fb_216_50 a0 a1 a2 1 a0 s1 else (f_164 a0 a2 s1).bind (gv1 (fun v12 s11 => if v12 = 0 then fb_216_50 a0 a1 a2 1 a0 s11 else (f_160 a0 a2 1 s11).bind (gv1 (fun v15 s14 => (f_153 v15 a1 s14).bind (gv1 (fun v17 s16 => if v17 = 0 then (f_160 a0 a2 0 s16).bind (gv1 (fun v20 s19 => if v20 < 20 then fb_216_50 a0 a1 a2 2 a0 s19 else fb_216_50 a0 a1 a2 0 a0 s19)) else fb_216_50 a0 a1 a2 2 a0 s16))))))))
-- X12_pay
noncomputable def fb_217_31 (x0 : Nat) (x1 : Int) (w0 : Int) (w1 : Nat) (s : gS) : Option gO :=
  let s6 : gS := gw s w1 0 w0; if 0 < (gI s6 x0 0) then some ((1, 0, 0, s6)) else (f_209 x0 s6).bind (gv0 (fun s7 => let s9 : gS := gw s7 (gR s7 x0 1) 8 (g32 ((gI s7 (gR s7 x0 1) 8) - x1)); let s10 : gS := gw s9 (gR s9 x0 1) 9 (g32 ((gI s9 (gR s9 x0 1) 9) - x1)); some ((1, (gI s10 (gR s10 x0 1) 9), 0, s10))))
noncomputable def f_217 (a0 : Nat) (a1 : Int) (s : gS) : Option gO :=
  (f_151 (gI s (gR s a0 1) 9) (gI s (gR s a0 1) 8) s).bind (gv1 (fun v2 s1 => (f_150 a1 1 v2 s1).bind (gv1 (fun v4 s3 => if v4 = 0 then fb_217_31 a0 a1 1 a0 s3 else fb_217_31 a0 a1 0 a0 s3))))
-- X12_days
noncomputable def fb_218_17 (x0 : Nat) (x1 : Int) (w0 : Int) (w1 : Nat) (s : gS) : Option gO :=
  let s4 : gS := gw s w1 0 w0; if 0 < (gI s4 x0 0) then some ((1, 0, 0, s4)) else (f_209 x0 s4).bind (gv0 (fun s5 => (f_202 x0 x1 1 s5).bind (gv1 (fun v8 s7 => some ((1, v8, 0, s7))))))
noncomputable def f_218 (a0 : Nat) (a1 : Int) (s : gS) : Option gO :=
  (f_150 a1 1 200 s).bind (gv1 (fun v2 s1 => if v2 = 0 then fb_218_17 a0 a1 1 a0 s1 else fb_218_17 a0 a1 0 a0 s1))
-- X12_ahead
noncomputable def fb_219_113 (x0 : Nat) (w0 : Int) (s : gS) : Option gO :=
  (f_186 x0 s).bind (gv0 (fun s11 => some ((1, w0, 0, s11))))
noncomputable def fb_219_42 (x0 : Nat) (x1 : Int) (x2 : Int) (x3 : Int) (w0 : Int) (w1 : Nat) (s : gS) : Option gO :=
  let s4 : gS := gw s w1 0 w0; if 0 < (gI s4 x0 0) then some ((1, 0, 0, s4)) else (f_185 x0 s4).bind (gv0 (fun s5 => (f_202 x0 x2 0 s5).bind (gv1 (fun v8 s7 => if x3 = 0 then (f_156 x0 x1 0 s7).bind (gv1 (fun v10 s9 => fb_219_113 x0 v10 s9)) else if x3 = 1 then (f_156 x0 x1 3 s7).bind (gv1 (fun v14 s13 => fb_219_113 x0 v14 s13)) else if x3 = 2 then (f_156 x0 x1 4 s7).bind (gv1 (fun v16 s15 => fb_219_113 x0 v16 s15)) else (f_156 x0 x1 5 s7).bind (gv1 (fun v18 s17 => fb_219_113 x0 v18 s17))))))
noncomputable def f_219 (a0 : Nat) (a1 : Int) (a2 : Int) (a3 : Int) (s : gS) : Option gO :=
  (f_162 a0 a1 s).bind (gv1 (fun v2 s1 => if v2 = 0 then fb_219_42 a0 a1 a2 a3 1 a0 s1 else (f_150 a2 0 200 s1).bind (gv1 (fun v20 s19 => if v20 = 0 then fb_219_42 a0 a1 a2 a3 2 a0 s19 else (f_150 a3 0 3 s19).bind (gv1 (fun v23 s22 => if v23 = 0 then fb_219_42 a0 a1 a2 a3 3 a0 s22 else fb_219_42 a0 a1 a2 a3 0 a0 s22))))))
-- X12_owes
noncomputable def fb_220_17 (x0 : Nat) (x1 : Int) (w0 : Int) (w1 : Nat) (s : gS) : Option gO :=
  let s4 : gS := gw s w1 0 w0; if 0 < (gI s4 x0 0) then some ((1, 0, 0, s4)) else (f_185 x0 s4).bind (gv0 (fun s5 => (f_202 x0 x1 0 s5).bind (gv1 (fun v8 s7 => let v9 : Int := (gI s7 (gR s7 x0 1) 9); (f_186 x0 s7).bind (gv0 (fun s10 => some ((1, v9, 0, s10))))))))
noncomputable def f_220 (a0 : Nat) (a1 : Int) (s : gS) : Option gO :=
  (f_150 a1 0 200 s).bind (gv1 (fun v2 s1 => if v2 = 0 then fb_220_17 a0 a1 1 a0 s1 else fb_220_17 a0 a1 0 a0 s1))
-- X12_chest
noncomputable def fb_221_17 (x0 : Nat) (x1 : Int) (w0 : Int) (w1 : Nat) (s : gS) : Option gO :=
  let s4 : gS := gw s w1 0 w0; if 0 < (gI s4 x0 0) then some ((1, 0, 0, s4)) else (f_185 x0 s4).bind (gv0 (fun s5 => (f_202 x0 x1 0 s5).bind (gv1 (fun v8 s7 => let v9 : Int := (gI s7 (gR s7 x0 1) 8); (f_186 x0 s7).bind (gv0 (fun s10 => some ((1, v9, 0, s10))))))))
noncomputable def f_221 (a0 : Nat) (a1 : Int) (s : gS) : Option gO :=
  (f_150 a1 0 200 s).bind (gv1 (fun v2 s1 => if v2 = 0 then fb_221_17 a0 a1 1 a0 s1 else fb_221_17 a0 a1 0 a0 s1))
-- X12_by
noncomputable def fb_222_89 (x0 : Nat) (x3 : Int) (s : gS) : Option gO :=
  (f_186 x0 s).bind (gv0 (fun s6 => some ((1, x3, 0, s6))))
noncomputable def fb_222_75 (x0 : Nat) (x1 : Int) (x2 : Int) (x3 : Int) (x4 : Int) (s : gS) : Option ((Nat × Int × Int × Int × Int × gS) ⊕ gO) :=
  (f_202 x0 1 0 s).bind (gv1 (fun v11 s10 => some (Sum.inl (x0, x1, x2, x3, (g32 (x4 + 1)), s10))))
noncomputable def fb_222_72 (x0 : Nat) (x1 : Int) (x2 : Int) (x4 : Int) (s : gS) : Option ((Nat × Int × Int × Int × Int × gS) ⊕ gO) :=
  fb_222_75 x0 x1 x2 x4 x4 s
noncomputable def sb_222_19 (x0 : Nat) (x1 : Int) (x2 : Int) (x3 : Int) (x4 : Int) (s : gS) : Option ((Nat × Int × Int × Int × Int × gS) ⊕ gO) :=
  if 200 < x4 then (fb_222_89 x0 x3 s).map Sum.inr else if x3 = (-1) then if x2 = 0 then (f_156 x0 x1 5 s).bind (gv1 (fun v9 s8 => if v9 = 1 then fb_222_72 x0 x1 x2 x4 s8 else fb_222_75 x0 x1 x2 x3 x4 s8)) else (f_165 x0 x1 s).bind (gv1 (fun v13 s12 => if v13 = 0 then fb_222_75 x0 x1 x2 x3 x4 s12 else (f_156 x0 x1 3 s12).bind (gv1 (fun v16 s15 => if v16 < (gI s15 (gR s15 x0 1) 3) then fb_222_75 x0 x1 x2 x3 x4 s15 else fb_222_72 x0 x1 x2 x4 s15)))) else (fb_222_89 x0 x3 s).map Sum.inr
noncomputable def st_222_19 (y : (Nat × Int × Int × Int × Int × gS)) : Option ((Nat × Int × Int × Int × Int × gS) ⊕ gO) := sb_222_19 y.1 y.2.1 y.2.2.1 y.2.2.2.1 y.2.2.2.2.1 y.2.2.2.2.2
noncomputable def f_222 (a0 : Nat) (a1 : Int) (a2 : Int) (s : gS) : Option gO :=
  (f_165 a0 a1 s).bind (gv1 (fun v2 s1 => if v2 = 0 then some ((1, (-1), 0, s1)) else (f_185 a0 s1).bind (gv0 (fun s4 => gloop (st_222_19) (a0, a1, a2, (-1), 0, s4)))))
-- X12_lives
noncomputable def fb_223_14 (x0 : Nat) (x1 : Int) (w0 : Int) (w1 : Nat) (s : gS) : Option gO :=
  let s4 : gS := gw s w1 0 w0; if 0 < (gI s4 x0 0) then some ((1, 0, 0, s4)) else (f_222 x0 x1 0 s4).bind (gv1 (fun v6 s5 => some ((1, v6, 0, s5))))
noncomputable def f_223 (a0 : Nat) (a1 : Int) (s : gS) : Option gO :=
  (f_162 a0 a1 s).bind (gv1 (fun v2 s1 => if v2 = 0 then fb_223_14 a0 a1 1 a0 s1 else fb_223_14 a0 a1 0 a0 s1))
-- X12_done
noncomputable def fb_224_14 (x0 : Nat) (x1 : Int) (w0 : Int) (w1 : Nat) (s : gS) : Option gO :=
  let s4 : gS := gw s w1 0 w0; if 0 < (gI s4 x0 0) then some ((1, 0, 0, s4)) else (f_222 x0 x1 1 s4).bind (gv1 (fun v6 s5 => some ((1, v6, 0, s5))))
noncomputable def f_224 (a0 : Nat) (a1 : Int) (s : gS) : Option gO :=
  (f_162 a0 a1 s).bind (gv1 (fun v2 s1 => if v2 = 0 then fb_224_14 a0 a1 1 a0 s1 else fb_224_14 a0 a1 0 a0 s1))
-- X12_looks
noncomputable def fb_225_130 (x0 : Nat) (x2 : Int) (x3 : Int) (x4 : Int) (s : gS) : Option ((Nat × Int × Int × Int × gS) ⊕ gO) :=
  gchk x4 30 (let s15 : gS := gw s (gR s x0 19) (x4 : Int).toNat x2; gchk x4 30 (let s16 : gS := gw s15 (gR s15 x0 20) (x4 : Int).toNat x3; some (Sum.inl (x0, x2, x3, (g32 (x4 + 1)), s16))))
noncomputable def fb_225_90 (x0 : Nat) (x2 : Int) (x4 : Int) (w0 : Int) (w1 : Int) (s : gS) : Option ((Nat × Int × Int × Int × gS) ⊕ gO) :=
  if x2 < (gI s (gR s x0 1) 3) then (f_155 x0 x2 0 s).bind (gv1 (fun v14 s13 => if (g32 (w1 + w0)) < v14 then fb_225_130 x0 x2 (g32 (w1 + w0)) x4 s13 else (f_155 x0 x2 2 s13).bind (gv1 (fun v18 s17 => gchk x4 30 (let s19 : gS := gw s17 (gR s13 x0 21) (x4 : Int).toNat v18; fb_225_130 x0 (g32 (x2 + 1)) 0 x4 s19))))) else fb_225_130 x0 x2 (g32 (w1 + w0)) x4 s
noncomputable def sb_225_155 (x0 : Nat) (x4 : Int) (s : gS) : Option ((Nat × Int × gS) ⊕ gO) :=
  if x4 < 31000 then gchk x4 31000 (let s20 : gS := gw s (gR s x0 22) (x4 : Int).toNat (-1); some (Sum.inl (x0, (g32 (x4 + 1)), s20))) else (some ((0, 0, 0, s))).map Sum.inr
noncomputable def st_225_155 (y : (Nat × Int × gS)) : Option ((Nat × Int × gS) ⊕ gO) := sb_225_155 y.1 y.2.1 y.2.2
noncomputable def sb_225_59 (x0 : Nat) (x2 : Int) (x3 : Int) (x4 : Int) (s : gS) : Option ((Nat × Int × Int × Int × gS) ⊕ gO) :=
  if x4 < 30 then gchk x4 30 (let s12 : gS := gw s (gR s x0 21) (x4 : Int).toNat 0; if x2 < (gI s12 (gR s12 x0 1) 3) then fb_225_90 x0 x2 x4 1 x3 s12 else fb_225_90 x0 x2 x4 0 x3 s12) else (gloop (st_225_155) (x0, 0, s)).map Sum.inr
noncomputable def st_225_59 (y : (Nat × Int × Int × Int × gS)) : Option ((Nat × Int × Int × Int × gS) ⊕ gO) := sb_225_59 y.1 y.2.1 y.2.2.1 y.2.2.2.1 y.2.2.2.2
noncomputable def sb_225_6 (x0 : Nat) (x1 : Int) (x2 : Int) (s : gS) : Option ((Nat × Int × Int × gS) ⊕ gO) :=
  if x2 < 30 then gchk x2 30 (let s3 : gS := gw s (gR s x0 18) (x2 : Int).toNat (gI s (gR s x0 1) 9); (f_202 x0 1 0 s3).bind (gv1 (fun v5 s4 => some (Sum.inl (x0, x1, (g32 (x2 + 1)), s4))))) else ((f_186 x0 s).bind (gv0 (fun s6 => (f_156 x0 x1 3 s6).bind (gv1 (fun v9 s8 => (f_156 x0 x1 4 s8).bind (gv1 (fun v11 s10 => gloop (st_225_59) (x0, v9, v11, 0, s10)))))))).map Sum.inr
noncomputable def st_225_6 (y : (Nat × Int × Int × gS)) : Option ((Nat × Int × Int × gS) ⊕ gO) := sb_225_6 y.1 y.2.1 y.2.2.1 y.2.2.2
noncomputable def f_225 (a0 : Nat) (a1 : Int) (s : gS) : Option gO :=
  (f_185 a0 s).bind (gv0 (fun s1 => gloop (st_225_6) (a0, a1, 0, s1)))
-- X12_behind
noncomputable def f_228 (a0 : Nat) (a1 : Int) (a2 : Int) (a3 : Int) (a4 : Int) (s : gS) : Option gO :=
  gchk a2 30 ((f_151 99 (g32 (a3 + (gI s (gR s a0 21) (a2 : Int).toNat))) s).bind (gv1 (fun v2 s1 => gchk a2 30 (gchk a2 30 (gchk a2 30 ((f_151 9999 (g32 ((gI s1 (gR s1 a0 1) 7) + a2)) s1).bind (gv1 (fun v4 s3 => (f_197 a0 a1 v2 a4 (gI s1 (gR s1 a0 19) (a2 : Int).toNat) (gI s1 (gR s1 a0 20) (a2 : Int).toNat) (gI s1 (gR s1 a0 18) (a2 : Int).toNat) v4 s3).bind (gv1 (fun v6 s5 => (f_151 99 (g32 (v2 + v6)) s5).bind (gv1 (fun v8 s7 => (f_152 0 v8 s7).bind (gv1 (fun v10 s9 => some ((1, v10, 0, s9))))))))))))))))
-- X12_from
noncomputable def sb_226_48 (r_227 : Nat → Int → Int → Int → Int → Int → gS → Option gO) (x0 : Nat) (x1 : Int) (x2 : Int) (x3 : Int) (x4 : Int) (x5 : Int) (x6 : Int) (x7 : Int) (s : gS) : Option ((Nat × Int × Int × Int × Int × Int × Int × Int × gS) ⊕ gO) :=
  if x4 < x7 then (gchk x5 31000 (let s2 : gS := gw s (gR s x0 22) (x5 : Int).toNat x6; some ((1, x6, 0, s2)))).map Sum.inr else (r_227 x0 x1 x2 x3 x4 x7 s).bind (gv1 (fun v4 s3 => (f_152 x6 v4 s3).bind (gv1 (fun v6 s5 => some (Sum.inl (x0, x1, x2, x3, x4, x5, v6, (g32 (x7 + 1)), s5))))))
noncomputable def st_226_48 (r_227 : Nat → Int → Int → Int → Int → Int → gS → Option gO) (y : (Nat × Int × Int × Int × Int × Int × Int × Int × gS)) : Option ((Nat × Int × Int × Int × Int × Int × Int × Int × gS) ⊕ gO) := sb_226_48 r_227 y.1 y.2.1 y.2.2.1 y.2.2.2.1 y.2.2.2.2.1 y.2.2.2.2.2.1 y.2.2.2.2.2.2.1 y.2.2.2.2.2.2.2.1 y.2.2.2.2.2.2.2.2
noncomputable def fo_226 (r_227 : Nat → Int → Int → Int → Int → Int → gS → Option gO) (a0 : Nat) (a1 : Int) (a2 : Int) (a3 : Int) (a4 : Int) (s : gS) : Option gO :=
  if a2 = 30 then some ((1, 0, 0, s)) else let v1 : Int := (g32 ((g32 ((g32 (1000 * a2)) + (g32 (10 * a3)))) + a4)); gchk v1 31000 (if (gI s (gR s a0 22) (v1 : Int).toNat) = (-1) then gloop (st_226_48 r_227) (a0, a1, a2, a3, a4, v1, 0, 0, s) else gchk v1 31000 (some ((1, (gI s (gR s a0 22) (v1 : Int).toNat), 0, s))))
-- X12_using
noncomputable def fo_227 (r_226 : Nat → Int → Int → Int → Int → gS → Option gO) (a0 : Nat) (a1 : Int) (a2 : Int) (a3 : Int) (a4 : Int) (a5 : Int) (s : gS) : Option gO :=
  (f_151 99 (g32 (a3 + (g32 ((gI s (gR s a0 1) 12) * a5)))) s).bind (gv1 (fun v2 s1 => (f_228 a0 a1 a2 v2 (g32 (a4 - a5)) s1).bind (gv1 (fun v4 s3 => if v4 < (gI s3 (gR s3 a0 1) 10) then some ((1, 0, 0, s3)) else (r_226 a0 a1 (g32 (a2 + 1)) v4 (g32 (a4 - a5)) s3).bind (gv1 (fun v6 s5 => some ((1, (g32 (1 + v6)), 0, s5))))))))
noncomputable def rg_226 : Nat → (Nat → Int → Int → Int → Int → gS → Option gO) × (Nat → Int → Int → Int → Int → Int → gS → Option gO)
  | 0 => ((fun _ _ _ _ _ _ => none), (fun _ _ _ _ _ _ _ => none))
  | n + 1 => (fo_226 (rg_226 n).2, fo_227 (rg_226 n).1)
noncomputable def fn_226 (n : Nat) : Nat → Int → Int → Int → Int → gS → Option gO := (rg_226 n).1
noncomputable def f_226 : Nat → Int → Int → Int → Int → gS → Option gO := fn_226 64
noncomputable def fn_227 (n : Nat) : Nat → Int → Int → Int → Int → Int → gS → Option gO := (rg_226 n).2
noncomputable def f_227 : Nat → Int → Int → Int → Int → Int → gS → Option gO := fn_227 64
-- X12_longest
noncomputable def sb_229_102 (x0 : Nat) (x1 : Int) (x2 : Int) (x3 : Int) (x4 : Int) (x5 : Int) (x6 : Int) (s : gS) : Option ((Nat × Int × Int × Int × Int × Int × Int × gS) ⊕ ((Nat × Int × Int × Int × Int × Int × gS) ⊕ gO)) :=
  (f_227 x0 x1 x5 x3 x4 x6 s).bind (gv1 (fun v17 s16 => (f_226 x0 x1 x5 x3 x4 s16).bind (gv1 (fun v19 s18 => if v17 = v19 then (if x5 = x2 then (some ((1, x6, 0, s18))).map Sum.inr else (f_151 99 (g32 (x3 + (g32 ((gI s18 (gR s18 x0 1) 12) * x6)))) s18).bind (gv1 (fun v21 s20 => (f_228 x0 x1 x5 v21 (g32 (x4 - x6)) s20).bind (gv1 (fun v23 s22 => if v23 < (gI s22 (gR s22 x0 1) 10) then (some ((1, 0, 0, s22))).map Sum.inr else some (Sum.inl (x0, x1, x2, v23, (g32 (x4 - x6)), (g32 (x5 + 1)), s22))))))).map Sum.inr else some (Sum.inl (x0, x1, x2, x3, x4, x5, (g32 (x6 + 1)), s18))))))
noncomputable def st_229_102 (y : (Nat × Int × Int × Int × Int × Int × Int × gS)) : Option ((Nat × Int × Int × Int × Int × Int × Int × gS) ⊕ ((Nat × Int × Int × Int × Int × Int × gS) ⊕ gO)) := sb_229_102 y.1 y.2.1 y.2.2.1 y.2.2.2.1 y.2.2.2.2.1 y.2.2.2.2.2.1 y.2.2.2.2.2.2.1 y.2.2.2.2.2.2.2
noncomputable def sb_229_93 (x0 : Nat) (x1 : Int) (x2 : Int) (x3 : Int) (x4 : Int) (x5 : Int) (s : gS) : Option ((Nat × Int × Int × Int × Int × Int × gS) ⊕ gO) :=
  if x2 < x5 then (some ((1, 0, 0, s))).map Sum.inr else gloop (st_229_102) (x0, x1, x2, x3, x4, x5, 0, s)
noncomputable def st_229_93 (y : (Nat × Int × Int × Int × Int × Int × gS)) : Option ((Nat × Int × Int × Int × Int × Int × gS) ⊕ gO) := sb_229_93 y.1 y.2.1 y.2.2.1 y.2.2.2.1 y.2.2.2.2.1 y.2.2.2.2.2.1 y.2.2.2.2.2.2
noncomputable def fb_229_33 (x0 : Nat) (x1 : Int) (x2 : Int) (w0 : Int) (w1 : Nat) (s : gS) : Option gO :=
  let s4 : gS := gw s w1 0 w0; if 0 < (gI s4 x0 0) then some ((1, 0, 0, s4)) else (f_165 x0 x1 s4).bind (gv1 (fun v6 s5 => if v6 = 0 then some ((1, (-1), 0, s5)) else (f_225 x0 x1 s5).bind (gv0 (fun s8 => (f_156 x0 x1 0 s8).bind (gv1 (fun v11 s10 => (f_156 x0 x1 1 s10).bind (gv1 (fun v13 s12 => if x2 = (-1) then (f_226 x0 x1 0 v11 v13 s12).bind (gv1 (fun v15 s14 => some ((1, v15, 0, s14)))) else gloop (st_229_93) (x0, x1, x2, v11, v13, 0, s12)))))))))
noncomputable def fb_229_32 (x0 : Nat) (x1 : Int) (x2 : Int) (w0 : Nat) (s : gS) : Option gO :=
  fb_229_33 x0 x1 x2 0 w0 s
noncomputable def f_229 (a0 : Nat) (a1 : Int) (a2 : Int) (s : gS) : Option gO :=
  (f_162 a0 a1 s).bind (gv1 (fun v2 s1 => if v2 = 0 then fb_229_33 a0 a1 a2 1 a0 s1 else if a2 = (-1) then fb_229_32 a0 a1 a2 a0 s1 else (f_150 a2 0 29 s1).bind (gv1 (fun v25 s24 => if v25 = 0 then fb_229_33 a0 a1 a2 2 a0 s24 else fb_229_32 a0 a1 a2 a0 s24))))
-- X12_needs
noncomputable def sb_230_57 (x0 : Nat) (x1 : Int) (x2 : Int) (x3 : Int) (s : gS) : Option ((Nat × Int × Int × Int × gS) ⊕ gO) :=
  if 9 < x3 then (some ((1, (-1), 0, s))).map Sum.inr else (f_156 x0 x1 0 s).bind (gv1 (fun v11 s10 => (f_226 x0 x1 0 v11 x3 s10).bind (gv1 (fun v13 s12 => if v13 < x2 then some (Sum.inl (x0, x1, x2, (g32 (x3 + 1)), s12)) else (some ((1, x3, 0, s12))).map Sum.inr))))
noncomputable def st_230_57 (y : (Nat × Int × Int × Int × gS)) : Option ((Nat × Int × Int × Int × gS) ⊕ gO) := sb_230_57 y.1 y.2.1 y.2.2.1 y.2.2.2.1 y.2.2.2.2
noncomputable def fb_230_28 (x0 : Nat) (x1 : Int) (x2 : Int) (w0 : Int) (w1 : Nat) (s : gS) : Option gO :=
  let s4 : gS := gw s w1 0 w0; if 0 < (gI s4 x0 0) then some ((1, 0, 0, s4)) else (f_165 x0 x1 s4).bind (gv1 (fun v6 s5 => if v6 = 0 then some ((1, (-1), 0, s5)) else (f_225 x0 x1 s5).bind (gv0 (fun s8 => gloop (st_230_57) (x0, x1, x2, 0, s8)))))
noncomputable def f_230 (a0 : Nat) (a1 : Int) (a2 : Int) (s : gS) : Option gO :=
  (f_162 a0 a1 s).bind (gv1 (fun v2 s1 => if v2 = 0 then fb_230_28 a0 a1 a2 1 a0 s1 else (f_150 a2 1 30 s1).bind (gv1 (fun v15 s14 => if v15 = 0 then fb_230_28 a0 a1 a2 2 a0 s14 else fb_230_28 a0 a1 a2 0 a0 s14))))
-- X12_stopped
noncomputable def sb_231_4 (x0 : Nat) (x1 : Int) (x2 : Int) (x3 : Int) (s : gS) : Option ((Nat × Int × Int × Int × gS) ⊕ gO) :=
  if x3 < (gI s (gR s x0 1) 5) then (f_153 x1 x3 s).bind (gv1 (fun v2 s1 => if v2 = 0 then some (Sum.inl (x0, x1, (gor x2 0), (g32 (x3 + 1)), s1)) else (f_159 x0 x3 s1).bind (gv1 (fun v5 s4 => some (Sum.inl (x0, x1, (gor x2 v5), (g32 (x3 + 1)), s4)))))) else (some ((1, x2, 0, s))).map Sum.inr
noncomputable def st_231_4 (y : (Nat × Int × Int × Int × gS)) : Option ((Nat × Int × Int × Int × gS) ⊕ gO) := sb_231_4 y.1 y.2.1 y.2.2.1 y.2.2.2.1 y.2.2.2.2
noncomputable def f_231 (a0 : Nat) (a1 : Int) (s : gS) : Option gO :=
  gloop (st_231_4) (a0, a1, 0, 0, s)
-- X12_costs
noncomputable def sb_232_4 (x0 : Nat) (x1 : Int) (x2 : Int) (x3 : Int) (s : gS) : Option ((Nat × Int × Int × Int × gS) ⊕ gO) :=
  if x3 < (gI s (gR s x0 1) 5) then (f_153 x1 x3 s).bind (gv1 (fun v2 s1 => if v2 = 0 then some (Sum.inl (x0, x1, (g32 (x2 + 0)), (g32 (x3 + 1)), s1)) else (f_158 x0 x3 s1).bind (gv1 (fun v5 s4 => some (Sum.inl (x0, x1, (g32 (x2 + v5)), (g32 (x3 + 1)), s4)))))) else (some ((1, x2, 0, s))).map Sum.inr
noncomputable def st_232_4 (y : (Nat × Int × Int × Int × gS)) : Option ((Nat × Int × Int × Int × gS) ⊕ gO) := sb_232_4 y.1 y.2.1 y.2.2.1 y.2.2.2.1 y.2.2.2.2
noncomputable def f_232 (a0 : Nat) (a1 : Int) (s : gS) : Option gO :=
  gloop (st_232_4) (a0, a1, 0, 0, s)
-- X12_stopped_
noncomputable def fb_233_45  (s : gS) : Option gO :=
  some ((1, 0, 0, s))
noncomputable def fb_233_14 (x0 : Nat) (x1 : Int) (x2 : Int) (w0 : Int) (w1 : Nat) (s : gS) : Option gO :=
  let s4 : gS := gw s w1 0 w0; if (gI s4 x0 0) = 0 then (f_156 x0 x1 2 s4).bind (gv1 (fun v6 s5 => (f_231 x0 x2 s5).bind (gv1 (fun v8 s7 => if (gand v6 (gxor v8 (-1))) = 0 then some ((1, 1, 0, s7)) else fb_233_45  s7)))) else fb_233_45  s4
noncomputable def f_233 (a0 : Nat) (a1 : Int) (a2 : Int) (s : gS) : Option gO :=
  (f_162 a0 a1 s).bind (gv1 (fun v2 s1 => if v2 = 0 then fb_233_14 a0 a1 a2 1 a0 s1 else fb_233_14 a0 a1 a2 0 a0 s1))
-- X12_bestSet
noncomputable def fb_234_77 (x0 : Nat) (x1 : Int) (x2 : Int) (x4 : Int) (s : gS) : Option ((Nat × Int × Int × Int × Int × gS) ⊕ gO) :=
  some (Sum.inl (x0, x1, x2, x4, (g32 (x4 + 1)), s))
noncomputable def sb_234_5 (x0 : Nat) (x1 : Int) (x2 : Int) (x3 : Int) (x4 : Int) (s : gS) : Option ((Nat × Int × Int × Int × Int × gS) ⊕ gO) :=
  if x4 < (gshl 1 (gI s (gR s x0 1) 5)) then (f_156 x0 x1 2 s).bind (gv1 (fun v2 s1 => (f_231 x0 x4 s1).bind (gv1 (fun v4 s3 => if (gand v2 (gxor v4 (-1))) = 0 then if x3 = (-1) then fb_234_77 x0 x1 x2 x4 s3 else if x2 = 0 then (f_232 x0 x4 s3).bind (gv1 (fun v6 s5 => (f_232 x0 x3 s5).bind (gv1 (fun v8 s7 => if v6 < v8 then fb_234_77 x0 x1 x2 x4 s7 else some (Sum.inl (x0, x1, x2, x3, (g32 (x4 + 1)), s7)))))) else (f_154 x4 s3).bind (gv1 (fun v10 s9 => (f_154 x3 s9).bind (gv1 (fun v12 s11 => if v10 < v12 then fb_234_77 x0 x1 x2 x4 s11 else some (Sum.inl (x0, x1, x2, x3, (g32 (x4 + 1)), s11)))))) else some (Sum.inl (x0, x1, x2, x3, (g32 (x4 + 1)), s3)))))) else (some ((1, x3, 0, s))).map Sum.inr
noncomputable def st_234_5 (y : (Nat × Int × Int × Int × Int × gS)) : Option ((Nat × Int × Int × Int × Int × gS) ⊕ gO) := sb_234_5 y.1 y.2.1 y.2.2.1 y.2.2.2.1 y.2.2.2.2.1 y.2.2.2.2.2
noncomputable def f_234 (a0 : Nat) (a1 : Int) (a2 : Int) (s : gS) : Option gO :=
  gloop (st_234_5) (a0, a1, a2, (-1), 0, s)
-- X12_fewest
noncomputable def fb_235_14 (x0 : Nat) (x1 : Int) (w0 : Int) (w1 : Nat) (s : gS) : Option gO :=
  let s4 : gS := gw s w1 0 w0; if 0 < (gI s4 x0 0) then some ((1, 0, 0, s4)) else (f_234 x0 x1 1 s4).bind (gv1 (fun v6 s5 => some ((1, v6, 0, s5))))
noncomputable def f_235 (a0 : Nat) (a1 : Int) (s : gS) : Option gO :=
  (f_162 a0 a1 s).bind (gv1 (fun v2 s1 => if v2 = 0 then fb_235_14 a0 a1 1 a0 s1 else fb_235_14 a0 a1 0 a0 s1))
-- X12_cheapest
noncomputable def fb_236_50 (x3 : Int) (s : gS) : Option gO :=
  some ((1, x3, 0, s))
noncomputable def fb_236_14 (x0 : Nat) (x1 : Int) (x2 : Int) (w0 : Int) (w1 : Nat) (s : gS) : Option gO :=
  let s4 : gS := gw s w1 0 w0; if 0 < (gI s4 x0 0) then some ((1, 0, 0, s4)) else (f_234 x0 x1 0 s4).bind (gv1 (fun v6 s5 => if x2 = 0 then fb_236_50 v6 s5 else if v6 = (-1) then fb_236_50 v6 s5 else (f_232 x0 v6 s5).bind (gv1 (fun v8 s7 => some ((1, v8, 0, s7))))))
noncomputable def f_236 (a0 : Nat) (a1 : Int) (a2 : Int) (s : gS) : Option gO :=
  (f_162 a0 a1 s).bind (gv1 (fun v2 s1 => if v2 = 0 then fb_236_14 a0 a1 a2 1 a0 s1 else fb_236_14 a0 a1 a2 0 a0 s1))
-- X12_slips
noncomputable def sb_237_21 (x0 : Nat) (x1 : Int) (x2 : Int) (x3 : Int) (s : gS) : Option ((Nat × Int × Int × Int × gS) ⊕ gO) :=
  if x3 < (gI s (gR s x0 1) 5) then if (gI s x0 0) = 0 then (f_156 x0 x1 2 s).bind (gv1 (fun v6 s5 => (f_212 x0 x3 v6 s5).bind (gv1 (fun v8 s7 => if v8 = 0 then let v10 : Int := (gor x2 (gshl 1 x3)); some (Sum.inl (x0, x1, v10, (g32 (x3 + 1)), s7)) else some (Sum.inl (x0, x1, (gor x2 0), (g32 (x3 + 1)), s7)))))) else (some ((1, x2, 0, s))).map Sum.inr else (some ((1, x2, 0, s))).map Sum.inr
noncomputable def st_237_21 (y : (Nat × Int × Int × Int × gS)) : Option ((Nat × Int × Int × Int × gS) ⊕ gO) := sb_237_21 y.1 y.2.1 y.2.2.1 y.2.2.2.1 y.2.2.2.2
noncomputable def fb_237_14 (x0 : Nat) (x1 : Int) (w0 : Int) (w1 : Nat) (s : gS) : Option gO :=
  let s4 : gS := gw s w1 0 w0; gloop (st_237_21) (x0, x1, 0, 0, s4)
noncomputable def f_237 (a0 : Nat) (a1 : Int) (s : gS) : Option gO :=
  (f_162 a0 a1 s).bind (gv1 (fun v2 s1 => if v2 = 0 then fb_237_14 a0 a1 1 a0 s1 else fb_237_14 a0 a1 0 a0 s1))
-- X12_told
noncomputable def fb_238_173 (x0 : Nat) (x1 : Int) (x3 : Int) (x4 : Int) (s : gS) : Option ((Nat × Int × Int × Int × gS) ⊕ gO) :=
  gchk x4 64 (if (gI s (gR s x0 23) (x4 : Int).toNat) = 0 then some (Sum.inl (x0, x1, (g32 (x3 + 0)), (g32 (x4 + 1)), s)) else some (Sum.inl (x0, x1, (g32 (x3 + 1)), (g32 (x4 + 1)), s)))
noncomputable def fb_238_158 (x0 : Nat) (x1 : Int) (x3 : Int) (x4 : Int) (x5 : Int) (w0 : Int) (w1 : Int) (w2 : Int) (w3 : Nat) (s : gS) : Option ((Nat × Int × Int × Int × Int × gS) ⊕ ((Nat × Int × Int × Int × gS) ⊕ gO)) :=
  if w1 = w0 then gchk w2 64 (gbool 1 (let s6 : gS := gw s w3 (w2 : Int).toNat 1; some (Sum.inl (x0, x1, x3, x4, (g32 (x5 + 2)), s6)))) else gchk w2 64 (gbool 0 (let s7 : gS := gw s w3 (w2 : Int).toNat 0; some (Sum.inl (x0, x1, x3, x4, (g32 (x5 + 2)), s7))))
noncomputable def sb_238_105 (x0 : Nat) (x1 : Int) (x3 : Int) (x4 : Int) (x5 : Int) (s : gS) : Option ((Nat × Int × Int × Int × Int × gS) ⊕ ((Nat × Int × Int × Int × gS) ⊕ gO)) :=
  if x5 < x1 then gchk x4 64 (if (gI s (gR s x0 23) (x4 : Int).toNat) = 0 then (fb_238_173 x0 x1 x3 x4 s).map Sum.inr else gchk x5 400 ((f_212 x0 (gI s (gR s x0 7) (x5 : Int).toNat) x4 s).bind (gv1 (fun v4 s3 => gchk (g32 (x5 + 1)) 400 (if (gI s3 (gR s3 x0 7) ((g32 (x5 + 1)) : Int).toNat) = 1 then fb_238_158 x0 x1 x3 x4 x5 1 v4 x4 (gR s x0 23) s3 else fb_238_158 x0 x1 x3 x4 x5 0 v4 x4 (gR s x0 23) s3))))) else (fb_238_173 x0 x1 x3 x4 s).map Sum.inr
noncomputable def st_238_105 (y : (Nat × Int × Int × Int × Int × gS)) : Option ((Nat × Int × Int × Int × Int × gS) ⊕ ((Nat × Int × Int × Int × gS) ⊕ gO)) := sb_238_105 y.1 y.2.1 y.2.2.1 y.2.2.2.1 y.2.2.2.2.1 y.2.2.2.2.2
noncomputable def sb_238_87 (x0 : Nat) (x1 : Int) (x3 : Int) (x4 : Int) (s : gS) : Option ((Nat × Int × Int × Int × gS) ⊕ gO) :=
  if x4 < 64 then gchk x4 64 (gbool 1 (let s2 : gS := gw s (gR s x0 23) (x4 : Int).toNat 1; gloop (st_238_105) (x0, x1, x3, x4, 0, s2))) else (some ((1, x3, 0, s))).map Sum.inr
noncomputable def st_238_87 (y : (Nat × Int × Int × Int × gS)) : Option ((Nat × Int × Int × Int × gS) ⊕ gO) := sb_238_87 y.1 y.2.1 y.2.2.1 y.2.2.2.1 y.2.2.2.2
noncomputable def fb_238_76 (x0 : Nat) (x1 : Int) (x2 : Int) (s : gS) : Option gO :=
  if x2 = 0 then some ((1, (-1), 0, s)) else gloop (st_238_87) (x0, x1, 0, 1, s)
noncomputable def fb_238_61 (x0 : Nat) (x1 : Int) (x3 : Int) (w0 : Int) (w1 : Int) (s : gS) : Option ((Nat × Int × Int × Int × gS) ⊕ gO) :=
  if w1 < w0 then some (Sum.inl (x0, x1, 1, (g32 (x3 + 1)), s)) else some (Sum.inl (x0, x1, 0, (g32 (x3 + 1)), s))
noncomputable def sb_238_30 (x0 : Nat) (x1 : Int) (x2 : Int) (x3 : Int) (s : gS) : Option ((Nat × Int × Int × Int × gS) ⊕ gO) :=
  if x3 < x1 then if x2 = 0 then (fb_238_76 x0 x1 x2 s).map Sum.inr else gchk x3 400 (if (grem x3 2) = 0 then fb_238_61 x0 x1 x3 (gI s (gR s x0 1) 5) (gI s (gR s x0 7) (x3 : Int).toNat) s else fb_238_61 x0 x1 x3 2 (gI s (gR s x0 7) (x3 : Int).toNat) s) else (fb_238_76 x0 x1 x2 s).map Sum.inr
noncomputable def st_238_30 (y : (Nat × Int × Int × Int × gS)) : Option ((Nat × Int × Int × Int × gS) ⊕ gO) := sb_238_30 y.1 y.2.1 y.2.2.1 y.2.2.2.1 y.2.2.2.2
noncomputable def fb_238_27 (x0 : Nat) (x1 : Int) (w0 : Int) (s : gS) : Option gO :=
  gloop (st_238_30) (x0, x1, w0, 0, s)
noncomputable def fb_238_26 (x0 : Nat) (x1 : Int) (s : gS) : Option gO :=
  fb_238_27 x0 x1 0 s
noncomputable def f_238 (a0 : Nat) (s : gS) : Option gO :=
  let s1 : gS := gw s a0 8 0; if (grem (gI s a0 8) 2) = 0 then if 40 < (gI s a0 8) then fb_238_26 a0 (gI s a0 8) s1 else fb_238_27 a0 (gI s a0 8) 1 s1 else fb_238_26 a0 (gI s a0 8) s1
-- X12_seen
noncomputable def fb_239_30 (x0 : Nat) (x2 : Int) (s : gS) : Option gO :=
  if 0 < (gI s x0 0) then some ((1, 0, 0, s)) else some ((1, x2, 0, s))
noncomputable def sb_239_57 (x0 : Nat) (x3 : Int) (x4 : Int) (s : gS) : Option ((Nat × Int × Int × gS) ⊕ gO) :=
  if x4 < 64 then gchk x4 64 (if (gI s (gR s x0 23) (x4 : Int).toNat) = 0 then some (Sum.inl (x0, x3, (g32 (x4 + 1)), s)) else some (Sum.inl (x0, (gand x3 x4), (g32 (x4 + 1)), s))) else (some ((1, x3, 0, s))).map Sum.inr
noncomputable def st_239_57 (y : (Nat × Int × Int × gS)) : Option ((Nat × Int × Int × gS) ⊕ gO) := sb_239_57 y.1 y.2.1 y.2.2.1 y.2.2.2
noncomputable def fb_239_53 (x0 : Nat) (w0 : Int) (s : gS) : Option gO :=
  gloop (st_239_57) (x0, w0, 1, s)
noncomputable def fb_239_16 (x0 : Nat) (x1 : Int) (x2 : Int) (w0 : Int) (w1 : Nat) (s : gS) : Option gO :=
  let s3 : gS := gw s w1 0 w0; if 0 < (gI s3 x0 0) then fb_239_30 x0 x2 s3 else if x1 = 0 then fb_239_30 x0 x2 s3 else if x2 = 0 then fb_239_53 x0 0 s3 else fb_239_53 x0 63 s3
noncomputable def f_239 (a0 : Nat) (a1 : Int) (s : gS) : Option gO :=
  (f_238 a0 s).bind (gv1 (fun v2 s1 => if v2 = (-1) then fb_239_16 a0 a1 v2 1 a0 s1 else fb_239_16 a0 a1 v2 0 a0 s1))
-- X12_ask
noncomputable def fb_240_93 (x0 : Nat) (x1 : Int) (x2 : Int) (x3 : Int) (x4 : Int) (x6 : Int) (w0 : Int) (s : gS) : Option ((Nat × Int × Int × Int × Int × Int × Int × gS) ⊕ ((Nat × Int × Int × Int × Int × gS) ⊕ gO)) :=
  some (Sum.inl (x0, x1, x2, x3, x4, (g32 (w0 + 0)), (g32 (x6 + 1)), s))
noncomputable def sb_240_59 (x0 : Nat) (x1 : Int) (x2 : Int) (x3 : Int) (x4 : Int) (x5 : Int) (x6 : Int) (s : gS) : Option ((Nat × Int × Int × Int × Int × Int × Int × gS) ⊕ ((Nat × Int × Int × Int × Int × gS) ⊕ gO)) :=
  if x6 < 64 then gchk x6 64 (if (gI s (gR s x0 23) (x6 : Int).toNat) = 0 then fb_240_93 x0 x1 x2 x3 x4 x6 x5 s else (f_212 x0 x4 x6 s).bind (gv1 (fun v5 s4 => if v5 = 0 then fb_240_93 x0 x1 x2 x3 x4 x6 x5 s4 else some (Sum.inl (x0, x1, x2, x3, x4, (g32 (x5 + 1)), (g32 (x6 + 1)), s4))))) else ((f_152 x5 (g32 (x1 - x5)) s).bind (gv1 (fun v8 s7 => if v8 < x3 then (f_152 x5 (g32 (x1 - x5)) s7).bind (gv1 (fun v10 s9 => some (Sum.inl (x0, x1, x4, v10, (g32 (x4 + 1)), s9)))) else some (Sum.inl (x0, x1, x2, x3, (g32 (x4 + 1)), s7))))).map Sum.inr
noncomputable def st_240_59 (y : (Nat × Int × Int × Int × Int × Int × Int × gS)) : Option ((Nat × Int × Int × Int × Int × Int × Int × gS) ⊕ ((Nat × Int × Int × Int × Int × gS) ⊕ gO)) := sb_240_59 y.1 y.2.1 y.2.2.1 y.2.2.2.1 y.2.2.2.2.1 y.2.2.2.2.2.1 y.2.2.2.2.2.2.1 y.2.2.2.2.2.2.2
noncomputable def sb_240_37 (x0 : Nat) (x1 : Int) (x2 : Int) (x3 : Int) (x4 : Int) (s : gS) : Option ((Nat × Int × Int × Int × Int × gS) ⊕ gO) :=
  if x4 < (gI s (gR s x0 1) 5) then if 1 < x1 then gloop (st_240_59) (x0, x1, x2, x3, x4, 0, 1, s) else (some ((1, x2, 0, s))).map Sum.inr else (some ((1, x2, 0, s))).map Sum.inr
noncomputable def st_240_37 (y : (Nat × Int × Int × Int × Int × gS)) : Option ((Nat × Int × Int × Int × Int × gS) ⊕ gO) := sb_240_37 y.1 y.2.1 y.2.2.1 y.2.2.2.1 y.2.2.2.2.1 y.2.2.2.2.2
noncomputable def fb_240_16 (x0 : Nat) (x1 : Int) (w0 : Int) (w1 : Nat) (s : gS) : Option gO :=
  let s3 : gS := gw s w1 0 w0; if 0 < (gI s3 x0 0) then some ((1, 0, 0, s3)) else gloop (st_240_37) (x0, x1, (-1), 2000000000, 0, s3)
noncomputable def f_240 (a0 : Nat) (s : gS) : Option gO :=
  (f_238 a0 s).bind (gv1 (fun v2 s1 => if v2 = (-1) then fb_240_16 a0 v2 1 a0 s1 else fb_240_16 a0 v2 0 a0 s1))
-- X12_princePays
noncomputable def fb_241_44 (x5 : Int) (w0 : Int) (s : gS) : Option gO :=
  if w0 = 0 then some ((1, (g32 (x5 + 0)), 0, s)) else some ((1, (g32 (x5 + 50)), 0, s))
noncomputable def fb_241_43 (x5 : Int) (s : gS) : Option gO :=
  fb_241_44 x5 0 s
noncomputable def fb_241_13 (x0 : Nat) (x1 : Int) (x2 : Int) (x3 : Int) (x4 : Int) (w0 : Int) (s : gS) : Option gO :=
  if x4 = 0 then if x3 = 1 then fb_241_44 w0 1 s else (f_156 x0 x1 2 s).bind (gv1 (fun v4 s3 => (f_212 x0 x2 v4 s3).bind (gv1 (fun v6 s5 => if v6 = 0 then fb_241_44 w0 1 s5 else fb_241_43 w0 s5)))) else fb_241_43 w0 s
noncomputable def f_241 (a0 : Nat) (a1 : Int) (a2 : Int) (a3 : Int) (a4 : Int) (s : gS) : Option gO :=
  if a3 = 0 then (f_158 a0 a2 s).bind (gv1 (fun v2 s1 => fb_241_13 a0 a1 a2 a3 a4 v2 s1)) else fb_241_13 a0 a1 a2 a3 a4 0 s
-- X12_manHas
noncomputable def fb_242_37  (s : gS) : Option gO :=
  some ((1, 30, 0, s))
noncomputable def f_242 (a0 : Nat) (a1 : Int) (a2 : Int) (a3 : Int) (a4 : Int) (s : gS) : Option gO :=
  if a4 = 1 then some ((1, 10, 0, s)) else if a3 = 0 then (f_156 a0 a1 2 s).bind (gv1 (fun v2 s1 => (f_212 a0 a2 v2 s1).bind (gv1 (fun v4 s3 => if v4 = 0 then fb_242_37  s3 else (f_156 a0 a1 0 s3).bind (gv1 (fun v7 s6 => some ((1, (g32 (-v7)), 0, s6)))))))) else fb_242_37  s
-- X12_rests
noncomputable def sb_243_30 (x0 : Nat) (x1 : Int) (x2 : Int) (x3 : Int) (x4 : Int) (s : gS) : Option ((Nat × Int × Int × Int × Int × gS) ⊕ gO) :=
  if x4 < 4 then if (gI s x0 0) = 0 then (f_241 x0 x1 x2 (g32 (1 - (gdiv x4 2))) (grem x4 2) s).bind (gv1 (fun v6 s5 => (f_241 x0 x1 x2 (gdiv x4 2) (grem x4 2) s5).bind (gv1 (fun v8 s7 => if v6 < v8 then some (Sum.inl (x0, x1, x2, x3, (g32 (x4 + 1)), s7)) else (f_242 x0 x1 x2 (gdiv x4 2) (g32 (1 - (grem x4 2))) s7).bind (gv1 (fun v10 s9 => (f_242 x0 x1 x2 (gdiv x4 2) (grem x4 2) s9).bind (gv1 (fun v12 s11 => if v12 < v10 then some (Sum.inl (x0, x1, x2, x3, (g32 (x4 + 1)), s11)) else let v13 : Int := (gor x3 (gshl 1 x4)); some (Sum.inl (x0, x1, x2, v13, (g32 (x4 + 1)), s11)))))))))) else (some ((1, x3, 0, s))).map Sum.inr else (some ((1, x3, 0, s))).map Sum.inr
noncomputable def st_243_30 (y : (Nat × Int × Int × Int × Int × gS)) : Option ((Nat × Int × Int × Int × Int × gS) ⊕ gO) := sb_243_30 y.1 y.2.1 y.2.2.1 y.2.2.2.1 y.2.2.2.2.1 y.2.2.2.2.2
noncomputable def fb_243_22 (x0 : Nat) (x1 : Int) (x2 : Int) (w0 : Int) (w1 : Nat) (s : gS) : Option gO :=
  let s4 : gS := gw s w1 0 w0; gloop (st_243_30) (x0, x1, x2, 0, 0, s4)
noncomputable def f_243 (a0 : Nat) (a1 : Int) (a2 : Int) (s : gS) : Option gO :=
  (f_162 a0 a1 s).bind (gv1 (fun v2 s1 => if v2 = 0 then fb_243_22 a0 a1 a2 1 a0 s1 else (f_163 a0 a2 s1).bind (gv1 (fun v15 s14 => if v15 = 0 then fb_243_22 a0 a1 a2 1 a0 s14 else fb_243_22 a0 a1 a2 0 a0 s14))))
-- X12_odds
noncomputable def sb_244_92 (x0 : Nat) (x1 : Int) (x2 : Int) (x3 : Int) (x5 : Int) (x7 : Int) (x8 : Int) (x10 : Int) (s : gS) : Option ((Nat × Int × Int × Int × Int × Int × Int × Int × gS) ⊕ ((Nat × Int × Int × Int × Int × Int × gS) ⊕ gO)) :=
  if x10 < x1 then (f_153 x7 x10 s).bind (gv1 (fun v8 s7 => if v8 = 0 then let v10 : Int := (g64 (x8 * (g32 (100 - (gI s7 (gR s7 x0 1) 11))))); some (Sum.inl (x0, x1, x2, x3, x5, x7, v10, (g32 (x10 + 1)), s7)) else let v11 : Int := (g64 (x8 * (gI s7 (gR s7 x0 1) 11))); some (Sum.inl (x0, x1, x2, x3, x5, x7, v11, (g32 (x10 + 1)), s7)))) else (some (Sum.inl (x0, x1, x2, x3, (g64 (x5 + x8)), (g32 (x7 + 1)), s))).map Sum.inr
noncomputable def st_244_92 (y : (Nat × Int × Int × Int × Int × Int × Int × Int × gS)) : Option ((Nat × Int × Int × Int × Int × Int × Int × Int × gS) ⊕ ((Nat × Int × Int × Int × Int × Int × gS) ⊕ gO)) := sb_244_92 y.1 y.2.1 y.2.2.1 y.2.2.2.1 y.2.2.2.2.1 y.2.2.2.2.2.1 y.2.2.2.2.2.2.1 y.2.2.2.2.2.2.2.1 y.2.2.2.2.2.2.2.2
noncomputable def fb_244_87 (x0 : Nat) (x1 : Int) (x2 : Int) (x3 : Int) (x5 : Int) (x7 : Int) (w0 : Int) (s : gS) : Option ((Nat × Int × Int × Int × Int × Int × gS) ⊕ gO) :=
  gloop (st_244_92) (x0, x1, x2, x3, x5, x7, w0, 0, s)
noncomputable def sb_244_65 (x0 : Nat) (x1 : Int) (x2 : Int) (x3 : Int) (x5 : Int) (x7 : Int) (s : gS) : Option ((Nat × Int × Int × Int × Int × Int × gS) ⊕ gO) :=
  if x7 < (gshl 1 x1) then (f_154 x7 s).bind (gv1 (fun v6 s5 => if v6 < x2 then fb_244_87 x0 x1 x2 x3 x5 x7 0 s5 else fb_244_87 x0 x1 x2 x3 x5 x7 1 s5)) else (if x3 = 0 then none else some ((1, (g32 (gldiv (g64 (10000 * x5)) x3)), 0, s))).map Sum.inr
noncomputable def st_244_65 (y : (Nat × Int × Int × Int × Int × Int × gS)) : Option ((Nat × Int × Int × Int × Int × Int × gS) ⊕ gO) := sb_244_65 y.1 y.2.1 y.2.2.1 y.2.2.2.1 y.2.2.2.2.1 y.2.2.2.2.2.1 y.2.2.2.2.2.2
noncomputable def sb_244_41 (x0 : Nat) (x1 : Int) (x2 : Int) (x3 : Int) (x5 : Int) (s : gS) : Option ((Nat × Int × Int × Int × Int × gS) ⊕ gO) :=
  if x5 < x1 then some (Sum.inl (x0, x1, x2, (g64 (x3 * 100)), (g32 (x5 + 1)), s)) else (gloop (st_244_65) (x0, x1, x2, x3, 0, 0, s)).map Sum.inr
noncomputable def st_244_41 (y : (Nat × Int × Int × Int × Int × gS)) : Option ((Nat × Int × Int × Int × Int × gS) ⊕ gO) := sb_244_41 y.1 y.2.1 y.2.2.1 y.2.2.2.1 y.2.2.2.2.1 y.2.2.2.2.2
noncomputable def fb_244_24 (x0 : Nat) (x1 : Int) (x2 : Int) (w0 : Int) (w1 : Nat) (s : gS) : Option gO :=
  let s4 : gS := gw s w1 0 w0; if 0 < (gI s4 x0 0) then some ((1, 0, 0, s4)) else gloop (st_244_41) (x0, x1, x2, 1, 0, s4)
noncomputable def f_244 (a0 : Nat) (a1 : Int) (a2 : Int) (s : gS) : Option gO :=
  (f_150 a1 0 5 s).bind (gv1 (fun v2 s1 => if v2 = 0 then fb_244_24 a0 a1 a2 1 a0 s1 else (f_150 a2 0 5 s1).bind (gv1 (fun v13 s12 => if v13 = 0 then fb_244_24 a0 a1 a2 1 a0 s12 else fb_244_24 a0 a1 a2 0 a0 s12))))
-- X12_bids
noncomputable def fb_245_40 (x0 : Nat) (x1 : Int) (x3 : Int) (s : gS) : Option ((Nat × Int × Int × Int × gS) ⊕ gO) :=
  some (Sum.inl (x0, x1, x3, (g32 (x3 + 1)), s))
noncomputable def sb_245_59 (x0 : Nat) (x2 : Int) (x3 : Int) (x4 : Int) (s : gS) : Option ((Nat × Int × Int × Int × gS) ⊕ gO) :=
  if x4 < (gI s (gR s x0 1) 6) then if x4 = x2 then some (Sum.inl (x0, x2, x3, (g32 (x4 + 1)), s)) else (f_160 x0 x4 0 s).bind (gv1 (fun v7 s6 => (f_152 x3 v7 s6).bind (gv1 (fun v9 s8 => some (Sum.inl (x0, x2, v9, (g32 (x4 + 1)), s8)))))) else (some ((1, x3, 0, s))).map Sum.inr
noncomputable def st_245_59 (y : (Nat × Int × Int × Int × gS)) : Option ((Nat × Int × Int × Int × gS) ⊕ gO) := sb_245_59 y.1 y.2.1 y.2.2.1 y.2.2.2.1 y.2.2.2.2
noncomputable def sb_245_9 (x0 : Nat) (x1 : Int) (x2 : Int) (x3 : Int) (s : gS) : Option ((Nat × Int × Int × Int × gS) ⊕ gO) :=
  if x3 < (gI s (gR s x0 1) 6) then if x2 = (-1) then fb_245_40 x0 x1 x3 s else (f_160 x0 x3 0 s).bind (gv1 (fun v3 s2 => (f_160 x0 x2 0 s2).bind (gv1 (fun v5 s4 => if v5 < v3 then fb_245_40 x0 x1 x3 s4 else some (Sum.inl (x0, x1, x2, (g32 (x3 + 1)), s4)))))) else (if x1 = 0 then some ((1, x2, 0, s)) else gloop (st_245_59) (x0, x2, 0, 0, s)).map Sum.inr
noncomputable def st_245_9 (y : (Nat × Int × Int × Int × gS)) : Option ((Nat × Int × Int × Int × gS) ⊕ gO) := sb_245_9 y.1 y.2.1 y.2.2.1 y.2.2.2.1 y.2.2.2.2
noncomputable def f_245 (a0 : Nat) (a1 : Int) (s : gS) : Option gO :=
  let s1 : gS := gw s a0 0 0; gloop (st_245_9) (a0, a1, (-1), 0, s1)
-- X12_gives
noncomputable def f_246 (a0 : Nat) (a1 : Int) (a2 : Int) (a3 : Int) (s : gS) : Option gO :=
  if a2 = (-1) then gchk (g32 ((g32 (64 * (g32 (a1 + 1)))) + a3)) 448 (some ((1, (gI s (gR s a0 24) ((g32 ((g32 (64 * (g32 (a1 + 1)))) + a3)) : Int).toNat), 0, s))) else (f_160 a0 a1 0 s).bind (gv1 (fun v2 s1 => (f_156 a0 a2 0 s1).bind (gv1 (fun v4 s3 => (f_151 v2 (g32 (3 * v4)) s3).bind (gv1 (fun v6 s5 => gchk (g32 ((g32 (64 * (g32 (a1 + 1)))) + (gand a3 (gxor (gshl 1 a2) (-1))))) 448 (some ((1, (g32 (v6 + (gI s5 (gR s5 a0 24) ((g32 ((g32 (64 * (g32 (a1 + 1)))) + (gand a3 (gxor (gshl 1 a2) (-1))))) : Int).toNat))), 0, s5)))))))))
-- X12_keptOnes
noncomputable def sb_252_4 (x0 : Nat) (x1 : Int) (x2 : Int) (x3 : Int) (s : gS) : Option ((Nat × Int × Int × Int × gS) ⊕ gO) :=
  if x3 < (gI s (gR s x0 1) 4) then (f_156 x0 x3 5 s).bind (gv1 (fun v2 s1 => if v2 = x1 then let v3 : Int := (gor x2 (gshl 1 x3)); some (Sum.inl (x0, x1, v3, (g32 (x3 + 1)), s1)) else some (Sum.inl (x0, x1, (gor x2 0), (g32 (x3 + 1)), s1)))) else (some ((1, x2, 0, s))).map Sum.inr
noncomputable def st_252_4 (y : (Nat × Int × Int × Int × gS)) : Option ((Nat × Int × Int × Int × gS) ⊕ gO) := sb_252_4 y.1 y.2.1 y.2.2.1 y.2.2.2.1 y.2.2.2.2
noncomputable def f_252 (a0 : Nat) (a1 : Int) (s : gS) : Option gO :=
  gloop (st_252_4) (a0, a1, 0, 0, s)
-- X12_sold
noncomputable def fb_247_199 (x0 : Nat) (x1 : Int) (x3 : Int) (x4 : Int) (x5 : Int) (s : gS) : Option ((Nat × Int × Int × Int × Int × gS) ⊕ ((Nat × Int × Int × Int × Int × gS) ⊕ gO)) :=
  (f_246 x0 x5 x4 x3 s).bind (gv1 (fun v6 s5 => gchk (g32 ((g32 (64 * x5)) + x3)) 448 (if v6 = (gI s5 (gR s5 x0 24) ((g32 ((g32 (64 * x5)) + x3)) : Int).toNat) then (if x4 = (-1) then some (Sum.inl (x0, x1, (gand x3 63), x4, (g32 (x5 + 1)), s5)) else let v7 : Int := (gand x3 (gxor (gshl 1 x4) (-1))); some (Sum.inl (x0, x1, v7, x4, (g32 (x5 + 1)), s5))).map Sum.inr else some (Sum.inl (x0, x1, x3, (g32 (x4 + 1)), x5, s5)))))
noncomputable def sb_247_184 (x0 : Nat) (x1 : Int) (x3 : Int) (x4 : Int) (x5 : Int) (s : gS) : Option ((Nat × Int × Int × Int × Int × gS) ⊕ ((Nat × Int × Int × Int × Int × gS) ⊕ gO)) :=
  if x4 = (-1) then fb_247_199 x0 x1 x3 x4 x5 s else (f_153 x3 x4 s).bind (gv1 (fun v9 s8 => if v9 = 0 then some (Sum.inl (x0, x1, x3, (g32 (x4 + 1)), x5, s8)) else fb_247_199 x0 x1 x3 x4 x5 s8))
noncomputable def st_247_184 (y : (Nat × Int × Int × Int × Int × gS)) : Option ((Nat × Int × Int × Int × Int × gS) ⊕ ((Nat × Int × Int × Int × Int × gS) ⊕ gO)) := sb_247_184 y.1 y.2.1 y.2.2.1 y.2.2.2.1 y.2.2.2.2.1 y.2.2.2.2.2
noncomputable def sb_247_175 (x0 : Nat) (x1 : Int) (x3 : Int) (x4 : Int) (x5 : Int) (s : gS) : Option ((Nat × Int × Int × Int × Int × gS) ⊕ gO) :=
  if x1 < x5 then (some ((1, x4, 0, s))).map Sum.inr else gloop (st_247_184) (x0, x1, x3, (-1), x5, s)
noncomputable def st_247_175 (y : (Nat × Int × Int × Int × Int × gS)) : Option ((Nat × Int × Int × Int × Int × gS) ⊕ gO) := sb_247_175 y.1 y.2.1 y.2.2.1 y.2.2.2.1 y.2.2.2.2.1 y.2.2.2.2.2
noncomputable def fb_247_125 (x0 : Nat) (x1 : Int) (x2 : Int) (x3 : Int) (x4 : Int) (x5 : Int) (s : gS) : Option ((Nat × Int × Int × Int × Int × gS) ⊕ ((Nat × Int × Int × Int × gS) ⊕ gO)) :=
  gchk (g32 ((g32 (64 * x3)) + x4)) 448 (let s18 : gS := gw s (gR s x0 24) ((g32 ((g32 (64 * x3)) + x4)) : Int).toNat x5; some (Sum.inl (x0, x1, x2, x3, (g32 (x4 + 1)), s18)))
noncomputable def sb_247_77 (x0 : Nat) (x1 : Int) (x2 : Int) (x3 : Int) (x4 : Int) (x5 : Int) (x6 : Int) (s : gS) : Option ((Nat × Int × Int × Int × Int × Int × Int × gS) ⊕ ((Nat × Int × Int × Int × Int × gS) ⊕ ((Nat × Int × Int × Int × gS) ⊕ gO))) :=
  if x6 < (gI s (gR s x0 1) 4) then if x3 < x2 then (f_153 x4 x6 s).bind (gv1 (fun v12 s11 => if v12 = 0 then some (Sum.inl (x0, x1, x2, x3, x4, x5, (g32 (x6 + 1)), s11)) else (f_246 x0 x3 x6 x4 s11).bind (gv1 (fun v15 s14 => (f_152 x5 v15 s14).bind (gv1 (fun v17 s16 => some (Sum.inl (x0, x1, x2, x3, x4, v17, (g32 (x6 + 1)), s16)))))))) else (fb_247_125 x0 x1 x2 x3 x4 x5 s).map Sum.inr else (fb_247_125 x0 x1 x2 x3 x4 x5 s).map Sum.inr
noncomputable def st_247_77 (y : (Nat × Int × Int × Int × Int × Int × Int × gS)) : Option ((Nat × Int × Int × Int × Int × Int × Int × gS) ⊕ ((Nat × Int × Int × Int × Int × gS) ⊕ ((Nat × Int × Int × Int × gS) ⊕ gO))) := sb_247_77 y.1 y.2.1 y.2.2.1 y.2.2.2.1 y.2.2.2.2.1 y.2.2.2.2.2.1 y.2.2.2.2.2.2.1 y.2.2.2.2.2.2.2
noncomputable def fb_247_72 (x0 : Nat) (x1 : Int) (x2 : Int) (x3 : Int) (x4 : Int) (w0 : Int) (s : gS) : Option ((Nat × Int × Int × Int × Int × gS) ⊕ ((Nat × Int × Int × Int × gS) ⊕ gO)) :=
  gloop (st_247_77) (x0, x1, x2, x3, x4, w0, 0, s)
noncomputable def sb_247_48 (x0 : Nat) (x1 : Int) (x2 : Int) (x3 : Int) (x4 : Int) (s : gS) : Option ((Nat × Int × Int × Int × Int × gS) ⊕ ((Nat × Int × Int × Int × gS) ⊕ gO)) :=
  if x4 < 64 then if x3 = x2 then fb_247_72 x0 x1 x2 x3 x4 0 s else (f_246 x0 x3 (-1) x4 s).bind (gv1 (fun v20 s19 => fb_247_72 x0 x1 x2 x3 x4 v20 s19)) else (some (Sum.inl (x0, x1, x2, (g32 (x3 + (-1))), s))).map Sum.inr
noncomputable def st_247_48 (y : (Nat × Int × Int × Int × Int × gS)) : Option ((Nat × Int × Int × Int × Int × gS) ⊕ ((Nat × Int × Int × Int × gS) ⊕ gO)) := sb_247_48 y.1 y.2.1 y.2.2.1 y.2.2.2.1 y.2.2.2.2.1 y.2.2.2.2.2
noncomputable def sb_247_41 (x0 : Nat) (x1 : Int) (x2 : Int) (x3 : Int) (s : gS) : Option ((Nat × Int × Int × Int × gS) ⊕ gO) :=
  if x3 < 0 then ((f_252 x0 0 s).bind (gv1 (fun v4 s3 => if x1 = (-1) then gchk v4 448 (some ((1, (gI s3 (gR s3 x0 24) (v4 : Int).toNat), 0, s3))) else gloop (st_247_175) (x0, x1, v4, (-1), 0, s3)))).map Sum.inr else gloop (st_247_48) (x0, x1, x2, x3, 0, s)
noncomputable def st_247_41 (y : (Nat × Int × Int × Int × gS)) : Option ((Nat × Int × Int × Int × gS) ⊕ gO) := sb_247_41 y.1 y.2.1 y.2.2.1 y.2.2.2.1 y.2.2.2.2
noncomputable def fb_247_19 (x0 : Nat) (x1 : Int) (w0 : Int) (w1 : Nat) (s : gS) : Option gO :=
  let s1 : gS := gw s w1 0 w0; if 0 < (gI s1 x0 0) then some ((1, 0, 0, s1)) else let v2 : Int := (gI s1 (gR s1 x0 1) 6); gloop (st_247_41) (x0, x1, v2, v2, s1)
noncomputable def fb_247_18 (x0 : Nat) (x1 : Int) (w0 : Nat) (s : gS) : Option gO :=
  fb_247_19 x0 x1 0 w0 s
noncomputable def f_247 (a0 : Nat) (a1 : Int) (s : gS) : Option gO :=
  if a1 = (-1) then fb_247_18 a0 a1 a0 s else (f_164 a0 a1 s).bind (gv1 (fun v22 s21 => if v22 = 0 then fb_247_19 a0 a1 1 a0 s21 else fb_247_18 a0 a1 a0 s21))
-- X12_secret
noncomputable def fb_248_107 (x0 : Nat) (x1 : Int) (x3 : Int) (s : gS) : Option ((Nat × Int × Int × Int × gS) ⊕ gO) :=
  some (Sum.inl (x0, x1, x3, (g32 (x3 + 1)), s))
noncomputable def sb_248_39 (x0 : Nat) (x1 : Int) (x2 : Int) (x3 : Int) (x4 : Int) (x5 : Int) (s : gS) : Option ((Nat × Int × Int × Int × Int × Int × gS) ⊕ ((Nat × Int × Int × Int × gS) ⊕ gO)) :=
  if x5 < (gI s (gR s x0 1) 6) then (f_153 x3 x5 s).bind (gv1 (fun v4 s3 => if v4 = 0 then some (Sum.inl (x0, x1, x2, x3, (gor x4 0), (g32 (x5 + 1)), s3)) else (f_160 x0 x5 1 s3).bind (gv1 (fun v7 s6 => some (Sum.inl (x0, x1, x2, x3, (gor x4 v7), (g32 (x5 + 1)), s6)))))) else (if (gand x1 (gxor x4 (-1))) = 0 then if x2 = (-1) then fb_248_107 x0 x1 x3 s else (f_154 x3 s).bind (gv1 (fun v9 s8 => (f_154 x2 s8).bind (gv1 (fun v11 s10 => if v9 < v11 then fb_248_107 x0 x1 x3 s10 else some (Sum.inl (x0, x1, x2, (g32 (x3 + 1)), s10)))))) else some (Sum.inl (x0, x1, x2, (g32 (x3 + 1)), s))).map Sum.inr
noncomputable def st_248_39 (y : (Nat × Int × Int × Int × Int × Int × gS)) : Option ((Nat × Int × Int × Int × Int × Int × gS) ⊕ ((Nat × Int × Int × Int × gS) ⊕ gO)) := sb_248_39 y.1 y.2.1 y.2.2.1 y.2.2.2.1 y.2.2.2.2.1 y.2.2.2.2.2.1 y.2.2.2.2.2.2
noncomputable def sb_248_20 (x0 : Nat) (x1 : Int) (x2 : Int) (x3 : Int) (s : gS) : Option ((Nat × Int × Int × Int × gS) ⊕ gO) :=
  if x3 < (gshl 1 (gI s (gR s x0 1) 6)) then gloop (st_248_39) (x0, x1, x2, x3, 0, 0, s) else (some ((1, x2, 0, s))).map Sum.inr
noncomputable def st_248_20 (y : (Nat × Int × Int × Int × gS)) : Option ((Nat × Int × Int × Int × gS) ⊕ gO) := sb_248_20 y.1 y.2.1 y.2.2.1 y.2.2.2.1 y.2.2.2.2
noncomputable def f_248 (a0 : Nat) (s : gS) : Option gO :=
  let s1 : gS := gw s a0 0 0; let v2 : Int := (g32 ((gshl 1 (gI s1 (gR s1 a0 1) 3)) - 1)); gloop (st_248_20) (a0, v2, (-1), 0, s1)
-- X12_mates
noncomputable def sb_249_23 (x0 : Nat) (x1 : Int) (x2 : Int) (x3 : Int) (s : gS) : Option ((Nat × Int × Int × Int × gS) ⊕ ((Nat × Int × Int × gS) ⊕ gO)) :=
  if x3 < (gI s (gR s x0 1) 4) then (f_156 x0 x2 2 s).bind (gv1 (fun v3 s2 => (f_156 x0 x3 2 s2).bind (gv1 (fun v5 s4 => if v3 = v5 then some (Sum.inl (x0, (g32 (x1 + 1)), x2, (g32 (x3 + 1)), s4)) else some (Sum.inl (x0, (g32 (x1 + 0)), x2, (g32 (x3 + 1)), s4)))))) else (some (Sum.inl (x0, x1, (g32 (x2 + 1)), s))).map Sum.inr
noncomputable def st_249_23 (y : (Nat × Int × Int × Int × gS)) : Option ((Nat × Int × Int × Int × gS) ⊕ ((Nat × Int × Int × gS) ⊕ gO)) := sb_249_23 y.1 y.2.1 y.2.2.1 y.2.2.2.1 y.2.2.2.2
noncomputable def sb_249_9 (x0 : Nat) (x1 : Int) (x2 : Int) (s : gS) : Option ((Nat × Int × Int × gS) ⊕ gO) :=
  if x2 < (gI s (gR s x0 1) 4) then gloop (st_249_23) (x0, x1, x2, (g32 (x2 + 1)), s) else (some ((1, x1, 0, s))).map Sum.inr
noncomputable def st_249_9 (y : (Nat × Int × Int × gS)) : Option ((Nat × Int × Int × gS) ⊕ gO) := sb_249_9 y.1 y.2.1 y.2.2.1 y.2.2.2
noncomputable def f_249 (a0 : Nat) (s : gS) : Option gO :=
  let s1 : gS := gw s a0 0 0; gloop (st_249_9) (a0, 0, 0, s1)
-- X12_knows
noncomputable def sb_250_22 (x0 : Nat) (x1 : Int) (x2 : Int) (x3 : Int) (s : gS) : Option ((Nat × Int × Int × Int × gS) ⊕ gO) :=
  if x3 < (gI s (gR s x0 1) 4) then if (gI s x0 0) = 0 then (f_156 x0 x3 2 s).bind (gv1 (fun v6 s5 => (f_153 v6 x1 s5).bind (gv1 (fun v8 s7 => if v8 = 0 then some (Sum.inl (x0, x1, (gor x2 0), (g32 (x3 + 1)), s7)) else let v10 : Int := (gor x2 (gshl 1 x3)); some (Sum.inl (x0, x1, v10, (g32 (x3 + 1)), s7)))))) else (some ((1, x2, 0, s))).map Sum.inr else (some ((1, x2, 0, s))).map Sum.inr
noncomputable def st_250_22 (y : (Nat × Int × Int × Int × gS)) : Option ((Nat × Int × Int × Int × gS) ⊕ gO) := sb_250_22 y.1 y.2.1 y.2.2.1 y.2.2.2.1 y.2.2.2.2
noncomputable def fb_250_15 (x0 : Nat) (x1 : Int) (w0 : Int) (w1 : Nat) (s : gS) : Option gO :=
  let s4 : gS := gw s w1 0 w0; gloop (st_250_22) (x0, x1, 0, 0, s4)
noncomputable def f_250 (a0 : Nat) (a1 : Int) (s : gS) : Option gO :=
  (f_150 a1 0 5 s).bind (gv1 (fun v2 s1 => if v2 = 0 then fb_250_15 a0 a1 1 a0 s1 else fb_250_15 a0 a1 0 a0 s1))
-- X12_dearest
noncomputable def fb_251_39 (x0 : Nat) (x2 : Int) (s : gS) : Option ((Nat × Int × Int × gS) ⊕ gO) :=
  some (Sum.inl (x0, x2, (g32 (x2 + 1)), s))
noncomputable def sb_251_9 (x0 : Nat) (x1 : Int) (x2 : Int) (s : gS) : Option ((Nat × Int × Int × gS) ⊕ gO) :=
  if x2 < (gI s (gR s x0 1) 3) then if x1 = (-1) then fb_251_39 x0 x2 s else (f_155 x0 x2 1 s).bind (gv1 (fun v3 s2 => (f_155 x0 x1 1 s2).bind (gv1 (fun v5 s4 => if v5 < v3 then fb_251_39 x0 x2 s4 else some (Sum.inl (x0, x1, (g32 (x2 + 1)), s4)))))) else (some ((1, x1, 0, s))).map Sum.inr
noncomputable def st_251_9 (y : (Nat × Int × Int × gS)) : Option ((Nat × Int × Int × gS) ⊕ gO) := sb_251_9 y.1 y.2.1 y.2.2.1 y.2.2.2
noncomputable def f_251 (a0 : Nat) (s : gS) : Option gO :=
  let s1 : gS := gw s a0 0 0; gloop (st_251_9) (a0, (-1), 0, s1)
-- X12_kept
noncomputable def fb_253_15 (w0 : Int) (w1 : Nat) (s : gS) : Option gO :=
  (f_252 w1 w0 s).bind (gv1 (fun v3 s2 => some ((1, v3, 0, s2))))
noncomputable def f_253 (a0 : Nat) (a1 : Int) (s : gS) : Option gO :=
  let s1 : gS := gw s a0 0 0; if a1 = 0 then fb_253_15 0 a0 s1 else fb_253_15 1 a0 s1
-- X12_trial
noncomputable def fb_254_62 (x0 : Nat) (w0 : Int) (s : gS) : Option gO :=
  (f_186 x0 s).bind (gv0 (fun s9 => some ((1, w0, 0, s9))))
noncomputable def fb_254_17 (x0 : Nat) (x1 : Int) (x2 : Int) (w0 : Int) (w1 : Nat) (s : gS) : Option gO :=
  let s4 : gS := gw s w1 0 w0; if 0 < (gI s4 x0 0) then some ((1, 0, 0, s4)) else (f_185 x0 s4).bind (gv0 (fun s5 => (f_202 x0 x1 1 s5).bind (gv1 (fun v8 s7 => if x2 = 0 then fb_254_62 x0 (gI s7 (gR s7 x0 1) 8) s7 else (f_252 x0 0 s7).bind (gv1 (fun v12 s11 => (f_154 v12 s11).bind (gv1 (fun v14 s13 => fb_254_62 x0 v14 s13))))))))
noncomputable def f_254 (a0 : Nat) (a1 : Int) (a2 : Int) (s : gS) : Option gO :=
  (f_150 a1 0 200 s).bind (gv1 (fun v2 s1 => if v2 = 0 then fb_254_17 a0 a1 a2 1 a0 s1 else fb_254_17 a0 a1 a2 0 a0 s1))
-- X12_span
noncomputable def sb_255_38 (x0 : Nat) (x1 : Int) (x2 : Int) (x3 : Int) (x4 : Int) (s : gS) : Option ((Nat × Int × Int × Int × Int × gS) ⊕ gO) :=
  if 6 < x4 then (some ((1, x3, 0, s))).map Sum.inr else let s7 : gS := gw s (gR s x0 1) 14 x4; (f_202 x0 x1 1 s7).bind (gv1 (fun v9 s8 => let v10 : Int := (gI s8 (gR s8 x0 1) 8); (f_186 x0 s8).bind (gv0 (fun s11 => if x3 = (-1) then some (Sum.inl (x0, x1, x2, v10, (g32 (x4 + 1)), s11)) else if x2 = 0 then (f_151 x3 v10 s11).bind (gv1 (fun v14 s13 => some (Sum.inl (x0, x1, x2, v14, (g32 (x4 + 1)), s13)))) else (f_152 x3 v10 s11).bind (gv1 (fun v16 s15 => some (Sum.inl (x0, x1, x2, v16, (g32 (x4 + 1)), s15))))))))
noncomputable def st_255_38 (y : (Nat × Int × Int × Int × Int × gS)) : Option ((Nat × Int × Int × Int × Int × gS) ⊕ gO) := sb_255_38 y.1 y.2.1 y.2.2.1 y.2.2.2.1 y.2.2.2.2.1 y.2.2.2.2.2
noncomputable def fb_255_17 (x0 : Nat) (x1 : Int) (x2 : Int) (w0 : Int) (w1 : Nat) (s : gS) : Option gO :=
  let s4 : gS := gw s w1 0 w0; if 0 < (gI s4 x0 0) then some ((1, 0, 0, s4)) else (f_185 x0 s4).bind (gv0 (fun s5 => gloop (st_255_38) (x0, x1, x2, (-1), 1, s5)))
noncomputable def f_255 (a0 : Nat) (a1 : Int) (a2 : Int) (s : gS) : Option gO :=
  (f_150 a1 0 200 s).bind (gv1 (fun v2 s1 => if v2 = 0 then fb_255_17 a0 a1 a2 1 a0 s1 else fb_255_17 a0 a1 a2 0 a0 s1))
-- X12_logged
noncomputable def f_256 (a0 : Nat) (a1 : Int) (a2 : Int) (s : gS) : Option gO :=
  gchk (g32 ((g32 (100 + (g32 (4 * a1)))) + a2)) 740 (some ((1, (gI s (gR s a0 1) ((g32 ((g32 (100 + (g32 (4 * a1)))) + a2)) : Int).toNat), 0, s)))
-- X12_led
noncomputable def fb_257_72 (x0 : Nat) (x1 : Int) (x2 : Int) (x4 : Int) (w0 : Int) (s : gS) : Option ((Nat × Int × Int × Int × Int × gS) ⊕ gO) :=
  some (Sum.inl (x0, x1, x2, (g32 (w0 + 0)), (g32 (x4 + 1)), s))
noncomputable def sb_257_22 (x0 : Nat) (x1 : Int) (x2 : Int) (x3 : Int) (x4 : Int) (s : gS) : Option ((Nat × Int × Int × Int × Int × gS) ⊕ gO) :=
  if x4 < (gI s (gR s x0 1) 13) then if (gI s x0 0) = 0 then (f_256 x0 x4 1 s).bind (gv1 (fun v6 s5 => if v6 = x1 then if x2 = 0 then some (Sum.inl (x0, x1, x2, (g32 (x3 + 1)), (g32 (x4 + 1)), s5)) else (f_256 x0 x4 2 s5).bind (gv1 (fun v8 s7 => if v8 = 2 then some (Sum.inl (x0, x1, x2, (g32 (x3 + 1)), (g32 (x4 + 1)), s7)) else fb_257_72 x0 x1 x2 x4 x3 s7)) else fb_257_72 x0 x1 x2 x4 x3 s5)) else (some ((1, x3, 0, s))).map Sum.inr else (some ((1, x3, 0, s))).map Sum.inr
noncomputable def st_257_22 (y : (Nat × Int × Int × Int × Int × gS)) : Option ((Nat × Int × Int × Int × Int × gS) ⊕ gO) := sb_257_22 y.1 y.2.1 y.2.2.1 y.2.2.2.1 y.2.2.2.2.1 y.2.2.2.2.2
noncomputable def fb_257_14 (x0 : Nat) (x1 : Int) (x2 : Int) (w0 : Int) (w1 : Nat) (s : gS) : Option gO :=
  let s4 : gS := gw s w1 0 w0; gloop (st_257_22) (x0, x1, x2, 0, 0, s4)
noncomputable def f_257 (a0 : Nat) (a1 : Int) (a2 : Int) (s : gS) : Option gO :=
  (f_162 a0 a1 s).bind (gv1 (fun v2 s1 => if v2 = 0 then fb_257_14 a0 a1 a2 1 a0 s1 else fb_257_14 a0 a1 a2 0 a0 s1))
-- X12_log
noncomputable def fb_258_15 (x0 : Nat) (x1 : Int) (x2 : Int) (w0 : Int) (w1 : Nat) (s : gS) : Option gO :=
  let s4 : gS := gw s w1 0 w0; if 0 < (gI s4 x0 0) then some ((1, 0, 0, s4)) else (f_150 x1 0 (g32 ((gI s4 (gR s4 x0 1) 13) - 1)) s4).bind (gv1 (fun v6 s5 => if v6 = 0 then some ((1, (-1), 0, s5)) else (f_256 x0 x1 x2 s5).bind (gv1 (fun v9 s8 => some ((1, v9, 0, s8))))))
noncomputable def f_258 (a0 : Nat) (a1 : Int) (a2 : Int) (s : gS) : Option gO :=
  (f_150 a2 0 3 s).bind (gv1 (fun v2 s1 => if v2 = 0 then fb_258_15 a0 a1 a2 1 a0 s1 else fb_258_15 a0 a1 a2 0 a0 s1))
-- X12_seed
noncomputable def f_259 (a0 : Nat) (a1 : Int) (s : gS) : Option gO :=
  let s1 : gS := gw s a0 0 0; let v2 : Int := (gI s1 (gR s1 a0 1) 14); let s3 : gS := gw s1 (gR s1 a0 1) 14 a1; some ((1, v2, 0, s3))
-- X12_undo
noncomputable def sb_260_26 (x0 : Nat) (x1 : Int) (s : gS) : Option ((Nat × Int × gS) ⊕ gO) :=
  if x1 < 340 then gchk (g32 ((g32 (340 * (gI s x0 6))) + x1)) 4080 (gchk x1 740 (let s3 : gS := gw s (gR s x0 1) (x1 : Int).toNat (gI s (gR s x0 5) ((g32 ((g32 (340 * (gI s x0 6))) + x1)) : Int).toNat); some (Sum.inl (x0, (g32 (x1 + 1)), s3)))) else (some ((1, 1, 0, s))).map Sum.inr
noncomputable def st_260_26 (y : (Nat × Int × gS)) : Option ((Nat × Int × gS) ⊕ gO) := sb_260_26 y.1 y.2.1 y.2.2
noncomputable def f_260 (a0 : Nat) (s : gS) : Option gO :=
  let s1 : gS := gw s a0 0 0; if (gI s1 a0 6) = 0 then some ((1, 0, 0, s1)) else let s2 : gS := gw s1 a0 6 (g32 ((gI s1 a0 6) - 1)); gloop (st_260_26) (a0, 0, s2)
-- X12_image
noncomputable def sb_261_7 (x0 : Nat) (x1 : Int) (s : gS) : Option ((Nat × Int × gS) ⊕ gO) :=
  if x1 < 740 then gchk x1 740 (gchk x1 740 (let s2 : gS := gw s (gR s x0 2) (x1 : Int).toNat (gI s (gR s x0 1) (x1 : Int).toNat); some (Sum.inl (x0, (g32 (x1 + 1)), s2)))) else (gbool 1 (let s3 : gS := gw s x0 3 1; some ((0, 0, 0, s3)))).map Sum.inr
noncomputable def st_261_7 (y : (Nat × Int × gS)) : Option ((Nat × Int × gS) ⊕ gO) := sb_261_7 y.1 y.2.1 y.2.2
noncomputable def f_261 (a0 : Nat) (s : gS) : Option gO :=
  let s1 : gS := gw s a0 0 0; gloop (st_261_7) (a0, 0, s1)
-- X12_back
noncomputable def sb_262_16 (x0 : Nat) (x1 : Int) (s : gS) : Option ((Nat × Int × gS) ⊕ gO) :=
  if x1 < 740 then gchk x1 740 (gchk x1 740 (let s2 : gS := gw s (gR s x0 1) (x1 : Int).toNat (gI s (gR s x0 2) (x1 : Int).toNat); some (Sum.inl (x0, (g32 (x1 + 1)), s2)))) else (let s3 : gS := gw s x0 6 0; some ((1, 1, 0, s3))).map Sum.inr
noncomputable def st_262_16 (y : (Nat × Int × gS)) : Option ((Nat × Int × gS) ⊕ gO) := sb_262_16 y.1 y.2.1 y.2.2
noncomputable def f_262 (a0 : Nat) (s : gS) : Option gO :=
  let s1 : gS := gw s a0 0 0; if (gI s1 a0 3) = 0 then some ((1, 0, 0, s1)) else gloop (st_262_16) (a0, 0, s1)
-- X12_count
noncomputable def sb_263_95 (x0 : Nat) (x2 : Int) (x3 : Int) (s : gS) : Option ((Nat × Int × Int × gS) ⊕ gO) :=
  if x3 < (gI s (gR s x0 1) 4) then (f_165 x0 x3 s).bind (gv1 (fun v9 s8 => if v9 = 0 then some (Sum.inl (x0, (g32 (x2 + 0)), (g32 (x3 + 1)), s8)) else (f_156 x0 x3 0 s8).bind (gv1 (fun v12 s11 => some (Sum.inl (x0, (g32 (x2 + v12)), (g32 (x3 + 1)), s11)))))) else (some ((1, x2, 0, s))).map Sum.inr
noncomputable def st_263_95 (y : (Nat × Int × Int × gS)) : Option ((Nat × Int × Int × gS) ⊕ gO) := sb_263_95 y.1 y.2.1 y.2.2.1 y.2.2.2
noncomputable def f_263 (a0 : Nat) (a1 : Int) (s : gS) : Option gO :=
  let s1 : gS := gw s a0 0 0; (f_150 a1 0 3 s1).bind (gv1 (fun v3 s2 => if v3 = 0 then if a1 = 4 then some ((1, (gI s2 (gR s2 a0 1) 0), 0, s2)) else if a1 = 5 then some ((1, (gI s2 (gR s2 a0 1) 1), 0, s2)) else if a1 = 6 then some ((1, (gI s2 (gR s2 a0 1) 7), 0, s2)) else (f_150 a1 7 11 s2).bind (gv1 (fun v6 s5 => if v6 = 0 then if a1 = 12 then gloop (st_263_95) (a0, 0, 0, s5) else if a1 = 13 then some ((1, (gI s5 (gR s5 a0 1) 13), 0, s5)) else if a1 = 14 then some ((1, (gI s5 a0 6), 0, s5)) else some ((1, (-1), 0, s5)) else gchk (g32 ((g32 (8 + a1)) - 7)) 740 (some ((1, (gI s5 (gR s5 a0 1) ((g32 ((g32 (8 + a1)) - 7)) : Int).toNat), 0, s5))))) else gchk (g32 (3 + a1)) 740 (some ((1, (gI s2 (gR s2 a0 1) ((g32 (3 + a1)) : Int).toNat), 0, s2)))))
-- L_book
noncomputable def f_276 (a0 : Nat) (a1 : Nat) (s : gS) : Option gO :=
  (f_89 a0 s).bind (gc1 (fun k s1 => if k = 0 then some ((1, 1, 0, s1)) else if k = 1 then some ((1, 2, 0, s1)) else none) (fun v2 s1 => gchk 0 1 (let s3 : gS := gw s1 a1 (0 : Int).toNat v2; some ((1, 0, 0, s3)))))
-- L_law
noncomputable def f_277 (a0 : Nat) (a1 : Nat) (s : gS) : Option gO :=
  (f_90 a0 s).bind (gc1 (fun k s1 => if k = 0 then some ((1, 1, 0, s1)) else none) (fun v2 s1 => gchk 0 1 (let s3 : gS := gw s1 a1 (0 : Int).toNat v2; some ((1, 0, 0, s3)))))
-- L_step
noncomputable def f_278 (a0 : Nat) (a1 : Int) (a2 : Int) (a3 : Nat) (s : gS) : Option gO :=
  (f_92 a0 a1 a2 s).bind (gc1 (fun k s1 => if k = 3 then some ((1, 1, 0, s1)) else if k = 2 then some ((1, 2, 0, s1)) else none) (fun v2 s1 => gchk 0 1 (let s3 : gS := gw s1 a3 (0 : Int).toNat v2; some ((1, 0, 0, s3)))))
-- L_man
noncomputable def f_279 (a0 : Nat) (a1 : Int) (a2 : Int) (a3 : Nat) (s : gS) : Option gO :=
  (f_93 a0 a1 a2 s).bind (gc1 (fun k s1 => if k = 3 then some ((1, 1, 0, s1)) else if k = 2 then some ((1, 2, 0, s1)) else none) (fun v2 s1 => gchk 0 1 (let s3 : gS := gw s1 a3 (0 : Int).toNat v2; some ((1, 0, 0, s3)))))
-- L_test
noncomputable def f_280 (a0 : Nat) (a1 : Int) (a2 : Int) (a3 : Nat) (s : gS) : Option gO :=
  (f_94 a0 a1 a2 s).bind (gc1 (fun k s1 => if k = 3 then some ((1, 1, 0, s1)) else none) (fun v2 s1 => gchk 0 1 (let s3 : gS := gw s1 a3 (0 : Int).toNat v2; some ((1, 0, 0, s3)))))
-- L_rival
noncomputable def f_281 (a0 : Nat) (a1 : Int) (a2 : Int) (a3 : Nat) (s : gS) : Option gO :=
  (f_95 a0 a1 a2 s).bind (gc1 (fun k s1 => if k = 3 then some ((1, 1, 0, s1)) else none) (fun v2 s1 => gchk 0 1 (let s3 : gS := gw s1 a3 (0 : Int).toNat v2; some ((1, 0, 0, s3)))))
-- L_proof
noncomputable def f_282 (a0 : Nat) (a1 : Int) (a2 : Nat) (s : gS) : Option gO :=
  (f_96 a0 a1 s).bind (gc1 (fun k s1 => if k = 3 then some ((1, 1, 0, s1)) else if k = 4 then some ((1, 2, 0, s1)) else none) (fun v2 s1 => gchk 0 1 (let s3 : gS := gw s1 a2 (0 : Int).toNat v2; some ((1, 0, 0, s3)))))
-- L_tried
noncomputable def f_283 (a0 : Nat) (a1 : Int) (a2 : Int) (a3 : Nat) (s : gS) : Option gO :=
  (f_97 a0 a1 a2 s).bind (gc1 (fun k s1 => if k = 3 then some ((1, 1, 0, s1)) else if k = 4 then some ((1, 2, 0, s1)) else none) (fun v2 s1 => if v2 = 0 then gchk 0 1 (let s3 : gS := gw s1 a3 (0 : Int).toNat 0; some ((1, 0, 0, s3))) else gchk 0 1 (let s4 : gS := gw s1 a3 (0 : Int).toNat 1; some ((1, 0, 0, s4)))))
-- L_flee
noncomputable def f_284 (a0 : Nat) (a1 : Int) (a2 : Nat) (s : gS) : Option gO :=
  (f_98 a0 a1 s).bind (gc1 (fun k s1 => if k = 3 then some ((1, 1, 0, s1)) else if k = 4 then some ((1, 2, 0, s1)) else none) (fun v2 s1 => gchk 0 1 (let s3 : gS := gw s1 a2 (0 : Int).toNat v2; some ((1, 0, 0, s3)))))
-- L_sell
noncomputable def f_285 (a0 : Nat) (a1 : Int) (a2 : Int) (a3 : Int) (a4 : Nat) (s : gS) : Option gO :=
  (f_99 a0 a1 a2 a3 s).bind (gc1 (fun k s1 => if k = 3 then some ((1, 1, 0, s1)) else if k = 0 then some ((1, 2, 0, s1)) else if k = 4 then some ((1, 3, 0, s1)) else none) (fun v2 s1 => gchk 0 1 (let s3 : gS := gw s1 a4 (0 : Int).toNat v2; some ((1, 0, 0, s3)))))
-- L_part
noncomputable def f_286 (a0 : Nat) (a1 : Int) (a2 : Int) (a3 : Nat) (s : gS) : Option gO :=
  (f_100 a0 a1 a2 s).bind (gc1 (fun k s1 => if k = 3 then some ((1, 1, 0, s1)) else if k = 4 then some ((1, 2, 0, s1)) else none) (fun v2 s1 => gchk 0 1 (let s3 : gS := gw s1 a3 (0 : Int).toNat v2; some ((1, 0, 0, s3)))))
-- L_pay
noncomputable def f_287 (a0 : Nat) (a1 : Int) (a2 : Nat) (s : gS) : Option gO :=
  (f_101 a0 a1 s).bind (gc1 (fun k s1 => if k = 0 then some ((1, 1, 0, s1)) else none) (fun v2 s1 => gchk 0 1 (let s3 : gS := gw s1 a2 (0 : Int).toNat v2; some ((1, 0, 0, s3)))))
-- L_days
noncomputable def f_288 (a0 : Nat) (a1 : Int) (a2 : Nat) (s : gS) : Option gO :=
  (f_102 a0 a1 s).bind (gc1 (fun k s1 => if k = 0 then some ((1, 1, 0, s1)) else none) (fun v2 s1 => gchk 0 1 (let s3 : gS := gw s1 a2 (0 : Int).toNat v2; some ((1, 0, 0, s3)))))
-- L_ahead
noncomputable def f_289 (a0 : Nat) (a1 : Int) (a2 : Int) (a3 : Int) (a4 : Nat) (s : gS) : Option gO :=
  (f_103 a0 a1 a2 a3 s).bind (gc1 (fun k s1 => if k = 3 then some ((1, 1, 0, s1)) else if k = 0 then some ((1, 2, 0, s1)) else if k = 2 then some ((1, 3, 0, s1)) else none) (fun v2 s1 => gchk 0 1 (let s3 : gS := gw s1 a4 (0 : Int).toNat v2; some ((1, 0, 0, s3)))))
-- L_owes
noncomputable def f_290 (a0 : Nat) (a1 : Int) (a2 : Nat) (s : gS) : Option gO :=
  (f_104 a0 a1 s).bind (gc1 (fun k s1 => if k = 0 then some ((1, 1, 0, s1)) else none) (fun v2 s1 => gchk 0 1 (let s3 : gS := gw s1 a2 (0 : Int).toNat v2; some ((1, 0, 0, s3)))))
-- L_chest
noncomputable def f_291 (a0 : Nat) (a1 : Int) (a2 : Nat) (s : gS) : Option gO :=
  (f_105 a0 a1 s).bind (gc1 (fun k s1 => if k = 0 then some ((1, 1, 0, s1)) else none) (fun v2 s1 => gchk 0 1 (let s3 : gS := gw s1 a2 (0 : Int).toNat v2; some ((1, 0, 0, s3)))))
-- L_lives
noncomputable def f_292 (a0 : Nat) (a1 : Int) (a2 : Nat) (s : gS) : Option gO :=
  (f_106 a0 a1 s).bind (gc1 (fun k s1 => if k = 3 then some ((1, 1, 0, s1)) else none) (fun v2 s1 => gchk 0 1 (let s3 : gS := gw s1 a2 (0 : Int).toNat v2; some ((1, 0, 0, s3)))))
-- L_done
noncomputable def f_293 (a0 : Nat) (a1 : Int) (a2 : Nat) (s : gS) : Option gO :=
  (f_107 a0 a1 s).bind (gc1 (fun k s1 => if k = 3 then some ((1, 1, 0, s1)) else none) (fun v2 s1 => gchk 0 1 (let s3 : gS := gw s1 a2 (0 : Int).toNat v2; some ((1, 0, 0, s3)))))
-- L_longest
noncomputable def f_294 (a0 : Nat) (a1 : Int) (a2 : Int) (a3 : Nat) (s : gS) : Option gO :=
  (f_108 a0 a1 a2 s).bind (gc1 (fun k s1 => if k = 3 then some ((1, 1, 0, s1)) else if k = 0 then some ((1, 2, 0, s1)) else none) (fun v2 s1 => gchk 0 1 (let s3 : gS := gw s1 a3 (0 : Int).toNat v2; some ((1, 0, 0, s3)))))
-- L_needs
noncomputable def f_295 (a0 : Nat) (a1 : Int) (a2 : Int) (a3 : Nat) (s : gS) : Option gO :=
  (f_109 a0 a1 a2 s).bind (gc1 (fun k s1 => if k = 3 then some ((1, 1, 0, s1)) else if k = 0 then some ((1, 2, 0, s1)) else none) (fun v2 s1 => gchk 0 1 (let s3 : gS := gw s1 a3 (0 : Int).toNat v2; some ((1, 0, 0, s3)))))
-- L_stopped
noncomputable def f_296 (a0 : Nat) (a1 : Int) (a2 : Int) (a3 : Nat) (s : gS) : Option gO :=
  (f_110 a0 a1 a2 s).bind (gc1 (fun k s1 => if k = 3 then some ((1, 1, 0, s1)) else none) (fun v2 s1 => if v2 = 0 then gchk 0 1 (let s3 : gS := gw s1 a3 (0 : Int).toNat 0; some ((1, 0, 0, s3))) else gchk 0 1 (let s4 : gS := gw s1 a3 (0 : Int).toNat 1; some ((1, 0, 0, s4)))))
-- L_fewest
noncomputable def f_297 (a0 : Nat) (a1 : Int) (a2 : Nat) (s : gS) : Option gO :=
  (f_111 a0 a1 s).bind (gc1 (fun k s1 => if k = 3 then some ((1, 1, 0, s1)) else none) (fun v2 s1 => gchk 0 1 (let s3 : gS := gw s1 a2 (0 : Int).toNat v2; some ((1, 0, 0, s3)))))
-- L_cheapest
noncomputable def f_298 (a0 : Nat) (a1 : Int) (a2 : Int) (a3 : Nat) (s : gS) : Option gO :=
  (f_112 a0 a1 a2 s).bind (gc1 (fun k s1 => if k = 3 then some ((1, 1, 0, s1)) else none) (fun v2 s1 => gchk 0 1 (let s3 : gS := gw s1 a3 (0 : Int).toNat v2; some ((1, 0, 0, s3)))))
-- L_slips
noncomputable def f_299 (a0 : Nat) (a1 : Int) (a2 : Nat) (s : gS) : Option gO :=
  (f_113 a0 a1 s).bind (gc1 (fun k s1 => if k = 3 then some ((1, 1, 0, s1)) else none) (fun v2 s1 => gchk 0 1 (let s3 : gS := gw s1 a2 (0 : Int).toNat v2; some ((1, 0, 0, s3)))))
-- L_seen
noncomputable def f_300 (a0 : Nat) (a1 : Int) (a2 : Nat) (s : gS) : Option gO :=
  (f_114 a0 a1 s).bind (gc1 (fun k s1 => if k = 0 then some ((1, 1, 0, s1)) else none) (fun v2 s1 => gchk 0 1 (let s3 : gS := gw s1 a2 (0 : Int).toNat v2; some ((1, 0, 0, s3)))))
-- L_ask
noncomputable def f_301 (a0 : Nat) (a1 : Nat) (s : gS) : Option gO :=
  (f_115 a0 s).bind (gc1 (fun k s1 => if k = 0 then some ((1, 1, 0, s1)) else none) (fun v2 s1 => gchk 0 1 (let s3 : gS := gw s1 a1 (0 : Int).toNat v2; some ((1, 0, 0, s3)))))
-- L_rests
noncomputable def f_302 (a0 : Nat) (a1 : Int) (a2 : Int) (a3 : Nat) (s : gS) : Option gO :=
  (f_116 a0 a1 a2 s).bind (gc1 (fun k s1 => if k = 3 then some ((1, 1, 0, s1)) else none) (fun v2 s1 => gchk 0 1 (let s3 : gS := gw s1 a3 (0 : Int).toNat v2; some ((1, 0, 0, s3)))))
-- L_odds
noncomputable def f_303 (a0 : Nat) (a1 : Int) (a2 : Int) (a3 : Nat) (s : gS) : Option gO :=
  (f_117 a0 a1 a2 s).bind (gc1 (fun k s1 => if k = 0 then some ((1, 1, 0, s1)) else none) (fun v2 s1 => gchk 0 1 (let s3 : gS := gw s1 a3 (0 : Int).toNat v2; some ((1, 0, 0, s3)))))
-- L_sold
noncomputable def f_304 (a0 : Nat) (a1 : Int) (a2 : Nat) (s : gS) : Option gO :=
  (f_119 a0 a1 s).bind (gc1 (fun k s1 => if k = 3 then some ((1, 1, 0, s1)) else none) (fun v2 s1 => gchk 0 1 (let s3 : gS := gw s1 a2 (0 : Int).toNat v2; some ((1, 0, 0, s3)))))
-- L_knows
noncomputable def f_305 (a0 : Nat) (a1 : Int) (a2 : Nat) (s : gS) : Option gO :=
  (f_122 a0 a1 s).bind (gc1 (fun k s1 => if k = 0 then some ((1, 1, 0, s1)) else none) (fun v2 s1 => gchk 0 1 (let s3 : gS := gw s1 a2 (0 : Int).toNat v2; some ((1, 0, 0, s3)))))
-- L_trial
noncomputable def f_306 (a0 : Nat) (a1 : Int) (a2 : Int) (a3 : Nat) (s : gS) : Option gO :=
  (f_125 a0 a1 a2 s).bind (gc1 (fun k s1 => if k = 0 then some ((1, 1, 0, s1)) else none) (fun v2 s1 => gchk 0 1 (let s3 : gS := gw s1 a3 (0 : Int).toNat v2; some ((1, 0, 0, s3)))))
-- L_span
noncomputable def f_307 (a0 : Nat) (a1 : Int) (a2 : Int) (a3 : Nat) (s : gS) : Option gO :=
  (f_126 a0 a1 a2 s).bind (gc1 (fun k s1 => if k = 0 then some ((1, 1, 0, s1)) else none) (fun v2 s1 => gchk 0 1 (let s3 : gS := gw s1 a3 (0 : Int).toNat v2; some ((1, 0, 0, s3)))))
-- L_led
noncomputable def f_308 (a0 : Nat) (a1 : Int) (a2 : Int) (a3 : Nat) (s : gS) : Option gO :=
  (f_127 a0 a1 a2 s).bind (gc1 (fun k s1 => if k = 3 then some ((1, 1, 0, s1)) else none) (fun v2 s1 => gchk 0 1 (let s3 : gS := gw s1 a3 (0 : Int).toNat v2; some ((1, 0, 0, s3)))))
-- L_log
noncomputable def f_309 (a0 : Nat) (a1 : Int) (a2 : Int) (a3 : Nat) (s : gS) : Option gO :=
  (f_128 a0 a1 a2 s).bind (gc1 (fun k s1 => if k = 2 then some ((1, 1, 0, s1)) else none) (fun v2 s1 => gchk 0 1 (let s3 : gS := gw s1 a3 (0 : Int).toNat v2; some ((1, 0, 0, s3)))))
-- X12_thrown
noncomputable def f_310 (a0 : Nat) (s : gS) : Option gO :=
  some ((1, (gI s a0 0), 0, s))
