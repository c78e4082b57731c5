section GoH
variable {X : gX} {T : es_M} {m d pc pc' : Nat} {cd cd' : List es_I} {L L' : List (Nat × gV)} {S S' : List gV} {s s' : gS} {cs ss : Nat} {Q : Type} {x y : Option Q} {κ : Q → Option gO}
/-- a branch: the row's own test -/
theorem gbr (op : es_Op) {v w : Int} (F : es_F) (hv : gc32 v) (hw : gc32 w) : es_br F op (0, eI v) (0, eI w) = bif gcp op v w then [F] else [] := by
  show (bif es_cmp op (es_bz (eI v)) (es_bz (eI w)) then [F] else []) = _
  rw [gcpk op hv hw]
theorem gng (op : es_Op) (v w : Int) : gcp (es_ng op) v w = !gcp op v w := by
  cases op
  · rfl
  · show decide (v = w) = !!decide (v = w); rw [Bool.not_not]
  · show decide (w ≤ v) = !decide (v < w)
    by_cases h : v < w
    · rw [decide_eq_true h, decide_eq_false (by omega)]; rfl
    · rw [decide_eq_false h, decide_eq_true (by omega)]; rfl
  · show decide (v < w) = !decide (w ≤ v)
    by_cases h : v < w
    · rw [decide_eq_true h, decide_eq_false (by omega)]; rfl
    · rw [decide_eq_false h, decide_eq_true (by omega)]; rfl
  · show decide (v ≤ w) = !decide (w < v)
    by_cases h : w < v
    · rw [decide_eq_true h, decide_eq_false (by omega)]; rfl
    · rw [decide_eq_false h, decide_eq_true (by omega)]; rfl
  · show decide (w < v) = !decide (v ≤ w)
    by_cases h : w < v
    · rw [decide_eq_true h, decide_eq_false (by omega)]; rfl
    · rw [decide_eq_false h, decide_eq_true (by omega)]; rfl
theorem gs_if2 {ME : Nat → es_M} {strs : List (String × Nat × String)} {SL : Nat} {ih : Nat → es_K → Option (List es_E)} {M : Nat} {Le : es_L} {Se : List es_V} {AH : List es_O} {F : es_F} {op : es_Op} {off : Int} {v w : Int} {t : Nat} (hat : es_at (es_tab (ME M)) pc = some (pc, .if_icmp op off, 3, [])) (hv : gc32 v) (hw : gc32 w) (ht : es_to pc off = some t) :
    es_step ME strs SL ih M (pc, Le, (0, eI w) :: (0, eI v) :: Se, AH, F, cs, ss) = (bif gcp op v w then ih M (t, Le, Se, AH, F, cs, ss) else ih M (pc + 3, Le, Se, AH, F, cs, ss)) := by
  unfold es_step
  dsimp only
  rw [hat]
  dsimp only
  rw [show es_pure (es_mL (ME M)) (Instr.if_icmp op off) pc Le ((0, eI w) :: (0, eI v) :: Se) F = none from rfl, show es_hs SL (ME M) (pc, Instr.if_icmp op off, 3, []) (pc, Le, (0, eI w) :: (0, eI v) :: Se, AH, F, cs, ss) = none from rfl, ht]
  dsimp only
  rw [show (es_ti (0, eI v) && es_ti (0, eI w)) = true from rfl]
  dsimp only [cond_true]
  rw [gbr op F hv hw, gbr (es_ng op) F hv hw, gng]
  cases gcp op v w
  · simp only [es_cat, cond_false, Bool.not_false, cond_true]
    cases ih M (pc + 3, Le, Se, AH, F, cs, ss) with
    | none => rfl
    | some z => simp
  · simp only [es_cat, cond_false, Bool.not_true, cond_true]
    cases ih M (t, Le, Se, AH, F, cs, ss) with
    | none => rfl
    | some z => simp
theorem gs_if1 {ME : Nat → es_M} {strs : List (String × Nat × String)} {SL : Nat} {ih : Nat → es_K → Option (List es_E)} {M : Nat} {Le : es_L} {Se : List es_V} {AH : List es_O} {F : es_F} {op : es_Op} {off : Int} {v : Int} {t : Nat} (hat : es_at (es_tab (ME M)) pc = some (pc, .ifCond op off, 3, [])) (hv : gc32 v) (ht : es_to pc off = some t) :
    es_step ME strs SL ih M (pc, Le, (0, eI v) :: Se, AH, F, cs, ss) = (bif gcp op v 0 then ih M (t, Le, Se, AH, F, cs, ss) else ih M (pc + 3, Le, Se, AH, F, cs, ss)) := by
  have e0 : ((0, 0) : es_V) = (0, eI 0) := rfl
  unfold es_step
  dsimp only
  rw [hat]
  dsimp only
  rw [show es_pure (es_mL (ME M)) (Instr.ifCond op off) pc Le ((0, eI v) :: Se) F = none from rfl, show es_hs SL (ME M) (pc, Instr.ifCond op off, 3, []) (pc, Le, (0, eI v) :: Se, AH, F, cs, ss) = none from rfl, ht]
  dsimp only
  rw [show es_ti (0, eI v) = true from rfl]
  dsimp only [cond_true]
  rw [e0, gbr op F hv (by unfold gc32; decide), gbr (es_ng op) F hv (by unfold gc32; decide), gng]
  cases gcp op v 0
  · simp only [es_cat, cond_false, Bool.not_false, cond_true]
    cases ih M (pc + 3, Le, Se, AH, F, cs, ss) with
    | none => rfl
    | some z => simp
  · simp only [es_cat, cond_false, Bool.not_true, cond_true]
    cases ih M (t, Le, Se, AH, F, cs, ss) with
    | none => rfl
    | some z => simp
theorem g_br2 (ok : gOK X) {op : es_Op} {off : Int} {v w : Int} {a b : Nat} {t : Nat} (ht : es_to pc off = some t) (k1 : gcp op v w = true → Go X T m d t [] L S s cs ss x κ) (k2 : gcp op v w = false → Go X T m d (pc + 3) cd L S s cs ss x κ) : Go X T m d pc ((pc, .if_icmp op off, 3, []) :: cd) L ((0, w, b) :: (0, v, a) :: S) s cs ss x κ := by
  intro h0 hm hc hw hl hs r hr
  have h1 := gS2 hs
  have h2 := gS2 h1.2
  cases hb : gcp op v w
  · refine g_st ok (fun ih => ?_) (k2 hb h0 hm (gch_hd hc).2 hw hl h2.2 r hr)
    rw [show ((0, w, b) :: (0, v, a) :: S).map gf = (0, eI w) :: (0, eI v) :: S.map gf from rfl, gs_if2 (gtab h0 hm (gch_hd hc).1) (gok_i.mp h2.1) (gok_i.mp h1.1) ht, hb]
    rfl
  · refine g_st ok (fun ih => ?_) (k1 hb h0 hm rfl hw hl h2.2 r hr)
    rw [show ((0, w, b) :: (0, v, a) :: S).map gf = (0, eI w) :: (0, eI v) :: S.map gf from rfl, gs_if2 (gtab h0 hm (gch_hd hc).1) (gok_i.mp h2.1) (gok_i.mp h1.1) ht, hb]
    rfl
theorem g_br1 (ok : gOK X) {op : es_Op} {off : Int} {v : Int} {a : Nat} {t : Nat} (ht : es_to pc off = some t) (k1 : gcp op v 0 = true → Go X T m d t [] L S s cs ss x κ) (k2 : gcp op v 0 = false → Go X T m d (pc + 3) cd L S s cs ss x κ) : Go X T m d pc ((pc, .ifCond op off, 3, []) :: cd) L ((0, v, a) :: S) s cs ss x κ := by
  intro h0 hm hc hw hl hs r hr
  have h1 := gS2 hs
  cases hb : gcp op v 0
  · refine g_st ok (fun ih => ?_) (k2 hb h0 hm (gch_hd hc).2 hw hl h1.2 r hr)
    rw [show ((0, v, a) :: S).map gf = (0, eI v) :: S.map gf from rfl, gs_if1 (gtab h0 hm (gch_hd hc).1) (gok_i.mp h1.1) ht, hb]
    rfl
  · refine g_st ok (fun ih => ?_) (k1 hb h0 hm rfl hw hl h1.2 r hr)
    rw [show ((0, v, a) :: S).map gf = (0, eI v) :: S.map gf from rfl, gs_if1 (gtab h0 hm (gch_hd hc).1) (gok_i.mp h1.1) ht, hb]
    rfl
section Br
variable {off : Int} {v w : Int} {a b t : Nat}
theorem g_ic_eq (ok : gOK X) (ht : es_to pc off = some t) (k1 : v = w → Go X T m d t [] L S s cs ss x κ) (k2 : ¬ v = w → Go X T m d (pc + 3) cd L S s cs ss y κ) : Go X T m d pc ((pc, .if_icmp .eq off, 3, []) :: cd) L ((0, w, b) :: (0, v, a) :: S) s cs ss (if v = w then x else y) κ := by
  by_cases h : v = w
  · rw [if_pos h]; exact g_br2 ok ht (fun _ => k1 h) (fun hb => absurd h (of_decide_eq_false hb))
  · rw [if_neg h]; exact g_br2 ok ht (fun hb => absurd (of_decide_eq_true hb) h) (fun _ => k2 h)
theorem g_ic_ne (ok : gOK X) (ht : es_to pc off = some t) (k1 : v = w → Go X T m d (pc + 3) cd L S s cs ss x κ) (k2 : ¬ v = w → Go X T m d t [] L S s cs ss y κ) : Go X T m d pc ((pc, .if_icmp .ne off, 3, []) :: cd) L ((0, w, b) :: (0, v, a) :: S) s cs ss (if v = w then x else y) κ := by
  by_cases h : v = w
  · rw [if_pos h]; exact g_br2 ok ht (fun hb => absurd h (of_decide_eq_false (by simpa [gcp] using hb))) (fun _ => k1 h)
  · rw [if_neg h]; exact g_br2 ok ht (fun _ => k2 h) (fun hb => absurd (of_decide_eq_true (by simpa [gcp] using hb)) h)
theorem g_ic_lt (ok : gOK X) (ht : es_to pc off = some t) (k1 : v < w → Go X T m d t [] L S s cs ss x κ) (k2 : ¬ v < w → Go X T m d (pc + 3) cd L S s cs ss y κ) : Go X T m d pc ((pc, .if_icmp .lt off, 3, []) :: cd) L ((0, w, b) :: (0, v, a) :: S) s cs ss (if v < w then x else y) κ := by
  by_cases h : v < w
  · rw [if_pos h]; exact g_br2 ok ht (fun _ => k1 h) (fun hb => absurd h (of_decide_eq_false hb))
  · rw [if_neg h]; exact g_br2 ok ht (fun hb => absurd (of_decide_eq_true hb) h) (fun _ => k2 h)
theorem g_ic_ge (ok : gOK X) (ht : es_to pc off = some t) (k1 : v < w → Go X T m d (pc + 3) cd L S s cs ss x κ) (k2 : ¬ v < w → Go X T m d t [] L S s cs ss y κ) : Go X T m d pc ((pc, .if_icmp .ge off, 3, []) :: cd) L ((0, w, b) :: (0, v, a) :: S) s cs ss (if v < w then x else y) κ := by
  by_cases h : v < w
  · rw [if_pos h]; exact g_br2 ok ht (fun hb => absurd (of_decide_eq_true hb) (by omega)) (fun _ => k1 h)
  · rw [if_neg h]; exact g_br2 ok ht (fun _ => k2 h) (fun hb => absurd (show w ≤ v by omega) (of_decide_eq_false hb))
theorem g_ic_gt (ok : gOK X) (ht : es_to pc off = some t) (k1 : w < v → Go X T m d t [] L S s cs ss x κ) (k2 : ¬ w < v → Go X T m d (pc + 3) cd L S s cs ss y κ) : Go X T m d pc ((pc, .if_icmp .gt off, 3, []) :: cd) L ((0, w, b) :: (0, v, a) :: S) s cs ss (if w < v then x else y) κ := by
  by_cases h : w < v
  · rw [if_pos h]; exact g_br2 ok ht (fun _ => k1 h) (fun hb => absurd h (of_decide_eq_false hb))
  · rw [if_neg h]; exact g_br2 ok ht (fun hb => absurd (of_decide_eq_true hb) h) (fun _ => k2 h)
theorem g_ic_le (ok : gOK X) (ht : es_to pc off = some t) (k1 : w < v → Go X T m d (pc + 3) cd L S s cs ss x κ) (k2 : ¬ w < v → Go X T m d t [] L S s cs ss y κ) : Go X T m d pc ((pc, .if_icmp .le off, 3, []) :: cd) L ((0, w, b) :: (0, v, a) :: S) s cs ss (if w < v then x else y) κ := by
  by_cases h : w < v
  · rw [if_pos h]; exact g_br2 ok ht (fun hb => absurd (of_decide_eq_true hb) (by omega)) (fun _ => k1 h)
  · rw [if_neg h]; exact g_br2 ok ht (fun _ => k2 h) (fun hb => absurd (show v ≤ w by omega) (of_decide_eq_false hb))
theorem g_if_eq (ok : gOK X) (ht : es_to pc off = some t) (k1 : v = 0 → Go X T m d t [] L S s cs ss x κ) (k2 : ¬ v = 0 → Go X T m d (pc + 3) cd L S s cs ss y κ) : Go X T m d pc ((pc, .ifCond .eq off, 3, []) :: cd) L ((0, v, a) :: S) s cs ss (if v = 0 then x else y) κ := by
  by_cases h : v = 0
  · rw [if_pos h]; exact g_br1 ok ht (fun _ => k1 h) (fun hb => absurd h (of_decide_eq_false hb))
  · rw [if_neg h]; exact g_br1 ok ht (fun hb => absurd (of_decide_eq_true hb) h) (fun _ => k2 h)
theorem g_if_ne (ok : gOK X) (ht : es_to pc off = some t) (k1 : v = 0 → Go X T m d (pc + 3) cd L S s cs ss x κ) (k2 : ¬ v = 0 → Go X T m d t [] L S s cs ss y κ) : Go X T m d pc ((pc, .ifCond .ne off, 3, []) :: cd) L ((0, v, a) :: S) s cs ss (if v = 0 then x else y) κ := by
  by_cases h : v = 0
  · rw [if_pos h]; exact g_br1 ok ht (fun hb => absurd h (of_decide_eq_false (by simpa [gcp] using hb))) (fun _ => k1 h)
  · rw [if_neg h]; exact g_br1 ok ht (fun _ => k2 h) (fun hb => absurd (of_decide_eq_true (by simpa [gcp] using hb)) h)
theorem g_if_lt (ok : gOK X) (ht : es_to pc off = some t) (k1 : v < 0 → Go X T m d t [] L S s cs ss x κ) (k2 : ¬ v < 0 → Go X T m d (pc + 3) cd L S s cs ss y κ) : Go X T m d pc ((pc, .ifCond .lt off, 3, []) :: cd) L ((0, v, a) :: S) s cs ss (if v < 0 then x else y) κ := by
  by_cases h : v < 0
  · rw [if_pos h]; exact g_br1 ok ht (fun _ => k1 h) (fun hb => absurd h (of_decide_eq_false hb))
  · rw [if_neg h]; exact g_br1 ok ht (fun hb => absurd (of_decide_eq_true hb) h) (fun _ => k2 h)
theorem g_if_ge (ok : gOK X) (ht : es_to pc off = some t) (k1 : v < 0 → Go X T m d (pc + 3) cd L S s cs ss x κ) (k2 : ¬ v < 0 → Go X T m d t [] L S s cs ss y κ) : Go X T m d pc ((pc, .ifCond .ge off, 3, []) :: cd) L ((0, v, a) :: S) s cs ss (if v < 0 then x else y) κ := by
  by_cases h : v < 0
  · rw [if_pos h]; exact g_br1 ok ht (fun hb => absurd (of_decide_eq_true hb) (by omega)) (fun _ => k1 h)
  · rw [if_neg h]; exact g_br1 ok ht (fun _ => k2 h) (fun hb => absurd (show 0 ≤ v by omega) (of_decide_eq_false hb))
theorem g_if_gt (ok : gOK X) (ht : es_to pc off = some t) (k1 : 0 < v → Go X T m d t [] L S s cs ss x κ) (k2 : ¬ 0 < v → Go X T m d (pc + 3) cd L S s cs ss y κ) : Go X T m d pc ((pc, .ifCond .gt off, 3, []) :: cd) L ((0, v, a) :: S) s cs ss (if 0 < v then x else y) κ := by
  by_cases h : 0 < v
  · rw [if_pos h]; exact g_br1 ok ht (fun _ => k1 h) (fun hb => absurd h (of_decide_eq_false hb))
  · rw [if_neg h]; exact g_br1 ok ht (fun hb => absurd (of_decide_eq_true hb) h) (fun _ => k2 h)
theorem g_if_le (ok : gOK X) (ht : es_to pc off = some t) (k1 : 0 < v → Go X T m d (pc + 3) cd L S s cs ss x κ) (k2 : ¬ 0 < v → Go X T m d t [] L S s cs ss y κ) : Go X T m d pc ((pc, .ifCond .le off, 3, []) :: cd) L ((0, v, a) :: S) s cs ss (if 0 < v then x else y) κ := by
  by_cases h : 0 < v
  · rw [if_pos h]; exact g_br1 ok ht (fun hb => absurd (of_decide_eq_true hb) (by omega)) (fun _ => k1 h)
  · rw [if_neg h]; exact g_br1 ok ht (fun _ => k2 h) (fun hb => absurd (show v ≤ 0 by omega) (of_decide_eq_false hb))
/-- what may be nothing -/
theorem g_ifnull (ok : gOK X) {tg : Nat} {z : Int} (hg : tg = 11 ∨ tg = 12) (ht : es_to pc off = some t) (k1 : a = 0 → Go X T m d t [] L S s cs ss x κ) (k2 : ¬ a = 0 → Go X T m d (pc + 3) cd L S s cs ss y κ) : Go X T m d pc ((pc, .ifnull off, 3, []) :: cd) L ((tg, z, a) :: S) s cs ss (if a = 0 then x else y) κ := by
  have hgf : gf (tg, z, a) = if a = 0 then ((4, 0) : es_V) else (3, a) := by rcases hg with rfl | rfl <;> rfl
  by_cases h : a = 0
  · rw [if_pos h]
    refine g_pure ok rfl (fun hw hl hs => ⟨?_, hl, (gS2 hs).2⟩) (fun _ => rfl) (k1 h)
    rw [List.map_cons, hgf, if_pos h]
    show (match es_to pc off with | some t => some (t, gL L, S.map gf) | none => none) = _
    rw [ht]
  · rw [if_neg h]
    refine g_pure ok rfl (fun hw hl hs => ⟨?_, hl, (gS2 hs).2⟩) (gch1 rfl) (k2 h)
    rw [List.map_cons, hgf, if_neg h]
    rfl
theorem g_ifnonnull (ok : gOK X) {tg : Nat} {z : Int} (hg : tg = 11 ∨ tg = 12) (ht : es_to pc off = some t) (k1 : a = 0 → Go X T m d (pc + 3) cd L S s cs ss x κ) (k2 : ¬ a = 0 → Go X T m d t [] L S s cs ss y κ) : Go X T m d pc ((pc, .ifnonnull off, 3, []) :: cd) L ((tg, z, a) :: S) s cs ss (if a = 0 then x else y) κ := by
  have hgf : gf (tg, z, a) = if a = 0 then ((4, 0) : es_V) else (3, a) := by rcases hg with rfl | rfl <;> rfl
  by_cases h : a = 0
  · rw [if_pos h]
    refine g_pure ok rfl (fun hw hl hs => ⟨?_, hl, (gS2 hs).2⟩) (gch1 rfl) (k1 h)
    rw [List.map_cons, hgf, if_pos h]
    rfl
  · rw [if_neg h]
    refine g_pure ok rfl (fun hw hl hs => ⟨?_, hl, (gS2 hs).2⟩) (fun _ => rfl) (k2 h)
    rw [List.map_cons, hgf, if_neg h]
    show (match es_to pc off with | some t => some (t, gL L, S.map gf) | none => none) = _
    rw [ht]
end Br
end GoH
