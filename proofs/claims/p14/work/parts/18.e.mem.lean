def gchk (j n : Int) {Q : Type} (x : Option Q) : Option Q := if 0 ≤ j ∧ j < n then x else none
def gbool (v : Int) {Q : Type} (x : Option Q) : Option Q := if v = 0 ∨ v = 1 then x else none
section GoM
variable {X : gX} {T : es_M} {m d pc pc' : Nat} {cd cd' : List es_I} {L L' : List (Nat × gV)} {S S' : List gV} {s s' : gS} {cs ss : Nat} {Q : Type} {x y : Option Q} {κ : Q → Option gO}
/-- a step of the heap -/
theorem g_hs (ok : gOK X) {e : es_I} (hax : ∀ a t, e.2.2.2 = a :: t → a ≠ 100 ∧ a ≠ 200 ∧ a ≠ 60) (hpu : ∀ Le Se, es_pure (es_mL T) e.2.1 pc Le Se (gF X) = none) (hp : gwt s → (∀ q ∈ L, gok s q.2) → (∀ v ∈ S, gok s v) → es_hs (gSL X) (gdp d T) e (pc, gL L, S.map gf, gH s, gF X, cs, ss) = some (pc', gL L, S'.map gf, gH s', gF X, cs, ss) ∧ gext s s' ∧ gwt s' ∧ ∀ v ∈ S', gok s' v) (hc : gch T pc (e :: cd) = true → gch T pc' cd' = true) (k : Go X T m d pc' cd' L S' s' cs ss x κ) : Go X T m d pc (e :: cd) L S s cs ss x κ := by
  intro h0 hm hch hw hl hs r hr
  obtain ⟨h1, h2, h3, h4⟩ := hp hw hl hs
  refine gEnd_ext h2 (g_st ok (fun ih => ?_) (k h0 hm (hc hch) h3 (fun q hq => gok_ext h2 (hl q hq)) h4 r hr))
  refine gs_hs (gtab h0 hm (gch_hd hch).1) (by rw [gmL h0 hm]; exact hpu _ _) hax ?_
  rw [gME_at _ hm, h0]
  exact h1
theorem gax {a : Nat} {t : List Nat} (h : a < 60) : ∀ b u, a :: t = b :: u → b ≠ 100 ∧ b ≠ 200 ∧ b ≠ 60 := fun b u e => by
  cases e
  omega
theorem gaxn : ∀ (b : Nat) (u : List Nat), ([] : List Nat) = b :: u → b ≠ 100 ∧ b ≠ 200 ∧ b ≠ 60 := fun b u e => by cases e
theorem gobjC {ci a : Nat} (hci : ci < 13) (ha : a < gn s) (hk : gK s a = ci) : es_obj (gH s) ci (3, a) = some ((List.range (gnf ci)).map (fun i => (i, gf (gfv s a ci i)))) := by
  unfold es_obj
  show (match (gH s)[a]? with
    | some (0, i, c) => bif Nat.beq i ci then some c else none
    | _ => none) = _
  rw [gH_at ha, gobj_c hk hci]
  show (bif Nat.beq ci ci then _ else none) = _
  rw [es_beq.mpr rfl]
  rfl
theorem gobjA {n t a : Nat} (hn : n < 1000000) (ht : t < 8) (ha : a < gn s) (hk : gK s a = 100 + 8 * n + t) : es_ary (gH s) (3, a) = some (t, n, (List.range n).map (fun j => (j, gf (gev s a t j)))) := by
  unfold es_ary
  show (match (gH s)[a]? with
    | some (t + 2, n, c) => bif Nat.blt n 2147483648 then some (t, n, c) else none
    | _ => none) = _
  rw [gH_at ha, gobj_a hk ht]
  show (bif Nat.blt n 2147483648 then _ else none) = _
  rw [es_blt.mpr (by omega)]
  rfl
/-- a field is read -/
theorem g_getf (ok : gOK X) {idx ci k j a : Nat} {z : Int} {w : gV} (hb : (Nat.blt ci 13 && Nat.blt k (gnf ci)) = true) (hw : gfv s a ci k = w) (kk : Go X T m d (pc + 3) cd L (w :: S) s cs ss x κ) : Go X T m d pc ((pc, .getfield idx, 3, [ci, k, j]) :: cd) L ((ci + 16, z, a) :: S) s cs ss x κ := by
  rw [Bool.and_eq_true, es_blt, es_blt] at hb
  refine g_hs ok (gax (by omega)) (fun _ _ => rfl) (fun hwt hl hs => ⟨?_, gext_rf s, hwt, gS1 (gS2 hs).2 ?_⟩) (gch1 rfl) kk
  · obtain ⟨h1, h2⟩ := gok_r.mp (gS2 hs).1
    show (match es_obj (gH s) ci (3, a) with
      | some c => match es_get c k with
        | some w => some (pc + 3, gL L, w :: S.map gf, gH s, gF X, cs, ss)
        | none => none
      | none => none) = _
    rw [gobjC hb.1 h1 h2]
    dsimp only
    rw [grg, if_pos hb.2, hw]
    rfl
  · obtain ⟨h1, h2⟩ := gok_r.mp (gS2 hs).1
    have h3 := (hwt a h1).1 (by omega) k (by rw [h2]; exact hb.2)
    rw [h2, hw] at h3
    exact h3
theorem g_geti (ok : gOK X) {idx ci k j a : Nat} {z : Int} (hb : (Nat.blt ci 13 && Nat.blt k (gnf ci)) = true) (h0 : Nat.beq (gfk ci k) 0 = true) (kk : Go X T m d (pc + 3) cd L ((0, gI s a k, 0) :: S) s cs ss x κ) : Go X T m d pc ((pc, .getfield idx, 3, [ci, k, j]) :: cd) L ((ci + 16, z, a) :: S) s cs ss x κ :=
  g_getf ok hb (by unfold gfv; rw [if_pos (es_beq.mp h0)]) kk
theorem g_getr (ok : gOK X) {idx ci k j a : Nat} (t : Nat) {z : Int} (hb : (Nat.blt ci 13 && Nat.blt k (gnf ci)) = true) (h0 : Nat.beq (gfk ci k) t = true) (h1 : Nat.beq t 0 = false) (kk : Go X T m d (pc + 3) cd L ((t, 0, gR s a k) :: S) s cs ss x κ) : Go X T m d pc ((pc, .getfield idx, 3, [ci, k, j]) :: cd) L ((ci + 16, z, a) :: S) s cs ss x κ :=
  g_getf ok hb (by unfold gfv; rw [es_beq.mp h0, if_neg (es_beqf.mp h1)]) kk
/-- the law of a book, or nothing, then a field of it -/
theorem g_getl (ok : gOK X) {idx k j a : Nat} {z : Int} {w : gV} (h0 : a ≠ 0) (hb : Nat.blt k 2 = true) (hw : gfv s a 4 k = w) (kk : Go X T m d (pc + 3) cd L (w :: S) s cs ss x κ) : Go X T m d pc ((pc, .getfield idx, 3, [4, k, j]) :: cd) L ((11, z, a) :: S) s cs ss x κ := by
  rw [es_blt] at hb
  refine g_hs ok (gax (by omega)) (fun _ _ => rfl) (fun hwt hl hs => ⟨?_, gext_rf s, hwt, gS1 (gS2 hs).2 ?_⟩) (gch1 rfl) kk
  · obtain ⟨h1, h2⟩ := (gS2 hs).1 h0
    rw [List.map_cons, show gf (11, z, a) = (3, a) from if_neg h0]
    show (match es_obj (gH s) 4 (3, a) with
      | some c => match es_get c k with
        | some w => some (pc + 3, gL L, w :: S.map gf, gH s, gF X, cs, ss)
        | none => none
      | none => none) = _
    rw [gobjC (by decide) h1 h2]
    dsimp only
    rw [grg, if_pos (show k < gnf 4 from hb), hw]
    rfl
  · obtain ⟨h1, h2⟩ := (gS2 hs).1 h0
    have h3 := (hwt a h1).1 (by have h9 : gK s a = 4 := h2; omega) k (by have h9 : gK s a = 4 := h2; rw [h9]; exact hb)
    rw [show gK s a = 4 from h2, hw] at h3
    exact h3
theorem gw_I (s : gS) (a k : Nat) (v : Int) (b i : Nat) : gI (gw s a k v) b i = if b = a ∧ i = k then v else gI s b i := rfl
theorem gw_R (s : gS) (a k : Nat) (v : Int) (b i : Nat) : gR (gw s a k v) b i = gR s b i := rfl
theorem gw_K (s : gS) (a k : Nat) (v : Int) (b : Nat) : gK (gw s a k v) b = gK s b := rfl
theorem gw_n (s : gS) (a k : Nat) (v : Int) : gn (gw s a k v) = gn s := rfl
theorem gwr_I (s : gS) (a k r : Nat) (b i : Nat) : gI (gwr s a k r) b i = gI s b i := rfl
theorem gwr_R (s : gS) (a k r : Nat) (b i : Nat) : gR (gwr s a k r) b i = if b = a ∧ i = k then r else gR s b i := rfl
theorem gobj_eq {a : Nat} (hK : gK s' a = gK s a) (hI : ∀ i, gI s' a i = gI s a i) (hR : ∀ i, gR s' a i = gR s a i) : gobj s' a = gobj s a := by
  have h1 : ∀ k i, gfv s' a k i = gfv s a k i := fun k i => by unfold gfv; rw [hI, hR]
  have h2 : ∀ t j, gev s' a t j = gev s a t j := fun t j => by unfold gev; split <;> simp only [hI, hR]
  unfold gobj
  simp only [hK, h1, h2]
theorem gw_fv {a k ci : Nat} {v : Int} (h0 : gfk ci k = 0) (i : Nat) : gfv (gw s a k v) a ci i = if i = k then (0, v, 0) else gfv s a ci i := by
  by_cases h : i = k
  · subst h
    unfold gfv
    rw [if_pos h0, gw_I, if_pos ⟨rfl, rfl⟩, if_pos rfl]
  · rw [if_neg h]
    unfold gfv
    rw [gw_I, gw_R, if_neg (show ¬ (a = a ∧ i = k) from fun e => h e.2)]
theorem gw_H {a k ci : Nat} {v : Int} (hci : ci < 13) (h0 : gfk ci k = 0) (hk : gK s a = ci) (hkn : k < gnf ci) : gH (gw s a k v) = (gH s).set a (0, ci, es_set ((List.range (gnf ci)).map (fun i => (i, gf (gfv s a ci i)))) k (0, eI v)) := by
  rw [gH_set (s := s) (a := a) (gw_n s a k v) (fun b _ hb => gobj_eq rfl (fun i => by rw [gw_I, if_neg (fun e => hb e.1)]) (fun i => rfl)), gobj_c (s := gw s a k v) (show gK (gw s a k v) a = ci from hk) hci, grn _ hkn]
  congr 3
  apply List.map_congr_left
  intro i _
  rw [gw_fv h0]
  by_cases h : i = k
  · rw [if_pos h, if_pos h]; rfl
  · rw [if_neg h, if_neg h]
theorem gw_wt {a k ci : Nat} {v : Int} (hci : ci < 13) (h0 : gfk ci k = 0) (hk : gK s a = ci) (hv : gc32 v) (hw : gwt s) : gwt (gw s a k v) := by
  intro b hb
  have h1 := hw b hb
  refine ⟨fun g1 i hi => ?_, fun g1 => ⟨(h1.2 g1).1, (h1.2 g1).2.1, fun j hj => ?_⟩⟩
  · show gok s (gfv (gw s a k v) b (gK s b) i)
    by_cases hba : b = a
    · subst hba
      rw [hk, gw_fv h0]
      by_cases h : i = k
      · rw [if_pos h]; exact hv
      · rw [if_neg h]
        have h2 := h1.1 g1 i hi
        rw [hk] at h2
        exact h2
    · have e : gfv (gw s a k v) b (gK s b) i = gfv s b (gK s b) i := by
        unfold gfv
        rw [gw_I, gw_R, if_neg (show ¬ (b = a ∧ i = k) from fun e => hba e.1)]
      rw [e]
      exact h1.1 g1 i hi
  · have hba : b ≠ a := fun e => by
      subst e
      rw [gw_K, hk] at g1
      omega
    have e : gev (gw s a k v) b (gT4 (gK s b)) j = gev s b (gT4 (gK s b)) j := by
      unfold gev
      split <;> simp only [gw_I, gw_R, if_neg (fun e : b = a ∧ j = k => hba e.1)]
    show gok s (gev (gw s a k v) b (gT4 (gK s b)) j)
    rw [e]
    exact (h1.2 g1).2.2 j hj
theorem gw_ext (s : gS) (a k : Nat) (v : Int) : gext s (gw s a k v) := ⟨Nat.le_refl _, fun _ _ => rfl⟩
/-- a number is put into a field -/
theorem g_putf (ok : gOK X) {idx ci k j a b : Nat} {z v : Int} (hb : (Nat.blt ci 13 && Nat.blt k (gnf ci)) = true) (h0 : Nat.beq (gfk ci k) 0 = true) (hfit : es_fitv (es_tyf ci k) (gF X) (0, eI v) = true) (kk : Go X T m d (pc + 3) cd L S (gw s a k v) cs ss x κ) : Go X T m d pc ((pc, .putfield idx, 3, [ci, k, j]) :: cd) L ((0, v, b) :: (ci + 16, z, a) :: S) s cs ss x κ := by
  rw [Bool.and_eq_true, es_blt, es_blt] at hb
  have h0 := es_beq.mp h0
  refine g_hs ok (gax (by omega)) (fun _ _ => rfl) (fun hwt hl hs => ?_) (gch1 rfl) kk
  obtain ⟨h1, h2⟩ := gok_r.mp (gS2 (gS2 hs).2).1
  refine ⟨?_, gw_ext s a k v, gw_wt hb.1 h0 h2 (gok_i.mp (gS2 hs).1) hwt, fun w hw => gok_ext (gw_ext s a k v) ((gS2 (gS2 hs).2).2 w hw)⟩
  show (match es_obj (gH s) ci (3, a) with
    | some c => match es_get c k with
      | some _ => bif es_fitv (es_tyf ci k) (gF X) (0, eI v) then some (pc + 3, gL L, S.map gf, (gH s).set a (0, ci, es_set c k (0, eI v)), gF X, cs, ss) else none
      | none => none
    | none => none) = _
  rw [gobjC hb.1 h1 h2]
  dsimp only
  rw [grg, if_pos hb.2]
  dsimp only
  rw [hfit, gw_H hb.1 h0 h2 hb.2]
  rfl
theorem g_puti (ok : gOK X) {idx ci k j a b : Nat} {z v : Int} (hb : (Nat.blt ci 13 && Nat.blt k (gnf ci)) = true) (h0 : Nat.beq (gfk ci k) 0 = true) (hty : es_tyf ci k = .int) (kk : Go X T m d (pc + 3) cd L S (gw s a k v) cs ss x κ) : Go X T m d pc ((pc, .putfield idx, 3, [ci, k, j]) :: cd) L ((0, v, b) :: (ci + 16, z, a) :: S) s cs ss x κ :=
  g_putf ok hb h0 (by rw [hty]; rfl) kk
theorem gfitb {v : Int} (F : es_F) (h : v = 0 ∨ v = 1) : es_fitv .boolean F (0, eI v) = true := by
  rcases h with rfl | rfl <;> rfl
theorem g_putz (ok : gOK X) {idx ci k j a b : Nat} {z v : Int} (hb : (Nat.blt ci 13 && Nat.blt k (gnf ci)) = true) (h0 : Nat.beq (gfk ci k) 0 = true) (hty : es_tyf ci k = .boolean) (kk : v = 0 ∨ v = 1 → Go X T m d (pc + 3) cd L S (gw s a k v) cs ss x κ) : Go X T m d pc ((pc, .putfield idx, 3, [ci, k, j]) :: cd) L ((0, v, b) :: (ci + 16, z, a) :: S) s cs ss (gbool v x) κ := by
  unfold gbool
  by_cases h : v = 0 ∨ v = 1
  · rw [if_pos h]
    exact g_putf ok hb h0 (by rw [hty]; exact gfitb _ h) (kk h)
  · rw [if_neg h]
    intro _ _ _ _ _ _ r hr
    cases hr
/-- a reference is put into a field that may hold nothing -/
theorem gwr_H {a k ci r tg : Nat} (hci : ci < 13) (h0 : gfk ci k = tg + 1) (hk : gK s a = ci) (hkn : k < gnf ci) : gH (gwr s a k r) = (gH s).set a (0, ci, es_set ((List.range (gnf ci)).map (fun i => (i, gf (gfv s a ci i)))) k (gf (tg + 1, 0, r))) := by
  rw [gH_set (s := s) (s' := gwr s a k r) (a := a) rfl (fun b _ hb => gobj_eq rfl (fun i => rfl) (fun i => by rw [gwr_R, if_neg (fun e => hb e.1)])), gobj_c (s := gwr s a k r) (show gK (gwr s a k r) a = ci from hk) hci, grn _ hkn]
  congr 3
  apply List.map_congr_left
  intro i _
  by_cases h : i = k
  · subst h
    rw [if_pos rfl]
    unfold gfv
    rw [if_neg (by rw [h0]; omega), h0, gwr_R, if_pos ⟨rfl, rfl⟩]
  · rw [if_neg h]
    unfold gfv
    rw [gwr_I, gwr_R, if_neg (show ¬ (a = a ∧ i = k) from fun e => h e.2)]
theorem gwr_wt {a k ci r tg : Nat} (hci : ci < 13) (h0 : gfk ci k = tg + 1) (hk : gK s a = ci) (hv : gok s (tg + 1, 0, r)) (hw : gwt s) : gwt (gwr s a k r) := by
  intro b hb
  have h1 := hw b hb
  refine ⟨fun g1 i hi => ?_, fun g1 => ⟨(h1.2 g1).1, (h1.2 g1).2.1, fun j hj => ?_⟩⟩
  · show gok s (gfv (gwr s a k r) b (gK s b) i)
    by_cases hba : b = a ∧ i = k
    · obtain ⟨rfl, rfl⟩ := hba
      unfold gfv
      rw [hk, if_neg (by rw [h0]; omega), h0, gwr_R, if_pos ⟨rfl, rfl⟩]
      exact hv
    · have e : gfv (gwr s a k r) b (gK s b) i = gfv s b (gK s b) i := by
        unfold gfv
        rw [gwr_I, gwr_R, if_neg hba]
      rw [e]
      exact h1.1 g1 i hi
  · have hba : b ≠ a := fun e => by
      subst e
      have g2 : 100 ≤ gK s b := g1
      rw [hk] at g2
      omega
    have e : gev (gwr s a k r) b (gT4 (gK s b)) j = gev s b (gT4 (gK s b)) j := by
      unfold gev
      split <;> simp only [gwr_I, gwr_R, if_neg (fun e : b = a ∧ j = k => hba e.1)]
    show gok s (gev (gwr s a k r) b (gT4 (gK s b)) j)
    rw [e]
    exact (h1.2 g1).2.2 j hj
theorem g_putr (ok : gOK X) {idx ci k j a r tg : Nat} {z : Int} {w : gV} (hb : (Nat.blt ci 13 && Nat.blt k (gnf ci)) = true) (h0 : gfk ci k = tg + 1) (hfit : es_fitv (es_tyf ci k) (gF X) (gf w) = true) (hgf : gf w = gf (tg + 1, 0, r)) (hok : gok s w → gok s (tg + 1, 0, r)) (kk : Go X T m d (pc + 3) cd L S (gwr s a k r) cs ss x κ) : Go X T m d pc ((pc, .putfield idx, 3, [ci, k, j]) :: cd) L (w :: (ci + 16, z, a) :: S) s cs ss x κ := by
  rw [Bool.and_eq_true, es_blt, es_blt] at hb
  have hext : gext s (gwr s a k r) := ⟨Nat.le_refl _, fun _ _ => rfl⟩
  refine g_hs ok (gax (by omega)) (fun _ _ => rfl) (fun hwt hl hs => ?_) (gch1 rfl) kk
  obtain ⟨h1, h2⟩ := gok_r.mp (gS2 (gS2 hs).2).1
  refine ⟨?_, hext, gwr_wt hb.1 h0 h2 (hok (gS2 hs).1) hwt, fun w hw => gok_ext hext ((gS2 (gS2 hs).2).2 w hw)⟩
  show (match es_obj (gH s) ci (3, a) with
    | some c => match es_get c k with
      | some _ => bif es_fitv (es_tyf ci k) (gF X) (gf w) then some (pc + 3, gL L, S.map gf, (gH s).set a (0, ci, es_set c k (gf w)), gF X, cs, ss) else none
      | none => none
    | none => none) = _
  rw [gobjC hb.1 h1 h2]
  dsimp only
  rw [grg, if_pos hb.2]
  dsimp only
  rw [hfit, gwr_H hb.1 h0 h2 hb.2, ← hgf]
  rfl
/-- rows -/
theorem gkn (F : es_F) (v : Int) : es_kn F (0, eI v) = some (eI v) := rfl
theorem geN2 {j : Int} (h0 : 0 ≤ j) (h1 : j < 2147483648) : eI j = j.toNat := by
  have h2 := geN (n := j.toNat) (by omega)
  rw [show ((j.toNat : Nat) : Int) = j by omega] at h2
  exact h2
theorem gad {t n j : Nat} (f : Nat → es_V) (h : j < n) : es_ad t ((List.range n).map (fun i => (i, f i))) j = f j := by
  unfold es_ad
  rw [grg, if_pos h]
theorem gok_a {n t a : Nat} {z : Int} (h : gok s (116 + 8 * n + t, z, a)) : a < gn s ∧ gK s a = 100 + 8 * n + t := by
  rw [show 116 + 8 * n + t = (100 + 8 * n + t) + 16 by omega] at h
  exact gok_r.mp h
theorem g_ald (ok : gOK X) {ins : Instr} {t n a tg : Nat} {z j : Int} {b : Nat} (hlt : es_lt ins t = true) (ht : t < 5) (hpu : ∀ nL Le Se F, es_pure nL ins pc Le Se F = none) (hins : ∀ SL (M : es_M) Le Se v AH F cs ss, es_hs SL M (pc, ins, 1, []) (pc, Le, (0, eI j) :: (3, v) :: Se, AH, F, cs, ss) = (match es_ary AH (3, v) with
          | some (t, n, c) => bif es_lt ins t && Nat.blt (eI j) n then some (pc + 1, Le, es_ad t c (eI j) :: Se, AH, F, cs, ss) else none
          | none => none)) (htg : tg = 116 + 8 * n + t) (h0 : 0 ≤ j) (h1 : j < (n : Int)) (kk : Go X T m d (pc + 1) cd L (gev s a t j.toNat :: S) s cs ss x κ) : Go X T m d pc ((pc, ins, 1, []) :: cd) L ((0, j, b) :: (tg, z, a) :: S) s cs ss x κ := by
  subst htg
  refine g_hs ok gaxn (fun _ _ => hpu _ _ _ _) (fun hwt hl hs => ?_) (gch1 rfl) kk
  obtain ⟨hg1, hg2⟩ := gok_a (gS2 (gS2 hs).2).1
  have hg3 := (hwt a hg1).2 (by omega)
  have e1 : gT4 (gK s a) = t := by rw [hg2]; unfold gT4; omega
  have e2 : gL4 (gK s a) = n := by rw [hg2]; unfold gL4; omega
  rw [e1, e2] at hg3
  refine ⟨?_, gext_rf s, hwt, gS1 (gS2 (gS2 hs).2).2 (hg3.2.2 j.toNat (by omega))⟩
  have egf : gf (116 + 8 * n + t, z, a) = (3, a) := by
    rw [show 116 + 8 * n + t = (100 + 8 * n + t) + 16 by omega]
    rfl
  rw [List.map_cons, List.map_cons, egf]
  refine (hins _ _ _ _ _ _ _ _ _).trans ?_
  rw [gobjA hg3.1 (by omega) hg1 hg2]
  dsimp only
  rw [geN2 h0 (by have := hg3.1; omega), hlt, es_blt.mpr (show j.toNat < n by omega), gad _ (show j.toNat < n by omega)]
  rfl
theorem g_none {pc : Nat} {cd : List es_I} : Go X T m d pc cd L S s cs ss (none : Option Q) κ := fun _ _ _ _ _ _ r hr => by cases hr
theorem g_chk {j n : Int} (kk : 0 ≤ j → j < n → Go X T m d pc cd L S s cs ss x κ) : Go X T m d pc cd L S s cs ss (gchk j n x) κ := by
  unfold gchk
  by_cases h : 0 ≤ j ∧ j < n
  · rw [if_pos h]; exact kk h.1 h.2
  · rw [if_neg h]; exact g_none
theorem g_iaload (ok : gOK X) {n a tg : Nat} {z j N : Int} {b : Nat} (htg : tg = 116 + 8 * n) (hN : N = (n : Int)) (kk : 0 ≤ j → j < N → Go X T m d (pc + 1) cd L ((0, gI s a j.toNat, 0) :: S) s cs ss x κ) : Go X T m d pc ((pc, .iaload, 1, []) :: cd) L ((0, j, b) :: (tg, z, a) :: S) s cs ss (gchk j N x) κ :=
  g_chk (fun h0 h1 => g_ald ok (t := 0) (n := n) rfl (by decide) (fun _ _ _ _ => rfl) (fun _ _ _ _ _ _ _ _ _ => rfl) htg h0 (by rw [← hN]; exact h1) (kk h0 h1))
theorem g_ialoadc (ok : gOK X) {n a tg : Nat} {z j : Int} {b : Nat} (jn : Nat) (hj : j = (jn : Int)) (htg : tg = 116 + 8 * n) (h1 : Nat.blt jn n = true) (kk : Go X T m d (pc + 1) cd L ((0, gI s a jn, 0) :: S) s cs ss x κ) : Go X T m d pc ((pc, .iaload, 1, []) :: cd) L ((0, j, b) :: (tg, z, a) :: S) s cs ss x κ := by
  subst hj
  have h1 := es_blt.mp h1
  exact g_ald ok (t := 0) (n := n) rfl (by decide) (fun _ _ _ _ => rfl) (fun _ _ _ _ _ _ _ _ _ => rfl) htg (by omega) (by omega) kk
theorem g_laload (ok : gOK X) {n a tg : Nat} {z j N : Int} {b : Nat} (htg : tg = 117 + 8 * n) (hN : N = (n : Int)) (kk : 0 ≤ j → j < N → Go X T m d (pc + 1) cd L ((2, gI s a j.toNat, 0) :: S) s cs ss x κ) : Go X T m d pc ((pc, .laload, 1, []) :: cd) L ((0, j, b) :: (tg, z, a) :: S) s cs ss (gchk j N x) κ :=
  g_chk (fun h0 h1 => g_ald ok (t := 1) (n := n) rfl (by decide) (fun _ _ _ _ => rfl) (fun _ _ _ _ _ _ _ _ _ => rfl) (by omega) h0 (by rw [← hN]; exact h1) (kk h0 h1))
theorem g_baload (ok : gOK X) {n a tg : Nat} {z j N : Int} {b : Nat} (htg : tg = 118 + 8 * n) (hN : N = (n : Int)) (kk : 0 ≤ j → j < N → Go X T m d (pc + 1) cd L ((0, gI s a j.toNat, 0) :: S) s cs ss x κ) : Go X T m d pc ((pc, .baload, 1, []) :: cd) L ((0, j, b) :: (tg, z, a) :: S) s cs ss (gchk j N x) κ :=
  g_chk (fun h0 h1 => g_ald ok (t := 2) (n := n) rfl (by decide) (fun _ _ _ _ => rfl) (fun _ _ _ _ _ _ _ _ _ => rfl) (by omega) h0 (by rw [← hN]; exact h1) (kk h0 h1))
theorem g_aaload3 (ok : gOK X) {n a tg : Nat} {z j N : Int} {b : Nat} (htg : tg = 119 + 8 * n) (hN : N = (n : Int)) (kk : 0 ≤ j → j < N → Go X T m d (pc + 1) cd L ((18, 0, gR s a j.toNat) :: S) s cs ss x κ) : Go X T m d pc ((pc, .aaload, 1, []) :: cd) L ((0, j, b) :: (tg, z, a) :: S) s cs ss (gchk j N x) κ :=
  g_chk (fun h0 h1 => g_ald ok (t := 3) (n := n) rfl (by decide) (fun _ _ _ _ => rfl) (fun _ _ _ _ _ _ _ _ _ => rfl) (by omega) h0 (by rw [← hN]; exact h1) (kk h0 h1))
theorem g_aaload4 (ok : gOK X) {n a tg : Nat} {z j N : Int} {b : Nat} (htg : tg = 120 + 8 * n) (hN : N = (n : Int)) (kk : 0 ≤ j → j < N → Go X T m d (pc + 1) cd L ((23, 0, gR s a j.toNat) :: S) s cs ss x κ) : Go X T m d pc ((pc, .aaload, 1, []) :: cd) L ((0, j, b) :: (tg, z, a) :: S) s cs ss (gchk j N x) κ :=
  g_chk (fun h0 h1 => g_ald ok (t := 4) (n := n) rfl (by decide) (fun _ _ _ _ => rfl) (fun _ _ _ _ _ _ _ _ _ => rfl) (by omega) h0 (by rw [← hN]; exact h1) (kk h0 h1))
theorem g_alen (ok : gOK X) {n t a tg : Nat} {z N : Int} (ht : t < 8) (htg : tg = 116 + 8 * n + t) (hN : N = (n : Int)) (kk : Go X T m d (pc + 1) cd L ((0, N, 0) :: S) s cs ss x κ) : Go X T m d pc ((pc, .arraylength, 1, []) :: cd) L ((tg, z, a) :: S) s cs ss x κ := by
  subst htg hN
  refine g_hs ok gaxn (fun _ _ => rfl) (fun hwt hl hs => ?_) (gch1 rfl) kk
  obtain ⟨hg1, hg2⟩ := gok_a (gS2 hs).1
  have hg3 := (hwt a hg1).2 (by omega)
  have e2 : gL4 (gK s a) = n := by rw [hg2]; unfold gL4; omega
  rw [e2] at hg3
  refine ⟨?_, gext_rf s, hwt, gS1 (gS2 hs).2 (gok_i.mpr (by unfold gc32; have := hg3.1; omega))⟩
  have egf : gf (116 + 8 * n + t, z, a) = (3, a) := by
    rw [show 116 + 8 * n + t = (100 + 8 * n + t) + 16 by omega]
    rfl
  rw [List.map_cons, egf]
  show (match es_ary (gH s) (3, a) with
    | some (_, n, _) => some (pc + 1, gL L, (0, n) :: S.map gf, gH s, gF X, cs, ss)
    | none => none) = _
  rw [gobjA hg3.1 ht hg1 hg2]
  show some (pc + 1, gL L, (0, n) :: S.map gf, gH s, gF X, cs, ss) = some (pc + 1, gL L, (0, eI n) :: S.map gf, gH s, gF X, cs, ss)
  rw [geN (by have := hg3.1; omega)]
/-- an element is written -/
theorem gwe_ev {a t j : Nat} {v : Int} (ht : t < 3) (i : Nat) : gev (gw s a j v) a t i = if i = j then ((if t = 1 then 2 else 0), v, 0) else gev s a t i := by
  by_cases h : i = j
  · subst h
    rw [if_pos rfl]
    match t, ht with
    | 0, _ => show (0, gI (gw s a i v) a i, 0) = _; rw [gw_I, if_pos ⟨rfl, rfl⟩]; rfl
    | 1, _ => show (2, gI (gw s a i v) a i, 0) = _; rw [gw_I, if_pos ⟨rfl, rfl⟩]; rfl
    | 2, _ => show (0, gI (gw s a i v) a i, 0) = _; rw [gw_I, if_pos ⟨rfl, rfl⟩]; rfl
  · rw [if_neg h]
    unfold gev
    split <;> simp [gw_I, gw_R, h]
theorem gwe_H {a t n j : Nat} {v : Int} (ht : t < 3) (hk : gK s a = 100 + 8 * n + t) (hj : j < n) : gH (gw s a j v) = (gH s).set a (t + 2, n, es_set ((List.range n).map (fun i => (i, gf (gev s a t i)))) j (gf ((if t = 1 then 2 else 0), v, 0))) := by
  rw [gH_set (s := s) (a := a) (gw_n s a j v) (fun b _ hb => gobj_eq rfl (fun i => by rw [gw_I, if_neg (fun e => hb e.1)]) (fun i => rfl)), gobj_a (s := gw s a j v) (show gK (gw s a j v) a = 100 + 8 * n + t from hk) (by omega), grn _ hj]
  congr 3
  apply List.map_congr_left
  intro i _
  rw [gwe_ev ht]
  by_cases h : i = j
  · rw [if_pos h, if_pos h]
  · rw [if_neg h, if_neg h]
theorem gwe_wt {a t n j : Nat} {v : Int} (ht : t < 3) (hk : gK s a = 100 + 8 * n + t) (hv : gok s ((if t = 1 then 2 else 0), v, 0)) (hw : gwt s) : gwt (gw s a j v) := by
  intro b hb
  have h1 := hw b hb
  refine ⟨fun g1 i hi => ?_, fun g1 => ⟨(h1.2 g1).1, (h1.2 g1).2.1, fun i hi => ?_⟩⟩
  · have hba : b ≠ a := fun e => by
      subst e
      rw [gw_K, hk] at g1
      omega
    have e : gfv (gw s a j v) b (gK s b) i = gfv s b (gK s b) i := by
      unfold gfv
      rw [gw_I, gw_R, if_neg (show ¬ (b = a ∧ i = j) from fun e => hba e.1)]
    show gok s (gfv (gw s a j v) b (gK s b) i)
    rw [e]
    exact h1.1 g1 i hi
  · show gok s (gev (gw s a j v) b (gT4 (gK s b)) i)
    by_cases hba : b = a
    · subst hba
      have e1 : gT4 (gK s b) = t := by rw [hk]; unfold gT4; omega
      have h3 := (h1.2 g1).2.2 i hi
      rw [e1] at h3 ⊢
      rw [gwe_ev ht]
      by_cases h : i = j
      · rw [if_pos h]; exact hv
      · rw [if_neg h]; exact h3
    · have e : gev (gw s a j v) b (gT4 (gK s b)) i = gev s b (gT4 (gK s b)) i := by
        unfold gev
        split <;> simp only [gw_I, gw_R, if_neg (fun e : b = a ∧ i = j => hba e.1)]
      rw [e]
      exact (h1.2 g1).2.2 i hi
theorem g_ast (ok : gOK X) {ins : Instr} {t n a tg : Nat} {z j v : Int} {b b2 : Nat} (hst : es_sti ins t = true) (ht : t < 3) (hpu : ∀ nL Le Se F, es_pure nL ins pc Le Se F = none) (hins : ∀ SL (M : es_M) Le Se (u : es_V) w AH F cs ss, es_hs SL M (pc, ins, 1, []) (pc, Le, u :: (0, eI j) :: (3, w) :: Se, AH, F, cs, ss) = (match es_ary AH (3, w), es_kn F (0, eI j) with
        | some (t, n, c), some jn => bif (es_sti ins t && Nat.blt jn n) && es_sfit AH F t u then some (pc + 1, Le, Se, es_hset AH w t n c jn u, F, cs, ss) else none
        | _, _ => none)) (hfit : es_sfit (gH s) (gF X) t (gf ((if t = 1 then 2 else 0), v, b2)) = true) (htg : tg = 116 + 8 * n + t) (h0 : 0 ≤ j) (h1 : j < (n : Int)) (kk : Go X T m d (pc + 1) cd L S (gw s a j.toNat v) cs ss x κ) : Go X T m d pc ((pc, ins, 1, []) :: cd) L (((if t = 1 then 2 else 0), v, b2) :: (0, j, b) :: (tg, z, a) :: S) s cs ss x κ := by
  subst htg
  refine g_hs ok gaxn (fun _ _ => hpu _ _ _ _) (fun hwt hl hs => ?_) (gch1 rfl) kk
  obtain ⟨hg1, hg2⟩ := gok_a (gS2 (gS2 (gS2 hs).2).2).1
  have hg3 := (hwt a hg1).2 (by omega)
  have e2 : gL4 (gK s a) = n := by rw [hg2]; unfold gL4; omega
  rw [e2] at hg3
  have hv : gok s ((if t = 1 then 2 else 0), v, 0) := by
    have h9 := (gS2 hs).1
    by_cases h8 : t = 1
    · rw [if_pos h8] at h9 ⊢; exact h9
    · rw [if_neg h8] at h9 ⊢; exact h9
  refine ⟨?_, gw_ext s a _ v, gwe_wt ht hg2 hv hwt, fun w hw => gok_ext (gw_ext s a _ v) ((gS2 (gS2 (gS2 hs).2).2).2 w hw)⟩
  have egf : gf (116 + 8 * n + t, z, a) = (3, a) := by
    rw [show 116 + 8 * n + t = (100 + 8 * n + t) + 16 by omega]
    rfl
  have egv : gf ((if t = 1 then 2 else 0), v, b2) = gf ((if t = 1 then 2 else 0), v, 0) := by
    by_cases h8 : t = 1
    · rw [if_pos h8]; rfl
    · rw [if_neg h8]; rfl
  rw [List.map_cons, List.map_cons, List.map_cons, egf]
  refine (hins _ _ _ _ _ _ _ _ _ _).trans ?_
  rw [gobjA hg3.1 (by omega) hg1 hg2, gkn]
  dsimp only
  rw [geN2 h0 (by have := hg3.1; omega), hst, es_blt.mpr (show j.toNat < n by omega), hfit]
  show some (pc + 1, gL L, S.map gf, es_hset (gH s) a t n ((List.range n).map (fun i => (i, gf (gev s a t i)))) j.toNat (gf ((if t = 1 then 2 else 0), v, b2)), gF X, cs, ss) = _
  unfold es_hset
  rw [grg, if_pos (show j.toNat < n by omega), gwe_H ht hg2 (by omega), egv]
theorem g_iastore (ok : gOK X) {n a tg : Nat} {z j v N : Int} {b b2 : Nat} (htg : tg = 116 + 8 * n) (hN : N = (n : Int)) (kk : 0 ≤ j → j < N → Go X T m d (pc + 1) cd L S (gw s a j.toNat v) cs ss x κ) : Go X T m d pc ((pc, .iastore, 1, []) :: cd) L ((0, v, b2) :: (0, j, b) :: (tg, z, a) :: S) s cs ss (gchk j N x) κ :=
  g_chk (fun h0 h1 => g_ast ok (t := 0) (n := n) rfl (by decide) (fun _ _ _ _ => rfl) (fun _ _ _ _ _ _ _ _ _ _ => rfl) rfl htg h0 (by rw [← hN]; exact h1) (kk h0 h1))
theorem g_iastorec (ok : gOK X) {n a tg : Nat} {z j v : Int} {b b2 : Nat} (jn : Nat) (hj : j = (jn : Int)) (htg : tg = 116 + 8 * n) (h1 : Nat.blt jn n = true) (kk : Go X T m d (pc + 1) cd L S (gw s a jn v) cs ss x κ) : Go X T m d pc ((pc, .iastore, 1, []) :: cd) L ((0, v, b2) :: (0, j, b) :: (tg, z, a) :: S) s cs ss x κ := by
  subst hj
  have h1 := es_blt.mp h1
  exact g_ast ok (t := 0) (n := n) rfl (by decide) (fun _ _ _ _ => rfl) (fun _ _ _ _ _ _ _ _ _ _ => rfl) rfl htg (by omega) (by omega) kk
theorem g_lastore (ok : gOK X) {n a tg : Nat} {z j v N : Int} {b b2 : Nat} (htg : tg = 117 + 8 * n) (hN : N = (n : Int)) (kk : 0 ≤ j → j < N → Go X T m d (pc + 1) cd L S (gw s a j.toNat v) cs ss x κ) : Go X T m d pc ((pc, .lastore, 1, []) :: cd) L ((2, v, b2) :: (0, j, b) :: (tg, z, a) :: S) s cs ss (gchk j N x) κ :=
  g_chk (fun h0 h1 => g_ast ok (t := 1) (n := n) rfl (by decide) (fun _ _ _ _ => rfl) (fun _ _ _ _ _ _ _ _ _ _ => rfl) rfl (by omega) h0 (by rw [← hN]; exact h1) (kk h0 h1))
theorem g_bastore (ok : gOK X) {n a tg : Nat} {z j v N : Int} {b b2 : Nat} (htg : tg = 118 + 8 * n) (hN : N = (n : Int)) (kk : 0 ≤ j → j < N → (v = 0 ∨ v = 1) → Go X T m d (pc + 1) cd L S (gw s a j.toNat v) cs ss x κ) : Go X T m d pc ((pc, .bastore, 1, []) :: cd) L ((0, v, b2) :: (0, j, b) :: (tg, z, a) :: S) s cs ss (gchk j N (gbool v x)) κ :=
  g_chk (fun h0 h1 => by
    unfold gbool
    by_cases h : v = 0 ∨ v = 1
    · rw [if_pos h]
      exact g_ast ok (t := 2) (n := n) rfl (by decide) (fun _ _ _ _ => rfl) (fun _ _ _ _ _ _ _ _ _ _ => rfl) (gfitb (gF X) h) (by omega) h0 (by rw [← hN]; exact h1) (kk h0 h1 h)
    · rw [if_neg h]; exact g_none)
/-- a row that may be nothing, of any length -/
def glen (s : gS) (a : Nat) : Int := (gL4 (gK s a) : Int)
theorem gok12 {a : Nat} {z : Int} (h0 : a ≠ 0) (h : gok s (12, z, a)) : a < gn s ∧ gL4 (gK s a) < 1000000 ∧ gK s a = 100 + 8 * gL4 (gK s a) := by
  obtain ⟨h1, n, h2, h3⟩ := h h0
  have h4 : gK s a = 100 + 8 * n := h3
  have h5 : gL4 (gK s a) = n := by rw [h4]; unfold gL4; omega
  exact ⟨h1, by omega, by omega⟩
theorem g_alen12 (ok : gOK X) {a : Nat} {z : Int} (h0 : a ≠ 0) (kk : Go X T m d (pc + 1) cd L ((0, glen s a, 0) :: S) s cs ss x κ) : Go X T m d pc ((pc, .arraylength, 1, []) :: cd) L ((12, z, a) :: S) s cs ss x κ := by
  refine g_hs ok gaxn (fun _ _ => rfl) (fun hwt hl hs => ?_) (gch1 rfl) kk
  obtain ⟨h1, h2, h3⟩ := gok12 h0 (gS2 hs).1
  refine ⟨?_, gext_rf s, hwt, gS1 (gS2 hs).2 (gok_i.mpr (by unfold gc32 glen; omega))⟩
  rw [List.map_cons, show gf (12, z, a) = (3, a) from if_neg h0]
  show (match es_ary (gH s) (3, a) with
    | some (_, n, _) => some (pc + 1, gL L, (0, n) :: S.map gf, gH s, gF X, cs, ss)
    | none => none) = _
  rw [gobjA (t := 0) h2 (by decide) h1 h3]
  show some (pc + 1, gL L, (0, gL4 (gK s a)) :: S.map gf, gH s, gF X, cs, ss) = some (pc + 1, gL L, (0, eI (glen s a)) :: S.map gf, gH s, gF X, cs, ss)
  unfold glen
  rw [geN (by omega)]
theorem g_iald12 (ok : gOK X) {a b : Nat} {z j : Int} (h0 : a ≠ 0) (kk : 0 ≤ j → j < glen s a → Go X T m d (pc + 1) cd L ((0, gI s a j.toNat, 0) :: S) s cs ss x κ) : Go X T m d pc ((pc, .iaload, 1, []) :: cd) L ((0, j, b) :: (12, z, a) :: S) s cs ss (gchk j (glen s a) x) κ := by
  refine g_chk (fun hj0 hj1 => g_hs ok gaxn (fun _ _ => rfl) (fun hwt hl hs => ?_) (gch1 rfl) (kk hj0 hj1))
  obtain ⟨h1, h2, h3⟩ := gok12 h0 (gS2 (gS2 hs).2).1
  have hg3 := (hwt a h1).2 (by omega)
  have e1 : gT4 (gK s a) = 0 := by unfold gT4; omega
  rw [e1] at hg3
  have hj2 : j.toNat < gL4 (gK s a) := by unfold glen at hj1; omega
  refine ⟨?_, gext_rf s, hwt, gS1 (gS2 (gS2 hs).2).2 (hg3.2.2 j.toNat hj2)⟩
  rw [List.map_cons, List.map_cons, show gf (12, z, a) = (3, a) from if_neg h0]
  show (match es_ary (gH s) (3, a) with
    | some (t, n, c) => bif es_lt .iaload t && Nat.blt (eI j) n then some (pc + 1, gL L, es_ad t c (eI j) :: S.map gf, gH s, gF X, cs, ss) else none
    | none => none) = _
  rw [gobjA (t := 0) h2 (by decide) h1 h3]
  dsimp only
  rw [geN2 hj0 (by unfold glen at hj1; omega), show es_lt .iaload 0 = true from rfl, es_blt.mpr hj2, gad _ hj2]
  rfl
end GoM
