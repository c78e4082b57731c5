section GoN
variable {X : gX} {T T' : es_M} {m m' d pc pc' : Nat} {cd cd' : List es_I} {L L' : List (Nat × gV)} {S S' vs rest : List gV} {s s' : gS} {cs ss : Nat} {Q : Type} {x y : Option Q} {κ : Q → Option gO}
theorem g_ite {c : Prop} [Decidable c] (k1 : c → Go X T m d pc cd L S s cs ss x κ) (k2 : ¬ c → Go X T m d pc cd L S s cs ss y κ) : Go X T m d pc cd L S s cs ss (if c then x else y) κ := by
  by_cases h : c
  · rw [if_pos h]; exact k1 h
  · rw [if_neg h]; exact k2 h
theorem g_bl {v : Int} (k : (v = 0 ∨ v = 1) → Go X T m d pc cd L S s cs ss x κ) : Go X T m d pc cd L S s cs ss (gbool v x) κ := g_ite k (fun _ => g_none)
theorem g_lift {Q' : Type} {κ' : Q' ⊕ Q → Option gO} {q : Q} (h : ∀ q, κ' (Sum.inr q) = κ q) (k : Go X T m d pc cd L S s cs ss (some q) κ) : Go X T m d pc cd L S s cs ss (some (Sum.inr q)) κ' :=
  fun h0 hm hc hw hl hs r hr => k h0 hm hc hw hl hs r ((h q).symm.trans hr)
theorem g_map {Q' : Type} {κ' : Q' ⊕ Q → Option gO} (h : ∀ q, κ' (Sum.inr q) = κ q) (k : Go X T m d pc cd L S s cs ss x κ) : Go X T m d pc cd L S s cs ss (x.map Sum.inr) κ' := by
  intro h0 hm hc hw hl hs r hr
  refine k h0 hm hc hw hl hs r ?_
  cases x with
  | none => cases hr
  | some q => exact (h q).symm.trans hr
/-- loops -/
def giter {σ : Type} (step : σ → Option (σ ⊕ Q)) : Nat → σ → Option Q
  | 0, _ => none
  | n + 1, y => (step y).bind (Sum.elim (giter step n) some)
theorem giter_s {σ : Type} {step : σ → Option (σ ⊕ Q)} : ∀ {n : Nat} {y : σ} {r : Q}, giter step n y = some r → giter step (n + 1) y = some r
  | 0, _, _, h => by cases h
  | n + 1, y, r, h => by
    have h1 : (step y).bind (Sum.elim (giter step n) some) = some r := h
    show (step y).bind (Sum.elim (giter step (n + 1)) some) = some r
    cases hs : step y with
    | none => rw [hs] at h1; cases h1
    | some q =>
      rw [hs] at h1
      cases q with
      | inl z => exact giter_s (n := n) (y := z) (r := r) h1
      | inr z => exact h1
theorem giter_le {σ : Type} {step : σ → Option (σ ⊕ Q)} {n k : Nat} {y : σ} {r : Q} (h : giter step n y = some r) (hk : n ≤ k) : giter step k y = some r := by
  induction hk with
  | refl => exact h
  | step _ ih => exact giter_s ih
noncomputable def gloop {σ : Type} (step : σ → Option (σ ⊕ Q)) (y : σ) : Option Q := @dite _ (∃ r n, giter step n y = some r) (Classical.propDecidable _) (fun h => some h.choose) (fun _ => none)
theorem gloop_of {σ : Type} {step : σ → Option (σ ⊕ Q)} {n : Nat} {y : σ} {r : Q} (h : giter step n y = some r) : gloop step y = some r := by
  have hx : ∃ r n, giter step n y = some r := ⟨r, n, h⟩
  unfold gloop
  rw [dif_pos hx]
  obtain ⟨k, hk⟩ := hx.choose_spec
  have h1 := giter_le h (Nat.le_max_left n k)
  have h2 := giter_le hk (Nat.le_max_right n k)
  rw [h1] at h2
  exact h2.symm
theorem gloop_ex {σ : Type} {step : σ → Option (σ ⊕ Q)} {y : σ} {r : Q} (h : gloop step y = some r) : ∃ n, giter step n y = some r := by
  unfold gloop at h
  by_cases hx : ∃ r n, giter step n y = some r
  · rw [dif_pos hx] at h
    obtain ⟨k, hk⟩ := hx.choose_spec
    exact ⟨k, by rw [hk]; exact h⟩
  · rw [dif_neg hx] at h; cases h
theorem gloop_l {σ : Type} {step : σ → Option (σ ⊕ Q)} {y z : σ} (h : step y = some (Sum.inl z)) : gloop step y = gloop step z := by
  cases hz : gloop step z with
  | some r =>
    obtain ⟨n, hn⟩ := gloop_ex hz
    exact gloop_of (n := n + 1) (by show (step y).bind (Sum.elim (giter step n) some) = some r; rw [h]; exact hn)
  | none =>
    cases hy : gloop step y with
    | none => rfl
    | some r =>
      obtain ⟨n, hn⟩ := gloop_ex hy
      cases n with
      | zero => cases hn
      | succ n =>
        have h1 : (step y).bind (Sum.elim (giter step n) some) = some r := hn
        rw [h] at h1
        rw [gloop_of (n := n) (show giter step n z = some r from h1)] at hz
        cases hz
theorem gloop_r {σ : Type} {step : σ → Option (σ ⊕ Q)} {y : σ} {r : Q} (h : step y = some (Sum.inr r)) : gloop step y = some r :=
  gloop_of (n := 1) (by show (step y).bind (Sum.elim (giter step 0) some) = some r; rw [h]; rfl)
theorem gloop_m {σ : Type} {step : σ → Option (σ ⊕ Q)} {y : σ} {e : Option Q} (h : step y = e.map Sum.inr) : gloop step y = e := by
  cases e with
  | some r => exact gloop_r h
  | none =>
    cases hy : gloop step y with
    | none => rfl
    | some r =>
      obtain ⟨n, hn⟩ := gloop_ex hy
      cases n with
      | zero => cases hn
      | succ n =>
        have h1 : (step y).bind (Sum.elim (giter step n) some) = some r := hn
        rw [h] at h1
        cases h1
theorem g_loop {σ : Type} {h : Nat} {step : σ → Option (σ ⊕ Q)} {Lh : σ → List (Nat × gV)} {sh : σ → gS} (body : ∀ κ' : σ ⊕ Q → Option gO, (∀ y, Go X T m d h [] (Lh y) [] (sh y) cs ss (some (Sum.inl y)) κ') → (∀ q, κ' (Sum.inr q) = κ q) → ∀ y, Go X T m d h [] (Lh y) [] (sh y) cs ss (step y) κ') (y : σ) : Go X T m d h [] (Lh y) [] (sh y) cs ss (gloop step y) κ := by
  have hit : ∀ n y, Go X T m d h [] (Lh y) [] (sh y) cs ss (giter step n y) κ := by
    intro n
    induction n with
    | zero => exact fun y => g_none
    | succ n ih =>
      intro y h0 hm hc hw hl hs r hr
      refine body (Sum.elim (fun z => (giter step n z).bind κ) κ) (fun z => ih z) (fun q => rfl) y h0 hm hc hw hl hs r ?_
      rw [← hr]
      show (step y).bind (Sum.elim (fun z => (giter step n z).bind κ) κ) = ((step y).bind (Sum.elim (giter step n) some)).bind κ
      cases step y with
      | none => rfl
      | some q => cases q <;> rfl
  intro h0 hm hc hw hl hs r hr
  cases hy : gloop step y with
  | none => rw [hy] at hr; cases hr
  | some q =>
    obtain ⟨n, hn⟩ := gloop_ex hy
    exact hit n y h0 hm hc hw hl hs r (by rw [hn, ← hr, hy])
/-- the lesser, the greater -/
theorem gmm {idx k : Nat} {tl : List Nat} {ih : Nat → es_K → Option (List es_E)} {f : Int32 → Int32 → Int32} {v w : Int} {a b : Nat} (hk : k = 5 ∧ f = (fun x y => if y < x then y else x) ∨ k = 6 ∧ f = (fun x y => if x < y then y else x)) (hm : m < 512) (h0 : gM0 X m = T) (hat : es_at (es_tab T) pc = some (pc, .invokestatic idx, 3, k :: tl)) (hcap : (Nat.ble (gcts S) 8 && (Nat.ble cs (es_mc T) && Nat.ble ss (es_ms T))) = true) :
    es_step (gME (gM0 X)) (gts X) (gSL X) ih (m + 512 * d) (pc, gL L, ((0, w, b) :: (0, v, a) :: S).map gf, gH s, gF X, cs, ss) = ih (m + 512 * d) (pc + 3, gL L, (0, eI (f (Int32.ofInt v) (Int32.ofInt w)).toInt) :: S.map gf, gH s, gF X, cs, ss) := by
  have hgo : es_step (gME (gM0 X)) (gts X) (gSL X) ih (m + 512 * d) (pc, gL L, ((0, w, b) :: (0, v, a) :: S).map gf, gH s, gF X, cs, ss) = es_smm (gME (gM0 X)) f ih (m + 512 * d) pc (gL L) (((0, w, b) :: (0, v, a) :: S).map gf) (gH s) (gF X) cs ss := by
    unfold es_step
    dsimp only
    rw [gtab h0 hm hat]
    rcases hk with ⟨rfl, rfl⟩ | ⟨rfl, rfl⟩ <;> rfl
  rw [hgo]
  show (bif (es_ti (0, eI v) && es_ti (0, eI w)) && (((Nat.blt 0 (es_rf (gME (gM0 X) (m + 512 * d))) && Nat.ble 200 (es_lo (gME (gM0 X) (m + 512 * d)))) && Nat.ble (es_cts (S.map gf)) 8) && (Nat.ble cs (es_mc (gME (gM0 X) (m + 512 * d))) && Nat.ble ss (es_ms (gME (gM0 X) (m + 512 * d))))) then ih (m + 512 * d) (pc + 3, gL L, es_bin f (gF X) (0, eI v) (0, eI w) :: S.map gf, gH s, gF X, cs, ss) else none) = _
  simp only [Bool.and_eq_true] at hcap
  rw [gME_at _ hm, h0, gcts_eq, hcap.1, show Nat.ble cs (es_mc (gdp d T)) = true from hcap.2.1, show Nat.ble ss (es_ms (gdp d T)) = true from hcap.2.2, show Nat.blt 0 (es_rf (gdp d T)) = true from es_blt.mpr (show 0 < 8 + d by omega), show Nat.ble 200 (es_lo (gdp d T)) = true from Nat.ble_eq.mpr (show 200 ≤ 300 + 64 * d by omega), gbn]
  rfl
theorem gmin_eq {v w : Int} (hv : gc32 v) (hw : gc32 w) : ((fun x y : Int32 => if y < x then y else x) (Int32.ofInt v) (Int32.ofInt w)).toInt = min v w := by
  dsimp only
  rw [Int.min_def]
  by_cases h : w < v
  · rw [if_pos (by rw [Int32.lt_iff_toInt_lt, gti hv, gti hw]; exact h), gti hw, if_neg (by omega)]
  · rw [if_neg (by rw [Int32.lt_iff_toInt_lt, gti hv, gti hw]; exact h), gti hv, if_pos (by omega)]
theorem gmax_eq {v w : Int} (hv : gc32 v) (hw : gc32 w) : ((fun x y : Int32 => if x < y then y else x) (Int32.ofInt v) (Int32.ofInt w)).toInt = max v w := by
  dsimp only
  rw [Int.max_def]
  by_cases h : v < w
  · rw [if_pos (by rw [Int32.lt_iff_toInt_lt, gti hv, gti hw]; exact h), gti hw, if_pos (by omega)]
  · rw [if_neg (by rw [Int32.lt_iff_toInt_lt, gti hv, gti hw]; exact h), gti hv]
    by_cases h2 : v ≤ w
    · rw [if_pos h2]; omega
    · rw [if_neg h2]
theorem g_min (ok : gOK X) {idx : Nat} {tl : List Nat} {v w : Int} {a b : Nat} (hcap : (Nat.ble (gcts S) 8 && (Nat.ble cs (es_mc T) && Nat.ble ss (es_ms T))) = true) (k : Go X T m d (pc + 3) cd L ((0, min v w, 0) :: S) s cs ss x κ) : Go X T m d pc ((pc, .invokestatic idx, 3, 5 :: tl) :: cd) L ((0, w, b) :: (0, v, a) :: S) s cs ss x κ := by
  intro h0 hm hc hw hl hs r hr
  have h1 := gS2 hs
  have h2 := gS2 h1.2
  refine g_st ok (fun ih => ?_) (k h0 hm (gch_hd hc).2 hw hl (gS1 h2.2 (gok_i.mpr ?_)) r hr)
  · rw [gmm (Or.inl ⟨rfl, rfl⟩) hm h0 (gch_hd hc).1 hcap, gmin_eq (gok_i.mp h2.1) (gok_i.mp h1.1)]
    rfl
  · rw [← gmin_eq (gok_i.mp h2.1) (gok_i.mp h1.1)]; exact gc32_t _
theorem g_max (ok : gOK X) {idx : Nat} {tl : List Nat} {v w : Int} {a b : Nat} (hcap : (Nat.ble (gcts S) 8 && (Nat.ble cs (es_mc T) && Nat.ble ss (es_ms T))) = true) (k : Go X T m d (pc + 3) cd L ((0, max v w, 0) :: S) s cs ss x κ) : Go X T m d pc ((pc, .invokestatic idx, 3, 6 :: tl) :: cd) L ((0, w, b) :: (0, v, a) :: S) s cs ss x κ := by
  intro h0 hm hc hw hl hs r hr
  have h1 := gS2 hs
  have h2 := gS2 h1.2
  refine g_st ok (fun ih => ?_) (k h0 hm (gch_hd hc).2 hw hl (gS1 h2.2 (gok_i.mpr ?_)) r hr)
  · rw [gmm (Or.inr ⟨rfl, rfl⟩) hm h0 (gch_hd hc).1 hcap, gmax_eq (gok_i.mp h2.1) (gok_i.mp h1.1)]
    rfl
  · rw [← gmax_eq (gok_i.mp h2.1) (gok_i.mp h1.1)]; exact gc32_t _
/-- a row is written over -/
theorem gcopy {f1 f2 : Nat → es_V} {n1 n2 sp dp : Nat} : ∀ n, sp + n ≤ n1 → dp + n ≤ n2 → es_copy 0 ((List.range n1).map (fun i => (i, f1 i))) ((List.range n2).map (fun i => (i, f2 i))) sp dp n = (List.range n2).map (fun i => (i, if dp ≤ i ∧ i < dp + n then f1 (sp + (i - dp)) else f2 i))
  | 0, _, _ => by
    show (List.range n2).map (fun i => (i, f2 i)) = _
    apply List.map_congr_left
    intro i _
    rw [if_neg (by omega)]
  | n + 1, h1, h2 => by
    show es_aset 0 (es_copy 0 ((List.range n1).map (fun i => (i, f1 i))) ((List.range n2).map (fun i => (i, f2 i))) sp dp n) (dp + n) (es_ad 0 ((List.range n1).map (fun i => (i, f1 i))) (sp + n)) = _
    rw [gcopy n (by omega) (by omega), gad f1 (show sp + n < n1 by omega)]
    unfold es_aset
    rw [grg, if_pos (show dp + n < n2 by omega)]
    dsimp only
    rw [grn _ (show dp + n < n2 by omega)]
    apply List.map_congr_left
    intro i _
    by_cases h : i = dp + n
    · subst h
      rw [if_pos rfl, if_pos (by omega)]
      rw [show sp + (dp + n - dp) = sp + n by omega]
    · rw [if_neg h]
      by_cases h3 : dp ≤ i ∧ i < dp + n
      · rw [if_pos h3, if_pos (by omega)]
      · rw [if_neg h3, if_neg (by omega)]
theorem gcpy_I (s : gS) (a sp b dp n c k : Nat) : gI (gcpy s a sp b dp n) c k = if c = b ∧ dp ≤ k ∧ k < dp + n then gI s a (sp + (k - dp)) else gI s c k := rfl
theorem g_acopy (ok : gOK X) {idx n1 n2 a b t1 t2 a1 a2 a3 : Nat} {z1 z2 sp dp n : Int} {tl : List Nat} (ht1 : t1 = 116 + 8 * n1) (ht2 : t2 = 116 + 8 * n2) (h1 : 0 ≤ sp) (h2 : 0 ≤ dp) (h3 : 0 ≤ n) (h4 : sp + n ≤ (n1 : Int)) (h5 : dp + n ≤ (n2 : Int)) (hcap : Nat.ble (gcts S) 8 = true) (k : Go X T m d (pc + 3) cd L S (gcpy s a sp.toNat b dp.toNat n.toNat) cs ss x κ) :
    Go X T m d pc ((pc, .invokestatic idx, 3, 4 :: tl) :: cd) L ((0, n, a3) :: (0, dp, a2) :: (t2, z2, b) :: (0, sp, a1) :: (t1, z1, a) :: S) s cs ss x κ := by
  subst ht1 ht2
  intro h0 hm hc hw hl hs r hr
  have g1 := gS2 hs
  have g2 := gS2 g1.2
  have g3 := gS2 g2.2
  have g4 := gS2 g3.2
  have g5 := gS2 g4.2
  obtain ⟨b1, b2⟩ := gok_a (t := 0) g3.1
  obtain ⟨a1', a2'⟩ := gok_a (t := 0) g5.1
  have wb := (hw b b1).2 (by omega)
  have wa := (hw a a1').2 (by omega)
  have eb : gL4 (gK s b) = n2 ∧ gT4 (gK s b) = 0 := by rw [b2]; unfold gL4 gT4; omega
  have ea : gL4 (gK s a) = n1 ∧ gT4 (gK s a) = 0 := by rw [a2']; unfold gL4 gT4; omega
  rw [eb.1, eb.2] at wb
  rw [ea.1, ea.2] at wa
  have hext : gext s (gcpy s a sp.toNat b dp.toNat n.toNat) := ⟨Nat.le_refl _, fun _ _ => rfl⟩
  have hoth : ∀ c, c ≠ b → ∀ i, gI (gcpy s a sp.toNat b dp.toNat n.toNat) c i = gI s c i := fun c hcb i => by rw [gcpy_I, if_neg (fun e => hcb e.1)]
  have hwt : gwt (gcpy s a sp.toNat b dp.toNat n.toNat) := by
    intro c hcn
    have gw0 := hw c hcn
    by_cases hcb : c = b
    · subst hcb
      refine ⟨fun q1 => ?_, fun q1 => ⟨(gw0.2 q1).1, (gw0.2 q1).2.1, fun j hj => ?_⟩⟩
      · have q2 : gK s c < 13 := q1
        omega
      · show gok s (gev (gcpy s a sp.toNat c dp.toNat n.toNat) c (gT4 (gK s c)) j)
        have hj2 : j < n2 := by
          have q2 : j < gL4 (gK s c) := hj
          rw [eb.1] at q2
          exact q2
        rw [eb.2]
        show gc32 (gI (gcpy s a sp.toNat c dp.toNat n.toNat) c j)
        rw [gcpy_I]
        by_cases hq : c = c ∧ dp.toNat ≤ j ∧ j < dp.toNat + n.toNat
        · rw [if_pos hq]
          exact wa.2.2 (sp.toNat + (j - dp.toNat)) (by omega)
        · rw [if_neg hq]
          exact wb.2.2 j hj2
    · refine ⟨fun q1 i hi => ?_, fun q1 => ⟨(gw0.2 q1).1, (gw0.2 q1).2.1, fun j hj => ?_⟩⟩
      · have e : gfv (gcpy s a sp.toNat b dp.toNat n.toNat) c (gK s c) i = gfv s c (gK s c) i := by
          unfold gfv
          rw [hoth c hcb]
          rfl
        show gok s (gfv (gcpy s a sp.toNat b dp.toNat n.toNat) c (gK s c) i)
        rw [e]
        exact gw0.1 q1 i hi
      · have e : gev (gcpy s a sp.toNat b dp.toNat n.toNat) c (gT4 (gK s c)) j = gev s c (gT4 (gK s c)) j := by
          unfold gev
          split <;> first | (simp only [hoth c hcb]; done) | rfl
        show gok s (gev (gcpy s a sp.toNat b dp.toNat n.toNat) c (gT4 (gK s c)) j)
        rw [e]
        exact (gw0.2 q1).2.2 j hj
  refine gEnd_ext hext (g_st ok (fun ih => ?_) (k h0 hm (gch_hd hc).2 hwt (fun q hq => gok_ext hext (hl q hq)) (fun v hv => gok_ext hext (g5.2 v hv)) r hr))
  unfold es_step
  dsimp only
  rw [gtab h0 hm (gch_hd hc).1]
  show es_sc (gME (gM0 X)) ih (m + 512 * d) pc (gL L) ((0, eI n) :: (0, eI dp) :: gf (116 + 8 * n2, z2, b) :: (0, eI sp) :: gf (116 + 8 * n1, z1, a) :: S.map gf) (gH s) (gF X) cs ss = _
  have egf : ∀ (k a : Nat) (z : Int), gf (116 + 8 * k, z, a) = (3, a) := fun k a z => by
    rw [show 116 + 8 * k = (100 + 8 * k) + 16 by omega]
    rfl
  rw [egf, egf]
  show (match es_ary (gH s) (3, a), es_ary (gH s) (3, b) with
    | some (ts, ns, c1), some (td, nd, c2) => bif ((Nat.beq ts 0 && Nat.beq td 0) && ((Nat.ble (eI sp + eI n) ns && Nat.ble (eI dp + eI n) nd) && (Nat.blt 0 (es_rf (gME (gM0 X) (m + 512 * d))) && Nat.ble 200 (es_lo (gME (gM0 X) (m + 512 * d)))))) && (c1.all (fun x => es_ti x.2) && Nat.ble (es_cts (S.map gf)) 8) then ih (m + 512 * d) (pc + 3, gL L, S.map gf, (gH s).set b (2, nd, es_copy 0 c1 c2 (eI sp) (eI dp) (eI n)), gF X, cs, ss) else none
    | _, _ => none) = _
  rw [gobjA wa.1 (by decide) a1' a2', gobjA wb.1 (by decide) b1 b2]
  dsimp only
  have e1 : eI sp = sp.toNat := geN2 h1 (by have := wa.1; omega)
  have e2 : eI dp = dp.toNat := geN2 h2 (by have := wb.1; omega)
  have e3 : eI n = n.toNat := geN2 h3 (by have := wb.1; omega)
  have hall : ((List.range n1).map (fun j => (j, gf (gev s a 0 j)))).all (fun x => es_ti x.2) = true := by
    rw [List.all_eq_true]
    intro z hz
    obtain ⟨i, -, rfl⟩ := List.mem_map.mp hz
    rfl
  rw [e1, e2, e3, gME_at _ hm, h0, gcts_eq, hcap, hall, show Nat.blt 0 (es_rf (gdp d T)) = true from es_blt.mpr (show 0 < 8 + d by omega), show Nat.ble 200 (es_lo (gdp d T)) = true from Nat.ble_eq.mpr (show 200 ≤ 300 + 64 * d by omega), Nat.ble_eq.mpr (show sp.toNat + n.toNat ≤ n1 by omega), Nat.ble_eq.mpr (show dp.toNat + n.toNat ≤ n2 by omega), gcopy _ (by omega) (by omega)]
  rw [gH_set (s := s) (s' := gcpy s a sp.toNat b dp.toNat n.toNat) (a := b) rfl (fun c _ hcb => gobj_eq rfl (hoth c hcb) (fun i => rfl)), gobj_a (s := gcpy s a sp.toNat b dp.toNat n.toNat) (n := n2) (t := 0) b2 (by decide)]
  have e9 : (List.range n2).map (fun j => (j, gf (gev (gcpy s a sp.toNat b dp.toNat n.toNat) b 0 j))) = (List.range n2).map (fun i => (i, if dp.toNat ≤ i ∧ i < dp.toNat + n.toNat then gf (gev s a 0 (sp.toNat + (i - dp.toNat))) else gf (gev s b 0 i))) := by
    apply List.map_congr_left
    intro i _
    show (i, gf (0, gI (gcpy s a sp.toNat b dp.toNat n.toNat) b i, 0)) = _
    rw [gcpy_I]
    by_cases hq : dp.toNat ≤ i ∧ i < dp.toNat + n.toNat
    · rw [if_pos ⟨rfl, hq⟩, if_pos hq]; rfl
    · rw [if_neg (fun e => hq e.2), if_neg hq]; rfl
  rw [e9]
  rfl
/-- numbers of the pool -/
theorem g_ldc (ok : gOK X) {idx j n : Nat} {v : Int} (hv : (nI n).toInt = v) (k : Go X T m d (pc + 2) cd L ((0, v, 0) :: S) s cs ss x κ) (hj : j ≠ 100 ∧ j ≠ 200 ∧ j ≠ 60) (hn : n < 4294967296) : Go X T m d pc ((pc, .ldc idx, 2, [j, n]) :: cd) L S s cs ss x κ := by
  refine g_hs ok (fun a t e => by cases e; exact hj) (fun _ _ => rfl) (fun hw hl hs => ⟨?_, gext_rf s, hw, gS1 hs (gok_i.mpr (by rw [← hv]; exact gc32_t _))⟩) (gch1 rfl) k
  show some (pc + 2, gL L, (0, n) :: S.map gf, gH s, gF X, cs, ss) = some (pc + 2, gL L, (0, eI v) :: S.map gf, gH s, gF X, cs, ss)
  rw [← hv, geI]
  have e : (nI n).toBitVec.toNat = n := by
    show (BitVec.ofNat 32 n).toNat = n
    rw [BitVec.toNat_ofNat]
    omega
  rw [e]
theorem g_ldcw (ok : gOK X) {idx j n : Nat} {v : Int} (hv : (nI n).toInt = v) (k : Go X T m d (pc + 3) cd L ((0, v, 0) :: S) s cs ss x κ) (hj : j ≠ 100 ∧ j ≠ 200 ∧ j ≠ 60) (hn : n < 4294967296) : Go X T m d pc ((pc, .ldc_w idx, 3, [j, n]) :: cd) L S s cs ss x κ := by
  refine g_hs ok (fun a t e => by cases e; exact hj) (fun _ _ => rfl) (fun hw hl hs => ⟨?_, gext_rf s, hw, gS1 hs (gok_i.mpr (by rw [← hv]; exact gc32_t _))⟩) (gch1 rfl) k
  show some (pc + 3, gL L, (0, n) :: S.map gf, gH s, gF X, cs, ss) = some (pc + 3, gL L, (0, eI v) :: S.map gf, gH s, gF X, cs, ss)
  rw [← hv, geI]
  have e : (nI n).toBitVec.toNat = n := by
    show (BitVec.ofNat 32 n).toNat = n
    rw [BitVec.toNat_ofNat]
    omega
  rw [e]
theorem g_ldc2 (ok : gOK X) {idx j n : Nat} {v : Int} (hv : (lN n).toInt = v) (k : Go X T m d (pc + 3) cd L ((2, v, 0) :: S) s cs ss x κ) (hj : j ≠ 100 ∧ j ≠ 200 ∧ j ≠ 60) (hn : n < 18446744073709551616) : Go X T m d pc ((pc, .ldc2_w idx, 3, [j, n]) :: cd) L S s cs ss x κ := by
  refine g_hs ok (fun a t e => by cases e; exact hj) (fun _ _ => rfl) (fun hw hl hs => ⟨?_, gext_rf s, hw, gS1 hs (gok_l.mpr (by rw [← hv]; exact gc64_t _))⟩) (gch1 rfl) k
  show some (pc + 3, gL L, (2, n) :: S.map gf, gH s, gF X, cs, ss) = some (pc + 3, gL L, (2, eJ v) :: S.map gf, gH s, gF X, cs, ss)
  rw [← hv, geJ]
  have e : (lN n).toBitVec.toNat = n := by
    show (BitVec.ofNat 64 n).toNat = n
    rw [BitVec.toNat_ofNat]
    omega
  rw [e]
/-- texts -/
theorem gs_str {ME : Nat → es_M} {strs : List (String × Nat × String)} {SL : Nat} {ih : Nat → es_K → Option (List es_E)} {M f a len : Nat} {ins : Instr} {tl : List Nat} {K' : es_K} {K : es_K} (hat : es_at (es_tab (ME M)) K.1 = some (K.1, ins, len, 60 :: f :: a :: tl)) (h : es_str strs f a (es_len ins) K = some K') : es_step ME strs SL ih M K = ih M K' := by
  obtain ⟨pc, Le, Se, AH, F, cs, ss⟩ := K
  unfold es_step
  dsimp only
  rw [hat]
  show (match es_str strs f a (es_len ins) (pc, Le, Se, AH, F, cs, ss) with
    | some K' => ih M K'
    | none => none) = _
  rw [h]
theorem g_str (ok : gOK X) {ins : Instr} {f a len : Nat} {tl : List Nat} (hp : (∀ v ∈ S, gok s v) → es_str (gts X) f a (es_len ins) (pc, gL L, S.map gf, gH s, gF X, cs, ss) = some (pc + len, gL L, S'.map gf, gH s, gF X, cs, ss) ∧ ∀ v ∈ S', gok s v) (k : Go X T m d (pc + len) cd L S' s cs ss x κ) : Go X T m d pc ((pc, ins, len, 60 :: f :: a :: tl) :: cd) L S s cs ss x κ := by
  intro h0 hm hc hw hl hs r hr
  obtain ⟨h1, h2⟩ := hp hs
  exact g_st ok (fun ih => gs_str (gtab h0 hm (gch_hd hc).1) h1) (k h0 hm (gch_hd hc).2 hw hl h2 r hr)
theorem g_ldcs (ok : gOK X) {idx a : Nat} {tl : List Nat} (ha : Nat.blt a 70 = true) (k : Go X T m d (pc + 2) cd L ((8, 0, a) :: S) s cs ss x κ) : Go X T m d pc ((pc, .ldc idx, 2, 60 :: 0 :: a :: tl) :: cd) L S s cs ss x κ :=
  g_str ok (fun hs => ⟨rfl, gS1 hs (show gok s (8, 0, a) from es_blt.mp ha)⟩) k
/-- the law's own row of numbers -/
theorem g_slen (ok : gOK X) {z : Int} {a : Nat} (hS : gSL X < 2147483648) (k : Go X T m d (pc + 1) cd L ((0, (gSL X : Int), 0) :: S) s cs ss x κ) : Go X T m d pc ((pc, .arraylength, 1, []) :: cd) L ((5, z, a) :: S) s cs ss x κ := by
  refine g_hs ok gaxn (fun _ _ => rfl) (fun hw hl hs => ⟨?_, gext_rf s, hw, gS1 (gS2 hs).2 (gok_i.mpr (by unfold gc32; omega))⟩) (gch1 rfl) k
  show some (pc + 1, gL L, (0, gSL X) :: S.map gf, gH s, gF X, cs, ss) = some (pc + 1, gL L, (0, eI (gSL X)) :: S.map gf, gH s, gF X, cs, ss)
  rw [geN hS]
theorem g_sld (ok : gOK X) {z j : Int} {a b : Nat} {sc : Nat → Int} (hS : gSL X < 2147483648) (hsc : ∀ i, i < gSL X → es_kn (gF X) (1, i) = some (eI (sc i)) ∧ gc32 (sc i)) (k : 0 ≤ j → j < (gSL X : Int) → Go X T m d (pc + 1) cd L ((0, sc j.toNat, 0) :: S) s cs ss x κ) : Go X T m d pc ((pc, .iaload, 1, []) :: cd) L ((0, j, b) :: (5, z, a) :: S) s cs ss (gchk j (gSL X : Int) x) κ := by
  refine g_chk (fun h0 h1 => g_hs ok gaxn (fun _ _ => rfl) (fun hw hl hs => ⟨?_, gext_rf s, hw, gS1 (gS2 (gS2 hs).2).2 (gok_i.mpr (hsc j.toNat (by omega)).2)⟩) (gch1 rfl) (k h0 h1))
  show (bif Nat.blt (eI j) (gSL X) && Nat.blt (gSL X) 2147483648 then some (pc + 1, gL L, es_nrm (gF X) (eI j) :: S.map gf, gH s, gF X, cs, ss) else none) = _
  rw [geN2 h0 (by omega), es_blt.mpr (show j.toNat < gSL X by omega), es_blt.mpr hS]
  unfold es_nrm
  rw [(hsc j.toNat (by omega)).1]
  rfl
/-- a switch -/
theorem g_tsw (ok : gOK X) {dflt lo hi v c : Int} {offs : Array Int} {ln a t : Nat} (hv : v = c) (ht : es_to pc (bif decide (c < lo) || decide (hi < c) then dflt else (offs[(c - lo).toNat]?).getD 0) = some t) (hz : ((decide (c < lo) || decide (hi < c)) || decide ((c - lo).toNat < offs.size)) = true) (k : Go X T m d t [] L S s cs ss x κ) : Go X T m d pc ((pc, .tableswitch dflt lo hi offs, ln, []) :: cd) L ((0, v, a) :: S) s cs ss x κ := by
  subst hv
  intro h0 hm hc hw hl hs r hr
  refine g_st ok (fun ih => ?_) (k h0 hm rfl hw hl (gS2 hs).2 r hr)
  unfold es_step
  dsimp only
  rw [gtab h0 hm (gch_hd hc).1]
  show (match es_to pc (bif decide ((nI (eI v)).toInt < lo) || decide (hi < (nI (eI v)).toInt) then dflt else (offs[((nI (eI v)).toInt - lo).toNat]?).getD 0) with
    | some t => bif (decide ((nI (eI v)).toInt < lo) || decide (hi < (nI (eI v)).toInt)) || decide (((nI (eI v)).toInt - lo).toNat < offs.size) then ih (m + 512 * d) (t, gL L, S.map gf, gH s, gF X, cs, ss) else none
    | none => none) = _
  rw [gnI, gti (gok_i.mp (gS2 hs).1), ht]
  dsimp only
  rw [hz]
  rfl
theorem g_tswo (ok : gOK X) {dflt lo hi v : Int} {offs : Array Int} {ln a t : Nat} (hv : v < lo ∨ hi < v) (ht : es_to pc dflt = some t) (k : Go X T m d t [] L S s cs ss x κ) : Go X T m d pc ((pc, .tableswitch dflt lo hi offs, ln, []) :: cd) L ((0, v, a) :: S) s cs ss x κ := by
  have e : (decide (v < lo) || decide (hi < v)) = true := by rw [Bool.or_eq_true, decide_eq_true_eq, decide_eq_true_eq]; exact hv
  exact g_tsw ok rfl (by rw [e]; exact ht) (by rw [e]; rfl) k
/-- handlers -/
theorem g_kxn {k : Nat} {s' : gS} {r : gO} : ((none : Option Q).bind κ = some r) → k < 5 ∧ ∃ h, es_hdl es_ct (es_hh T) pc k = some h ∧ Go X T m d h [] L [(7, 0, 0)] s' cs ss (none : Option Q) κ := fun h => by cases h
theorem g_kxc {k c h : Nat} {s' : gS} {r : gO} {A B : Option Q} (hc : Nat.blt c 5 = true) (hh : es_hdl es_ct (es_hh T) pc c = some h) (ka : Go X T m d h [] L [(7, 0, 0)] s' cs ss A κ) (kb : B.bind κ = some r → k < 5 ∧ ∃ h, es_hdl es_ct (es_hh T) pc k = some h ∧ Go X T m d h [] L [(7, 0, 0)] s' cs ss B κ) : ((if k = c then A else B).bind κ = some r) → k < 5 ∧ ∃ h, es_hdl es_ct (es_hh T) pc k = some h ∧ Go X T m d h [] L [(7, 0, 0)] s' cs ss (if k = c then A else B) κ := fun hr => by
  by_cases hk : k = c
  · subst hk
    rw [if_pos rfl]
    exact ⟨es_blt.mp hc, h, hh, ka⟩
  · rw [if_neg hk] at hr ⊢
    exact kb hr
/-- a new law, a new row -/
theorem g_newlaw (ok : gOK X) {idx j1 j2 j3 : Nat} (hcap : (Nat.blt cs (es_mc T) && Nat.ble (ss + 2) (es_ms T)) = true) (k : Go X T m d (pc + 3) cd L ((20, 0, gn s) :: S) (gnw s 4) (cs + 1) (ss + 2) x κ) : Go X T m d pc ((pc, .new idx, 3, [1, 4, j1, j2, j3]) :: cd) L S s cs ss x κ := by
  intro h0 hm hc hw hl hs r hr
  have hext := gnw_ext s 4
  have hwt : gwt (gnw s 4) := by
    refine gnw_wt hw (fun _ i hi => ?_) (fun h => absurd h (by decide))
    match i, hi with
    | 0, _ =>
      show gc32 (gI (gnw s 4) (gn s) 0)
      rw [gnw_I, if_pos rfl]
      unfold gc32; decide
    | 1, _ =>
      intro h9
      rw [show (gfv (gnw s 4) (gn s) 4 1).2.2 = gR (gnw s 4) (gn s) 1 from rfl, gnw_R, if_pos rfl] at h9
      exact absurd rfl h9
    | i + 2, hi => exact absurd hi (by show ¬ i + 2 < 2; omega)
  have hok : gok (gnw s 4) (20, 0, gn s) := gok_r.mpr ⟨Nat.lt_succ_self _, by rw [gnw_K, if_pos rfl]⟩
  refine gEnd_ext hext (g_st ok (fun ih => ?_) (k h0 hm (gch_hd hc).2 hwt (fun q hq => gok_ext hext (hl q hq)) (gS1 (fun v hv => gok_ext hext (hs v hv)) hok) r hr))
  refine gs_hs (gtab h0 hm (gch_hd hc).1) rfl (gax (by decide)) ?_
  rw [gME_at _ hm, h0]
  show (bif Nat.blt cs (es_mc T) && Nat.ble (ss + 2) (es_ms T) then some (pc + 3, gL L, (3, (gH s).length) :: S.map gf, gH s ++ [(0, 4, es_fs 2 (es_tyf 4))], gF X, cs + 1, ss + 2) else none) = _
  have e2 : gobj (gnw s 4) (gn s) = (0, 4, es_fs 2 (es_tyf 4)) := by
    rw [gobj_c (s := gnw s 4) (k := 4) (by rw [gnw_K, if_pos rfl]) (by decide)]
    show (0, 4, [(0, gf (0, gI (gnw s 4) (gn s) 0, 0)), (1, gf (12, 0, gR (gnw s 4) (gn s) 1))]) = _
    rw [gnw_I, gnw_R, if_pos rfl, if_pos rfl]
    rfl
  rw [hcap, gH_len, gnw_H, e2]
  rfl
theorem g_newint (ok : gOK X) {n a j : Nat} {v : Int} (hn : n < 1000000) (hv : v = (n : Int)) (hcs : cs < es_mc T) (hss : ss + n ≤ es_ms T) (k : Go X T m d (pc + 2) cd L ((116 + 8 * n, 0, gn s) :: S) (gnw s (100 + 8 * n)) (cs + 1) (ss + n) x κ) : Go X T m d pc ((pc, .newarray .int, 2, [0, j]) :: cd) L ((0, v, a) :: S) s cs ss x κ := by
  subst hv
  intro h0 hm hc hw hl hs r hr
  have hext := gnw_ext s (100 + 8 * n)
  have e4 : gL4 (100 + 8 * n) = n ∧ gT4 (100 + 8 * n) = 0 := by unfold gL4 gT4; omega
  have hwt : gwt (gnw s (100 + 8 * n)) := by
    refine gnw_wt hw (fun h => absurd h (by omega)) (fun _ => ⟨by rw [e4.1]; exact hn, by rw [e4.2]; decide, fun j hj => ?_⟩)
    rw [e4.2]
    show gc32 (gI (gnw s (100 + 8 * n)) (gn s) j)
    rw [gnw_I, if_pos rfl]
    unfold gc32; decide
  have hok : gok (gnw s (100 + 8 * n)) (116 + 8 * n, 0, gn s) := by
    rw [show 116 + 8 * n = (100 + 8 * n) + 16 by omega]
    exact gok_r.mpr ⟨Nat.lt_succ_self _, by rw [gnw_K, if_pos rfl]⟩
  obtain ⟨E, e1, e2, e3, e5, e6⟩ := k h0 hm (gch_hd hc).2 hwt (fun q hq => gok_ext hext (hl q hq)) (gS1 (fun v hv => gok_ext hext ((gS2 hs).2 v hv)) hok) r hr
  have eo : gobj (gnw s (100 + 8 * n)) (gn s) = (2, n, (List.range n).map (fun j => (j, gf (gev (gnw s (100 + 8 * n)) (gn s) 0 j)))) := gobj_a (s := gnw s (100 + 8 * n)) (t := 0) (by rw [gnw_K, if_pos rfl]; rfl) (by decide)
  have heq : gEq (gH s ++ [(2, n, [])]) (gH (gnw s (100 + 8 * n))) := by
    rw [gnw_H, eo]
    refine ⟨by rw [List.length_append, List.length_append]; rfl, fun i o hi => ?_⟩
    by_cases hlt : i < (gH s).length
    · rw [List.getElem?_append_left hlt] at hi ⊢
      exact ⟨o, hi, Or.inl rfl⟩
    · rw [List.getElem?_append_right (by omega)] at hi ⊢
      cases hq : i - (gH s).length with
      | zero =>
        rw [hq] at hi
        cases hi
        refine ⟨_, rfl, Or.inr ⟨0, n, _, [], rfl, rfl, fun j hj => ?_⟩⟩
        rw [gad _ hj]
        show (0, 0) = gf (0, gI (gnw s (100 + 8 * n)) (gn s) j, 0)
        rw [gnw_I, if_pos rfl]
        rfl
      | succ q =>
        rw [hq] at hi
        cases hi
  refine gEnd_ext hext (g_st ok (K' := (pc + 2, gL L, (3, gn s) :: S.map gf, gH s ++ [(2, n, [])], gF X, cs + 1, ss + n)) (fun ih => ?_) ⟨E, ok.2.2.2.2.2 _ _ _ _ _ _ _ _ _ _ heq (by
    have e7 : ((116 + 8 * n, 0, gn s) :: S).map gf = (3, gn s) :: S.map gf := by
      rw [List.map_cons, show 116 + 8 * n = (100 + 8 * n) + 16 by omega]
      rfl
    rw [← e7]
    exact e1), e2, e3, e5, e6⟩)
  refine gs_hs (gtab h0 hm (gch_hd hc).1) rfl (gax (by decide)) ?_
  rw [gME_at _ hm, h0]
  show (bif (Nat.blt 0 3 && Nat.blt (eI (n : Int)) 1000000) && (Nat.blt cs (es_mc T) && Nat.ble (ss + eI (n : Int)) (es_ms T)) then some (pc + 2, gL L, (3, (gH s).length) :: S.map gf, gH s ++ [(0 + 2, eI (n : Int), [])], gF X, cs + 1, ss + eI (n : Int)) else none) = _
  rw [geN (by omega), es_blt.mpr hn, es_blt.mpr hcs, Nat.ble_eq.mpr hss, gH_len]
  rfl
/-- the plain constructor, and a call of one -/
theorem g_oinit (ok : gOK X) {idx a t : Nat} {z : Int} {tl : List Nat} (hcap : Nat.ble (gcts S) 8 = true) (k : Go X T m d (pc + 3) cd L S s cs ss x κ) : Go X T m d pc ((pc, .invokespecial idx, 3, 9 :: tl) :: cd) L ((t + 16, z, a) :: S) s cs ss x κ := by
  intro h0 hm hc hw hl hs r hr
  refine g_st ok (fun ih => ?_) (k h0 hm (gch_hd hc).2 hw hl (gS2 hs).2 r hr)
  unfold es_step
  dsimp only
  rw [gtab h0 hm (gch_hd hc).1]
  show (bif Nat.beq 3 3 && (Nat.blt 0 (es_rf (gME (gM0 X) (m + 512 * d))) && Nat.ble (es_cts (S.map gf) + 12) (es_lo (gME (gM0 X) (m + 512 * d)))) then ih (m + 512 * d) (pc + 3, gL L, S.map gf, gH s, gF X, cs, ss) else none) = _
  have h8 := Nat.ble_eq.mp hcap
  rw [gME_at _ hm, h0, gcts_eq, show Nat.blt 0 (es_rf (gdp d T)) = true from es_blt.mpr (show 0 < 8 + d by omega), show Nat.ble (gcts S + 12) (es_lo (gdp d T)) = true from Nat.ble_eq.mpr (show gcts S + 12 ≤ 300 + 64 * d by omega)]
  rfl
theorem g_ci0 (ok : gOK X) {idx n ci a : Nat} {z : Int} {tl : List Nat} {y : Option gO} {E : gS → Option Q} (h0' : gM0 X m' = T') (hdr : S.drop n = (ci + 16, z, a) :: rest) (hcal : gcal 8 T T' m' ((ci + 16, z, a) :: (S.take n).reverse) rest cs ss = true) (hy : ∀ q, y = some q → q.1 = 0) (ct : Go X T' m' d 0 [] (gal 0 ((ci + 16, z, a) :: (S.take n).reverse)) [] s 0 0 y some) (kk : ∀ s', Go X T m (d + 1) (pc + 3) cd L rest s' (cs + es_mc T') (ss + es_ms T') (E s') κ) : Go X T m (d + 1) pc ((pc, .invokespecial idx, 3, 7 :: m' :: n :: tl) :: cd) L S s cs ss (y.bind (gv0 E)) κ := by
  have hm' : m' < 512 := by unfold gcal at hcal; simp only [Bool.and_eq_true, es_blt] at hcal; omega
  refine g_call ok h0' hm' hcal (fun hm h0 hat hw hs ih hv => ?_) (gvsv hdr) ct (fun h0 hm hch q _ hw _ hL hR r hr => gk_0 kk h0 hm hch hw hL hR hr)
  unfold es_step
  dsimp only
  rw [gtab h0 hm hat]
  show es_si (gME (gM0 X)) ih (m + 512 * (d + 1)) (es_cal (m + 512 * (d + 1)) m') n pc (gL L) (S.map gf) (gH s) (gF X) cs ss = _
  rw [gcal_at m d hm hm']
  unfold es_si
  rw [← List.map_drop, hdr, List.map_cons]
  dsimp only
  rw [gf_r, ← List.map_take, ← List.map_reverse]
  show (match es_inv1 (gME (gM0 X)) 8 ih (m + 512 * (d + 1)) (m' + 512 * d) (((ci + 16, z, a) :: (S.take n).reverse).map gf) (rest.map gf) (gH s) (gF X) cs ss with
      | some lfs => bif es_nothr lfs then es_cat (es_aft (gME (gM0 X)) ih (m + 512 * (d + 1)) pc (gL L) (rest.map gf) (cs + es_mc (gME (gM0 X) (m' + 512 * d))) (ss + es_ms (gME (gM0 X) (m' + 512 * d)))) lfs else none
      | none => none) = _
  rw [(gmc hm' h0').1, (gmc hm' h0').2]
  cases hi : es_inv1 (gME (gM0 X)) 8 ih (m + 512 * (d + 1)) (m' + 512 * d) (((ci + 16, z, a) :: (S.take n).reverse).map gf) (rest.map gf) (gH s) (gF X) cs ss with
  | none => rfl
  | some lfs =>
    obtain ⟨q, q1, rfl⟩ := hv lfs hi
    dsimp only
    rw [show es_nothr [gLf X T' q] = true from by
      show (Nat.blt q.1 2 && true) = true
      rw [hy q q1]
      rfl]
    rfl
end GoN
