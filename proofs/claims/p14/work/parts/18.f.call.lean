def gcts (S : List gV) : Nat := match S with
  | [] => 0
  | v :: t => (bif Nat.beq v.1 2 then 2 else 1) + gcts t
theorem gcts_eq : ∀ S : List gV, es_cts (S.map gf) = gcts S
  | [] => rfl
  | v :: t => by
    show (bif Nat.beq (gf v).1 2 then 2 else 1) + es_cts (t.map gf) = (bif Nat.beq v.1 2 then 2 else 1) + gcts t
    rw [gf_2, gcts_eq t]
def gal : Nat → List gV → List (Nat × gV)
  | _, [] => []
  | i, v :: vs => (i, v) :: gal (bif Nat.beq v.1 2 then i + 2 else i + 1) vs
theorem gal_eq : ∀ (i : Nat) (vs : List gV), es_al i (vs.map gf) = gL (gal i vs)
  | _, [] => rfl
  | i, v :: vs => by
    show (i, gf v) :: es_al (bif Nat.beq (gf v).1 2 then i + 2 else i + 1) (vs.map gf) = (i, gf v) :: gL (gal (bif Nat.beq v.1 2 then i + 2 else i + 1) vs)
    rw [gf_2, gal_eq]
theorem gal_mem : ∀ (i : Nat) (vs : List gV) (q : Nat × gV), q ∈ gal i vs → q.2 ∈ vs
  | _, [], q, h => by cases h
  | i, v :: vs, q, h => by
    rcases List.mem_cons.mp (show q ∈ (i, v) :: gal (bif Nat.beq v.1 2 then i + 2 else i + 1) vs from h) with h1 | h1
    · rw [h1]; exact List.mem_cons_self
    · exact List.mem_cons_of_mem _ (gal_mem _ vs q h1)
/-- may this method be called here -/
def gcal (w : Nat) (T T' : es_M) (m' : Nat) (vs rest : List gV) (cs ss : Nat) : Bool := ((Nat.ble (gcts vs) (es_mL T') && Nat.ble (gcts rest) w) && (Nat.blt m' 511 && Nat.ble (es_mL T') 37)) && (Nat.ble (cs + es_mc T') (es_mc T) && Nat.ble (ss + es_ms T') (es_ms T))
def gv0 {Q : Type} (E : gS → Option Q) (q : gO) : Option Q := if q.1 = 0 then E q.2.2.2 else none
def gv1 {Q : Type} (E : Int → gS → Option Q) (q : gO) : Option Q := if q.1 = 1 then E q.2.1 q.2.2.2 else none
def gvr {Q : Type} (E : Nat → gS → Option Q) (q : gO) : Option Q := if q.1 = 1 then E q.2.2.1 q.2.2.2 else none
/-- .. and what is thrown goes on -/
def gt0 {Q : Type} (Z : gO → Q) (E : gS → Option Q) (q : gO) : Option Q := if q.1 = 0 then E q.2.2.2 else if 2 ≤ q.1 then some (Z (q.1, 0, 0, q.2.2.2)) else none
def gt1 {Q : Type} (Z : gO → Q) (E : Int → gS → Option Q) (q : gO) : Option Q := if q.1 = 1 then E q.2.1 q.2.2.2 else if 2 ≤ q.1 then some (Z (q.1, 0, 0, q.2.2.2)) else none
/-- .. and what is thrown is caught -/
def gc1 {Q : Type} (C : Nat → gS → Option Q) (E : Int → gS → Option Q) (q : gO) : Option Q := if q.1 = 1 then E q.2.1 q.2.2.2 else if 2 ≤ q.1 then C (q.1 - 2) q.2.2.2 else none
section GoC
variable {X : gX} {T T' : es_M} {m m' d pc pc' : Nat} {cd cd' : List es_I} {L L' : List (Nat × gV)} {S S' vs rest : List gV} {s s' : gS} {cs ss : Nat} {Q : Type} {x : Option Q} {κ : Q → Option gO}
theorem gleaf {e : es_I} {Le : es_L} {Se : List es_V} {AH : List es_O} {F : es_F} {q : Nat × es_V} (hat : es_at (es_tab T) pc = some e) (haux : e.2.2.2 = []) (hr : es_rtv (es_rt T) e.2.1 Se F = some q) (hc : (Nat.ble cs (es_mc T) && Nat.ble ss (es_ms T)) = true) : es_leaf (gdp d T) (0, pc, Le, Se, AH, F, cs, ss) = some (q.1, q.2, AH, F) := by
  show (match es_at (es_tab T) pc with
    | some e => match e.2.2.2 with
      | 100 :: x :: _ => match es_hh T with
        | [] => bif (Nat.blt cs (es_mc T) && Nat.ble (ss + 6) (es_ms T)) && (Nat.blt 5 (8 + d) && Nat.ble 100 (300 + 64 * d)) && Nat.ble (es_cts Se) 8 then some (x + 2, (0, 0), AH ++ [(1, 0, [])], F) else none
        | _ => none
      | _ => match es_rtv (es_rt T) e.2.1 Se F with
        | some q => bif Nat.ble cs (es_mc T) && Nat.ble ss (es_ms T) then some (q.1, q.2, AH, F) else none
        | none => none
    | none => none) = _
  rw [hat]
  dsimp only
  rw [haux]
  dsimp only
  rw [hr]
  dsimp only
  rw [hc]
  rfl
theorem g_rt (ok : gOK X) {e : es_I} {r : gO} {q : Q} (haux : e.2.2.2 = []) (hs0 : r.2.2.2 = s) (hrtv : es_rtv (es_rt T) e.2.1 (S.map gf) (gF X) = some (r.1, (gLf X T r).2.1)) (hcap : (Nat.ble cs (es_mc T) && Nat.ble ss (es_ms T)) = true) (hok : (∀ v ∈ S, gok s v) → r.1 = 1 → gok s (gRt T, r.2.1, r.2.2.1)) (hκ : κ q = some r) : Go X T m d pc (e :: cd) L S s cs ss (some q) κ := by
  intro h0 hm hc hw hl hs r' hr'
  have e1 : some r = some r' := hκ.symm.trans hr'
  cases e1
  subst hs0
  refine ⟨_, ok.2.2.1 _ _, ?_, gext_rf _, hw, hok hs⟩
  rw [gleaf (gch_hd hc).1 haux hrtv hcap]
  rfl
theorem g_ireturn (ok : gOK X) {v : Int} {a : Nat} {q : Q} (hrt : es_rt T = some .int) (hcap : (Nat.ble cs (es_mc T) && Nat.ble ss (es_ms T)) = true) (hκ : κ q = some (1, v, 0, s)) : Go X T m d pc ((pc, .ireturn, 1, []) :: cd) L [(0, v, a)] s cs ss (some q) κ := by
  have e : gRt T = 0 := by unfold gRt; rw [hrt]
  refine g_rt ok (r := (1, v, 0, s)) rfl rfl ?_ hcap (fun hs _ => by rw [e]; exact (gS2 hs).1) hκ
  rw [hrt]
  unfold gLf
  rw [e]
  rfl
theorem g_zreturn (ok : gOK X) {v : Int} {a : Nat} {q : Q} (hrt : es_rt T = some .boolean) (hv : v = 0 ∨ v = 1) (hcap : (Nat.ble cs (es_mc T) && Nat.ble ss (es_ms T)) = true) (hκ : κ q = some (1, v, 0, s)) : Go X T m d pc ((pc, .ireturn, 1, []) :: cd) L [(0, v, a)] s cs ss (some q) κ := by
  have e : gRt T = 1 := by unfold gRt; rw [hrt]
  refine g_rt ok (r := (1, v, 0, s)) rfl rfl ?_ hcap (fun hs _ => by rw [e]; exact hv) hκ
  rw [hrt]
  unfold gLf
  rw [e]
  show (bif es_fitv .boolean (gF X) (0, eI v) then some (1, (0, eI v)) else none) = _
  rw [gfitb _ hv]
  rfl
theorem g_zreturnb (ok : gOK X) {v : Int} {a : Nat} {q : Q} (hrt : es_rt T = some .boolean) (hcap : (Nat.ble cs (es_mc T) && Nat.ble ss (es_ms T)) = true) (hκ : κ q = some (1, v, 0, s)) : Go X T m d pc ((pc, .ireturn, 1, []) :: cd) L [(0, v, a)] s cs ss (gbool v (some q)) κ := by
  unfold gbool
  by_cases h : v = 0 ∨ v = 1
  · rw [if_pos h]; exact g_zreturn ok hrt h hcap hκ
  · rw [if_neg h]; exact g_none
/-- a char or a byte -/
theorem g_creturn (ok : gOK X) {v : Int} {a : Nat} {q : Q} (hrt : es_rt T = some .char ∨ es_rt T = some .byte) (hv : 0 ≤ v ∧ v < 128) (hcap : (Nat.ble cs (es_mc T) && Nat.ble ss (es_ms T)) = true) (hκ : κ q = some (1, v, 0, s)) : Go X T m d pc ((pc, .ireturn, 1, []) :: cd) L [(0, v, a)] s cs ss (some q) κ := by
  have e : gRt T = 0 := by unfold gRt; rcases hrt with h | h <;> rw [h]
  have e2 : es_nar (gF X) (0, eI v) = true := by
    show Nat.blt (eI v) 128 = true
    rw [geN2 hv.1 (by omega)]
    exact es_blt.mpr (by omega)
  refine g_rt ok (r := (1, v, 0, s)) rfl rfl ?_ hcap (fun hs _ => by rw [e]; exact (gS2 hs).1) hκ
  unfold gLf
  rw [e]
  rcases hrt with h | h
  · rw [h]
    show (bif es_nar (gF X) (0, eI v) then some (1, (0, eI v)) else none) = _
    rw [e2]; rfl
  · rw [h]
    show (bif es_nar (gF X) (0, eI v) then some (1, (0, eI v)) else none) = _
    rw [e2]; rfl
theorem g_lreturn (ok : gOK X) {v : Int} {a : Nat} {q : Q} (hrt : es_rt T = some .long) (hcap : (Nat.ble cs (es_mc T) && Nat.ble ss (es_ms T)) = true) (hκ : κ q = some (1, v, 0, s)) : Go X T m d pc ((pc, .lreturn, 1, []) :: cd) L [(2, v, a)] s cs ss (some q) κ := by
  have e : gRt T = 2 := by unfold gRt; rw [hrt]
  refine g_rt ok (r := (1, v, 0, s)) rfl rfl ?_ hcap (fun hs _ => by rw [e]; exact (gS2 hs).1) hκ
  rw [hrt]
  unfold gLf
  rw [e]
  rfl
theorem g_return (ok : gOK X) {q : Q} (hrt : es_rt T = none) (hcap : (Nat.ble cs (es_mc T) && Nat.ble ss (es_ms T)) = true) (hκ : κ q = some (0, 0, 0, s)) : Go X T m d pc ((pc, .return_, 1, []) :: cd) L [] s cs ss (some q) κ := by
  refine g_rt ok (r := (0, 0, 0, s)) rfl rfl ?_ hcap (fun hs h => by cases h) hκ
  rw [hrt]
  rfl
/-- a reference, or nothing -/
theorem g_areturn (ok : gOK X) {w : gV} {a tg : Nat} {q : Q} (hrt : (∃ C, es_rt T = some (.object C)) ∨ ∃ t, es_rt T = some (.array t)) (htg : gRt T = tg) (hgf : gf w = gf (tg, 0, a)) (htr : es_tr (gf w) = true) (hok : gok s w → gok s (tg, 0, a)) (hcap : (Nat.ble cs (es_mc T) && Nat.ble ss (es_ms T)) = true) (hκ : κ q = some (1, 0, a, s)) : Go X T m d pc ((pc, .areturn, 1, []) :: cd) L [w] s cs ss (some q) κ := by
  refine g_rt ok (r := (1, 0, a, s)) rfl rfl ?_ hcap (fun hs _ => by rw [htg]; exact hok (gS2 hs).1) hκ
  unfold gLf
  rw [htg]
  dsimp only
  rw [if_pos rfl, ← hgf]
  rcases hrt with ⟨C, h⟩ | ⟨C, h⟩
  · rw [h]
    show (bif es_tr (gf w) then some (1, gf w) else none) = _
    rw [htr]; rfl
  · rw [h]
    show (bif es_tr (gf w) then some (1, gf w) else none) = _
    rw [htr]; rfl
/-- a new cell -/
theorem gnw_K (s : gS) (kd a : Nat) : gK (gnw s kd) a = if a = gn s then kd else gK s a := rfl
theorem gnw_I (s : gS) (kd a k : Nat) : gI (gnw s kd) a k = if a = gn s then 0 else gI s a k := rfl
theorem gnw_R (s : gS) (kd a k : Nat) : gR (gnw s kd) a k = if a = gn s then 0 else gR s a k := rfl
theorem gnw_ext (s : gS) (kd : Nat) : gext s (gnw s kd) := ⟨Nat.le_succ _, fun a ha => by rw [gnw_K, if_neg (Nat.ne_of_lt ha)]⟩
theorem gnw_H (s : gS) (kd : Nat) : gH (gnw s kd) = gH s ++ [gobj (gnw s kd) (gn s)] :=
  gH_new rfl (fun b hb => gobj_eq (by rw [gnw_K, if_neg (Nat.ne_of_lt hb)]) (fun i => by rw [gnw_I, if_neg (Nat.ne_of_lt hb)]) (fun i => by rw [gnw_R, if_neg (Nat.ne_of_lt hb)]))
theorem gnw_wt {kd : Nat} (hw : gwt s) (h1 : kd < 13 → ∀ i, i < gnf kd → gok (gnw s kd) (gfv (gnw s kd) (gn s) kd i)) (h2 : 100 ≤ kd → gL4 kd < 1000000 ∧ gT4 kd < 5 ∧ ∀ j, j < gL4 kd → gok (gnw s kd) (gev (gnw s kd) (gn s) (gT4 kd) j)) : gwt (gnw s kd) := by
  intro b hb
  by_cases hbs : b = gn s
  · subst hbs
    rw [gnw_K, if_pos rfl]
    exact ⟨h1, h2⟩
  · have hlt : b < gn s := by
      have h9 : b < gn s + 1 := hb
      omega
    have g := hw b hlt
    rw [gnw_K, if_neg hbs]
    refine ⟨fun g1 i hi => ?_, fun g1 => ⟨(g.2 g1).1, (g.2 g1).2.1, fun j hj => ?_⟩⟩
    · have e : gfv (gnw s kd) b (gK s b) i = gfv s b (gK s b) i := by
        unfold gfv
        rw [gnw_I, gnw_R, if_neg hbs, if_neg hbs]
      rw [e]
      exact gok_ext (gnw_ext s kd) (g.1 g1 i hi)
    · have e : gev (gnw s kd) b (gT4 (gK s b)) j = gev s b (gT4 (gK s b)) j := by
        unfold gev
        split <;> simp only [gnw_I, gnw_R, if_neg hbs]
      rw [e]
      exact gok_ext (gnw_ext s kd) ((g.2 g1).2.2 j hj)
theorem gnw99 (hw : gwt s) : gwt (gnw s 99) := gnw_wt hw (fun h => absurd h (by decide)) (fun h => absurd h (by decide))
/-- it throws -/
theorem g_throw (ok : gOK X) {ik x0 : Nat} {tl : List Nat} {q : Q} (hh : es_hh T = []) (hcap : ((Nat.blt cs (es_mc T) && Nat.ble (ss + 6) (es_ms T)) && Nat.ble (gcts S) 8) = true) (hκ : κ q = some (x0 + 2, 0, 0, gnw s 99)) : Go X T m d pc ((pc, .new ik, 3, 100 :: x0 :: tl) :: cd) L S s cs ss (some q) κ := by
  intro h0 hm hc hw hl hs r' hr'
  have e1 : some (x0 + 2, 0, 0, gnw s 99) = some r' := hκ.symm.trans hr'
  cases e1
  refine ⟨_, ok.2.2.1 _ _, ?_, gnw_ext s 99, gnw99 hw, fun h => by cases h⟩
  simp only [Bool.and_eq_true] at hcap
  show (match es_at (es_tab T) pc with
    | some e => match e.2.2.2 with
      | 100 :: x :: _ => match es_hh T with
        | [] => bif (Nat.blt cs (es_mc T) && Nat.ble (ss + 6) (es_ms T)) && (Nat.blt 5 (8 + d) && Nat.ble 100 (300 + 64 * d)) && Nat.ble (es_cts (S.map gf)) 8 then some (x + 2, (0, 0), gH s ++ [(1, 0, [])], gF X) else none
        | _ => none
      | _ => match es_rtv (es_rt T) e.2.1 (S.map gf) (gF X) with
        | some q => bif Nat.ble cs (es_mc T) && Nat.ble ss (es_ms T) then some (q.1, q.2, gH s, gF X) else none
        | none => none
    | none => none) = _
  rw [(gch_hd hc).1]
  dsimp only
  rw [hh]
  dsimp only
  rw [gcts_eq, hcap.1.1, hcap.1.2, hcap.2, es_blt.mpr (show 5 < 8 + d by omega), Nat.ble_eq.mpr (show 100 ≤ 300 + 64 * d by omega)]
  have e2 : gobj (gnw s 99) (gn s) = (1, 0, []) := by
    unfold gobj
    rw [gnw_K, if_pos rfl, if_neg (by decide), if_pos (by decide)]
  unfold gLf
  dsimp only
  rw [gnw_H, e2, if_neg (by omega)]
  rfl
/-- what is behind a call -/
def gAft (X : gX) (T T' : es_M) (m d pc : Nat) (L : List (Nat × gV)) (rest : List gV) (cs ss : Nat) (s : gS) (q r : gO) : Prop :=
  ∃ Kc Ec E, gRS X (m + 512 * d) Kc [Ec] ∧ (∀ ih : Nat → es_K → Option (List es_E), ih (m + 512 * d) Kc = some [Ec] → es_aft (gME (gM0 X)) ih (m + 512 * d) pc (gL L) (rest.map gf) cs ss (gLf X T' q) = some [E]) ∧ es_leaf (gdp d T) E = some (gLf X T r) ∧ gext s r.2.2.2 ∧ gwt r.2.2.2 ∧ (r.1 = 1 → gok r.2.2.2 (gRt T, r.2.1, r.2.2.1))
theorem g_call (ok : gOK X) (h0' : gM0 X m' = T') (hm' : m' < 512) {e : es_I} {y : Option gO} {W : gO → Option Q} {w9 : Nat} (hcal : gcal w9 T T' m' vs rest cs ss = true)
    (hstep : m < 512 → gM0 X m = T → es_at (es_tab T) pc = some e → gwt s → (∀ v ∈ S, gok s v) → ∀ ih : Nat → es_K → Option (List es_E), (∀ v, es_inv1 (gME (gM0 X)) w9 ih (m + 512 * (d + 1)) (m' + 512 * d) (vs.map gf) (rest.map gf) (gH s) (gF X) cs ss = some v → ∃ q, y = some q ∧ v = [gLf X T' q]) → es_step (gME (gM0 X)) (gts X) (gSL X) ih (m + 512 * (d + 1)) (pc, gL L, S.map gf, gH s, gF X, cs, ss) = (match es_inv1 (gME (gM0 X)) w9 ih (m + 512 * (d + 1)) (m' + 512 * d) (vs.map gf) (rest.map gf) (gH s) (gF X) cs ss with
      | some lfs => es_cat (es_aft (gME (gM0 X)) ih (m + 512 * (d + 1)) pc (gL L) (rest.map gf) (cs + es_mc T') (ss + es_ms T')) lfs
      | none => none))
    (hvs : (∀ v ∈ S, gok s v) → (∀ v ∈ vs, gok s v) ∧ ∀ v ∈ rest, gok s v) (ct : Go X T' m' d 0 [] (gal 0 vs) [] s 0 0 y some)
    (k : gM0 X m = T → m < 512 → gch T (pc + e.2.2.1) cd = true → ∀ q, gext s q.2.2.2 → gwt q.2.2.2 → (q.1 = 1 → gok q.2.2.2 (gRt T', q.2.1, q.2.2.1)) → (∀ z ∈ L, gok q.2.2.2 z.2) → (∀ v ∈ rest, gok q.2.2.2 v) → ∀ r, (W q).bind κ = some r → gAft X T T' m (d + 1) pc L rest (cs + es_mc T') (ss + es_ms T') q.2.2.2 q r) :
    Go X T m (d + 1) pc (e :: cd) L S s cs ss (y.bind W) κ := by
  intro h0 hm hc hw hl hs r hr
  cases hy : y with
  | none => rw [hy] at hr; cases hr
  | some q =>
    rw [hy] at hr
    obtain ⟨g1, g2⟩ := hvs hs
    obtain ⟨E', c1, c2, c3, c4, c5⟩ := ct h0' hm' rfl hw (fun z hz => g1 _ (gal_mem 0 vs z hz)) (fun v hv => by cases hv) q (by rw [hy]; rfl)
    obtain ⟨Kc, Ec, E, a1, a2, a3, a4, a5⟩ := k h0 hm (gch_hd hc).2 q c3 c4 c5 (fun z hz => gok_ext c3 (hl z hz)) (fun v hv => gok_ext c3 (g2 v hv)) r hr
    have hne : m' + 512 * d ≠ m + 512 * (d + 1) := by omega
    refine ⟨E, ok.1 (fun M K1 => @ite _ (M = m' + 512 * d ∧ K1 = (0, gL (gal 0 vs), [], gH s, gF X, 0, 0)) (Classical.propDecidable _) (some [E']) (@ite _ (M = m + 512 * (d + 1) ∧ K1 = Kc) (Classical.propDecidable _) (some [Ec]) none)) (fun M K1 ends he => ?_) _ _ _ ?_, a3, gext_tr c3 a4, a5⟩
    · by_cases hcnd : M = m' + 512 * d ∧ K1 = (0, gL (gal 0 vs), [], gH s, gF X, 0, 0)
      · rw [if_pos hcnd] at he
        cases he
        rw [hcnd.1, hcnd.2]
        exact c1
      · rw [if_neg hcnd] at he
        by_cases hcn2 : M = m + 512 * (d + 1) ∧ K1 = Kc
        · rw [if_pos hcn2] at he
          cases he
          rw [hcn2.1, hcn2.2]
          exact a1
        · rw [if_neg hcn2] at he
          cases he
    · have hi1 : ∀ ih : Nat → es_K → Option (List es_E), ih (m' + 512 * d) (0, gL (gal 0 vs), [], gH s, gF X, 0, 0) = some [E'] → es_inv1 (gME (gM0 X)) w9 ih (m + 512 * (d + 1)) (m' + 512 * d) (vs.map gf) (rest.map gf) (gH s) (gF X) cs ss = some [gLf X T' q] := fun ih hih => by
        unfold es_inv1
        rw [gME_at _ hm', gME_at _ hm, h0', h0, gcts_eq, gcts_eq, gal_eq, hih]
        unfold gcal at hcal
        simp only [Bool.and_eq_true, Nat.ble_eq, es_blt] at hcal
        obtain ⟨⟨⟨q1, q2⟩, q3, q4⟩, q5, q6⟩ := hcal
        have hcx : es_cx (m' + 512 * d) = true := by
          unfold es_cx
          rw [show (m' + 512 * d) % 512 = m' by omega, es_beqf.mpr (by omega)]
          rfl
        have hb : ((Nat.ble (gcts vs) (es_mL (gdp d T')) && (Nat.ble (gcts rest) w9 && es_cx (m' + 512 * d))) && ((Nat.blt (es_rf (gdp d T')) (es_rf (gdp (d + 1) T)) && Nat.ble (27 + es_mL (gdp d T') + es_lo (gdp d T')) (es_lo (gdp (d + 1) T))) && (Nat.ble (cs + es_mc (gdp d T')) (es_mc (gdp (d + 1) T)) && Nat.ble (ss + es_ms (gdp d T')) (es_ms (gdp (d + 1) T))))) = true := by
          simp only [Bool.and_eq_true, Nat.ble_eq, es_blt]
          refine ⟨⟨q1, q2, hcx⟩, ⟨?_, ?_⟩, q5, q6⟩
          · show 8 + d < 8 + (d + 1); omega
          · show 27 + es_mL T' + (300 + 64 * d) ≤ 300 + 64 * (d + 1); omega
        rw [hb]
        show (match es_cat (fun E => (es_leaf (gdp d T') E).map (fun x => [x])) [E'] with | some lfs => some lfs | none => none) = _
        simp only [es_cat, c2, Option.map_some, List.append_nil]
      rw [hstep hm h0 (gch_hd hc).1 hw hs _ (fun v hv => by
        rw [hi1 _ (if_pos ⟨rfl, rfl⟩)] at hv
        cases hv
        exact ⟨q, hy, rfl⟩), hi1 _ (if_pos ⟨rfl, rfl⟩)]
      dsimp only
      simp only [es_cat]
      rw [a2 _ (by rw [if_neg (fun h => hne h.1.symm)]; exact if_pos ⟨rfl, rfl⟩)]
      rfl
/-- the plain ends of a call -/
theorem g_aft0 {q r : gO} {w : Option gV} (hm : m < 512) (h0 : gM0 X m = T) (hq : (q.1 = 0 ∧ w = none) ∨ (q.1 = 1 ∧ ∃ u, w = some u ∧ gf u = gf (gRt T', q.2.1, q.2.2.1) ∧ gok q.2.2.2 u)) (hch : gch T (pc + 3) cd = true) (hw : gwt q.2.2.2) (hL : ∀ z ∈ L, gok q.2.2.2 z.2) (hR : ∀ v ∈ rest, gok q.2.2.2 v) (kk : Go X T m d (pc + 3) cd L (w.toList ++ rest) q.2.2.2 cs ss x κ) (hr : x.bind κ = some r) : gAft X T T' m d pc L rest cs ss q.2.2.2 q r := by
  have hS : ∀ v ∈ w.toList ++ rest, gok q.2.2.2 v := fun v hv => by
    rcases List.mem_append.mp hv with h | h
    · rcases hq with ⟨-, h2⟩ | ⟨-, u, h2, -, h4⟩
      · rw [h2] at h; cases h
      · rw [h2] at h
        rw [List.mem_singleton.mp h]
        exact h4
    · exact hR v h
  obtain ⟨E, e1, e2, e3, e4, e5⟩ := kk h0 hm hch hw hL hS r hr
  refine ⟨_, E, E, e1, fun ih hih => ?_, e2, e3, e4, e5⟩
  rcases hq with ⟨h1, h2⟩ | ⟨h1, u, h2, h3, h4⟩
  · subst h2
    unfold gLf
    rw [h1]
    exact hih
  · subst h2
    unfold gLf
    rw [h1]
    show ih (m + 512 * d) (pc + 3, gL L, gf (gRt T', q.2.1, q.2.2.1) :: rest.map gf, gH q.2.2.2, gF X, cs, ss) = some [E]
    rw [← h3]
    exact hih
/-- it is thrown on -/
theorem g_aftT (ok : gOK X) {q r : gO} (hm : m < 512) (h0 : gM0 X m = T) (hh : es_hh T = []) (h2 : 2 ≤ q.1) (hr : r = (q.1, 0, 0, q.2.2.2)) (hw : gwt q.2.2.2) (hcap : (Nat.ble cs (es_mc T) && Nat.ble ss (es_ms T)) = true) : gAft X T T' m d pc L rest cs ss q.2.2.2 q r := by
  subst hr
  obtain ⟨k, v, a, u⟩ := q
  obtain ⟨k, rfl⟩ : ∃ j, k = j + 2 := ⟨k - 2, by have h9 : 2 ≤ k := h2; omega⟩
  refine ⟨(0, [], [], [], [], 0, 0), _, (k + 1, pc, gL L, rest.map gf, gH u, gF X, cs, ss), ok.2.2.1 _ _, fun ih _ => ?_, ?_, gext_rf _, hw, fun h => by cases h⟩
  · show (match es_hh (gME (gM0 X) (m + 512 * d)) with
      | [] => some [(k + 1, pc, gL L, rest.map gf, gH u, gF X, cs, ss)]
      | hh => match es_hdl es_ct hh pc k with
        | some h => bif Nat.blt k 5 then ih (m + 512 * d) (h, gL L, [(7, 0)], gH u, gF X, cs, ss) else none
        | none => none) = _
    rw [gME_at _ hm, h0, show es_hh (gdp d T) = [] from hh]
  · show (match es_hh T with
      | [] => bif Nat.ble cs (es_mc T) && Nat.ble ss (es_ms T) then some (k + 2, (0, 0), gH u, gF X) else none
      | _ => none) = _
    rw [hh]
    dsimp only
    rw [hcap]
    unfold gLf
    dsimp only
    rw [if_neg (by omega)]
    rfl
/-- it is caught -/
theorem g_aftC {q r : gO} {h : Nat} (hm : m < 512) (h0 : gM0 X m = T) (h2 : 2 ≤ q.1) (h7 : q.1 - 2 < 5) (hne : es_hh T ≠ []) (hhd : es_hdl es_ct (es_hh T) pc (q.1 - 2) = some h) (hw : gwt q.2.2.2) (hL : ∀ z ∈ L, gok q.2.2.2 z.2) (kk : Go X T m d h [] L [(7, 0, 0)] q.2.2.2 cs ss x κ) (hr : x.bind κ = some r) : gAft X T T' m d pc L rest cs ss q.2.2.2 q r := by
  obtain ⟨k, v, a, u⟩ := q
  obtain ⟨k, rfl⟩ : ∃ j, k = j + 2 := ⟨k - 2, by have h9 : 2 ≤ k := h2; omega⟩
  dsimp only at h7 hhd hw hL
  rw [Nat.add_sub_cancel] at h7 hhd
  obtain ⟨E, e1, e2, e3, e4, e5⟩ := kk h0 hm rfl hw hL (fun v hv => by
    rw [List.mem_singleton.mp hv]
    exact fun h => absurd h (by decide)) r hr
  refine ⟨_, E, E, e1, fun ih hih => ?_, e2, e3, e4, e5⟩
  show (match es_hh (gME (gM0 X) (m + 512 * d)) with
    | [] => some [(k + 1, pc, gL L, rest.map gf, gH u, gF X, cs, ss)]
    | hh => match es_hdl es_ct hh pc k with
      | some h => bif Nat.blt k 5 then ih (m + 512 * d) (h, gL L, [(7, 0)], gH u, gF X, cs, ss) else none
      | none => none) = _
  rw [gME_at _ hm, h0, show es_hh (gdp d T) = es_hh T from rfl]
  cases hhT : es_hh T with
  | nil => exact absurd hhT hne
  | cons z t =>
    dsimp only
    rw [hhT] at hhd
    rw [hhd]
    dsimp only
    rw [es_blt.mpr h7]
    exact hih
end GoC
