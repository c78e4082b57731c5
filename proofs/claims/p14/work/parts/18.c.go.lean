abbrev gX : Type := (Nat → es_M) × List (String × Nat × String) × Nat × (Nat → es_K → List es_E → Prop) × es_F
def gM0 (X : gX) : Nat → es_M := X.1
def gts (X : gX) : List (String × Nat × String) := X.2.1
def gSL (X : gX) : Nat := X.2.2.1
def gRS (X : gX) : Nat → es_K → List es_E → Prop := X.2.2.2.1
def gF (X : gX) : es_F := X.2.2.2.2
def gdp (d : Nat) (T : es_M) : es_M := (T.1, T.2.1, T.2.2.1, T.2.2.2.1, T.2.2.2.2.1, T.2.2.2.2.2.1, T.2.2.2.2.2.2.1, 8 + d, es_mc T, es_ms T, 300 + 64 * d)
def gME (ME0 : Nat → es_M) (M : Nat) : es_M := gdp (M / 512) (ME0 (M % 512))
theorem gME_at (ME0 : Nat → es_M) {m : Nat} (h : m < 512) (d : Nat) : gME ME0 (m + 512 * d) = gdp d (ME0 m) := by
  unfold gME
  rw [show (m + 512 * d) / 512 = d by omega, show (m + 512 * d) % 512 = m by omega]
theorem gcal_at {m' : Nat} (m d : Nat) (h : m < 512) (h' : m' < 512) : es_cal (m + 512 * (d + 1)) m' = m' + 512 * d := by
  unfold es_cal
  rw [show (m + 512 * (d + 1)) / 512 = d + 1 by omega, Nat.mod_eq_of_lt h']
  rfl
/-- the same heap, told otherwise -/
def gEq (AH AH' : List es_O) : Prop := AH.length = AH'.length ∧ ∀ (i : Nat) (o : es_O), AH'[i]? = some o → ∃ o2 : es_O, AH[i]? = some o2 ∧ (o2 = o ∨ ∃ (t n : Nat) (c c2 : List (Nat × es_V)), o = (t + 2, n, c) ∧ o2 = (t + 2, n, c2) ∧ ∀ j, j < n → es_ad t c2 j = es_ad t c j)
def gOK (X : gX) : Prop :=
  (∀ ih : Nat → es_K → Option (List es_E), (∀ M K ends, ih M K = some ends → gRS X M K ends) → ∀ M K ends, es_step (gME (gM0 X)) (gts X) (gSL X) ih M K = some ends → gRS X M K ends) ∧
  (∀ M pc (L L' : es_L) S AH F cs ss ends, (∀ i v, es_get L i = some v → es_get L' i = some v) → gRS X M (pc, L, S, AH, F, cs, ss) ends → gRS X M (pc, L', S, AH, F, cs, ss) ends) ∧
  (∀ M K, gRS X M K [(0, K)]) ∧
  (∀ M pc L S AH F cs ss cs' ss' ends, cs ≤ cs' → ss ≤ ss' → gRS X M (pc, L, S, AH, F, cs', ss') ends → gRS X M (pc, L, S, AH, F, cs, ss) ends) ∧ (gts X).length = 70 ∧
  ∀ M pc L S AH AH' F cs ss ends, gEq AH AH' → gRS X M (pc, L, S, AH', F, cs, ss) ends → gRS X M (pc, L, S, AH, F, cs, ss) ends
/-- rows that stand one behind another -/
def gch (T : es_M) : Nat → List es_I → Bool
  | _, [] => true
  | pc, e :: r => (Nat.beq e.1 pc && decide (es_at (es_tab T) pc = some e)) && gch T (pc + e.2.2.1) r
def gRt (T : es_M) : Nat := match es_rt T with
  | none => 99
  | some .int => 0
  | some .boolean => 1
  | some .long => 2
  | some (.object _) => 11
  | some (.array _) => 12
  | some _ => 0
def gLf (X : gX) (T : es_M) (r : gO) : es_Lf := (r.1, (if r.1 = 1 then gf (gRt T, r.2.1, r.2.2.1) else (0, 0)), gH r.2.2.2, gF X)
def gEnd (X : gX) (T : es_M) (m d : Nat) (s : gS) (r : gO) (K : es_K) : Prop :=
  ∃ E, gRS X (m + 512 * d) K [E] ∧ es_leaf (gdp d T) E = some (gLf X T r) ∧ gext s r.2.2.2 ∧ gwt r.2.2.2 ∧ (r.1 = 1 → gok r.2.2.2 (gRt T, r.2.1, r.2.2.1))
def Go (X : gX) (T : es_M) (m d pc : Nat) (cd : List es_I) (L : List (Nat × gV)) (S : List gV) (s : gS) (cs ss : Nat) {Q : Type} (x : Option Q) (κ : Q → Option gO) : Prop :=
  gM0 X m = T → m < 512 → gch T pc cd = true → gwt s → (∀ q ∈ L, gok s q.2) → (∀ v ∈ S, gok s v) → ∀ r, x.bind κ = some r → gEnd X T m d s r (pc, gL L, S.map gf, gH s, gF X, cs, ss)
section GoR
variable {X : gX} {T : es_M} {m d pc pc' : Nat} {cd cd' : List es_I} {L L' : List (Nat × gV)} {S S' : List gV} {s s' : gS} {cs ss : Nat} {Q : Type} {x : Option Q} {κ : Q → Option gO}
theorem gch_hd {e : es_I} (h : gch T pc (e :: cd) = true) : es_at (es_tab T) pc = some e ∧ gch T (pc + e.2.2.1) cd = true := by
  unfold gch at h
  simp only [Bool.and_eq_true, es_beq, decide_eq_true_eq] at h
  exact ⟨h.1.2, h.2⟩
theorem gEnd_ext {r : gO} {K : es_K} (h : gext s s') (g : gEnd X T m d s' r K) : gEnd X T m d s r K := by
  obtain ⟨E, h1, h2, h3, h4⟩ := g
  exact ⟨E, h1, h2, gext_tr h h3, h4⟩
/-- another list of rows at the same place -/
theorem g_re (h : gch T pc cd' = true) (k : Go X T m d pc cd' L S s cs ss x κ) : Go X T m d pc cd L S s cs ss x κ :=
  fun h0 hm _ hw hl hs r hr => k h0 hm h hw hl hs r hr
/-- fewer locals -/
def gwl (L : List (Nat × gV)) : List (Nat × gV) → Prop
  | [] => True
  | q :: t => es_get L q.1 = some q.2 ∧ gwl L t
theorem gwl_ok {L : List (Nat × gV)} : ∀ {L' : List (Nat × gV)}, gwl L L' → ∀ q ∈ L', es_get L q.1 = some q.2
  | [], _, q, hq => by cases hq
  | p :: t, h, q, hq => by
    rcases List.mem_cons.mp hq with rfl | h1
    · exact h.1
    · exact gwl_ok h.2 q h1
theorem g_wk (ok : gOK X) (L' : List (Nat × gV)) (hg : gwl L L') (k : Go X T m d pc cd L' S s cs ss x κ) : Go X T m d pc cd L S s cs ss x κ := by
  have hL := gwl_ok hg
  intro h0 hm hc hw hl hs r hr
  obtain ⟨E, h1, h2⟩ := k h0 hm hc hw (fun q hq => hl (q.1, q.2) (gget_mem (hL q hq))) hs r hr
  refine ⟨E, ok.2.1 _ _ _ _ _ _ _ _ _ _ (fun i v hv => ?_) h1, h2⟩
  rw [gL_get] at hv ⊢
  cases hg : es_get L' i with
  | none => rw [hg] at hv; cases hv
  | some w =>
    rw [hg] at hv
    rw [hL (i, w) (gget_mem hg)]
    exact hv
/-- more room -/
theorem g_wd (ok : gOK X) {cs' ss' : Nat} (h1 : Nat.ble cs cs' = true) (h2 : Nat.ble ss ss' = true) (k : Go X T m d pc cd L S s cs' ss' x κ) : Go X T m d pc cd L S s cs ss x κ := by
  intro h0 hm hc hw hl hs r hr
  obtain ⟨E, e1, e2⟩ := k h0 hm hc hw hl hs r hr
  exact ⟨E, ok.2.2.2.1 _ _ _ _ _ _ _ _ _ _ _ (Nat.ble_eq.mp h1) (Nat.ble_eq.mp h2) e1, e2⟩
theorem g_st (ok : gOK X) {r : gO} {K K' : es_K} (hs : ∀ ih : Nat → es_K → Option (List es_E), es_step (gME (gM0 X)) (gts X) (gSL X) ih (m + 512 * d) K = ih (m + 512 * d) K') (g : gEnd X T m d s r K') : gEnd X T m d s r K := by
  obtain ⟨E, h1, h2⟩ := g
  refine ⟨E, ok.1 (fun M K1 => @ite _ (M = m + 512 * d ∧ K1 = K') (Classical.propDecidable _) (some [E]) none) (fun M K1 ends he => ?_) _ _ _ ?_, h2⟩
  · by_cases hc : M = m + 512 * d ∧ K1 = K'
    · rw [if_pos hc] at he
      cases he
      rw [hc.1, hc.2]
      exact h1
    · rw [if_neg hc] at he
      cases he
  · rw [hs, if_pos ⟨rfl, rfl⟩]
theorem gtab {e : es_I} (h0 : gM0 X m = T) (hm : m < 512) (hat : es_at (es_tab T) pc = some e) : es_at (es_tab (gME (gM0 X) (m + 512 * d))) pc = some e := by
  rw [gME_at _ hm, h0]
  exact hat
theorem gmL (h0 : gM0 X m = T) (hm : m < 512) : es_mL (gME (gM0 X) (m + 512 * d)) = es_mL T := by
  rw [gME_at _ hm, h0]
  rfl
theorem gs_pure {ME : Nat → es_M} {strs : List (String × Nat × String)} {SL : Nat} {ih : Nat → es_K → Option (List es_E)} {M : Nat} {e : es_I} {Le Le' : es_L} {Se Se' : List es_V} {AH : List es_O} {F : es_F} (hat : es_at (es_tab (ME M)) pc = some e) (haux : e.2.2.2 = []) (hp : es_pure (es_mL (ME M)) e.2.1 pc Le Se F = some (pc', Le', Se')) :
    es_step ME strs SL ih M (pc, Le, Se, AH, F, cs, ss) = ih M (pc', Le', Se', AH, F, cs, ss) := by
  unfold es_step
  dsimp only
  rw [hat]
  dsimp only
  rw [haux]
  dsimp only
  rw [hp]
theorem gs_hs {ME : Nat → es_M} {strs : List (String × Nat × String)} {SL : Nat} {ih : Nat → es_K → Option (List es_E)} {M : Nat} {e : es_I} {Le : es_L} {Se : List es_V} {AH : List es_O} {F : es_F} {K' : es_K} (hat : es_at (es_tab (ME M)) pc = some e) (hpu : es_pure (es_mL (ME M)) e.2.1 pc Le Se F = none) (hax : ∀ a t, e.2.2.2 = a :: t → a ≠ 100 ∧ a ≠ 200 ∧ a ≠ 60) (hh : es_hs SL (ME M) e (pc, Le, Se, AH, F, cs, ss) = some K') :
    es_step ME strs SL ih M (pc, Le, Se, AH, F, cs, ss) = ih M K' := by
  unfold es_step
  dsimp only
  rw [hat]
  dsimp only
  split
  · rename_i h; exact absurd rfl (hax _ _ h).2.1
  · rename_i h; exact absurd rfl (hax _ _ h).1
  · rename_i h; exact absurd rfl (hax _ _ h).2.2
  · rw [hpu]
    dsimp only
    rw [hh]
theorem g_pure (ok : gOK X) {e : es_I} (haux : e.2.2.2 = []) (hp : gwt s → (∀ q ∈ L, gok s q.2) → (∀ v ∈ S, gok s v) → es_pure (es_mL T) e.2.1 pc (gL L) (S.map gf) (gF X) = some (pc', gL L', S'.map gf) ∧ (∀ q ∈ L', gok s q.2) ∧ ∀ v ∈ S', gok s v) (hc : gch T pc (e :: cd) = true → gch T pc' cd' = true) (k : Go X T m d pc' cd' L' S' s cs ss x κ) : Go X T m d pc (e :: cd) L S s cs ss x κ := by
  intro h0 hm hch hw hl hs r hr
  obtain ⟨h1, h2, h3⟩ := hp hw hl hs
  refine g_st ok (fun ih => ?_) (k h0 hm (hc hch) hw h2 h3 r hr)
  exact gs_pure (gtab h0 hm (gch_hd hch).1) haux (by rw [gmL h0 hm]; exact h1)
theorem gS1 {v : gV} (hs : ∀ v ∈ S, gok s v) (hv : gok s v) : ∀ w ∈ v :: S, gok s w := fun w hw => by
  rcases List.mem_cons.mp hw with rfl | h
  · exact hv
  · exact hs w h
theorem gS2 {v : gV} (hs : ∀ w ∈ v :: S, gok s w) : gok s v ∧ ∀ w ∈ S, gok s w := ⟨hs v List.mem_cons_self, fun w hw => hs w (List.mem_cons_of_mem _ hw)⟩
theorem gLs {i : Nat} {v : gV} (hl : ∀ q ∈ L, gok s q.2) (hv : gok s v) : ∀ q ∈ gst L i v, gok s q.2 := fun q hq => by
  rcases gmem_st hq with h | rfl
  · exact hl q h
  · exact hv
theorem gch1 {e : es_I} {n : Nat} (h : e.2.2.1 = n) : gch T pc (e :: cd) = true → gch T (pc + n) cd = true := fun hc => by
  rw [← h]
  exact (gch_hd hc).2
/-- constants -/
theorem g_iconst (ok : gOK X) {n : Int} {v : Int} (hv : (Int32.ofInt n).toInt = v) (k : Go X T m d (pc + 1) cd L ((0, v, 0) :: S) s cs ss x κ) : Go X T m d pc ((pc, .iconst n, 1, []) :: cd) L S s cs ss x κ :=
  g_pure ok rfl (fun hw hl hs => ⟨by show some (pc + 1, gL L, es_c (Int32.ofInt n) :: S.map gf) = _; rw [ges, hv]; rfl, hl, gS1 hs (by rw [← hv]; exact gc32_t _)⟩) (gch1 rfl) k
theorem g_bipush (ok : gOK X) {n : Int} {v : Int} (hv : ((Int8.ofInt n).toInt32).toInt = v) (k : Go X T m d (pc + 2) cd L ((0, v, 0) :: S) s cs ss x κ) : Go X T m d pc ((pc, .bipush n, 2, []) :: cd) L S s cs ss x κ :=
  g_pure ok rfl (fun hw hl hs => ⟨by show some (pc + 2, gL L, es_c ((Int8.ofInt n).toInt32) :: S.map gf) = _; rw [ges, hv]; rfl, hl, gS1 hs (by rw [← hv]; exact gc32_t _)⟩) (gch1 rfl) k
theorem g_sipush (ok : gOK X) {n : Int} {v : Int} (hv : ((Int16.ofInt n).toInt32).toInt = v) (k : Go X T m d (pc + 3) cd L ((0, v, 0) :: S) s cs ss x κ) : Go X T m d pc ((pc, .sipush n, 3, []) :: cd) L S s cs ss x κ :=
  g_pure ok rfl (fun hw hl hs => ⟨by show some (pc + 3, gL L, es_c ((Int16.ofInt n).toInt32) :: S.map gf) = _; rw [ges, hv]; rfl, hl, gS1 hs (by rw [← hv]; exact gc32_t _)⟩) (gch1 rfl) k
theorem g_lconst (ok : gOK X) {n : Fin 2} {v : Int} (hv : (Int64.ofNat (n : Nat)).toInt = v) (k : Go X T m d (pc + 1) cd L ((2, v, 0) :: S) s cs ss x κ) : Go X T m d pc ((pc, .lconst n, 1, []) :: cd) L S s cs ss x κ :=
  g_pure ok rfl (fun hw hl hs => ⟨by show some (pc + 1, gL L, es_lc (Int64.ofNat (n : Nat)) :: S.map gf) = _; rw [gel, hv]; rfl, hl, gS1 hs (by rw [← hv]; exact gc64_t _)⟩) (gch1 rfl) k
theorem g_null (ok : gOK X) (k : Go X T m d (pc + 1) cd L ((4, 0, 0) :: S) s cs ss x κ) : Go X T m d pc ((pc, .aconst_null, 1, []) :: cd) L S s cs ss x κ :=
  g_pure ok rfl (fun hw hl hs => ⟨rfl, hl, gS1 hs (show gok s (4, 0, 0) from fun h => absurd h (by decide))⟩) (gch1 rfl) k
/-- loads -/
theorem g_ld {t : es_V → Bool} {i n : Nat} {v : gV} (h : es_get L i = some v) (ht : t (gf v) = true) : es_ld t i n pc (gL L) (S.map gf) = some (pc + n, gL L, (v :: S).map gf) := by
  unfold es_ld
  rw [gL_get, h]
  dsimp only [Option.map_some]
  rw [ht]
  rfl
theorem g_iload_n (ok : gOK X) {i : Fin 4} {v : Int} {a : Nat} (h : es_get L i = some (0, v, a)) (k : Go X T m d (pc + 1) cd L ((0, v, a) :: S) s cs ss x κ) : Go X T m d pc ((pc, .iload_n i, 1, []) :: cd) L S s cs ss x κ :=
  g_pure ok rfl (fun hw hl hs => ⟨g_ld h rfl, hl, gS1 hs (hl _ (gget_mem h))⟩) (gch1 rfl) k
theorem g_iload (ok : gOK X) {i : Nat} {v : Int} {a : Nat} (h : es_get L i = some (0, v, a)) (k : Go X T m d (pc + 2) cd L ((0, v, a) :: S) s cs ss x κ) : Go X T m d pc ((pc, .iload i, 2, []) :: cd) L S s cs ss x κ :=
  g_pure ok rfl (fun hw hl hs => ⟨g_ld h rfl, hl, gS1 hs (hl _ (gget_mem h))⟩) (gch1 rfl) k
theorem g_lload_n (ok : gOK X) {i : Fin 4} {v : Int} {a : Nat} (h : es_get L i = some (2, v, a)) (k : Go X T m d (pc + 1) cd L ((2, v, a) :: S) s cs ss x κ) : Go X T m d pc ((pc, .lload_n i, 1, []) :: cd) L S s cs ss x κ :=
  g_pure ok rfl (fun hw hl hs => ⟨g_ld h rfl, hl, gS1 hs (hl _ (gget_mem h))⟩) (gch1 rfl) k
theorem g_lload (ok : gOK X) {i : Nat} {v : Int} {a : Nat} (h : es_get L i = some (2, v, a)) (k : Go X T m d (pc + 2) cd L ((2, v, a) :: S) s cs ss x κ) : Go X T m d pc ((pc, .lload i, 2, []) :: cd) L S s cs ss x κ :=
  g_pure ok rfl (fun hw hl hs => ⟨g_ld h rfl, hl, gS1 hs (hl _ (gget_mem h))⟩) (gch1 rfl) k
/-- what an aload takes -/
def gtr (t : Nat) : Bool := Nat.ble 16 t || (Nat.beq t 4 || (Nat.beq t 5 || (Nat.beq t 8 || (Nat.beq t 9 || (Nat.beq t 11 || Nat.beq t 12)))))
theorem gtr_ok {v : gV} (h : gtr v.1 = true) : es_tr (gf v) = true := by
  obtain ⟨t, w, a⟩ := v
  have hn : ∀ b : Nat, es_tr (if b = 0 then ((4, 0) : es_V) else (3, b)) = true := fun b => by
    by_cases hb : b = 0
    · rw [if_pos hb]; rfl
    · rw [if_neg hb]; rfl
  match t, h with
  | 0, h => cases h
  | 1, h => cases h
  | 2, h => cases h
  | 3, h => cases h
  | 4, h => rfl
  | 5, h => rfl
  | 6, h => cases h
  | 7, h => cases h
  | 8, h => rfl
  | 9, h => rfl
  | 10, h => cases h
  | 11, h => exact hn a
  | 12, h => exact hn a
  | t + 13, h => rfl
theorem g_aload_n (ok : gOK X) {i : Fin 4} {v : gV} (h : es_get L i = some v) (ht : gtr v.1 = true) (k : Go X T m d (pc + 1) cd L (v :: S) s cs ss x κ) : Go X T m d pc ((pc, .aload_n i, 1, []) :: cd) L S s cs ss x κ :=
  g_pure ok rfl (fun hw hl hs => ⟨g_ld h (gtr_ok ht), hl, gS1 hs (hl _ (gget_mem h))⟩) (gch1 rfl) k
theorem g_aload (ok : gOK X) {i : Nat} {v : gV} (h : es_get L i = some v) (ht : gtr v.1 = true) (k : Go X T m d (pc + 2) cd L (v :: S) s cs ss x κ) : Go X T m d pc ((pc, .aload i, 2, []) :: cd) L S s cs ss x κ :=
  g_pure ok rfl (fun hw hl hs => ⟨g_ld h (gtr_ok ht), hl, gS1 hs (hl _ (gget_mem h))⟩) (gch1 rfl) k
/-- stores -/
theorem g_sto {t : es_V → Bool} {i n nL : Nat} {v : gV} (hn : Nat.blt i nL = true) (ht : t (gf v) = true) : es_sto t nL i n pc (gL L) ((v :: S).map gf) = some (pc + n, gL (gst L i v), S.map gf) := by
  show (bif t (gf v) && Nat.blt i nL then some (pc + n, es_st (gL L) i (gf v), S.map gf) else none) = _
  rw [ht, hn, gL_st]
  rfl
theorem g_istore_n (ok : gOK X) {i : Fin 4} {v : Int} {a : Nat} (hn : Nat.blt i (es_mL T) = true) (hL : gst L i (0, v, a) = L') (k : Go X T m d (pc + 1) cd L' S s cs ss x κ) : Go X T m d pc ((pc, .istore_n i, 1, []) :: cd) L ((0, v, a) :: S) s cs ss x κ := by
  subst hL
  exact g_pure ok rfl (fun hw hl hs => ⟨g_sto hn rfl, gLs hl (gS2 hs).1, (gS2 hs).2⟩) (gch1 rfl) k
theorem g_istore (ok : gOK X) {i : Nat} {v : Int} {a : Nat} (hn : Nat.blt i (es_mL T) = true) (hL : gst L i (0, v, a) = L') (k : Go X T m d (pc + 2) cd L' S s cs ss x κ) : Go X T m d pc ((pc, .istore i, 2, []) :: cd) L ((0, v, a) :: S) s cs ss x κ := by
  subst hL
  exact g_pure ok rfl (fun hw hl hs => ⟨g_sto hn rfl, gLs hl (gS2 hs).1, (gS2 hs).2⟩) (gch1 rfl) k
theorem gta_ok {v : gV} (h : (gtr v.1 || Nat.beq v.1 7) = true) : es_ta (gf v) = true := by
  unfold es_ta
  rw [Bool.or_eq_true] at h ⊢
  rcases h with h | h
  · exact Or.inl (gtr_ok h)
  · obtain ⟨t, w⟩ := v
    have e := es_beq.mp h
    dsimp only at e
    subst e
    exact Or.inr rfl
theorem g_astore_n (ok : gOK X) {i : Fin 4} {v : gV} (hn : Nat.blt i (es_mL T) = true) (ht : (gtr v.1 || Nat.beq v.1 7) = true) (hL : gst L i v = L') (k : Go X T m d (pc + 1) cd L' S s cs ss x κ) : Go X T m d pc ((pc, .astore_n i, 1, []) :: cd) L (v :: S) s cs ss x κ := by
  subst hL
  exact g_pure ok rfl (fun hw hl hs => ⟨g_sto hn (gta_ok ht), gLs hl (gS2 hs).1, (gS2 hs).2⟩) (gch1 rfl) k
theorem g_astore (ok : gOK X) {i : Nat} {v : gV} (hn : Nat.blt i (es_mL T) = true) (ht : (gtr v.1 || Nat.beq v.1 7) = true) (hL : gst L i v = L') (k : Go X T m d (pc + 2) cd L' S s cs ss x κ) : Go X T m d pc ((pc, .astore i, 2, []) :: cd) L (v :: S) s cs ss x κ := by
  subst hL
  exact g_pure ok rfl (fun hw hl hs => ⟨g_sto hn (gta_ok ht), gLs hl (gS2 hs).1, (gS2 hs).2⟩) (gch1 rfl) k
theorem g_lst {i n nL : Nat} {v : Int} {a : Nat} (hn : Nat.blt (i + 1) nL = true) : es_lst nL i n pc (gL L) (((2, v, a) :: S).map gf) = some (pc + n, gL (es_del (gst L i (2, v, a)) (i + 1)), S.map gf) := by
  show (bif Nat.beq 2 2 && Nat.blt (i + 1) nL then some (pc + n, es_del (es_st (gL L) i (gf (2, v, a))) (i + 1), S.map gf) else none) = _
  rw [hn, gL_st, gL_del]
  rfl
theorem g_lstore_n (ok : gOK X) {i : Fin 4} {v : Int} {a : Nat} (hn : Nat.blt (i + 1) (es_mL T) = true) (hL : es_del (gst L i (2, v, a)) (i + 1) = L') (k : Go X T m d (pc + 1) cd L' S s cs ss x κ) : Go X T m d pc ((pc, .lstore_n i, 1, []) :: cd) L ((2, v, a) :: S) s cs ss x κ := by
  subst hL
  exact g_pure ok rfl (fun hw hl hs => ⟨g_lst hn, fun q hq => gLs hl (gS2 hs).1 q (gmem_del hq), (gS2 hs).2⟩) (gch1 rfl) k
theorem g_lstore (ok : gOK X) {i : Nat} {v : Int} {a : Nat} (hn : Nat.blt (i + 1) (es_mL T) = true) (hL : es_del (gst L i (2, v, a)) (i + 1) = L') (k : Go X T m d (pc + 2) cd L' S s cs ss x κ) : Go X T m d pc ((pc, .lstore i, 2, []) :: cd) L ((2, v, a) :: S) s cs ss x κ := by
  subst hL
  exact g_pure ok rfl (fun hw hl hs => ⟨g_lst hn, fun q hq => gLs hl (gS2 hs).1 q (gmem_del hq), (gS2 hs).2⟩) (gch1 rfl) k
theorem g_iinc (ok : gOK X) {i : Nat} {n v : Int} {a : Nat} (h : es_get L i = some (0, v, a)) (hn : Nat.blt i (es_mL T) = true) (hL : gst L i (0, g32 (v + n), 0) = L') (k : Go X T m d (pc + 3) cd L' S s cs ss x κ) : Go X T m d pc ((pc, .iinc i n, 3, []) :: cd) L S s cs ss x κ := by
  subst hL
  refine g_pure ok rfl (fun hw hl hs => ⟨?_, gLs hl (gok_i.mpr (gc32_b _)), hs⟩) (gch1 rfl) k
  show (match es_get (gL L) i with
    | some v => bif es_ti v && Nat.blt i (es_mL T) then some (pc + 3, es_st (gL L) i (es_un (fun x => x + Int32.ofInt n) (gF X) v), S.map gf) else none
    | none => none) = _
  rw [gL_get, h]
  show (bif es_ti (0, eI v) && Nat.blt i (es_mL T) then some (pc + 3, es_st (gL L) i (es_un (fun x => x + Int32.ofInt n) (gF X) (0, eI v)), S.map gf) else none) = _
  rw [hn, gun, g32_add, ← gL_st]
  rfl
/-- arithmetic -/
theorem g_op2 (ok : gOK X) {ins : Instr} (f : Int32 → Int32 → Int32) (hf : ∀ nL pc L S F, es_pure nL ins pc L S F = es_i2 f pc L S F) {v w z : Int} {a b : Nat} (hz : (f (Int32.ofInt v) (Int32.ofInt w)).toInt = z) (k : Go X T m d (pc + 1) cd L ((0, z, 0) :: S) s cs ss x κ) : Go X T m d pc ((pc, ins, 1, []) :: cd) L ((0, w, b) :: (0, v, a) :: S) s cs ss x κ := by
  refine g_pure ok rfl (fun hw hl hs => ⟨?_, hl, gS1 (gS2 (gS2 hs).2).2 (gok_i.mpr (by rw [← hz]; exact gc32_t _))⟩) (gch1 rfl) k
  show es_pure (es_mL T) ins pc _ _ _ = _
  rw [hf]
  show some (pc + 1, gL L, es_bin f (gF X) (0, eI v) (0, eI w) :: S.map gf) = _
  rw [gbn, hz]
  rfl
theorem g_iadd (ok : gOK X) {v w : Int} {a b : Nat} (k : Go X T m d (pc + 1) cd L ((0, g32 (v + w), 0) :: S) s cs ss x κ) : Go X T m d pc ((pc, .iadd, 1, []) :: cd) L ((0, w, b) :: (0, v, a) :: S) s cs ss x κ := g_op2 ok (fun x y => x + y) (fun _ _ _ _ _ => rfl) (g32_add v w) k
theorem g_isub (ok : gOK X) {v w : Int} {a b : Nat} (k : Go X T m d (pc + 1) cd L ((0, g32 (v - w), 0) :: S) s cs ss x κ) : Go X T m d pc ((pc, .isub, 1, []) :: cd) L ((0, w, b) :: (0, v, a) :: S) s cs ss x κ := g_op2 ok (fun x y => x - y) (fun _ _ _ _ _ => rfl) (g32_sub v w) k
theorem g_imul (ok : gOK X) {v w : Int} {a b : Nat} (k : Go X T m d (pc + 1) cd L ((0, g32 (v * w), 0) :: S) s cs ss x κ) : Go X T m d pc ((pc, .imul, 1, []) :: cd) L ((0, w, b) :: (0, v, a) :: S) s cs ss x κ := g_op2 ok (fun x y => x * y) (fun _ _ _ _ _ => rfl) (g32_mul v w) k
theorem g_iand (ok : gOK X) {v w : Int} {a b : Nat} (k : Go X T m d (pc + 1) cd L ((0, gand v w, 0) :: S) s cs ss x κ) : Go X T m d pc ((pc, .iand, 1, []) :: cd) L ((0, w, b) :: (0, v, a) :: S) s cs ss x κ := g_op2 ok (fun x y => x &&& y) (fun _ _ _ _ _ => rfl) rfl k
theorem g_ior (ok : gOK X) {v w : Int} {a b : Nat} (k : Go X T m d (pc + 1) cd L ((0, gor v w, 0) :: S) s cs ss x κ) : Go X T m d pc ((pc, .ior, 1, []) :: cd) L ((0, w, b) :: (0, v, a) :: S) s cs ss x κ := g_op2 ok (fun x y => x ||| y) (fun _ _ _ _ _ => rfl) rfl k
theorem g_ixor (ok : gOK X) {v w : Int} {a b : Nat} (k : Go X T m d (pc + 1) cd L ((0, gxor v w, 0) :: S) s cs ss x κ) : Go X T m d pc ((pc, .ixor, 1, []) :: cd) L ((0, w, b) :: (0, v, a) :: S) s cs ss x κ := g_op2 ok (fun x y => x ^^^ y) (fun _ _ _ _ _ => rfl) rfl k
theorem g_ishl (ok : gOK X) {v w : Int} {a b : Nat} (k : Go X T m d (pc + 1) cd L ((0, gshl v w, 0) :: S) s cs ss x κ) : Go X T m d pc ((pc, .ishl, 1, []) :: cd) L ((0, w, b) :: (0, v, a) :: S) s cs ss x κ := g_op2 ok (fun x y => x <<< (y &&& 31)) (fun _ _ _ _ _ => rfl) rfl k
theorem g_ishr (ok : gOK X) {v w : Int} {a b : Nat} (k : Go X T m d (pc + 1) cd L ((0, gshr v w, 0) :: S) s cs ss x κ) : Go X T m d pc ((pc, .ishr, 1, []) :: cd) L ((0, w, b) :: (0, v, a) :: S) s cs ss x κ := g_op2 ok (fun x y => x >>> (y &&& 31)) (fun _ _ _ _ _ => rfl) rfl k
theorem g_iushr (ok : gOK X) {v w : Int} {a b : Nat} (k : Go X T m d (pc + 1) cd L ((0, gushr v w, 0) :: S) s cs ss x κ) : Go X T m d pc ((pc, .iushr, 1, []) :: cd) L ((0, w, b) :: (0, v, a) :: S) s cs ss x κ := g_op2 ok (fun x y => (x.toUInt32 >>> (y.toUInt32 &&& Int32.toUInt32 31)).toInt32) (fun _ _ _ _ _ => rfl) rfl k
theorem g_opd (ok : gOK X) {ins : Instr} (f : Int32 → Int32 → Int32) (hf : ∀ nL pc L S F, es_pure nL ins pc L S F = es_d2 f pc L S F) {v w z : Int} {a b : Nat} (h0 : w ≠ 0) (hz : (f (Int32.ofInt v) (Int32.ofInt w)).toInt = z) (k : Go X T m d (pc + 1) cd L ((0, z, 0) :: S) s cs ss x κ) : Go X T m d pc ((pc, ins, 1, []) :: cd) L ((0, w, b) :: (0, v, a) :: S) s cs ss x κ := by
  refine g_pure ok rfl (fun hw hl hs => ⟨?_, hl, gS1 (gS2 (gS2 hs).2).2 (gok_i.mpr (by rw [← hz]; exact gc32_t _))⟩) (gch1 rfl) k
  show es_pure (es_mL T) ins pc _ _ _ = _
  rw [hf]
  show (bif es_ti (0, eI v) && (es_ti (0, eI w) && !decide (nI (eI w) = 0)) then some (pc + 1, gL L, es_bin f (gF X) (0, eI v) (0, eI w) :: S.map gf) else none) = _
  rw [gz0 (gok_i.mp (gS2 hs).1) h0, gbn, hz]
  rfl
theorem g_idiv (ok : gOK X) {v w : Int} {a b : Nat} (h0 : w ≠ 0) (k : Go X T m d (pc + 1) cd L ((0, gdiv v w, 0) :: S) s cs ss x κ) : Go X T m d pc ((pc, .idiv, 1, []) :: cd) L ((0, w, b) :: (0, v, a) :: S) s cs ss x κ := g_opd ok (fun x y => x / y) (fun _ _ _ _ _ => rfl) h0 rfl k
theorem g_irem (ok : gOK X) {v w : Int} {a b : Nat} (h0 : w ≠ 0) (k : Go X T m d (pc + 1) cd L ((0, grem v w, 0) :: S) s cs ss x κ) : Go X T m d pc ((pc, .irem, 1, []) :: cd) L ((0, w, b) :: (0, v, a) :: S) s cs ss x κ := g_opd ok (fun x y => x - x / y * y) (fun _ _ _ _ _ => rfl) h0 rfl k
theorem g_ineg (ok : gOK X) {v : Int} {a : Nat} (k : Go X T m d (pc + 1) cd L ((0, g32 (-v), 0) :: S) s cs ss x κ) : Go X T m d pc ((pc, .ineg, 1, []) :: cd) L ((0, v, a) :: S) s cs ss x κ := by
  refine g_pure ok rfl (fun hw hl hs => ⟨?_, hl, gS1 (gS2 hs).2 (gok_i.mpr (gc32_b _))⟩) (gch1 rfl) k
  show some (pc + 1, gL L, es_un (fun x => -x) (gF X) (0, eI v) :: S.map gf) = _
  rw [gun, g32_neg]
  rfl
theorem g_i2c (ok : gOK X) {v : Int} {a : Nat} (k : Go X T m d (pc + 1) cd L ((0, gi2c v, 0) :: S) s cs ss x κ) : Go X T m d pc ((pc, .i2c, 1, []) :: cd) L ((0, v, a) :: S) s cs ss x κ := by
  refine g_pure ok rfl (fun hw hl hs => ⟨?_, hl, gS1 (gS2 hs).2 (gok_i.mpr (gc32_t _))⟩) (gch1 rfl) k
  show some (pc + 1, gL L, es_un (fun x => (x.toUInt32 % 65536).toInt32) (gF X) (0, eI v) :: S.map gf) = _
  rw [gun]
  rfl
theorem g_op2l (ok : gOK X) {ins : Instr} (f : Int64 → Int64 → Int64) (hf : ∀ nL pc L S F, es_pure nL ins pc L S F = es_l2 f pc L S) {v w z : Int} {a b : Nat} (hz : (f (Int64.ofInt v) (Int64.ofInt w)).toInt = z) (k : Go X T m d (pc + 1) cd L ((2, z, 0) :: S) s cs ss x κ) : Go X T m d pc ((pc, ins, 1, []) :: cd) L ((2, w, b) :: (2, v, a) :: S) s cs ss x κ := by
  refine g_pure ok rfl (fun hw hl hs => ⟨?_, hl, gS1 (gS2 (gS2 hs).2).2 (gok_l.mpr (by rw [← hz]; exact gc64_t _))⟩) (gch1 rfl) k
  show es_pure (es_mL T) ins pc _ _ _ = _
  rw [hf]
  show some (pc + 1, gL L, es_lbin f (2, eJ v) (2, eJ w) :: S.map gf) = _
  rw [glb, hz]
  rfl
theorem g_ladd (ok : gOK X) {v w : Int} {a b : Nat} (k : Go X T m d (pc + 1) cd L ((2, g64 (v + w), 0) :: S) s cs ss x κ) : Go X T m d pc ((pc, .ladd, 1, []) :: cd) L ((2, w, b) :: (2, v, a) :: S) s cs ss x κ := g_op2l ok (fun x y => x + y) (fun _ _ _ _ _ => rfl) (g64_add v w) k
theorem g_lsub (ok : gOK X) {v w : Int} {a b : Nat} (k : Go X T m d (pc + 1) cd L ((2, g64 (v - w), 0) :: S) s cs ss x κ) : Go X T m d pc ((pc, .lsub, 1, []) :: cd) L ((2, w, b) :: (2, v, a) :: S) s cs ss x κ := g_op2l ok (fun x y => x - y) (fun _ _ _ _ _ => rfl) (g64_sub v w) k
theorem g_lmul (ok : gOK X) {v w : Int} {a b : Nat} (k : Go X T m d (pc + 1) cd L ((2, g64 (v * w), 0) :: S) s cs ss x κ) : Go X T m d pc ((pc, .lmul, 1, []) :: cd) L ((2, w, b) :: (2, v, a) :: S) s cs ss x κ := g_op2l ok (fun x y => x * y) (fun _ _ _ _ _ => rfl) (g64_mul v w) k
theorem g_land (ok : gOK X) {v w : Int} {a b : Nat} (k : Go X T m d (pc + 1) cd L ((2, gland v w, 0) :: S) s cs ss x κ) : Go X T m d pc ((pc, .land, 1, []) :: cd) L ((2, w, b) :: (2, v, a) :: S) s cs ss x κ := g_op2l ok (fun x y => x &&& y) (fun _ _ _ _ _ => rfl) rfl k
theorem g_lor (ok : gOK X) {v w : Int} {a b : Nat} (k : Go X T m d (pc + 1) cd L ((2, glor v w, 0) :: S) s cs ss x κ) : Go X T m d pc ((pc, .lor, 1, []) :: cd) L ((2, w, b) :: (2, v, a) :: S) s cs ss x κ := g_op2l ok (fun x y => x ||| y) (fun _ _ _ _ _ => rfl) rfl k
theorem g_ldiv (ok : gOK X) {v w : Int} {a b : Nat} (h0 : w ≠ 0) (k : Go X T m d (pc + 1) cd L ((2, gldiv v w, 0) :: S) s cs ss x κ) : Go X T m d pc ((pc, .ldiv, 1, []) :: cd) L ((2, w, b) :: (2, v, a) :: S) s cs ss x κ := by
  refine g_pure ok rfl (fun hw hl hs => ⟨?_, hl, gS1 (gS2 (gS2 hs).2).2 (gok_l.mpr (gc64_t _))⟩) (gch1 rfl) k
  show (bif (Nat.beq 2 2 && Nat.beq 2 2) && !decide (lN (eJ w) = 0) then some (pc + 1, gL L, es_lbin (fun x y => x / y) (2, eJ v) (2, eJ w) :: S.map gf) else none) = _
  rw [glz0 (gok_l.mp (gS2 hs).1) h0, glb]
  rfl
theorem g_opls (ok : gOK X) {ins : Instr} (f : Int64 → Int32 → Int64) (hf : ∀ nL pc L S F, es_pure nL ins pc L S F = es_lsh f pc L S F) {v w : Int} {a b : Nat} {z : Int} (hz : (f (Int64.ofInt v) (Int32.ofInt w)).toInt = z) (k : Go X T m d (pc + 1) cd L ((2, z, 0) :: S) s cs ss x κ) : Go X T m d pc ((pc, ins, 1, []) :: cd) L ((0, w, b) :: (2, v, a) :: S) s cs ss x κ := by
  refine g_pure ok rfl (fun hw hl hs => ⟨?_, hl, gS1 (gS2 (gS2 hs).2).2 (gok_l.mpr (by rw [← hz]; exact gc64_t _))⟩) (gch1 rfl) k
  show es_pure (es_mL T) ins pc _ _ _ = _
  rw [hf]
  show some (pc + 1, gL L, es_lc (f (lN (eJ v)) (nI (eI w))) :: S.map gf) = _
  rw [glN, gnI, gel, hz]
  rfl
theorem g_lshl (ok : gOK X) {v w : Int} {a b : Nat} (k : Go X T m d (pc + 1) cd L ((2, glshl v w, 0) :: S) s cs ss x κ) : Go X T m d pc ((pc, .lshl, 1, []) :: cd) L ((0, w, b) :: (2, v, a) :: S) s cs ss x κ := g_opls ok (fun x y => x <<< (y.toInt64 &&& 63)) (fun _ _ _ _ _ => rfl) rfl k
theorem g_lshr (ok : gOK X) {v w : Int} {a b : Nat} (k : Go X T m d (pc + 1) cd L ((2, glshr v w, 0) :: S) s cs ss x κ) : Go X T m d pc ((pc, .lshr, 1, []) :: cd) L ((0, w, b) :: (2, v, a) :: S) s cs ss x κ := g_opls ok (fun x y => x >>> (y.toInt64 &&& 63)) (fun _ _ _ _ _ => rfl) rfl k
theorem g_lushr (ok : gOK X) {v w : Int} {a b : Nat} (k : Go X T m d (pc + 1) cd L ((2, glushr v w, 0) :: S) s cs ss x κ) : Go X T m d pc ((pc, .lushr, 1, []) :: cd) L ((0, w, b) :: (2, v, a) :: S) s cs ss x κ := g_opls ok (fun x y => (x.toUInt64 >>> (y.toInt64.toUInt64 &&& Int64.toUInt64 63)).toInt64) (fun _ _ _ _ _ => rfl) rfl k
theorem g_i2l (ok : gOK X) {v : Int} {a : Nat} (k : Go X T m d (pc + 1) cd L ((2, v, 0) :: S) s cs ss x κ) : Go X T m d pc ((pc, .i2l, 1, []) :: cd) L ((0, v, a) :: S) s cs ss x κ := by
  refine g_pure ok rfl (fun hw hl hs => ⟨?_, hl, gS1 (gS2 hs).2 (gok_l.mpr (gc6432 (gok_i.mp (gS2 hs).1)))⟩) (gch1 rfl) k
  show some (pc + 1, gL L, es_lc (nI (eI v)).toInt64 :: S.map gf) = _
  rw [gnI, gel, gi2l (gok_i.mp (gS2 hs).1)]
  rfl
theorem g_l2i (ok : gOK X) {v : Int} {a : Nat} (k : Go X T m d (pc + 1) cd L ((0, g32 v, 0) :: S) s cs ss x κ) : Go X T m d pc ((pc, .l2i, 1, []) :: cd) L ((2, v, a) :: S) s cs ss x κ := by
  refine g_pure ok rfl (fun hw hl hs => ⟨?_, hl, gS1 (gS2 hs).2 (gok_i.mpr (gc32_b _))⟩) (gch1 rfl) k
  show some (pc + 1, gL L, es_c (lN (eJ v)).toInt32 :: S.map gf) = _
  rw [glN, ges, gl2i (gok_l.mp (gS2 hs).1)]
  rfl
theorem g_lcmp (ok : gOK X) {v w : Int} {a b : Nat} (k : Go X T m d (pc + 1) cd L ((0, gcmp v w, 0) :: S) s cs ss x κ) : Go X T m d pc ((pc, .lcmp, 1, []) :: cd) L ((2, w, b) :: (2, v, a) :: S) s cs ss x κ := by
  refine g_pure ok rfl (fun hw hl hs => ⟨?_, hl, gS1 (gS2 (gS2 hs).2).2 (gok_i.mpr ?_)⟩) (gch1 rfl) k
  · show some (pc + 1, gL L, es_c (lg_cmp (lN (eJ v)) (lN (eJ w))) :: S.map gf) = _
    rw [glN, glN, ges, glcmp (gok_l.mp (gS2 (gS2 hs).2).1) (gok_l.mp (gS2 hs).1)]
    rfl
  · unfold gcmp gc32
    split
    · decide
    · split
      · decide
      · decide
/-- stack -/
theorem g_dup (ok : gOK X) {v : gV} (h2 : Nat.beq v.1 2 = false) (k : Go X T m d (pc + 1) cd L (v :: v :: S) s cs ss x κ) : Go X T m d pc ((pc, .dup, 1, []) :: cd) L (v :: S) s cs ss x κ := by
  refine g_pure ok rfl (fun hw hl hs => ⟨?_, hl, gS1 hs (gS2 hs).1⟩) (gch1 rfl) k
  show (bif Nat.beq (gf v).1 2 then none else some (pc + 1, gL L, gf v :: gf v :: S.map gf)) = _
  rw [gf_2, h2]
  rfl
theorem g_pop (ok : gOK X) {v : gV} (h2 : Nat.beq v.1 2 = false) (k : Go X T m d (pc + 1) cd L S s cs ss x κ) : Go X T m d pc ((pc, .pop, 1, []) :: cd) L (v :: S) s cs ss x κ := by
  refine g_pure ok rfl (fun hw hl hs => ⟨?_, hl, (gS2 hs).2⟩) (gch1 rfl) k
  show (bif Nat.beq (gf v).1 2 then none else some (pc + 1, gL L, S.map gf)) = _
  rw [gf_2, h2]
  rfl
theorem g_dup2 (ok : gOK X) {v w : gV} (h2 : Nat.beq v.1 2 = false) (h3 : Nat.beq w.1 2 = false) (k : Go X T m d (pc + 1) cd L (w :: v :: w :: v :: S) s cs ss x κ) : Go X T m d pc ((pc, .dup2, 1, []) :: cd) L (w :: v :: S) s cs ss x κ := by
  refine g_pure ok rfl (fun hw hl hs => ⟨?_, hl, gS1 (gS1 hs (gS2 (gS2 hs).2).1) (gS2 hs).1⟩) (gch1 rfl) k
  show (bif Nat.beq (gf v).1 2 || Nat.beq (gf w).1 2 then none else some (pc + 1, gL L, gf w :: gf v :: gf w :: gf v :: S.map gf)) = _
  rw [gf_2, gf_2, h2, h3]
  rfl
theorem g_goto (ok : gOK X) {off : Int} {t : Nat} (ht : es_to pc off = some t) (k : Go X T m d t [] L S s cs ss x κ) : Go X T m d pc ((pc, .goto off, 3, []) :: cd) L S s cs ss x κ := by
  refine g_pure ok rfl (fun hw hl hs => ⟨?_, hl, hs⟩) (fun _ => rfl) k
  show (match es_to pc off with | some t => some (t, gL L, S.map gf) | none => none) = _
  rw [ht]
end GoR
