section GoG
variable {X : gX} {T T' : es_M} {m m' d pc pc' : Nat} {cd cd' : List es_I} {L L' : List (Nat × gV)} {S S' vs rest : List gV} {s s' : gS} {cs ss : Nat} {Q : Type} {x : Option Q} {κ : Q → Option gO}
theorem gmc (hm' : m' < 512) (h0' : gM0 X m' = T') : es_mc (gME (gM0 X) (m' + 512 * d)) = es_mc T' ∧ es_ms (gME (gM0 X) (m' + 512 * d)) = es_ms T' := by
  rw [gME_at _ hm', h0']
  exact ⟨rfl, rfl⟩
/-- an instance method of an own class -/
theorem gst_v {idx n ci a : Nat} {z : Int} {tl : List Nat} {ih : Nat → es_K → Option (List es_E)} (h0' : gM0 X m' = T') (hm' : m' < 512) (hci : Nat.blt ci 13 = true) (hdr : S.drop n = (ci + 16, z, a) :: rest) (hm : m < 512) (h0 : gM0 X m = T) (hat : es_at (es_tab T) pc = some (pc, .invokevirtual idx, 3, 1 :: m' :: n :: ci :: tl)) (hs : ∀ v ∈ S, gok s v) :
    es_step (gME (gM0 X)) (gts X) (gSL X) ih (m + 512 * (d + 1)) (pc, gL L, S.map gf, gH s, gF X, cs, ss) = (match es_inv1 (gME (gM0 X)) 8 ih (m + 512 * (d + 1)) (m' + 512 * d) (((ci + 16, z, a) :: (S.take n).reverse).map gf) (rest.map gf) (gH s) (gF X) cs ss with
      | some lfs => es_cat (es_aft (gME (gM0 X)) ih (m + 512 * (d + 1)) pc (gL L) (rest.map gf) (cs + es_mc T') (ss + es_ms T')) lfs
      | none => none) := by
  unfold es_step
  dsimp only
  rw [gtab h0 hm hat]
  show es_sv (gME (gM0 X)) ih (m + 512 * (d + 1)) (es_cal (m + 512 * (d + 1)) m') n ci pc (gL L) (S.map gf) (gH s) (gF X) cs ss = _
  rw [gcal_at m d hm hm']
  unfold es_sv
  rw [← List.map_drop, hdr, List.map_cons]
  dsimp only
  have hv : gok s (ci + 16, z, a) := hs _ (List.mem_of_mem_drop (by rw [hdr]; exact List.mem_cons_self))
  obtain ⟨h1, h2⟩ := gok_r.mp hv
  rw [gf_r, gobjC (es_blt.mp hci) h1 h2]
  dsimp only
  rw [(gmc hm' h0').1, (gmc hm' h0').2, ← List.map_take, ← List.map_reverse]
  rfl
/-- a static method -/
theorem gst_s {idx n : Nat} {tl : List Nat} {ih : Nat → es_K → Option (List es_E)} (h0' : gM0 X m' = T') (hm' : m' < 512) (hn : Nat.ble n S.length = true) (hm : m < 512) (h0 : gM0 X m = T) (hat : es_at (es_tab T) pc = some (pc, .invokestatic idx, 3, 2 :: m' :: n :: tl)) :
    es_step (gME (gM0 X)) (gts X) (gSL X) ih (m + 512 * (d + 1)) (pc, gL L, S.map gf, gH s, gF X, cs, ss) = (match es_inv1 (gME (gM0 X)) (bif (es_hh T').isEmpty then 16 else 8) ih (m + 512 * (d + 1)) (m' + 512 * d) ((S.take n).reverse.map gf) ((S.drop n).map gf) (gH s) (gF X) cs ss with
      | some lfs => es_cat (es_aft (gME (gM0 X)) ih (m + 512 * (d + 1)) pc (gL L) ((S.drop n).map gf) (cs + es_mc T') (ss + es_ms T')) lfs
      | none => none) := by
  unfold es_step
  dsimp only
  rw [gtab h0 hm hat]
  show es_ss (gME (gM0 X)) ih (m + 512 * (d + 1)) (es_cal (m + 512 * (d + 1)) m') n pc (gL L) (S.map gf) (gH s) (gF X) cs ss = _
  rw [gcal_at m d hm hm']
  unfold es_ss
  rw [show es_hh (gME (gM0 X) (m' + 512 * d)) = es_hh T' from by rw [gME_at _ hm', h0']; rfl, List.length_map, hn, (gmc hm' h0').1, (gmc hm' h0').2, ← List.map_take, ← List.map_reverse, ← List.map_drop]
  rfl
/-- a method of a constant text -/
theorem gst_q {idx n a : Nat} {z : Int} {tl : List Nat} {ih : Nat → es_K → Option (List es_E)} (hN : (gts X).length = 70) (h0' : gM0 X m' = T') (hm' : m' < 512) (hs : ∀ v ∈ S, gok s v) (hdr : S.drop n = (8, z, a) :: rest) (hm : m < 512) (h0 : gM0 X m = T) (hat : es_at (es_tab T) pc = some (pc, .invokevirtual idx, 3, 3 :: m' :: n :: tl)) :
    es_step (gME (gM0 X)) (gts X) (gSL X) ih (m + 512 * (d + 1)) (pc, gL L, S.map gf, gH s, gF X, cs, ss) = (match es_inv1 (gME (gM0 X)) 8 ih (m + 512 * (d + 1)) (m' + 512 * d) (((8, z, a) :: (S.take n).reverse).map gf) (rest.map gf) (gH s) (gF X) cs ss with
      | some lfs => es_cat (es_aft (gME (gM0 X)) ih (m + 512 * (d + 1)) pc (gL L) (rest.map gf) (cs + es_mc T') (ss + es_ms T')) lfs
      | none => none) := by
  unfold es_step
  dsimp only
  rw [gtab h0 hm hat]
  show es_sq (gME (gM0 X)) (gts X) ih (m + 512 * (d + 1)) (es_cal (m + 512 * (d + 1)) m') n pc (gL L) (S.map gf) (gH s) (gF X) cs ss = _
  rw [gcal_at m d hm hm']
  unfold es_sq
  rw [← List.map_drop, hdr, List.map_cons]
  dsimp only
  rw [show (Nat.beq (gf (8, z, a)).1 8 && Nat.blt (gf (8, z, a)).2 (gts X).length) = true from by rw [Bool.and_eq_true, es_blt]; exact ⟨rfl, by rw [hN]; exact hs _ (List.mem_of_mem_drop (by rw [hdr]; exact List.mem_cons_self))⟩]
  dsimp only [cond_true]
  rw [(gmc hm' h0').1, (gmc hm' h0').2, ← List.map_take, ← List.map_reverse]
  rfl
theorem gvsv {n : Nat} {o : gV} (hdr : S.drop n = o :: rest) : (∀ v ∈ S, gok s v) → (∀ v ∈ o :: (S.take n).reverse, gok s v) ∧ ∀ v ∈ rest, gok s v := fun hs => by
  refine ⟨fun v hv => ?_, fun v hv => hs v (List.mem_of_mem_drop (by rw [hdr]; exact List.mem_cons_of_mem _ hv))⟩
  rcases List.mem_cons.mp hv with h | h
  · exact hs v (List.mem_of_mem_drop (by rw [hdr, h]; exact List.mem_cons_self))
  · exact hs v (List.mem_of_mem_take (List.mem_reverse.mp h))
theorem gvss {n : Nat} : (∀ v ∈ S, gok s v) → (∀ v ∈ (S.take n).reverse, gok s v) ∧ ∀ v ∈ S.drop n, gok s v := fun hs =>
  ⟨fun v hv => hs v (List.mem_of_mem_take (List.mem_reverse.mp hv)), fun v hv => hs v (List.mem_of_mem_drop hv)⟩
/-- how a call goes on: no answer, a number, a truth, a long, what may be nothing; and the same where it may throw -/
theorem gk_0 {q r : gO} {E : gS → Option Q} (kk : ∀ s', Go X T m d (pc + 3) cd L rest s' cs ss (E s') κ) (h0 : gM0 X m = T) (hm : m < 512) (hch : gch T (pc + 3) cd = true) (hw : gwt q.2.2.2) (hL : ∀ z ∈ L, gok q.2.2.2 z.2) (hR : ∀ v ∈ rest, gok q.2.2.2 v) (hr : (gv0 E q).bind κ = some r) : gAft X T T' m d pc L rest cs ss q.2.2.2 q r := by
  unfold gv0 at hr
  by_cases h : q.1 = 0
  · rw [if_pos h] at hr
    exact g_aft0 (w := none) hm h0 (Or.inl ⟨h, rfl⟩) hch hw hL hR (kk _) hr
  · rw [if_neg h] at hr; cases hr
theorem gk_1 {q r : gO} {E : Int → gS → Option Q} (hT : gRt T' = 0) (kk : ∀ v s', Go X T m d (pc + 3) cd L ((0, v, 0) :: rest) s' cs ss (E v s') κ) (h0 : gM0 X m = T) (hm : m < 512) (hch : gch T (pc + 3) cd = true) (hw : gwt q.2.2.2) (hg : q.1 = 1 → gok q.2.2.2 (gRt T', q.2.1, q.2.2.1)) (hL : ∀ z ∈ L, gok q.2.2.2 z.2) (hR : ∀ v ∈ rest, gok q.2.2.2 v) (hr : (gv1 E q).bind κ = some r) : gAft X T T' m d pc L rest cs ss q.2.2.2 q r := by
  unfold gv1 at hr
  by_cases h : q.1 = 1
  · rw [if_pos h] at hr
    have hg := hg h
    rw [hT] at hg
    exact g_aft0 (w := some (0, q.2.1, 0)) hm h0 (Or.inr ⟨h, _, rfl, by rw [hT]; rfl, hg⟩) hch hw hL hR (kk _ _) hr
  · rw [if_neg h] at hr; cases hr
theorem gk_z {q r : gO} {E : Int → gS → Option Q} (hT : gRt T' = 1) (kk : ∀ v s', (v = 0 ∨ v = 1) → Go X T m d (pc + 3) cd L ((0, v, 0) :: rest) s' cs ss (E v s') κ) (h0 : gM0 X m = T) (hm : m < 512) (hch : gch T (pc + 3) cd = true) (hw : gwt q.2.2.2) (hg : q.1 = 1 → gok q.2.2.2 (gRt T', q.2.1, q.2.2.1)) (hL : ∀ z ∈ L, gok q.2.2.2 z.2) (hR : ∀ v ∈ rest, gok q.2.2.2 v) (hr : (gv1 E q).bind κ = some r) : gAft X T T' m d pc L rest cs ss q.2.2.2 q r := by
  unfold gv1 at hr
  by_cases h : q.1 = 1
  · rw [if_pos h] at hr
    have hg := hg h
    rw [hT] at hg
    have hg2 : q.2.1 = 0 ∨ q.2.1 = 1 := hg
    exact g_aft0 (w := some (0, q.2.1, 0)) hm h0 (Or.inr ⟨h, _, rfl, by rw [hT]; rfl, by
      show gc32 q.2.1
      rcases hg2 with h9 | h9 <;> rw [h9] <;> unfold gc32 <;> decide⟩) hch hw hL hR (kk _ _ hg2) hr
  · rw [if_neg h] at hr; cases hr
theorem gk_l {q r : gO} {E : Int → gS → Option Q} (hT : gRt T' = 2) (kk : ∀ v s', Go X T m d (pc + 3) cd L ((2, v, 0) :: rest) s' cs ss (E v s') κ) (h0 : gM0 X m = T) (hm : m < 512) (hch : gch T (pc + 3) cd = true) (hw : gwt q.2.2.2) (hg : q.1 = 1 → gok q.2.2.2 (gRt T', q.2.1, q.2.2.1)) (hL : ∀ z ∈ L, gok q.2.2.2 z.2) (hR : ∀ v ∈ rest, gok q.2.2.2 v) (hr : (gv1 E q).bind κ = some r) : gAft X T T' m d pc L rest cs ss q.2.2.2 q r := by
  unfold gv1 at hr
  by_cases h : q.1 = 1
  · rw [if_pos h] at hr
    have hg := hg h
    rw [hT] at hg
    exact g_aft0 (w := some (2, q.2.1, 0)) hm h0 (Or.inr ⟨h, _, rfl, by rw [hT]; rfl, hg⟩) hch hw hL hR (kk _ _) hr
  · rw [if_neg h] at hr; cases hr
theorem gk_r {q r : gO} {E : Nat → gS → Option Q} {tg : Nat} (hT : gRt T' = tg) (h11 : tg = 11 ∨ tg = 12) (kk : ∀ a s', Go X T m d (pc + 3) cd L ((tg, 0, a) :: rest) s' cs ss (E a s') κ) (h0 : gM0 X m = T) (hm : m < 512) (hch : gch T (pc + 3) cd = true) (hw : gwt q.2.2.2) (hg : q.1 = 1 → gok q.2.2.2 (gRt T', q.2.1, q.2.2.1)) (hL : ∀ z ∈ L, gok q.2.2.2 z.2) (hR : ∀ v ∈ rest, gok q.2.2.2 v) (hr : (gvr E q).bind κ = some r) : gAft X T T' m d pc L rest cs ss q.2.2.2 q r := by
  unfold gvr at hr
  by_cases h : q.1 = 1
  · rw [if_pos h] at hr
    have hg := hg h
    rw [hT] at hg
    exact g_aft0 (w := some (tg, 0, q.2.2.1)) hm h0 (Or.inr ⟨h, _, rfl, by rw [hT]; rcases h11 with rfl | rfl <;> rfl, by rcases h11 with rfl | rfl <;> exact hg⟩) hch hw hL hR (kk _ _) hr
  · rw [if_neg h] at hr; cases hr
theorem gk_t0 (ok : gOK X) {q r : gO} {Z : gO → Q} {E : gS → Option Q} (hh : es_hh T = []) (hcap : (Nat.ble cs (es_mc T) && Nat.ble ss (es_ms T)) = true) (hZ : ∀ r, κ (Z r) = some r) (kk : ∀ s', Go X T m d (pc + 3) cd L rest s' cs ss (E s') κ) (h0 : gM0 X m = T) (hm : m < 512) (hch : gch T (pc + 3) cd = true) (hw : gwt q.2.2.2) (hL : ∀ z ∈ L, gok q.2.2.2 z.2) (hR : ∀ v ∈ rest, gok q.2.2.2 v) (hr : (gt0 Z E q).bind κ = some r) : gAft X T T' m d pc L rest cs ss q.2.2.2 q r := by
  unfold gt0 at hr
  by_cases h : q.1 = 0
  · rw [if_pos h] at hr
    exact g_aft0 (w := none) hm h0 (Or.inl ⟨h, rfl⟩) hch hw hL hR (kk _) hr
  · rw [if_neg h] at hr
    by_cases h2 : 2 ≤ q.1
    · rw [if_pos h2] at hr
      have e : some (q.1, 0, 0, q.2.2.2) = some r := (hZ _).symm.trans hr
      exact g_aftT ok hm h0 hh h2 (Option.some.inj e).symm hw hcap
    · rw [if_neg h2] at hr; cases hr
theorem gk_t1 (ok : gOK X) {q r : gO} {Z : gO → Q} {E : Int → gS → Option Q} {tg : Nat} (hT : gRt T' = tg) (htg : tg = 0 ∨ tg = 2) (hh : es_hh T = []) (hcap : (Nat.ble cs (es_mc T) && Nat.ble ss (es_ms T)) = true) (hZ : ∀ r, κ (Z r) = some r) (kk : ∀ v s', Go X T m d (pc + 3) cd L ((tg, v, 0) :: rest) s' cs ss (E v s') κ) (h0 : gM0 X m = T) (hm : m < 512) (hch : gch T (pc + 3) cd = true) (hw : gwt q.2.2.2) (hg : q.1 = 1 → gok q.2.2.2 (gRt T', q.2.1, q.2.2.1)) (hL : ∀ z ∈ L, gok q.2.2.2 z.2) (hR : ∀ v ∈ rest, gok q.2.2.2 v) (hr : (gt1 Z E q).bind κ = some r) : gAft X T T' m d pc L rest cs ss q.2.2.2 q r := by
  unfold gt1 at hr
  by_cases h : q.1 = 1
  · rw [if_pos h] at hr
    have hg := hg h
    rw [hT] at hg
    exact g_aft0 (w := some (tg, q.2.1, 0)) hm h0 (Or.inr ⟨h, _, rfl, by rw [hT]; rcases htg with rfl | rfl <;> rfl, by rcases htg with rfl | rfl <;> exact hg⟩) hch hw hL hR (kk _ _) hr
  · rw [if_neg h] at hr
    by_cases h2 : 2 ≤ q.1
    · rw [if_pos h2] at hr
      have e : some (q.1, 0, 0, q.2.2.2) = some r := (hZ _).symm.trans hr
      exact g_aftT ok hm h0 hh h2 (Option.some.inj e).symm hw hcap
    · rw [if_neg h2] at hr; cases hr
theorem gk_c1 {q r : gO} {C : Nat → gS → Option Q} {E : Int → gS → Option Q} (hT : gRt T' = 0 ∨ gRt T' = 1) (hne : es_hh T ≠ []) (kk : ∀ v s', (gRt T' = 1 → v = 0 ∨ v = 1) → Go X T m d (pc + 3) cd L ((0, v, 0) :: rest) s' cs ss (E v s') κ) (kc : ∀ k s', Go X T m d pc [] L rest s' cs ss (C k s') κ → True) (kx : ∀ k s' r, (C k s').bind κ = some r → k < 5 ∧ ∃ h, es_hdl es_ct (es_hh T) pc k = some h ∧ Go X T m d h [] L [(7, 0, 0)] s' cs ss (C k s') κ) (h0 : gM0 X m = T) (hm : m < 512) (hch : gch T (pc + 3) cd = true) (hw : gwt q.2.2.2) (hg : q.1 = 1 → gok q.2.2.2 (gRt T', q.2.1, q.2.2.1)) (hL : ∀ z ∈ L, gok q.2.2.2 z.2) (hR : ∀ v ∈ rest, gok q.2.2.2 v) (hr : (gc1 C E q).bind κ = some r) : gAft X T T' m d pc L rest cs ss q.2.2.2 q r := by
  unfold gc1 at hr
  by_cases h : q.1 = 1
  · rw [if_pos h] at hr
    have hg := hg h
    have hg2 : gc32 q.2.1 := by
      rcases hT with h9 | h9
      · rw [h9] at hg; exact hg
      · rw [h9] at hg
        have hg3 : q.2.1 = 0 ∨ q.2.1 = 1 := hg
        rcases hg3 with h8 | h8 <;> rw [h8] <;> unfold gc32 <;> decide
    exact g_aft0 (w := some (0, q.2.1, 0)) hm h0 (Or.inr ⟨h, _, rfl, by rcases hT with h9 | h9 <;> rw [h9] <;> rfl, hg2⟩) hch hw hL hR (kk _ _ (fun h9 => by rw [h9] at hg; exact hg)) hr
  · rw [if_neg h] at hr
    by_cases h2 : 2 ≤ q.1
    · rw [if_pos h2] at hr
      obtain ⟨g1, hd, g2, g3⟩ := kx _ _ _ hr
      exact g_aftC hm h0 h2 g1 hne g2 hw hL g3 hr
    · rw [if_neg h2] at hr; cases hr
/-- the rows of calls -/
theorem g_cv0 (ok : gOK X) {idx n ci a : Nat} {z : Int} {tl : List Nat} {y : Option gO} {E : gS → Option Q} (h0' : gM0 X m' = T') (hci : Nat.blt ci 13 = true) (hdr : S.drop n = (ci + 16, z, a) :: rest) (hcal : gcal 8 T T' m' ((ci + 16, z, a) :: (S.take n).reverse) rest cs ss = true) (ct : Go X T' m' d 0 [] (gal 0 ((ci + 16, z, a) :: (S.take n).reverse)) [] s 0 0 y some) (kk : ∀ s', Go X T m (d + 1) (pc + 3) cd L rest s' (cs + es_mc T') (ss + es_ms T') (E s') κ) : Go X T m (d + 1) pc ((pc, .invokevirtual idx, 3, 1 :: m' :: n :: ci :: tl) :: cd) L S s cs ss (y.bind (gv0 E)) κ := by
  have hm' : m' < 512 := by unfold gcal at hcal; simp only [Bool.and_eq_true, es_blt] at hcal; omega
  exact g_call ok h0' hm' hcal (fun hm h0 hat hw hs ih _ => gst_v h0' hm' hci hdr hm h0 hat hs) (gvsv hdr) ct (fun h0 hm hch q _ hw _ hL hR r hr => gk_0 kk h0 hm hch hw hL hR hr)
theorem g_cv1 (ok : gOK X) {idx n ci a : Nat} {z : Int} {tl : List Nat} {y : Option gO} {E : Int → gS → Option Q} (h0' : gM0 X m' = T') (hci : Nat.blt ci 13 = true) (hdr : S.drop n = (ci + 16, z, a) :: rest) (hcal : gcal 8 T T' m' ((ci + 16, z, a) :: (S.take n).reverse) rest cs ss = true) (hT : gRt T' = 0) (ct : Go X T' m' d 0 [] (gal 0 ((ci + 16, z, a) :: (S.take n).reverse)) [] s 0 0 y some) (kk : ∀ v s', Go X T m (d + 1) (pc + 3) cd L ((0, v, 0) :: rest) s' (cs + es_mc T') (ss + es_ms T') (E v s') κ) : Go X T m (d + 1) pc ((pc, .invokevirtual idx, 3, 1 :: m' :: n :: ci :: tl) :: cd) L S s cs ss (y.bind (gv1 E)) κ := by
  have hm' : m' < 512 := by unfold gcal at hcal; simp only [Bool.and_eq_true, es_blt] at hcal; omega
  exact g_call ok h0' hm' hcal (fun hm h0 hat hw hs ih _ => gst_v h0' hm' hci hdr hm h0 hat hs) (gvsv hdr) ct (fun h0 hm hch q _ hw hg hL hR r hr => gk_1 hT kk h0 hm hch hw hg hL hR hr)
theorem g_cvz (ok : gOK X) {idx n ci a : Nat} {z : Int} {tl : List Nat} {y : Option gO} {E : Int → gS → Option Q} (h0' : gM0 X m' = T') (hci : Nat.blt ci 13 = true) (hdr : S.drop n = (ci + 16, z, a) :: rest) (hcal : gcal 8 T T' m' ((ci + 16, z, a) :: (S.take n).reverse) rest cs ss = true) (hT : gRt T' = 1) (ct : Go X T' m' d 0 [] (gal 0 ((ci + 16, z, a) :: (S.take n).reverse)) [] s 0 0 y some) (kk : ∀ v s', (v = 0 ∨ v = 1) → Go X T m (d + 1) (pc + 3) cd L ((0, v, 0) :: rest) s' (cs + es_mc T') (ss + es_ms T') (E v s') κ) : Go X T m (d + 1) pc ((pc, .invokevirtual idx, 3, 1 :: m' :: n :: ci :: tl) :: cd) L S s cs ss (y.bind (gv1 E)) κ := by
  have hm' : m' < 512 := by unfold gcal at hcal; simp only [Bool.and_eq_true, es_blt] at hcal; omega
  exact g_call ok h0' hm' hcal (fun hm h0 hat hw hs ih _ => gst_v h0' hm' hci hdr hm h0 hat hs) (gvsv hdr) ct (fun h0 hm hch q _ hw hg hL hR r hr => gk_z hT kk h0 hm hch hw hg hL hR hr)
theorem g_cvr (ok : gOK X) {idx n ci a tg : Nat} {z : Int} {tl : List Nat} {y : Option gO} {E : Nat → gS → Option Q} (h0' : gM0 X m' = T') (hci : Nat.blt ci 13 = true) (hdr : S.drop n = (ci + 16, z, a) :: rest) (hcal : gcal 8 T T' m' ((ci + 16, z, a) :: (S.take n).reverse) rest cs ss = true) (hT : gRt T' = tg) (h11 : tg = 11 ∨ tg = 12) (ct : Go X T' m' d 0 [] (gal 0 ((ci + 16, z, a) :: (S.take n).reverse)) [] s 0 0 y some) (kk : ∀ v s', Go X T m (d + 1) (pc + 3) cd L ((tg, 0, v) :: rest) s' (cs + es_mc T') (ss + es_ms T') (E v s') κ) : Go X T m (d + 1) pc ((pc, .invokevirtual idx, 3, 1 :: m' :: n :: ci :: tl) :: cd) L S s cs ss (y.bind (gvr E)) κ := by
  have hm' : m' < 512 := by unfold gcal at hcal; simp only [Bool.and_eq_true, es_blt] at hcal; omega
  exact g_call ok h0' hm' hcal (fun hm h0 hat hw hs ih _ => gst_v h0' hm' hci hdr hm h0 hat hs) (gvsv hdr) ct (fun h0 hm hch q _ hw hg hL hR r hr => gk_r hT h11 kk h0 hm hch hw hg hL hR hr)
theorem g_cvl (ok : gOK X) {idx n ci a : Nat} {z : Int} {tl : List Nat} {y : Option gO} {E : Int → gS → Option Q} (h0' : gM0 X m' = T') (hci : Nat.blt ci 13 = true) (hdr : S.drop n = (ci + 16, z, a) :: rest) (hcal : gcal 8 T T' m' ((ci + 16, z, a) :: (S.take n).reverse) rest cs ss = true) (hT : gRt T' = 2) (ct : Go X T' m' d 0 [] (gal 0 ((ci + 16, z, a) :: (S.take n).reverse)) [] s 0 0 y some) (kk : ∀ v s', Go X T m (d + 1) (pc + 3) cd L ((2, v, 0) :: rest) s' (cs + es_mc T') (ss + es_ms T') (E v s') κ) : Go X T m (d + 1) pc ((pc, .invokevirtual idx, 3, 1 :: m' :: n :: ci :: tl) :: cd) L S s cs ss (y.bind (gv1 E)) κ := by
  have hm' : m' < 512 := by unfold gcal at hcal; simp only [Bool.and_eq_true, es_blt] at hcal; omega
  exact g_call ok h0' hm' hcal (fun hm h0 hat hw hs ih _ => gst_v h0' hm' hci hdr hm h0 hat hs) (gvsv hdr) ct (fun h0 hm hch q _ hw hg hL hR r hr => gk_l hT kk h0 hm hch hw hg hL hR hr)
theorem g_cvt0 (ok : gOK X) {idx n ci a : Nat} {z : Int} {tl : List Nat} {y : Option gO} {Z : gO → Q} {E : gS → Option Q} (h0' : gM0 X m' = T') (hci : Nat.blt ci 13 = true) (hdr : S.drop n = (ci + 16, z, a) :: rest) (hcal : gcal 8 T T' m' ((ci + 16, z, a) :: (S.take n).reverse) rest cs ss = true) (hh : es_hh T = []) (hcap : (Nat.ble (cs + es_mc T') (es_mc T) && Nat.ble (ss + es_ms T') (es_ms T)) = true) (hZ : ∀ r, κ (Z r) = some r) (ct : Go X T' m' d 0 [] (gal 0 ((ci + 16, z, a) :: (S.take n).reverse)) [] s 0 0 y some) (kk : ∀ s', Go X T m (d + 1) (pc + 3) cd L rest s' (cs + es_mc T') (ss + es_ms T') (E s') κ) : Go X T m (d + 1) pc ((pc, .invokevirtual idx, 3, 1 :: m' :: n :: ci :: tl) :: cd) L S s cs ss (y.bind (gt0 Z E)) κ := by
  have hm' : m' < 512 := by unfold gcal at hcal; simp only [Bool.and_eq_true, es_blt] at hcal; omega
  exact g_call ok h0' hm' hcal (fun hm h0 hat hw hs ih _ => gst_v h0' hm' hci hdr hm h0 hat hs) (gvsv hdr) ct (fun h0 hm hch q _ hw _ hL hR r hr => gk_t0 ok hh hcap hZ kk h0 hm hch hw hL hR hr)
theorem g_cvt1 (ok : gOK X) {idx n ci a tg : Nat} {z : Int} {tl : List Nat} {y : Option gO} {Z : gO → Q} {E : Int → gS → Option Q} (h0' : gM0 X m' = T') (hci : Nat.blt ci 13 = true) (hdr : S.drop n = (ci + 16, z, a) :: rest) (hcal : gcal 8 T T' m' ((ci + 16, z, a) :: (S.take n).reverse) rest cs ss = true) (hT : gRt T' = tg) (htg : tg = 0 ∨ tg = 2) (hh : es_hh T = []) (hcap : (Nat.ble (cs + es_mc T') (es_mc T) && Nat.ble (ss + es_ms T') (es_ms T)) = true) (hZ : ∀ r, κ (Z r) = some r) (ct : Go X T' m' d 0 [] (gal 0 ((ci + 16, z, a) :: (S.take n).reverse)) [] s 0 0 y some) (kk : ∀ v s', Go X T m (d + 1) (pc + 3) cd L ((tg, v, 0) :: rest) s' (cs + es_mc T') (ss + es_ms T') (E v s') κ) : Go X T m (d + 1) pc ((pc, .invokevirtual idx, 3, 1 :: m' :: n :: ci :: tl) :: cd) L S s cs ss (y.bind (gt1 Z E)) κ := by
  have hm' : m' < 512 := by unfold gcal at hcal; simp only [Bool.and_eq_true, es_blt] at hcal; omega
  exact g_call ok h0' hm' hcal (fun hm h0 hat hw hs ih _ => gst_v h0' hm' hci hdr hm h0 hat hs) (gvsv hdr) ct (fun h0 hm hch q _ hw hg hL hR r hr => gk_t1 ok hT htg hh hcap hZ kk h0 hm hch hw hg hL hR hr)
theorem g_cvc (ok : gOK X) {idx n ci a : Nat} {z : Int} {tl : List Nat} {y : Option gO} {C : Nat → gS → Option Q} {E : Int → gS → Option Q} (h0' : gM0 X m' = T') (hci : Nat.blt ci 13 = true) (hdr : S.drop n = (ci + 16, z, a) :: rest) (hcal : gcal 8 T T' m' ((ci + 16, z, a) :: (S.take n).reverse) rest cs ss = true) (hT : gRt T' = 0 ∨ gRt T' = 1) (hne : es_hh T ≠ []) (ct : Go X T' m' d 0 [] (gal 0 ((ci + 16, z, a) :: (S.take n).reverse)) [] s 0 0 y some) (kk : ∀ v s', (gRt T' = 1 → v = 0 ∨ v = 1) → Go X T m (d + 1) (pc + 3) cd L ((0, v, 0) :: rest) s' (cs + es_mc T') (ss + es_ms T') (E v s') κ) (kx : ∀ k s' r, (C k s').bind κ = some r → k < 5 ∧ ∃ h, es_hdl es_ct (es_hh T) pc k = some h ∧ Go X T m (d + 1) h [] L [(7, 0, 0)] s' (cs + es_mc T') (ss + es_ms T') (C k s') κ) : Go X T m (d + 1) pc ((pc, .invokevirtual idx, 3, 1 :: m' :: n :: ci :: tl) :: cd) L S s cs ss (y.bind (gc1 C E)) κ := by
  have hm' : m' < 512 := by unfold gcal at hcal; simp only [Bool.and_eq_true, es_blt] at hcal; omega
  exact g_call ok h0' hm' hcal (fun hm h0 hat hw hs ih _ => gst_v h0' hm' hci hdr hm h0 hat hs) (gvsv hdr) ct (fun h0 hm hch q _ hw hg hL hR r hr => gk_c1 hT hne kk (fun _ _ _ => trivial) kx h0 hm hch hw hg hL hR hr)
theorem g_cs0 (ok : gOK X) {idx n : Nat} {tl : List Nat} {y : Option gO} {E : gS → Option Q} (h0' : gM0 X m' = T') (hn : Nat.ble n S.length = true) (hcal : gcal (bif (es_hh T').isEmpty then 16 else 8) T T' m' (S.take n).reverse (S.drop n) cs ss = true) (ct : Go X T' m' d 0 [] (gal 0 (S.take n).reverse) [] s 0 0 y some) (kk : ∀ s', Go X T m (d + 1) (pc + 3) cd L (S.drop n) s' (cs + es_mc T') (ss + es_ms T') (E s') κ) : Go X T m (d + 1) pc ((pc, .invokestatic idx, 3, 2 :: m' :: n :: tl) :: cd) L S s cs ss (y.bind (gv0 E)) κ := by
  have hm' : m' < 512 := by unfold gcal at hcal; simp only [Bool.and_eq_true, es_blt] at hcal; omega
  exact g_call ok h0' hm' hcal (fun hm h0 hat hw hs ih _ => gst_s h0' hm' hn hm h0 hat) gvss ct (fun h0 hm hch q _ hw _ hL hR r hr => gk_0 kk h0 hm hch hw hL hR hr)
theorem g_cs1 (ok : gOK X) {idx n : Nat} {tl : List Nat} {y : Option gO} {E : Int → gS → Option Q} (h0' : gM0 X m' = T') (hn : Nat.ble n S.length = true) (hcal : gcal (bif (es_hh T').isEmpty then 16 else 8) T T' m' (S.take n).reverse (S.drop n) cs ss = true) (hT : gRt T' = 0) (ct : Go X T' m' d 0 [] (gal 0 (S.take n).reverse) [] s 0 0 y some) (kk : ∀ v s', Go X T m (d + 1) (pc + 3) cd L ((0, v, 0) :: S.drop n) s' (cs + es_mc T') (ss + es_ms T') (E v s') κ) : Go X T m (d + 1) pc ((pc, .invokestatic idx, 3, 2 :: m' :: n :: tl) :: cd) L S s cs ss (y.bind (gv1 E)) κ := by
  have hm' : m' < 512 := by unfold gcal at hcal; simp only [Bool.and_eq_true, es_blt] at hcal; omega
  exact g_call ok h0' hm' hcal (fun hm h0 hat hw hs ih _ => gst_s h0' hm' hn hm h0 hat) gvss ct (fun h0 hm hch q _ hw hg hL hR r hr => gk_1 hT kk h0 hm hch hw hg hL hR hr)
theorem g_csz (ok : gOK X) {idx n : Nat} {tl : List Nat} {y : Option gO} {E : Int → gS → Option Q} (h0' : gM0 X m' = T') (hn : Nat.ble n S.length = true) (hcal : gcal (bif (es_hh T').isEmpty then 16 else 8) T T' m' (S.take n).reverse (S.drop n) cs ss = true) (hT : gRt T' = 1) (ct : Go X T' m' d 0 [] (gal 0 (S.take n).reverse) [] s 0 0 y some) (kk : ∀ v s', (v = 0 ∨ v = 1) → Go X T m (d + 1) (pc + 3) cd L ((0, v, 0) :: S.drop n) s' (cs + es_mc T') (ss + es_ms T') (E v s') κ) : Go X T m (d + 1) pc ((pc, .invokestatic idx, 3, 2 :: m' :: n :: tl) :: cd) L S s cs ss (y.bind (gv1 E)) κ := by
  have hm' : m' < 512 := by unfold gcal at hcal; simp only [Bool.and_eq_true, es_blt] at hcal; omega
  exact g_call ok h0' hm' hcal (fun hm h0 hat hw hs ih _ => gst_s h0' hm' hn hm h0 hat) gvss ct (fun h0 hm hch q _ hw hg hL hR r hr => gk_z hT kk h0 hm hch hw hg hL hR hr)
theorem g_csr (ok : gOK X) {idx n tg : Nat} {tl : List Nat} {y : Option gO} {E : Nat → gS → Option Q} (h0' : gM0 X m' = T') (hn : Nat.ble n S.length = true) (hcal : gcal (bif (es_hh T').isEmpty then 16 else 8) T T' m' (S.take n).reverse (S.drop n) cs ss = true) (hT : gRt T' = tg) (h11 : tg = 11 ∨ tg = 12) (ct : Go X T' m' d 0 [] (gal 0 (S.take n).reverse) [] s 0 0 y some) (kk : ∀ v s', Go X T m (d + 1) (pc + 3) cd L ((tg, 0, v) :: S.drop n) s' (cs + es_mc T') (ss + es_ms T') (E v s') κ) : Go X T m (d + 1) pc ((pc, .invokestatic idx, 3, 2 :: m' :: n :: tl) :: cd) L S s cs ss (y.bind (gvr E)) κ := by
  have hm' : m' < 512 := by unfold gcal at hcal; simp only [Bool.and_eq_true, es_blt] at hcal; omega
  exact g_call ok h0' hm' hcal (fun hm h0 hat hw hs ih _ => gst_s h0' hm' hn hm h0 hat) gvss ct (fun h0 hm hch q _ hw hg hL hR r hr => gk_r hT h11 kk h0 hm hch hw hg hL hR hr)
theorem g_cq1 (ok : gOK X) {idx n a : Nat} {z : Int} {tl : List Nat} {y : Option gO} {E : Int → gS → Option Q} (h0' : gM0 X m' = T') (hdr : S.drop n = (8, z, a) :: rest) (hcal : gcal 8 T T' m' ((8, z, a) :: (S.take n).reverse) rest cs ss = true) (hT : gRt T' = 0) (ct : Go X T' m' d 0 [] (gal 0 ((8, z, a) :: (S.take n).reverse)) [] s 0 0 y some) (kk : ∀ v s', Go X T m (d + 1) (pc + 3) cd L ((0, v, 0) :: rest) s' (cs + es_mc T') (ss + es_ms T') (E v s') κ) : Go X T m (d + 1) pc ((pc, .invokevirtual idx, 3, 3 :: m' :: n :: tl) :: cd) L S s cs ss (y.bind (gv1 E)) κ := by
  have hm' : m' < 512 := by unfold gcal at hcal; simp only [Bool.and_eq_true, es_blt] at hcal; omega
  exact g_call ok h0' hm' hcal (fun hm h0 hat hw hs ih _ => gst_q ok.2.2.2.2.1 h0' hm' hs hdr hm h0 hat) (gvsv hdr) ct (fun h0 hm hch q _ hw hg hL hR r hr => gk_1 hT kk h0 hm hch hw hg hL hR hr)
theorem g_cqz (ok : gOK X) {idx n a : Nat} {z : Int} {tl : List Nat} {y : Option gO} {E : Int → gS → Option Q} (h0' : gM0 X m' = T') (hdr : S.drop n = (8, z, a) :: rest) (hcal : gcal 8 T T' m' ((8, z, a) :: (S.take n).reverse) rest cs ss = true) (hT : gRt T' = 1) (ct : Go X T' m' d 0 [] (gal 0 ((8, z, a) :: (S.take n).reverse)) [] s 0 0 y some) (kk : ∀ v s', (v = 0 ∨ v = 1) → Go X T m (d + 1) (pc + 3) cd L ((0, v, 0) :: rest) s' (cs + es_mc T') (ss + es_ms T') (E v s') κ) : Go X T m (d + 1) pc ((pc, .invokevirtual idx, 3, 3 :: m' :: n :: tl) :: cd) L S s cs ss (y.bind (gv1 E)) κ := by
  have hm' : m' < 512 := by unfold gcal at hcal; simp only [Bool.and_eq_true, es_blt] at hcal; omega
  exact g_call ok h0' hm' hcal (fun hm h0 hat hw hs ih _ => gst_q ok.2.2.2.2.1 h0' hm' hs hdr hm h0 hat) (gvsv hdr) ct (fun h0 hm hch q _ hw hg hL hR r hr => gk_z hT kk h0 hm hch hw hg hL hR hr)
end GoG
