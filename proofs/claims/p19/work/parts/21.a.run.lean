section Rz
variable {X : gX}
/-- the script is not near the top -/
noncomputable def es_gd (S : List es_V) : Bool := match S with
  | [] => true
  | [v] => !Nat.beq v.1 5
  | v :: w :: _ => !Nat.beq v.1 5 && !Nat.beq w.1 5
theorem es_hs_SL {SL : Nat} {M : es_M} {e : es_I} {K : es_K} (h : es_gd K.2.2.1 = true) : es_hs SL M e K = es_hs 0 M e K := by
  obtain ⟨pc, L, S, AH, F, cs, ss⟩ := K
  obtain ⟨epc, ins, len, aux⟩ := e
  dsimp only at h
  unfold es_hs
  cases ins <;> try rfl
  case arraylength =>
    cases S with
    | nil => rfl
    | cons v S' =>
      have h1 : Nat.beq v.1 5 = false := by
        cases S' with
        | nil => unfold es_gd at h; simpa using h
        | cons w S2 =>
          unfold es_gd at h
          simp only [Bool.and_eq_true, Bool.not_eq_true'] at h
          exact h.1
      dsimp only
      rw [h1]
      rfl
  case iaload =>
    cases S with
    | nil => rfl
    | cons v S' =>
      cases S' with
      | nil => rfl
      | cons w S2 =>
        unfold es_gd at h
        simp only [Bool.and_eq_true, Bool.not_eq_true'] at h
        dsimp only
        rw [h.2]
        rfl
theorem es_step_SL {ME : Nat → es_M} {strs : List (String × Nat × String)} {SL : Nat} {ih : Nat → es_K → Option (List es_E)} {M : Nat} {K : es_K} (h : es_gd K.2.2.1 = true) : es_step ME strs SL ih M K = es_step ME strs 0 ih M K := by
  obtain ⟨pc, L, S, AH, F, cs, ss⟩ := K
  have h2 : ∀ T e, es_hs SL T e (pc, L, S, AH, F, cs, ss) = es_hs 0 T e (pc, L, S, AH, F, cs, ss) := fun T e => es_hs_SL h
  unfold es_step
  simp only [h2]
noncomputable def es_rz (ME : Nat → es_M) (strs : List (String × Nat × String)) (M0 : Nat) : Nat → Nat → es_K → Option (List es_E) := fun n => Nat.rec (motive := fun _ => Nat → es_K → Option (List es_E)) (fun _ _ => none) (fun _ ih M K => bif Nat.beq M M0 && Nat.beq K.1 23 then some [(0, K)] else bif es_gd K.2.2.1 then es_step ME strs 0 ih M K else none) n
theorem es_rz_ok (ok : gOK X) {M0 : Nat} : ∀ (n M : Nat) (K : es_K) (ends : List es_E), es_rz (gME (gM0 X)) (gts X) M0 n M K = some ends → gRS X M K ends
  | 0, M, K, ends, h => by cases h
  | n + 1, M, K, ends, h => by
    have h1 : (bif Nat.beq M M0 && Nat.beq K.1 23 then some [(0, K)] else bif es_gd K.2.2.1 then es_step (gME (gM0 X)) (gts X) 0 (es_rz (gME (gM0 X)) (gts X) M0 n) M K else none) = some ends := h
    cases hc : (Nat.beq M M0 && Nat.beq K.1 23)
    · rw [hc] at h1
      cases hg : es_gd K.2.2.1
      · rw [hg] at h1; cases h1
      · rw [hg] at h1
        have h2 : es_step (gME (gM0 X)) (gts X) 0 (es_rz (gME (gM0 X)) (gts X) M0 n) M K = some ends := h1
        rw [← es_step_SL (SL := gSL X) hg] at h2
        exact ok.1 _ (es_rz_ok ok n) _ _ _ h2
    · rw [hc] at h1
      cases h1
      exact ok.2.2.1 _ _
/-- the law's loop -/
theorem law_it (ok : gOK X) (hX : gHX X) (d : Nat) (hSL : gSL X < 2147483648) {sc : Nat → Int} (hsc : ∀ i, i < gSL X → es_kn (gF X) (1, i) = some (eI (sc i)) ∧ gc32 (sc i)) : ∀ (n cs ss : Nat), cs + 4 * n ≤ 601024 → ss + 408 * n ≤ 7293034 → ∀ y : (Nat × Nat × Nat × Int × gS), Go X em_511 511 (d + 103) 23 [] [(0, (5, 0, 0)), (1, (27, 0, y.1)), (2, (28, 0, y.2.1)), (3, (125, 0, y.2.2.1)), (4, (0, y.2.2.2.1, 0))] [] y.2.2.2.2 cs ss (giter (st_511_23 (gSL X) sc) n y) some
  | 0, _, _, _, _, _ => fun _ _ _ _ _ _ r hr => by cases hr
  | n + 1, cs, ss, h1, h2, y => by
    have a1 : cs + 4 ≤ 601024 := by omega
    have a2 : ss + 408 ≤ 7293034 := Nat.le_trans (Nat.add_le_add_left (Nat.le_mul_of_pos_right 408 (Nat.succ_pos n)) ss) h2
    have a3 : cs + 4 + 4 * n ≤ 601024 := by omega
    have a4 : ss + 408 + 408 * n ≤ 7293034 := by omega
    have a5 : ∀ x : Option gO, x.bind some = x := fun x => by cases x <;> rfl
    intro h0 hm hc hw hl hs r hr
    refine ts_511_23 ok hX d hSL hsc (cs := cs) (ss := ss) a1 a2 (k23 := Sum.elim (giter (st_511_23 (gSL X) sc) n) some) (fun z => ?_) (fun q => rfl) y.1 y.2.1 y.2.2.1 y.2.2.2.1 y.2.2.2.2 h0 hm hc hw hl hs r ?_
    · intro h0 hm hc hw hl hs r hr
      refine law_it ok hX d hSL hsc n (cs + 4) (ss + 408) a3 a4 z h0 hm hc hw hl hs r ?_
      have h3 : giter (st_511_23 (gSL X) sc) n z = some r := hr
      rw [h3]
      rfl
    · have h3 : ((st_511_23 (gSL X) sc y).bind (Sum.elim (giter (st_511_23 (gSL X) sc) n) some)).bind some = some r := hr
      rw [a5] at h3
      exact h3
end Rz
/-- a told heap as a state -/
noncomputable def gcI (v : es_V) : Int := match v.1 with
  | 2 => (BitVec.ofNat 64 v.2).toInt
  | _ => (BitVec.ofNat 32 v.2).toInt
noncomputable def gcR (v : es_V) : Nat := bif Nat.beq v.1 3 then v.2 else 0
noncomputable def gkd (o : es_O) : Nat := match o.1 with
  | 0 => o.2.1
  | 1 => 99
  | t + 2 => 100 + 8 * o.2.1 + t
noncomputable def gcell (o : es_O) (k : Nat) : es_V := match o.1 with
  | 0 => (es_get o.2.2 k).getD (0, 0)
  | 1 => (0, 0)
  | t + 2 => es_ad t o.2.2 k
noncomputable def gth (AH : List es_O) (a : Nat) : es_O := AH.getD a (1, 0, [])
noncomputable def gfrom (AH : List es_O) : gS := (AH.length, fun a => gkd (gth AH a), fun a k => gcI (gcell (gth AH a) k), fun a k => gcR (gcell (gth AH a) k))
noncomputable def gcv (t : Nat) (v : es_V) : gV := match t with
  | 0 => (0, gcI v, 0)
  | 1 => (2, gcI v, 0)
  | 2 => (0, gcI v, 0)
  | 3 => (18, 0, gcR v)
  | _ => (23, 0, gcR v)
theorem gev_from (AH : List es_O) (a t j : Nat) : gev (gfrom AH) a t j = gcv t (gcell (gth AH a) j) := by
  match t with
  | 0 => rfl
  | 1 => rfl
  | 2 => rfl
  | 3 => rfl
  | t + 4 => rfl
noncomputable def gokb (s : gS) (v : gV) : Bool := match v.1 with
  | 0 => decide (-2147483648 ≤ v.2.1 ∧ v.2.1 < 2147483648)
  | 2 => decide (-9223372036854775808 ≤ v.2.1 ∧ v.2.1 < 9223372036854775808)
  | 11 => Nat.beq v.2.2 0
  | 12 => Nat.beq v.2.2 0
  | t => Nat.ble 16 t && (Nat.blt v.2.2 (gn s) && Nat.beq (gK s v.2.2 + 16) t)
theorem gokb_ok {s : gS} {v : gV} (h : gokb s v = true) : gok s v := by
  obtain ⟨t, x, a⟩ := v
  unfold gokb at h
  unfold gok
  dsimp only at h ⊢
  split at h
  · exact (of_decide_eq_true h : -2147483648 ≤ x ∧ x < 2147483648)
  · exact (of_decide_eq_true h : -9223372036854775808 ≤ x ∧ x < 9223372036854775808)
  · exact fun h2 => absurd (es_beq.mp h) h2
  · exact fun h2 => absurd (es_beq.mp h) h2
  · rename_i h1 h2 h3 h4
    simp only [Bool.and_eq_true, Nat.ble_eq, es_blt, es_beq] at h
    obtain ⟨g1, g2, g3⟩ := h
    split <;> first | omega | exact fun _ => ⟨g2, g3⟩
noncomputable def gck1 (s : gS) (t : Nat) (v : es_V) : Bool := (Nat.beq (gf (gcv t v)).1 v.1 && Nat.beq (gf (gcv t v)).2 v.2) && gokb s (gcv t v)
noncomputable def gcko (s : gS) (a : Nat) (o : es_O) : Bool := match o.1 with
  | 0 => (Nat.blt o.2.1 13 && decide (gobj s a = o)) && (List.range (gnf o.2.1)).all (fun i => gokb s (gfv s a o.2.1 i))
  | 1 => false
  | t + 2 => (Nat.blt o.2.1 1000000 && Nat.blt t 5) && (bif Nat.blt t 3 then gck1 s t (es_dv t) && o.2.2.all (fun q => gck1 s t q.2) else (List.range o.2.1).all (fun j => gck1 s t (es_ad t o.2.2 j)))
noncomputable def gckf (AH : List es_O) : Bool := (List.range AH.length).all (fun a => gcko (gfrom AH) a (gth AH a))
theorem es_get_mem' {α : Type} {c : List (Nat × α)} {j : Nat} {v : α} (h : es_get c j = some v) : ∃ q ∈ c, q.2 = v := by
  induction c with
  | nil => cases h
  | cons q t ih =>
    have h1 : (bif Nat.beq q.1 j then some q.2 else es_get t j) = some v := h
    cases hb : Nat.beq q.1 j
    · rw [hb] at h1
      obtain ⟨q2, h2, h3⟩ := ih h1
      exact ⟨q2, List.mem_cons_of_mem _ h2, h3⟩
    · rw [hb] at h1
      cases h1
      exact ⟨q, List.mem_cons_self, rfl⟩
theorem gck_all {s : gS} {t n : Nat} {c : List (Nat × es_V)} (h : (bif Nat.blt t 3 then gck1 s t (es_dv t) && c.all (fun q => gck1 s t q.2) else (List.range n).all (fun j => gck1 s t (es_ad t c j))) = true) {j : Nat} (hj : j < n) : gck1 s t (es_ad t c j) = true := by
  cases ht : Nat.blt t 3
  · rw [ht] at h
    exact List.all_eq_true.mp h j (List.mem_range.mpr hj)
  · rw [ht] at h
    have h1 : (gck1 s t (es_dv t) && c.all (fun q => gck1 s t q.2)) = true := h
    rw [Bool.and_eq_true] at h1
    unfold es_ad
    cases hg : es_get c j with
    | none => exact h1.1
    | some v =>
      obtain ⟨q, hq, rfl⟩ := es_get_mem' hg
      exact List.all_eq_true.mp h1.2 q hq
theorem gck1_ok {s : gS} {t : Nat} {v : es_V} (h : gck1 s t v = true) : gf (gcv t v) = v ∧ gok s (gcv t v) := by
  unfold gck1 at h
  simp only [Bool.and_eq_true, es_beq] at h
  exact ⟨Prod.ext h.1.1 h.1.2, gokb_ok h.2⟩
theorem gkd_arr (t n : Nat) (c : List (Nat × es_V)) (ht : t < 5) : gL4 (gkd (t + 2, n, c)) = n ∧ gT4 (gkd (t + 2, n, c)) = t ∧ 100 ≤ gkd (t + 2, n, c) := by
  show (100 + 8 * n + t - 100) / 8 = n ∧ (100 + 8 * n + t - 100) % 8 = t ∧ 100 ≤ 100 + 8 * n + t
  omega
theorem gckf_ok {AH : List es_O} (h : gckf AH = true) : gEq AH (gH (gfrom AH)) ∧ gwt (gfrom AH) := by
  have h1 : ∀ a, a < AH.length → gcko (gfrom AH) a (gth AH a) = true := fun a ha => List.all_eq_true.mp h a (List.mem_range.mpr ha)
  have hth : ∀ a, a < AH.length → AH[a]? = some (gth AH a) := fun a ha => by
    unfold gth
    rw [List.getD_eq_getElem?_getD, List.getElem?_eq_getElem ha]
    rfl
  refine ⟨⟨(show gn (gfrom AH) = _ from (gH_len (gfrom AH)).symm), fun a o ho => ?_⟩, fun a ha => ?_⟩
  · have ha : a < AH.length := by
      have h2 := (List.getElem?_eq_some_iff.mp ho).1
      rw [gH_len] at h2
      exact h2
    rw [gH_at (s := gfrom AH) ha] at ho
    cases ho
    have h2 := h1 a ha
    refine ⟨_, hth a ha, ?_⟩
    have hk : gK (gfrom AH) a = gkd (gth AH a) := rfl
    have hev := gev_from AH a
    generalize hg : gth AH a = o at h2 hk hev ⊢
    obtain ⟨t, n, c⟩ := o
    match t, h2, hk, hev with
    | 0, h2, hk, hev =>
      unfold gcko at h2
      simp only [Bool.and_eq_true] at h2
      exact Or.inl (of_decide_eq_true h2.1.2).symm
    | 1, h2, hk, hev => cases h2
    | t + 2, h2, hk, hev =>
      have h3 : ((Nat.blt n 1000000 && Nat.blt t 5) && (bif Nat.blt t 3 then gck1 (gfrom AH) t (es_dv t) && c.all (fun q => gck1 (gfrom AH) t q.2) else (List.range n).all (fun j => gck1 (gfrom AH) t (es_ad t c j)))) = true := h2
      simp only [Bool.and_eq_true, es_blt] at h3
      obtain ⟨⟨g1, g2⟩, g3⟩ := h3
      obtain ⟨e1, e2, e3⟩ := gkd_arr t n c g2
      rw [← hk] at e1 e2 e3
      refine Or.inr ⟨t, n, (List.range n).map (fun j => (j, gf (gev (gfrom AH) a t j))), c, ?_, rfl, fun j hj => ?_⟩
      · unfold gobj
        rw [if_neg (by omega), if_neg (by omega), e1, e2]
      · have h4 := (gck1_ok (gck_all g3 hj)).1
        show es_ad t c j = es_ad t ((List.range n).map (fun j => (j, gf (gev (gfrom AH) a t j)))) j
        conv => rhs; unfold es_ad
        rw [grg (fun j => gf (gev (gfrom AH) a t j)) j n, if_pos hj]
        show es_ad t c j = gf (gev (gfrom AH) a t j)
        rw [hev t j]
        exact h4.symm
  · have ha' : a < AH.length := ha
    have h2 := h1 a ha'
    have hk : gK (gfrom AH) a = gkd (gth AH a) := rfl
    have hev := gev_from AH a
    generalize hg : gth AH a = o at h2 hk hev
    obtain ⟨t, n, c⟩ := o
    match t, h2, hk, hev with
    | 0, h2, hk, hev =>
      have h3 : ((Nat.blt n 13 && decide (gobj (gfrom AH) a = (0, n, c))) && (List.range (gnf n)).all (fun i => gokb (gfrom AH) (gfv (gfrom AH) a n i))) = true := h2
      simp only [Bool.and_eq_true, es_blt] at h3
      have hk2 : gK (gfrom AH) a = n := hk
      rw [hk2]
      exact ⟨fun _ i hi => gokb_ok (List.all_eq_true.mp h3.2 i (List.mem_range.mpr hi)), fun h9 => absurd h9 (by have := h3.1.1; omega)⟩
    | 1, h2, hk, hev => cases h2
    | t + 2, h2, hk, hev =>
      have h3 : ((Nat.blt n 1000000 && Nat.blt t 5) && (bif Nat.blt t 3 then gck1 (gfrom AH) t (es_dv t) && c.all (fun q => gck1 (gfrom AH) t q.2) else (List.range n).all (fun j => gck1 (gfrom AH) t (es_ad t c j)))) = true := h2
      simp only [Bool.and_eq_true, es_blt] at h3
      obtain ⟨⟨g1, g2⟩, g3⟩ := h3
      obtain ⟨e1, e2, e3⟩ := gkd_arr t n c g2
      rw [← hk] at e1 e2 e3
      refine ⟨fun h9 => absurd h9 (by omega), fun _ => ⟨by omega, by omega, fun j hj => ?_⟩⟩
      rw [e1] at hj
      rw [e2, hev t j]
      exact (gck1_ok (gck_all g3 hj)).2
