abbrev gV : Type := Nat × Int × Nat
abbrev gS : Type := Nat × (Nat → Nat) × (Nat → Nat → Int) × (Nat → Nat → Nat)
abbrev gO : Type := Nat × Int × Nat × gS
def gn (s : gS) : Nat := s.1
def gK (s : gS) (a : Nat) : Nat := s.2.1 a
def gI (s : gS) (a k : Nat) : Int := s.2.2.1 a k
def gR (s : gS) (a k : Nat) : Nat := s.2.2.2 a k
def gw (s : gS) (a k : Nat) (v : Int) : gS := (s.1, s.2.1, fun a' k' => if a' = a ∧ k' = k then v else s.2.2.1 a' k', s.2.2.2)
def gwr (s : gS) (a k r : Nat) : gS := (s.1, s.2.1, s.2.2.1, fun a' k' => if a' = a ∧ k' = k then r else s.2.2.2 a' k')
def gnw (s : gS) (kd : Nat) : gS := (s.1 + 1, fun a => if a = s.1 then kd else s.2.1 a, fun a k => if a = s.1 then 0 else s.2.2.1 a k, fun a k => if a = s.1 then 0 else s.2.2.2 a k)
/-- a row of ints is written over from another -/
def gcpy (s : gS) (a sp b dp n : Nat) : gS := (s.1, s.2.1, fun a' k' => if a' = b ∧ dp ≤ k' ∧ k' < dp + n then s.2.2.1 a (sp + (k' - dp)) else s.2.2.1 a' k', s.2.2.2)
def gnfl : List Nat := [12, 1, 10, 3, 2, 3, 2, 6, 2, 11, 5, 17, 25]
def gnf (k : Nat) : Nat := gnfl.getD k 0
/-- kinds: below 13 a class, 99 a thrown one, 100 + 8 len + t a row; of fields: 0 a number, 11, 12 perhaps nothing, 16 + kind -/
def gfkl : List (List Nat) := [
  [180, 180, 180, 164, 164, 0, 0, 0, 0, 0, 0, 11],
  [26],
  [168, 164, 164, 22, 0, 0, 0, 0, 0, 0],
  [188, 372, 0],
  [0, 12],
  [26, 3316, 0],
  [2036, 0],
  [0, 0, 0, 0, 0, 0],
  [18, 3700],
  [19, 16, 23, 356, 356, 356, 356, 24117, 0, 0, 0],
  [3316, 0, 0, 0, 0],
  [26, 19, 17, 21, 16, 18, 25, 24, 16, 18, 16, 18, 215, 0, 0, 0, 0],
  [0, 6036, 6036, 0, 2836, 32756, 0, 3316, 0, 0, 0, 0, 0, 0, 172, 0, 0, 0, 356, 356, 356, 356, 248116, 630, 3700]]
def gfk (k i : Nat) : Nat := (gfkl.getD k []).getD i 0
def gL4 (k : Nat) : Nat := (k - 100) / 8
def gT4 (k : Nat) : Nat := (k - 100) % 8
def gf (v : gV) : es_V := match v.1 with
  | 0 => (0, eI v.2.1)
  | 1 => (0, eI v.2.1)
  | 2 => (2, eJ v.2.1)
  | 4 => (4, 0)
  | 5 => (5, 0)
  | 7 => (7, 0)
  | 8 => (8, v.2.2)
  | 9 => (9, v.2.2)
  | 10 => (10, 0)
  | 11 => if v.2.2 = 0 then (4, 0) else (3, v.2.2)
  | 12 => if v.2.2 = 0 then (4, 0) else (3, v.2.2)
  | _ => (3, v.2.2)
def gok (s : gS) (v : gV) : Prop := match v.1 with
  | 0 => gc32 v.2.1
  | 1 => v.2.1 = 0 ∨ v.2.1 = 1
  | 2 => gc64 v.2.1
  | 8 => v.2.2 < 70
  | 11 => v.2.2 ≠ 0 → v.2.2 < gn s ∧ gK s v.2.2 = 4
  | 12 => v.2.2 ≠ 0 → v.2.2 < gn s ∧ ∃ n, n < 1000000 ∧ gK s v.2.2 = 100 + 8 * n
  | t => 16 ≤ t → v.2.2 < gn s ∧ gK s v.2.2 + 16 = t
/-- a field's value, an element's value -/
def gfv (s : gS) (a k i : Nat) : gV := if gfk k i = 0 then (0, gI s a i, 0) else (gfk k i, 0, gR s a i)
def gev (s : gS) (a t j : Nat) : gV := match t with
  | 0 => (0, gI s a j, 0)
  | 1 => (2, gI s a j, 0)
  | 2 => (0, gI s a j, 0)
  | 3 => (18, 0, gR s a j)
  | _ => (23, 0, gR s a j)
def gobj (s : gS) (a : Nat) : es_O := if gK s a < 13 then (0, gK s a, (List.range (gnf (gK s a))).map (fun i => (i, gf (gfv s a (gK s a) i)))) else
  if gK s a < 100 then (1, 0, []) else (gT4 (gK s a) + 2, gL4 (gK s a), (List.range (gL4 (gK s a))).map (fun j => (j, gf (gev s a (gT4 (gK s a)) j))))
def gH (s : gS) : List es_O := (List.range (gn s)).map (gobj s)
def gwt (s : gS) : Prop := ∀ a, a < gn s → (gK s a < 13 → ∀ i, i < gnf (gK s a) → gok s (gfv s a (gK s a) i)) ∧ (100 ≤ gK s a → gL4 (gK s a) < 1000000 ∧ gT4 (gK s a) < 5 ∧ ∀ j, j < gL4 (gK s a) → gok s (gev s a (gT4 (gK s a)) j))
def gext (s s' : gS) : Prop := gn s ≤ gn s' ∧ ∀ a, a < gn s → gK s' a = gK s a
theorem gext_rf (s : gS) : gext s s := ⟨Nat.le_refl _, fun _ _ => rfl⟩
theorem gext_tr {s t u : gS} (h1 : gext s t) (h2 : gext t u) : gext s u := ⟨Nat.le_trans h1.1 h2.1, fun a ha => (h2.2 a (Nat.lt_of_lt_of_le ha h1.1)).trans (h1.2 a ha)⟩
theorem gok_ext {s s' : gS} (h : gext s s') {v : gV} (hv : gok s v) : gok s' v := by
  obtain ⟨t, x, a⟩ := v
  have hgo : ∀ t, (16 ≤ t → a < gn s ∧ gK s a + 16 = t) → (16 ≤ t → a < gn s' ∧ gK s' a + 16 = t) := fun t h1 h2 => by
    obtain ⟨g1, g2⟩ := h1 h2
    exact ⟨Nat.lt_of_lt_of_le g1 h.1, by rw [h.2 a g1]; exact g2⟩
  match t, hv with
  | 0, hv => exact hv
  | 1, hv => exact hv
  | 2, hv => exact hv
  | 3, hv => exact hgo 3 hv
  | 4, hv => exact hgo 4 hv
  | 5, hv => exact hgo 5 hv
  | 6, hv => exact hgo 6 hv
  | 7, hv => exact hgo 7 hv
  | 8, hv => exact hv
  | 9, hv => exact hgo 9 hv
  | 10, hv => exact hgo 10 hv
  | 11, hv => exact fun h2 => ⟨Nat.lt_of_lt_of_le (hv h2).1 h.1, by show gK s' a = 4; rw [h.2 a (hv h2).1]; exact (hv h2).2⟩
  | 12, hv => exact fun h2 => ⟨Nat.lt_of_lt_of_le (hv h2).1 h.1, by show ∃ n, n < 1000000 ∧ gK s' a = 100 + 8 * n; rw [h.2 a (hv h2).1]; exact (hv h2).2⟩
  | t + 13, hv => exact hgo (t + 13) hv
theorem gok_i {s : gS} {v : Int} {a : Nat} : gok s (0, v, a) ↔ gc32 v := Iff.rfl
theorem gok_l {s : gS} {v : Int} {a : Nat} : gok s (2, v, a) ↔ gc64 v := Iff.rfl
theorem gok_r {s : gS} {t a : Nat} {v : Int} : gok s (t + 16, v, a) ↔ (a < gn s ∧ gK s a = t) := by
  constructor
  · intro h
    have h1 := h (Nat.le_add_left 16 t)
    exact ⟨h1.1, by have := h1.2; dsimp only at this; omega⟩
  · intro h h2
    exact ⟨h.1, by dsimp only; omega⟩
theorem gf_r (t a : Nat) (v : Int) : gf (t + 16, v, a) = (3, a) := rfl
theorem gf_2 (v : gV) : Nat.beq (gf v).1 2 = Nat.beq v.1 2 := by
  obtain ⟨t, x, a⟩ := v
  match t with
  | 0 => rfl
  | 1 => rfl
  | 2 => rfl
  | 3 => rfl
  | 4 => rfl
  | 5 => rfl
  | 6 => rfl
  | 7 => rfl
  | 8 => rfl
  | 9 => rfl
  | 10 => rfl
  | 11 =>
    show Nat.beq (if a = 0 then ((4, 0) : es_V) else (3, a)).1 2 = _
    by_cases h : a = 0
    · rw [if_pos h]; rfl
    · rw [if_neg h]; rfl
  | 12 =>
    show Nat.beq (if a = 0 then ((4, 0) : es_V) else (3, a)).1 2 = _
    by_cases h : a = 0
    · rw [if_pos h]; rfl
    · rw [if_neg h]; rfl
  | t + 13 => rfl
theorem grg {α : Type} (f : Nat → α) (k : Nat) : ∀ n, es_get ((List.range n).map (fun i => (i, f i))) k = if k < n then some (f k) else none := by
  intro n
  have hc : ∀ (l1 l2 : List (Nat × α)), es_get (l1 ++ l2) k = (match es_get l1 k with | some v => some v | none => es_get l2 k) := by
    intro l1 l2
    induction l1 with
    | nil => rfl
    | cons q t ih =>
      show (bif Nat.beq q.1 k then some q.2 else es_get (t ++ l2) k) = (match (bif Nat.beq q.1 k then some q.2 else es_get t k) with | some v => some v | none => es_get l2 k)
      cases Nat.beq q.1 k
      · exact ih
      · rfl
  induction n with
  | zero => rfl
  | succ n ih =>
    rw [List.range_succ, List.map_append, hc, ih]
    by_cases h1 : k < n
    · rw [if_pos h1, if_pos (by omega)]
    · rw [if_neg h1]
      dsimp only
      show (bif Nat.beq n k then some (f n) else none) = _
      by_cases h2 : n = k
      · subst h2
        rw [es_beq.mpr rfl, if_pos (by omega)]
        rfl
      · rw [es_beqf.mpr h2, if_neg (by omega)]
        rfl
theorem grs {α : Type} (f : Nat → α) (k : Nat) (v : α) : ∀ (l : List Nat), l.Nodup → k ∈ l → es_set (l.map (fun i => (i, f i))) k v = l.map (fun i => (i, if i = k then v else f i))
  | [], _, h => by cases h
  | j :: t, hn, h => by
    rw [List.nodup_cons] at hn
    show (bif Nat.beq j k then (k, v) :: t.map (fun i => (i, f i)) else (j, f j) :: es_set (t.map (fun i => (i, f i))) k v) = _
    rw [List.map_cons]
    by_cases h2 : j = k
    · subst h2
      rw [es_beq.mpr rfl, if_pos rfl]
      show (j, v) :: _ = _
      congr 1
      apply List.map_congr_left
      intro i hi
      rw [if_neg (fun e => hn.1 (by rw [← e]; exact hi))]
    · rw [es_beqf.mpr h2, if_neg h2]
      show (j, f j) :: _ = _
      rw [grs f k v t hn.2 (by
        rcases List.mem_cons.mp h with h3 | h3
        · exact absurd h3.symm h2
        · exact h3)]
theorem grn {α : Type} (f : Nat → α) {k n : Nat} (h : k < n) (v : α) : es_set ((List.range n).map (fun i => (i, f i))) k v = (List.range n).map (fun i => (i, if i = k then v else f i)) := grs f k v _ List.nodup_range (List.mem_range.mpr h)
theorem gH_len (s : gS) : (gH s).length = gn s := by unfold gH; rw [List.length_map, List.length_range]
theorem gH_at {s : gS} {a : Nat} (h : a < gn s) : (gH s)[a]? = some (gobj s a) := by
  unfold gH
  rw [List.getElem?_map, List.getElem?_range h]
  rfl
theorem gH_set {s s' : gS} {a : Nat} (hn : gn s' = gn s) (h : ∀ b, b < gn s → b ≠ a → gobj s' b = gobj s b) : gH s' = (gH s).set a (gobj s' a) := by
  apply List.ext_getElem?
  intro i
  by_cases hi : i < gn s
  · rw [gH_at (by rw [hn]; exact hi)]
    by_cases hia : a = i
    · subst hia
      rw [List.getElem?_set]
      simp [gH_len, hi]
    · rw [List.getElem?_set_ne hia, gH_at hi, h i hi (Ne.symm hia)]
  · rw [List.getElem?_eq_none (by rw [gH_len, hn]; omega), List.getElem?_eq_none (by rw [List.length_set, gH_len]; omega)]
theorem gH_new {s s' : gS} (hn : gn s' = gn s + 1) (h : ∀ b, b < gn s → gobj s' b = gobj s b) : gH s' = gH s ++ [gobj s' (gn s)] := by
  unfold gH
  rw [hn, List.range_succ, List.map_append]
  congr 1
  apply List.map_congr_left
  intro b hb
  exact h b (List.mem_range.mp hb)
theorem gobj_c {s : gS} {a k : Nat} (h : gK s a = k) (hk : k < 13) : gobj s a = (0, k, (List.range (gnf k)).map (fun i => (i, gf (gfv s a k i)))) := by
  unfold gobj
  rw [h, if_pos hk]
theorem gobj_a {s : gS} {a n t : Nat} (h : gK s a = 100 + 8 * n + t) (ht : t < 8) : gobj s a = (t + 2, n, (List.range n).map (fun j => (j, gf (gev s a t j)))) := by
  have e1 : gT4 (100 + 8 * n + t) = t := by unfold gT4; omega
  have e2 : gL4 (100 + 8 * n + t) = n := by unfold gL4; omega
  unfold gobj
  rw [h, if_neg (by omega), if_neg (by omega), e1, e2]
section Locals
def gL (L : List (Nat × gV)) : es_L := L.map (fun q => (q.1, gf q.2))
def gst (L : List (Nat × gV)) (i : Nat) (v : gV) : List (Nat × gV) := es_set (match i with
  | 0 => L
  | j + 1 => match es_get L j with
    | some w => bif Nat.beq w.1 2 then es_del L j else L
    | none => L) i v
theorem gL_get (L : List (Nat × gV)) (k : Nat) : es_get (gL L) k = (es_get L k).map gf := by
  induction L with
  | nil => rfl
  | cons q t ih =>
    show (bif Nat.beq q.1 k then some (gf q.2) else es_get (gL t) k) = (bif Nat.beq q.1 k then some q.2 else es_get t k).map gf
    cases Nat.beq q.1 k
    · exact ih
    · rfl
theorem gL_set (L : List (Nat × gV)) (k : Nat) (v : gV) : es_set (gL L) k (gf v) = gL (es_set L k v) := by
  induction L with
  | nil => rfl
  | cons q t ih =>
    show (bif Nat.beq q.1 k then (k, gf v) :: gL t else (q.1, gf q.2) :: es_set (gL t) k (gf v)) = gL (bif Nat.beq q.1 k then (k, v) :: t else q :: es_set t k v)
    cases Nat.beq q.1 k
    · show (q.1, gf q.2) :: es_set (gL t) k (gf v) = (q.1, gf q.2) :: gL (es_set t k v)
      rw [ih]
    · rfl
theorem gL_del (L : List (Nat × gV)) (k : Nat) : es_del (gL L) k = gL (es_del L k) := by
  induction L with
  | nil => rfl
  | cons q t ih =>
    show (bif Nat.beq q.1 k then es_del (gL t) k else (q.1, gf q.2) :: es_del (gL t) k) = gL (bif Nat.beq q.1 k then es_del t k else q :: es_del t k)
    cases Nat.beq q.1 k
    · show (q.1, gf q.2) :: es_del (gL t) k = (q.1, gf q.2) :: gL (es_del t k)
      rw [ih]
    · exact ih
theorem gL_st (L : List (Nat × gV)) (i : Nat) (v : gV) : es_st (gL L) i (gf v) = gL (gst L i v) := by
  unfold es_st gst
  cases i with
  | zero => exact gL_set L 0 v
  | succ j =>
    dsimp only
    rw [gL_get]
    cases es_get L j with
    | none => exact gL_set L (j + 1) v
    | some w =>
      dsimp only [Option.map_some]
      rw [gf_2]
      cases Nat.beq w.1 2
      · exact gL_set L (j + 1) v
      · show es_set (es_del (gL L) j) (j + 1) (gf v) = _
        rw [gL_del, gL_set]
        rfl
theorem gmem_set {α : Type} {L : List (Nat × α)} {k : Nat} {v : α} {q : Nat × α} (h : q ∈ es_set L k v) : q ∈ L ∨ q = (k, v) := by
  induction L with
  | nil =>
    right
    exact List.mem_singleton.mp h
  | cons p t ih =>
    unfold es_set at h
    cases hb : Nat.beq p.1 k
    · rw [hb] at h
      rcases List.mem_cons.mp (show q ∈ p :: es_set t k v from h) with h1 | h1
      · exact Or.inl (by rw [h1]; exact List.mem_cons_self)
      · rcases ih h1 with h2 | h2
        · exact Or.inl (List.mem_cons_of_mem _ h2)
        · exact Or.inr h2
    · rw [hb] at h
      rcases List.mem_cons.mp (show q ∈ (k, v) :: t from h) with h1 | h1
      · exact Or.inr h1
      · exact Or.inl (List.mem_cons_of_mem _ h1)
theorem gmem_del {α : Type} {L : List (Nat × α)} {k : Nat} {q : Nat × α} (h : q ∈ es_del L k) : q ∈ L := by
  induction L with
  | nil => exact h
  | cons p t ih =>
    unfold es_del at h
    cases hb : Nat.beq p.1 k
    · rw [hb] at h
      rcases List.mem_cons.mp (show q ∈ p :: es_del t k from h) with h1 | h1
      · rw [h1]; exact List.mem_cons_self
      · exact List.mem_cons_of_mem _ (ih h1)
    · rw [hb] at h
      exact List.mem_cons_of_mem _ (ih h)
theorem gmem_st {L : List (Nat × gV)} {i : Nat} {v : gV} {q : Nat × gV} (h : q ∈ gst L i v) : q ∈ L ∨ q = (i, v) := by
  unfold gst at h
  rcases gmem_set h with h1 | h1
  · left
    cases i with
    | zero => exact h1
    | succ j =>
      dsimp only at h1
      cases hg : es_get L j with
      | none => rw [hg] at h1; exact h1
      | some w =>
        rw [hg] at h1
        dsimp only at h1
        cases hb : Nat.beq w.1 2
        · rw [hb] at h1; exact h1
        · rw [hb] at h1; exact gmem_del h1
  · exact Or.inr h1
theorem gget_mem {α : Type} : ∀ {L : List (Nat × α)} {k : Nat} {v : α}, es_get L k = some v → (k, v) ∈ L
  | [], _, _, h => by cases h
  | q :: t, k, v, h => by
    unfold es_get at h
    cases hb : Nat.beq q.1 k
    · rw [hb] at h
      exact List.mem_cons_of_mem _ (gget_mem h)
    · rw [hb] at h
      cases h
      rw [← es_beq.mp hb]
      exact List.mem_cons_self
end Locals
