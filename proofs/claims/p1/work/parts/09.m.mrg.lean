def es_veq (a b : es_V) : Bool := Nat.beq a.1 b.1 && Nat.beq a.2 b.2
def es_jv (a b : es_V) : Option es_V := bif es_veq a b then some a else bif es_ti a && es_ti b then some (6, 0) else none
def es_au (d : List (Nat × es_V)) : Bool := d.all (fun q => es_ti q.2)
def es_mu (d : List (Nat × es_V)) : List (Nat × es_V) := d.map (fun q => (q.1, (6, 0)))
def es_jc (g : Bool) : List (Nat × es_V) → List (Nat × es_V) → Option (List (Nat × es_V))
  | [], d => match d with
    | [] => some []
    | q :: t => bif g && es_au (q :: t) then some (es_mu (q :: t)) else none
  | p :: s, d => match d with
    | [] => bif g && es_au (p :: s) then some (es_mu (p :: s)) else none
    | q :: t => bif Nat.beq p.1 q.1 then (match es_jv p.2 q.2 with
      | some v => match es_jc g s t with
        | some r => some ((p.1, v) :: r)
        | none => none
      | none => none) else none
def es_jh : List es_O → List es_O → Option (List es_O)
  | [], d => match d with
    | [] => some []
    | _ :: _ => none
  | p :: s, d => match d with
    | [] => none
    | q :: t => bif Nat.beq p.1 q.1 && Nat.beq p.2.1 q.2.1 then (match es_jc (Nat.beq p.1 2) p.2.2 q.2.2 with
      | some c => match es_jh s t with
        | some r => some ((p.1, p.2.1, c) :: r)
        | none => none
      | none => none) else none
def es_jf : es_F → es_F → es_F
  | [], _ => []
  | p :: s, d => match d with
    | [] => []
    | q :: t => (bif Nat.ble p.1 q.1 then p.1 else q.1, bif Nat.ble p.2 q.2 then q.2 else p.2) :: es_jf s t
def es_j1 (a b : es_Lf) : Option es_Lf := bif Nat.beq a.1 b.1 then (match es_jv a.2.1 b.2.1 with
  | some v => match es_jh a.2.2.1 b.2.2.1 with
    | some h => some (a.1, v, h, es_jf a.2.2.2 b.2.2.2)
    | none => none
  | none => none) else none
def es_jl : es_Lf → List es_Lf → Option es_Lf
  | a, [] => some a
  | a, b :: t => match es_j1 a b with
    | some c => es_jl c t
    | none => none
/-- very many ends of a call, as one -/
def es_mrg (l : List es_Lf) : List es_Lf := bif Nat.blt 60 l.length then (match l.filter (fun x => Nat.blt x.1 2) with
  | [] => l
  | a :: t => match es_jl a t with
    | some j => j :: l.filter (fun x => !Nat.blt x.1 2)
    | none => l) else l
section Mrg
variable {D : va_G} {tys : List (ClassId × FieldType)} {n0 b : Nat} {ρ : Nat → Int32}
theorem es_jv_ok {u w v : es_V} (h : es_jv u w = some v) : (∀ x, es_vr n0 b ρ u x → es_vr n0 b ρ v x) ∧ ∀ x, es_vr n0 b ρ w x → es_vr n0 b ρ v x := by
  unfold es_jv at h
  cases he : es_veq u w
  · rw [he] at h
    dsimp only [cond_false] at h
    cases ht : (es_ti u && es_ti w)
    · rw [ht] at h; cases h
    · rw [ht] at h
      cases h
      rw [Bool.and_eq_true] at ht
      exact ⟨fun x hx => es_ti_int hx ht.1, fun x hx => es_ti_int hx ht.2⟩
  · rw [he] at h
    cases h
    unfold es_veq at he
    rw [Bool.and_eq_true, es_beq, es_beq] at he
    have e : u = w := Prod.ext he.1 he.2
    subst e
    exact ⟨fun x hx => hx, fun x hx => hx⟩
theorem es_mu_get : ∀ {d : List (Nat × es_V)}, es_au d = true → ∀ k, (es_get d k = none ∧ es_get (es_mu d) k = none) ∨ ∃ w, es_get d k = some w ∧ es_ti w = true ∧ es_get (es_mu d) k = some (6, 0)
  | [], _, k => Or.inl ⟨rfl, rfl⟩
  | q :: t, h, k => by
    unfold es_au at h
    rw [List.all_cons, Bool.and_eq_true] at h
    show (es_get (q :: t) k = none ∧ es_get ((q.1, (6, 0)) :: es_mu t) k = none) ∨ ∃ w, es_get (q :: t) k = some w ∧ es_ti w = true ∧ es_get ((q.1, (6, 0)) :: es_mu t) k = some (6, 0)
    unfold es_get
    cases hk : Nat.beq q.1 k
    · dsimp only [cond_false]
      exact es_mu_get h.2 k
    · dsimp only [cond_true]
      exact Or.inr ⟨_, rfl, h.1, rfl⟩
theorem es_jc_get {g : Bool} : ∀ {c d r : List (Nat × es_V)}, es_jc g c d = some r → ∀ k, (es_get c k = none ∧ es_get d k = none ∧ es_get r k = none) ∨ (∃ u w v, es_get c k = some u ∧ es_get d k = some w ∧ es_get r k = some v ∧ es_jv u w = some v) ∨ (g = true ∧ es_get r k = some (6, 0) ∧ ((es_get c k = none ∧ ∃ w, es_get d k = some w ∧ es_ti w = true) ∨ (es_get d k = none ∧ ∃ u, es_get c k = some u ∧ es_ti u = true)))
  | [], d, r, h, k => by
    cases d with
    | nil => cases h; exact Or.inl ⟨rfl, rfl, rfl⟩
    | cons q t =>
      unfold es_jc at h
      dsimp only at h
      cases hc : (g && es_au (q :: t))
      · rw [hc] at h; cases h
      · rw [hc] at h
        cases h
        rw [Bool.and_eq_true] at hc
        rcases es_mu_get hc.2 k with ⟨h1, h2⟩ | ⟨w, h1, h2, h3⟩
        · exact Or.inl ⟨rfl, h1, h2⟩
        · exact Or.inr (Or.inr ⟨hc.1, h3, Or.inl ⟨rfl, w, h1, h2⟩⟩)
  | p :: s, d, r, h, k => by
    cases d with
    | nil =>
      unfold es_jc at h
      dsimp only at h
      cases hc : (g && es_au (p :: s))
      · rw [hc] at h; cases h
      · rw [hc] at h
        cases h
        rw [Bool.and_eq_true] at hc
        rcases es_mu_get hc.2 k with ⟨h1, h2⟩ | ⟨w, h1, h2, h3⟩
        · exact Or.inl ⟨h1, rfl, h2⟩
        · exact Or.inr (Or.inr ⟨hc.1, h3, Or.inr ⟨rfl, w, h1, h2⟩⟩)
    | cons q t =>
      unfold es_jc at h
      dsimp only at h
      cases he : Nat.beq p.1 q.1
      · rw [he] at h; cases h
      · rw [he] at h
        dsimp only [cond_true] at h
        cases hv : es_jv p.2 q.2 with
        | none => rw [hv] at h; cases h
        | some v =>
          rw [hv] at h
          dsimp only at h
          cases hr : es_jc g s t with
          | none => rw [hr] at h; cases h
          | some r' =>
            rw [hr] at h
            cases h
            have e1 := es_beq.mp he
            unfold es_get
            rw [← e1]
            cases hk : Nat.beq p.1 k
            · dsimp only [cond_false]
              exact es_jc_get hr k
            · dsimp only [cond_true]
              exact Or.inr (Or.inl ⟨_, _, _, rfl, rfl, rfl, hv⟩)
theorem es_jo_ok {g : Bool} {t i : Nat} (hg : g = true → t = 2) {c d r : List (Nat × es_V)} (h : es_jc g c d = some r) {a : Nat} {H : Heap} : (es_or D tys n0 b ρ a (t, i, c) H → es_or D tys n0 b ρ a (t, i, r) H) ∧ (es_or D tys n0 b ρ a (t, i, d) H → es_or D tys n0 b ρ a (t, i, r) H) := by
  match t, hg with
  | 0, hg =>
    refine ⟨fun ho => ?_, fun ho => ?_⟩
    · obtain ⟨q, V, h1, h2, h3⟩ := ho
      refine ⟨q, V, h1, h2, fun k v hv => ?_⟩
      have hv' : es_get r k = some v := hv
      rcases es_jc_get h k with ⟨-, -, g⟩ | ⟨u, w, v', g1, g2, g3, g4⟩ | ⟨hg1, -⟩
      · rw [g] at hv'; cases hv'
      · rw [g3] at hv'
        cases hv'
        exact ⟨(h3 k u g1).1, (es_jv_ok g4).1 _ (h3 k u g1).2⟩
      · exact absurd (hg hg1) (by decide)
    · obtain ⟨q, V, h1, h2, h3⟩ := ho
      refine ⟨q, V, h1, h2, fun k v hv => ?_⟩
      have hv' : es_get r k = some v := hv
      rcases es_jc_get h k with ⟨-, -, g⟩ | ⟨u, w, v', g1, g2, g3, g4⟩ | ⟨hg1, -⟩
      · rw [g] at hv'; cases hv'
      · rw [g3] at hv'
        cases hv'
        exact ⟨(h3 k w g2).1, (es_jv_ok g4).2 _ (h3 k w g2).2⟩
      · exact absurd (hg hg1) (by decide)
  | 1, _ => exact ⟨fun _ => trivial, fun _ => trivial⟩
  | t + 2, hg =>
    have ht0 : g = true → t = 0 := fun h9 => by have := hg h9; omega
    refine ⟨fun ho => ?_, fun ho => ?_⟩
    · obtain ⟨q, V, h1, h2, h3⟩ := ho
      refine ⟨q, V, h1, h2, fun j hj => ?_⟩
      have h4 := h3 j hj
      dsimp only at h4 ⊢
      unfold es_ad at h4 ⊢
      rcases es_jc_get h j with ⟨g1, g2, g3⟩ | ⟨u, w, v', g1, g2, g3, g4⟩ | ⟨hg1, g3, ⟨g1, -⟩ | ⟨-, u, g1, g4⟩⟩
      · rw [g3]; rw [g1] at h4; exact h4
      · rw [g3]; rw [g1] at h4; exact (es_jv_ok g4).1 _ h4
      · rw [g3]; rw [g1] at h4
        have e0 := ht0 hg1
        subst e0
        exact ⟨_, h4⟩
      · rw [g3]; rw [g1] at h4
        exact es_ti_int h4 g4
    · obtain ⟨q, V, h1, h2, h3⟩ := ho
      refine ⟨q, V, h1, h2, fun j hj => ?_⟩
      have h4 := h3 j hj
      dsimp only at h4 ⊢
      unfold es_ad at h4 ⊢
      rcases es_jc_get h j with ⟨g1, g2, g3⟩ | ⟨u, w, v', g1, g2, g3, g4⟩ | ⟨hg1, g3, ⟨-, u, g1, g4⟩ | ⟨g1, -⟩⟩
      · rw [g3]; rw [g2] at h4; exact h4
      · rw [g3]; rw [g2] at h4; exact (es_jv_ok g4).2 _ h4
      · rw [g3]; rw [g1] at h4
        exact es_ti_int h4 g4
      · rw [g3]; rw [g1] at h4
        have e0 := ht0 hg1
        subst e0
        exact ⟨_, h4⟩
theorem es_jh_ok : ∀ {A B C : List es_O}, es_jh A B = some C → (A.length = C.length ∧ B.length = C.length) ∧ ∀ (i : Nat) (o : es_O), C[i]? = some o → ∀ (a : Nat) (H : Heap), (∀ o1, A[i]? = some o1 → es_or D tys n0 b ρ a o1 H → es_or D tys n0 b ρ a o H) ∧ (∀ o1, B[i]? = some o1 → es_or D tys n0 b ρ a o1 H → es_or D tys n0 b ρ a o H)
  | [], B, C, h => by
    cases B with
    | nil => cases h; exact ⟨⟨rfl, rfl⟩, fun i o ho => by cases ho⟩
    | cons q t => cases h
  | p :: s, B, C, h => by
    cases B with
    | nil => cases h
    | cons q t =>
      unfold es_jh at h
      dsimp only at h
      cases he : (Nat.beq p.1 q.1 && Nat.beq p.2.1 q.2.1)
      · rw [he] at h; cases h
      · rw [he] at h
        dsimp only [cond_true] at h
        cases hv : es_jc (Nat.beq p.1 2) p.2.2 q.2.2 with
        | none => rw [hv] at h; cases h
        | some c =>
          rw [hv] at h
          dsimp only at h
          cases hr : es_jh s t with
          | none => rw [hr] at h; cases h
          | some r =>
            rw [hr] at h
            cases h
            obtain ⟨⟨l1, l2⟩, ih⟩ := es_jh_ok hr
            rw [Bool.and_eq_true, es_beq, es_beq] at he
            refine ⟨⟨by simp [l1], by simp [l2]⟩, fun i o ho a H => ?_⟩
            cases i with
            | zero =>
              cases ho
              refine ⟨fun o1 h1 h2 => ?_, fun o1 h1 h2 => ?_⟩
              · cases h1; exact (es_jo_ok es_beq.mp hv).1 h2
              · cases h1
                have h3 : es_or D tys n0 b ρ a (p.1, p.2.1, q.2.2) H := by rw [he.1, he.2]; exact h2
                exact (es_jo_ok es_beq.mp hv).2 h3
            | succ i => exact ih i o ho a H
theorem es_jh_hr {A B C : List es_O} (h : es_jh A B = some C) {H : Heap} : (es_hr D tys n0 b ρ A H → es_hr D tys n0 b ρ C H) ∧ (es_hr D tys n0 b ρ B H → es_hr D tys n0 b ρ C H) := by
  obtain ⟨⟨l1, l2⟩, ih⟩ := es_jh_ok (D := D) (tys := tys) (n0 := n0) (b := b) (ρ := ρ) h
  refine ⟨fun hA => ⟨by rw [← l1]; exact hA.1, fun i o ho => ?_⟩, fun hB => ⟨by rw [← l2]; exact hB.1, fun i o ho => ?_⟩⟩
  · have hi : i < A.length := by rw [l1]; exact (List.getElem?_eq_some_iff.mp ho).1
    exact (ih i o ho (n0 + i) H).1 _ (List.getElem?_eq_getElem hi) (hA.2 i _ (List.getElem?_eq_getElem hi))
  · have hi : i < B.length := by rw [l2]; exact (List.getElem?_eq_some_iff.mp ho).1
    exact (ih i o ho (n0 + i) H).2 _ (List.getElem?_eq_getElem hi) (hB.2 i _ (List.getElem?_eq_getElem hi))
theorem es_jf_ok : ∀ {F G : es_F} (k : Nat) (q : Nat × Nat), (es_jf F G)[k]? = some q → (∃ p, F[k]? = some p ∧ q.1 ≤ p.1 ∧ p.2 ≤ q.2) ∧ ∃ p, G[k]? = some p ∧ q.1 ≤ p.1 ∧ p.2 ≤ q.2
  | [], G, k, q, h => by cases h
  | p :: s, G, k, q, h => by
    cases G with
    | nil => cases h
    | cons r t =>
      cases k with
      | succ k => exact es_jf_ok (F := s) (G := t) k q h
      | zero =>
        have h2 : (bif Nat.ble p.1 r.1 then p.1 else r.1, bif Nat.ble p.2 r.2 then r.2 else p.2) = q := by
          unfold es_jf at h
          dsimp only at h
          exact Option.some.inj h
        subst h2
        dsimp only
        refine ⟨⟨p, rfl, ?_, ?_⟩, r, rfl, ?_, ?_⟩
        · cases hb : Nat.ble p.1 r.1
          · dsimp only [cond_false]
            have : ¬ p.1 ≤ r.1 := fun h9 => by rw [Nat.ble_eq.mpr h9] at hb; cases hb
            omega
          · exact Nat.le_refl _
        · cases hb : Nat.ble p.2 r.2
          · exact Nat.le_refl _
          · exact Nat.ble_eq.mp hb
        · cases hb : Nat.ble p.1 r.1
          · exact Nat.le_refl _
          · exact Nat.ble_eq.mp hb
        · cases hb : Nat.ble p.2 r.2
          · dsimp only [cond_false]
            have : ¬ p.2 ≤ r.2 := fun h9 => by rw [Nat.ble_eq.mpr h9] at hb; cases hb
            omega
          · exact Nat.le_refl _
def es_lle (D : va_G) (tys : List (ClassId × FieldType)) (n0 b : Nat) (ρ : Nat → Int32) (lf lf' : es_Lf) : Prop :=
  lf.1 = lf'.1 ∧ (∀ x, es_vr n0 b ρ lf.2.1 x → es_vr n0 b ρ lf'.2.1 x) ∧ (∀ H, es_hr D tys n0 b ρ lf.2.2.1 H → es_hr D tys n0 b ρ lf'.2.2.1 H) ∧ (es_fr ρ lf.2.2.2 → es_fr ρ lf'.2.2.2)
theorem es_lle_rf (lf : es_Lf) : es_lle D tys n0 b ρ lf lf := ⟨rfl, fun _ h => h, fun _ h => h, fun h => h⟩
theorem es_lle_tr {a c d : es_Lf} (h1 : es_lle D tys n0 b ρ a c) (h2 : es_lle D tys n0 b ρ c d) : es_lle D tys n0 b ρ a d :=
  ⟨h1.1.trans h2.1, fun x h => h2.2.1 x (h1.2.1 x h), fun H h => h2.2.2.1 H (h1.2.2.1 H h), fun h => h2.2.2.2 (h1.2.2.2 h)⟩
theorem es_j1_ok {a c d : es_Lf} (h : es_j1 a c = some d) : es_lle D tys n0 b ρ a d ∧ es_lle D tys n0 b ρ c d := by
  unfold es_j1 at h
  cases he : Nat.beq a.1 c.1
  · rw [he] at h; cases h
  · rw [he] at h
    dsimp only [cond_true] at h
    cases hv : es_jv a.2.1 c.2.1 with
    | none => rw [hv] at h; cases h
    | some v =>
      rw [hv] at h
      dsimp only at h
      cases hr : es_jh a.2.2.1 c.2.2.1 with
      | none => rw [hr] at h; cases h
      | some r =>
        rw [hr] at h
        cases h
        have e1 := es_beq.mp he
        refine ⟨⟨rfl, (es_jv_ok hv).1, fun H hh => (es_jh_hr hr).1 hh, fun hf k q hq => ?_⟩, ⟨e1.symm, (es_jv_ok hv).2, fun H hh => (es_jh_hr hr).2 hh, fun hf k q hq => ?_⟩⟩
        · obtain ⟨⟨p, h1, h2, h3⟩, -⟩ := es_jf_ok k q hq
          have := hf k p h1
          omega
        · obtain ⟨-, p, h1, h2, h3⟩ := es_jf_ok k q hq
          have := hf k p h1
          omega
theorem es_jl_ok : ∀ {t : List es_Lf} {a d : es_Lf}, es_jl a t = some d → es_lle D tys n0 b ρ a d ∧ ∀ c ∈ t, es_lle D tys n0 b ρ c d
  | [], a, d, h => by cases h; exact ⟨es_lle_rf _, fun c hc => by cases hc⟩
  | b1 :: t, a, d, h => by
    unfold es_jl at h
    cases hj : es_j1 a b1 with
    | none => rw [hj] at h; cases h
    | some c =>
      rw [hj] at h
      obtain ⟨h1, h2⟩ := es_jl_ok (show es_jl c t = some d from h)
      obtain ⟨g1, g2⟩ := es_j1_ok (D := D) (tys := tys) (n0 := n0) (b := b) (ρ := ρ) hj
      refine ⟨es_lle_tr g1 h1, fun c' hc => ?_⟩
      rcases List.mem_cons.mp hc with rfl | hc
      · exact es_lle_tr g2 h1
      · exact h2 c' hc
theorem es_mrg_ok (l : List es_Lf) (lf : es_Lf) (h : lf ∈ l) : ∃ lf' ∈ es_mrg l, es_lle D tys n0 b ρ lf lf' := by
  unfold es_mrg
  cases hn : Nat.blt 60 l.length
  · exact ⟨lf, h, es_lle_rf _⟩
  · dsimp only [cond_true]
    split
    · exact ⟨lf, h, es_lle_rf _⟩
    · rename_i a t hf
      split
      · rename_i j hj
        obtain ⟨h1, h2⟩ := es_jl_ok (D := D) (tys := tys) (n0 := n0) (b := b) (ρ := ρ) hj
        cases hk : Nat.blt lf.1 2
        · exact ⟨lf, List.mem_cons_of_mem _ (List.mem_filter.mpr ⟨h, by rw [hk]; rfl⟩), es_lle_rf _⟩
        · have h3 : lf ∈ l.filter (fun x => Nat.blt x.1 2) := List.mem_filter.mpr ⟨h, hk⟩
          rw [hf] at h3
          rcases List.mem_cons.mp h3 with rfl | h3
          · exact ⟨j, List.mem_cons_self, h1⟩
          · exact ⟨j, List.mem_cons_self, h2 lf h3⟩
      · exact ⟨lf, h, es_lle_rf _⟩
end Mrg
