/-- what holds behind each end -/
def gQ {Q : Type} (x : Option Q) (P : Q → Prop) : Prop := ∀ r, x = some r → P r
section GQ
variable {Q : Type} {x y : Option Q} {P : Q → Prop}
theorem gQ_ret {r : Q} (h : P r) : gQ (some r) P := fun q e => by cases e; exact h
theorem gQ_none : gQ (none : Option Q) P := fun q e => by cases e
theorem gQ_ite {c : Prop} [Decidable c] (h1 : gQ x P) (h2 : gQ y P) : gQ (if c then x else y) P := by
  by_cases h : c
  · rw [if_pos h]; exact h1
  · rw [if_neg h]; exact h2
theorem gQ_chk {j n : Int} (k : gQ x P) : gQ (gchk j n x) P := by
  unfold gchk
  exact gQ_ite k gQ_none
theorem gQ_bool {v : Int} (k : gQ x P) : gQ (gbool v x) P := by
  unfold gbool
  exact gQ_ite k gQ_none
theorem gQ_v0 {z : Option gO} {A : gS → Prop} {E : gS → Option Q} (h : gQ z (fun r => A r.2.2.2)) (k : ∀ s, A s → gQ (E s) P) : gQ (z.bind (gv0 E)) P := by
  cases z with
  | none => exact gQ_none
  | some r => 
    show gQ (gv0 E r) P
    unfold gv0
    exact gQ_ite (k _ (h r rfl)) gQ_none
theorem gQ_v1 {z : Option gO} {A : gS → Prop} {E : Int → gS → Option Q} (h : gQ z (fun r => A r.2.2.2)) (k : ∀ v s, A s → gQ (E v s) P) : gQ (z.bind (gv1 E)) P := by
  cases z with
  | none => exact gQ_none
  | some r => 
    show gQ (gv1 E r) P
    unfold gv1
    exact gQ_ite (k _ _ (h r rfl)) gQ_none
theorem gQ_map {R : Type} {f : Q → R} {P : R → Prop} (h : gQ x (fun r => P (f r))) : gQ (x.map f) P := by
  cases x with
  | none => exact gQ_none
  | some r => exact gQ_ret (h r rfl)
theorem gT_and {A : Q → Prop} (h : gT x P) (k : gQ x A) : gT x (fun r => P r ∧ A r) := by
  obtain ⟨r, h1, h2⟩ := h
  exact ⟨r, h1, h2, k r h1⟩
end GQ
/-- only numbers changed -/
def Sm (s s' : gS) : Prop := s'.1 = s.1 ∧ s'.2.1 = s.2.1 ∧ s'.2.2.2 = s.2.2.2
section Tn
variable {p : gP} {s s' s0 : gS} {a0 a1 x : Nat} {v : Int}
theorem Sm_r : Sm s s := ⟨rfl, rfl, rfl⟩
theorem Sm_t {s2 : gS} (h : Sm s s') (h2 : Sm s' s2) : Sm s s2 := ⟨h2.1.trans h.1, h2.2.1.trans h.2.1, h2.2.2.trans h.2.2⟩
theorem Sm_w {a k : Nat} (h : Sm s s') : Sm s (gw s' a k v) := h
theorem Jl_sm (h : Sm s s') (k : Jl s x) : Jl s' x ∧ glen s' (gR s' x 1) = glen s (gR s x 1) := by
  obtain ⟨n, kk, i, r⟩ := s
  obtain ⟨n', k', i', r'⟩ := s'
  obtain ⟨h1, h2, h3⟩ := h
  dsimp only at h1 h2 h3
  subst h1 h2 h3
  exact ⟨k, rfl⟩
theorem q_40 (h : Sm s0 s) : gQ (f_40 a0 v s) (fun r => Sm s0 r.2.2.2) := by
  unfold f_40
  exact gQ_ite (gQ_chk (gQ_ret h)) (gQ_ret h)
theorem q_41 (h : Sm s0 s) : gQ (f_41 a0 s) (fun r => Sm s0 r.2.2.2) := by
  unfold f_41
  exact gQ_ite (gQ_ret h) (gQ_chk (gQ_ret h))
theorem q_39 (h : Sm s0 s) : gQ (f_39 a0 v s) (fun r => Sm s0 r.2.2.2) := by
  unfold f_39
  exact gQ_ite (gQ_ret h) (gQ_ite (gQ_chk (gQ_ret h)) (gQ_ret h))
theorem q_40e (h : Sm s0 s) : gQ ((f_40 a0 v s).bind (gv0 (fun s3 => some (0, 0, 0, s3)))) (fun r : gO => Sm s0 r.2.2.2) :=
  gQ_v0 (A := Sm s0) (q_40 h) (fun _ h => gQ_ret h)
theorem q_38 (h : Sm s0 s) : gQ (f_38 a0 v s) (fun r => Sm s0 r.2.2.2) := by
  unfold f_38
  refine gQ_v1 (A := Sm s0) (q_41 h) (fun v2 s1 h1 => ?_)
  refine gQ_ite (q_40e h1) ?_
  refine gQ_v1 (A := Sm s0) (q_41 h1) (fun v6 s5 h5 => ?_)
  refine gQ_ite (q_40e h5) (gQ_ite (q_40e h5) (gQ_ite (gQ_ite (q_40e h5) (q_40e h5)) (gQ_ite (gQ_ite (q_40e h5) (q_40e h5)) (gQ_ite (q_40e h5) (gQ_ite (q_40e h5) (q_40e h5))))))
theorem d37_s {x0 x1 : Nat} {x2 x3 N : Int} (hp : -1 ≤ p.1 ∧ p.1 ≤ 0) (t0 : T 3 x0) (l : Jl s x1) (hN : 0 ≤ N ∧ N ≤ 400) (hg : glen s (gR s x1 1) = N) (r3 : 0 ≤ x3 ∧ x3 ≤ N) (h : J p s) : gT (sb_37_15 x0 x1 x2 x3 s) (Sum.elim (fun z => (z.1 = x0 ∧ z.2.1 = x1 ∧ z.2.2.2.1 = x3 + 1 ∧ x3 < N ∧ J p z.2.2.2.2 ∧ Sm s z.2.2.2.2)) (fun r => r.1 = 1 ∧ True ∧ J p r.2.2.2)) := by
  have n1 : ¬ x1 = 0 := by have := l.1; omega
  have n2 : ¬ gR s x1 1 = 0 := by have := l.2.1; omega
  have e3 := g32_eq (v := x3 + 1) (by omega) (by omega)
  unfold sb_37_15
  refine gT_ite (fun e => absurd e n1) (fun _ => ?_)
  refine gT_ite (fun e => absurd e n2) (fun _ => ?_)
  refine gT_ite (fun hx => ?_) (fun _ => gT_map (gT_ret ⟨rfl, trivial, h⟩))
  refine gT_ite (fun e => absurd e n1) (fun _ => ?_)
  refine gT_ite (fun e => absurd e n2) (fun _ => ?_)
  refine gT_chk r3.1 hx ?_
  rw [hg] at hx
  extract_lets v2
  clear_value v2
  refine gT_ite (fun _ => ?_) (fun _ => ?_)
  · refine gT_ite (fun _ => ?_) (fun _ => ?_)
    · refine gT_ite (fun _ => ?_) (fun _ => ?_)
      · refine gT_ite (fun _ => ?_) (fun _ => ?_)
        · exact gT_v0 (A := fun u => J p u ∧ Sm s u) (gT_mono (gT_and (d_40 hp h t0) (q_40 Sm_r)) (fun r hr => ⟨hr.1.1, hr.1.2, hr.2⟩)) (fun s3 h3 => gT_ret ⟨rfl, rfl, e3, hx, h3⟩)
        · refine gT_v1 (A := fun _ u => J p u ∧ Sm s u) (gT_mono (gT_and (d_39 hp h t0) (q_39 Sm_r)) (fun r hr => ⟨hr.1.1, hr.1.2.2, hr.2⟩)) (fun v6 s5 h5 => ?_)
          exact gT_v0 (A := fun u => J p u ∧ Sm s u) (gT_mono (gT_and (d_40 hp h5.1 t0) (q_40 h5.2)) (fun r hr => ⟨hr.1.1, hr.1.2, hr.2⟩)) (fun s3 h3 => gT_ret ⟨rfl, rfl, e3, hx, h3⟩)
      · exact gT_v0 (A := fun u => J p u ∧ Sm s u) (gT_mono (gT_and (d_38 hp h t0) (q_38 Sm_r)) (fun r hr => ⟨hr.1.1, hr.1.2, hr.2⟩)) (fun s3 h3 => gT_ret ⟨rfl, rfl, e3, hx, h3⟩)
    · exact gT_v1 (A := fun _ u => J p u ∧ Sm s u) (gT_mono (gT_and (d_41 hp h t0) (q_41 Sm_r)) (fun r hr => ⟨hr.1.1, hr.1.2.2, hr.2⟩)) (fun v6 s5 h5 => gT_ret ⟨rfl, rfl, e3, hx, h5⟩)
  · exact gT_v1 (A := fun _ u => J p u ∧ Sm s u) (gT_mono (gT_and (d_41 hp h t0) (q_41 Sm_r)) (fun r hr => ⟨hr.1.1, hr.1.2.2, hr.2⟩)) (fun v6 s5 h5 => gT_ret ⟨rfl, rfl, e3, hx, h5⟩)
theorem d37_l (hp : -1 ≤ p.1 ∧ p.1 ≤ 0) (j1 : J p s) (t0 : T 3 a0) (l1 : Jl s a1) : gT (gloop st_37_15 (a0, a1, 0, 0, s)) (fun r => r.1 = 1 ∧ True ∧ J p r.2.2.2) := by
  obtain ⟨N, hg⟩ : ∃ N, glen s (gR s a1 1) = N := ⟨_, rfl⟩
  have hN : 0 ≤ N ∧ N ≤ 400 := by
    rw [← hg]
    refine ⟨?_, l1.2.2⟩
    unfold glen
    omega
  refine gT_loop (fun y => y.1 = a0 ∧ y.2.1 = a1 ∧ (0 ≤ y.2.2.2.1 ∧ y.2.2.2.1 ≤ N) ∧ J p y.2.2.2.2 ∧ Sm s y.2.2.2.2) (fun y => (N - y.2.2.2.1).toNat) (fun y hy => ?_) ⟨rfl, rfl, by dsimp only; omega, j1, Sm_r⟩
  obtain ⟨x0, x1, x2, x3, u⟩ := y
  obtain ⟨q0, q1, r3, h, sm⟩ := hy
  dsimp only at q0 q1 r3 h sm
  subst q0 q1
  have k := Jl_sm sm l1
  show gT (sb_37_15 x0 x1 x2 x3 u) _
  refine gT_mono (d37_s hp t0 k.1 hN (k.2.trans hg) r3 h) (fun r hr => ?_)
  cases r with
  | inr q => exact hr
  | inl z =>
    obtain ⟨z0, z1, z2, z3, zs⟩ := z
    obtain ⟨e0, e1, e3, hx, jz, sz⟩ := hr
    dsimp only at e0 e1 e3 jz sz
    exact ⟨⟨e0, e1, by dsimp only; omega, jz, Sm_t sm sz⟩, by dsimp only; omega⟩
theorem d_37 (hp : -1 ≤ p.1 ∧ p.1 ≤ 0) (h : J p s) (t0 : T 3 a0) (hl : a1 = 0 ∨ Jl s a1) : gT (f_37 a0 a1 s) (fun r => r.1 = 1 ∧ True ∧ J p r.2.2.2) := by
  unfold f_37
  refine gT_ite (fun _ => gT_ret ⟨rfl, trivial, h⟩) (fun hn => ?_)
  have hl : Jl s a1 := hl.resolve_left hn
  extract_lets s1
  have j1 : J p s1 := J_wf h t0 rfl (by decide) (by decide) (fun q hq => by cases hq; decide)
  have l1 : Jl s1 a1 := Jl_w hl
  clear_value s1
  exact d37_l hp j1 t0 l1
end Tn
