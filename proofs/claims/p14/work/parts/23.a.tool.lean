/-! Layer D: the functions end -/
def gT {Q : Type} (x : Option Q) (P : Q → Prop) : Prop := ∃ r, x = some r ∧ P r
section GT
variable {Q : Type} {x y : Option Q} {P : Q → Prop}
theorem gT_ret {r : Q} (h : P r) : gT (some r) P := ⟨r, rfl, h⟩
theorem gT_mono {P' : Q → Prop} (h : gT x P') (hp : ∀ r, P' r → P r) : gT x P := by
  obtain ⟨r, h1, h2⟩ := h
  exact ⟨r, h1, hp r h2⟩
theorem gT_ite {c : Prop} [Decidable c] (h1 : c → gT x P) (h2 : ¬ c → gT y P) : gT (if c then x else y) P := by
  by_cases h : c
  · rw [if_pos h]; exact h1 h
  · rw [if_neg h]; exact h2 h
theorem gT_chk {j n : Int} (h1 : 0 ≤ j) (h2 : j < n) (k : gT x P) : gT (gchk j n x) P := by
  unfold gchk
  rw [if_pos ⟨h1, h2⟩]
  exact k
theorem gT_bool {v : Int} (h : v = 0 ∨ v = 1) (k : gT x P) : gT (gbool v x) P := by
  unfold gbool
  rw [if_pos h]
  exact k
theorem gT_map {R : Type} {f : Q → R} {P : R → Prop} (h : gT x (fun r => P (f r))) : gT (x.map f) P := by
  obtain ⟨r, h1, h2⟩ := h
  rw [h1]
  exact ⟨f r, rfl, h2⟩
theorem gT_v0 {z : Option gO} {A : gS → Prop} {E : gS → Option Q} (h : gT z (fun r => r.1 = 0 ∧ A r.2.2.2)) (k : ∀ s, A s → gT (E s) P) : gT (z.bind (gv0 E)) P := by
  obtain ⟨r, h1, h2, h3⟩ := h
  rw [h1]
  show gT (gv0 E r) P
  unfold gv0
  rw [if_pos h2]
  exact k _ h3
theorem gT_v1 {z : Option gO} {A : Int → gS → Prop} {E : Int → gS → Option Q} (h : gT z (fun r => r.1 = 1 ∧ A r.2.1 r.2.2.2)) (k : ∀ v s, A v s → gT (E v s) P) : gT (z.bind (gv1 E)) P := by
  obtain ⟨r, h1, h2, h3⟩ := h
  rw [h1]
  show gT (gv1 E r) P
  unfold gv1
  rw [if_pos h2]
  exact k _ _ h3
theorem gT_vr {z : Option gO} {A : Nat → gS → Prop} {E : Nat → gS → Option Q} (h : gT z (fun r => r.1 = 1 ∧ A r.2.2.1 r.2.2.2)) (k : ∀ v s, A v s → gT (E v s) P) : gT (z.bind (gvr E)) P := by
  obtain ⟨r, h1, h2, h3⟩ := h
  rw [h1]
  show gT (gvr E r) P
  unfold gvr
  rw [if_pos h2]
  exact k _ _ h3
theorem gT_t0 {z : Option gO} {A : gS → Prop} {B : Nat → gS → Prop} {Z : gO → Q} {E : gS → Option Q} (h : gT z (fun r => (r.1 = 0 ∧ A r.2.2.2) ∨ (2 ≤ r.1 ∧ r.1 ≤ 6 ∧ B r.1 r.2.2.2))) (k : ∀ s, A s → gT (E s) P) (kz : ∀ (t : Nat) (s : gS), 2 ≤ t → t ≤ 6 → B t s → P (Z (t, 0, 0, s))) : gT (z.bind (gt0 Z E)) P := by
  obtain ⟨r, h1, h2⟩ := h
  rw [h1]
  show gT (gt0 Z E r) P
  unfold gt0
  rcases h2 with ⟨h2, h3⟩ | ⟨h2, h3, h4⟩
  · rw [if_pos h2]; exact k _ h3
  · rw [if_neg (by omega), if_pos h2]
    exact ⟨_, rfl, kz _ _ h2 h3 h4⟩
theorem gT_t1 {z : Option gO} {A : Int → gS → Prop} {B : Nat → gS → Prop} {Z : gO → Q} {E : Int → gS → Option Q} (h : gT z (fun r => (r.1 = 1 ∧ A r.2.1 r.2.2.2) ∨ (2 ≤ r.1 ∧ r.1 ≤ 6 ∧ B r.1 r.2.2.2))) (k : ∀ v s, A v s → gT (E v s) P) (kz : ∀ (t : Nat) (s : gS), 2 ≤ t → t ≤ 6 → B t s → P (Z (t, 0, 0, s))) : gT (z.bind (gt1 Z E)) P := by
  obtain ⟨r, h1, h2⟩ := h
  rw [h1]
  show gT (gt1 Z E r) P
  unfold gt1
  rcases h2 with ⟨h2, h3⟩ | ⟨h2, h3, h4⟩
  · rw [if_pos h2]; exact k _ _ h3
  · rw [if_neg (by omega), if_pos h2]
    exact ⟨_, rfl, kz _ _ h2 h3 h4⟩
theorem gT_c1 {z : Option gO} {A : Int → gS → Prop} {B : Nat → gS → Prop} {C : Nat → gS → Option Q} {E : Int → gS → Option Q} (h : gT z (fun r => (r.1 = 1 ∧ A r.2.1 r.2.2.2) ∨ (2 ≤ r.1 ∧ r.1 ≤ 6 ∧ B r.1 r.2.2.2))) (k : ∀ v s, A v s → gT (E v s) P) (kz : ∀ (t : Nat) (s : gS), t ≤ 4 → B (t + 2) s → gT (C t s) P) : gT (z.bind (gc1 C E)) P := by
  obtain ⟨r, h1, h2⟩ := h
  rw [h1]
  show gT (gc1 C E r) P
  unfold gc1
  rcases h2 with ⟨h2, h3⟩ | ⟨h2, h3, h4⟩
  · rw [if_pos h2]; exact k _ _ h3
  · rw [if_neg (by omega), if_pos h2]
    exact kz _ _ (by omega) (by rw [show r.1 - 2 + 2 = r.1 by omega]; exact h4)
end GT
/-- a loop that counts down -/
theorem gT_loop {σ Q : Type} {step : σ → Option (σ ⊕ Q)} {P : Q → Prop} (I : σ → Prop) (μ : σ → Nat) (h : ∀ y, I y → gT (step y) (Sum.elim (fun z => I z ∧ μ z < μ y) P)) {y : σ} (h0 : I y) : gT (gloop step y) P := by
  have hi : ∀ (n : Nat) (y : σ), μ y < n → I y → ∃ r, giter step n y = some r ∧ P r := by
    intro n
    induction n with
    | zero => intro y hy; omega
    | succ n ih =>
      intro y hy hI
      obtain ⟨r, h1, h2⟩ := h y hI
      cases r with
      | inl z =>
        obtain ⟨h3, h4⟩ : I z ∧ μ z < μ y := h2
        obtain ⟨q, h5, h6⟩ := ih z (by omega) h3
        exact ⟨q, by show (step y).bind (Sum.elim (giter step n) some) = some q; rw [h1]; exact h5, h6⟩
      | inr q => exact ⟨q, by show (step y).bind (Sum.elim (giter step n) some) = some q; rw [h1]; rfl, h2⟩
  obtain ⟨r, h1, h2⟩ := hi (μ y + 1) y (by omega) h0
  exact ⟨r, gloop_of h1, h2⟩
theorem g32_eq {v : Int} (h1 : -2147483648 ≤ v) (h2 : v < 2147483648) : g32 v = v := by
  unfold g32
  rw [Int.bmod_def]
  split <;> omega
/-- kinds and references of the start -/
noncomputable def lw_s0 : gS := gfrom es_H0
noncomputable def k0 (a : Nat) : Nat := gK lw_s0 a
noncomputable def r0 (a k : Nat) : Nat := gR lw_s0 a k
theorem r0_ok : ∀ a, a < 232 → ∀ i, i < 25 → k0 a < 13 → 16 ≤ gfk (k0 a) i → r0 a i < 232 ∧ k0 (r0 a i) + 16 = gfk (k0 a) i := by decide +kernel
