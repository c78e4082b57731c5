/-! things of a text, as both sides see them -/
theorem gloop_inl {σ Q : Type} {step : σ → Option (σ ⊕ Q)} {y z : σ} (h : step y = some (Sum.inl z)) : gloop step y = gloop step z := by
  have e_l : ∀ r_l, gloop step y = some r_l ↔ gloop step z = some r_l := by
    intro r_l
    constructor
    · intro q_l
      obtain ⟨n_l, hn⟩ := gloop_out q_l
      cases n_l with
      | zero => cases hn
      | succ n_l =>
        have hn : (step y).bind (Sum.elim (giter step n_l) some) = some r_l := hn
        rw [h] at hn
        exact gloop_of hn
    · intro q_l
      obtain ⟨n_l, hn⟩ := gloop_out q_l
      refine gloop_of (n := n_l + 1) ?_
      show (step y).bind (Sum.elim (giter step n_l) some) = some r_l
      rw [h]
      exact hn
  cases h1 : gloop step z with
  | some r_l => exact (e_l r_l).mpr h1
  | none =>
    cases h2 : gloop step y with
    | none => rfl
    | some r_l => rw [(e_l r_l).mp h2] at h1; cases h1
theorem gloop_inr {σ Q : Type} {step : σ → Option (σ ⊕ Q)} {y : σ} {q : Q} (h : step y = some (Sum.inr q)) : gloop step y = some q := by
  refine gloop_of (n := 1) ?_
  show (step y).bind (Sum.elim (giter step 0) some) = some q
  rw [h]
  rfl
/-- behind the blanks, behind the letters, behind the figures: with n steps at most -/
def skp (L : Nat → Int) (e : Nat) : Nat → Nat → Nat
  | 0, a => a
  | n + 1, a => if a < e ∧ L a = 32 then skp L e n (a + 1) else a
def lrn (L : Nat → Int) (e : Nat) : Nat → Nat → Nat
  | 0, a => a
  | n + 1, a => if a < e ∧ 97 ≤ L a ∧ L a ≤ 122 then lrn L e n (a + 1) else a
def drn (L : Nat → Int) (e : Nat) : Nat → Nat → Nat
  | 0, a => a
  | n + 1, a => if a < e ∧ 48 ≤ L a ∧ L a ≤ 57 then drn L e n (a + 1) else a
section Tok
variable {L : Nat → Int} {e : Nat}
theorem skp_f (n : Nat) : ∀ {m a : Nat}, e ≤ a + n → e ≤ a + m → skp L e n a = skp L e m a := by
  induction n with
  | zero =>
    intro m a h1 h2
    cases m with
    | zero => rfl
    | succ m =>
      show a = if a < e ∧ L a = 32 then skp L e m (a + 1) else a
      rw [if_neg (by omega)]
  | succ n ih_l =>
    intro m a h1 h2
    cases m with
    | zero =>
      show (if a < e ∧ L a = 32 then skp L e n (a + 1) else a) = a
      rw [if_neg (by omega)]
    | succ m =>
      show (if a < e ∧ L a = 32 then skp L e n (a + 1) else a) = (if a < e ∧ L a = 32 then skp L e m (a + 1) else a)
      by_cases h : a < e ∧ L a = 32
      · rw [if_pos h, if_pos h]
        exact ih_l (by omega) (by omega)
      · rw [if_neg h, if_neg h]
/-- the first place that is no blank -/
def sk (L : Nat → Int) (e a : Nat) : Nat := skp L e e a
theorem sk_s {a : Nat} (h : a < e ∧ L a = 32) : sk L e a = sk L e (a + 1) := by
  unfold sk
  cases e with
  | zero => omega
  | succ e =>
    show (if a < e + 1 ∧ L a = 32 then skp L (e + 1) e (a + 1) else a) = _
    rw [if_pos h]
    exact skp_f e (by omega) (by omega)
theorem sk_n {a : Nat} (h : ¬ (a < e ∧ L a = 32)) : sk L e a = a := by
  unfold sk
  cases e with
  | zero => rfl
  | succ e =>
    show (if a < e + 1 ∧ L a = 32 then skp L (e + 1) e (a + 1) else a) = _
    rw [if_neg h]
theorem sk_ge (n : Nat) : ∀ {a : Nat}, a ≤ skp L e n a ∧ (skp L e n a ≤ a ∨ skp L e n a ≤ e) := by
  induction n with
  | zero => intro a; exact ⟨Nat.le_refl _, Or.inl (Nat.le_refl _)⟩
  | succ n ih_l =>
    intro a
    show a ≤ (if a < e ∧ L a = 32 then skp L e n (a + 1) else a) ∧ _
    by_cases h : a < e ∧ L a = 32
    · have := ih_l (a := a + 1)
      show a ≤ (if a < e ∧ L a = 32 then skp L e n (a + 1) else a) ∧ ((if a < e ∧ L a = 32 then skp L e n (a + 1) else a) ≤ a ∨ (if a < e ∧ L a = 32 then skp L e n (a + 1) else a) ≤ e)
      rw [if_pos h]
      omega
    · show a ≤ (if a < e ∧ L a = 32 then skp L e n (a + 1) else a) ∧ ((if a < e ∧ L a = 32 then skp L e n (a + 1) else a) ≤ a ∨ (if a < e ∧ L a = 32 then skp L e n (a + 1) else a) ≤ e)
      rw [if_neg h]
      omega
end Tok
