theorem ez_chop {α : Type} (f : α → Bool) : ∀ (n : Nat) (l : List α), l.length ≤ 40 * n → (∀ i, i < n → ((l.drop (40 * i)).take 40).all f = true) → l.all f = true
  | 0, l, h, _ => by
    have e : l = [] := List.eq_nil_of_length_eq_zero (by omega)
    rw [e]; rfl
  | n + 1, l, h, hp => by
    have h0 := hp 0 (by omega)
    rw [Nat.mul_zero, List.drop_zero] at h0
    have h1 := ez_chop f n (l.drop 40) (by rw [List.length_drop]; omega) (fun i hi => by
      have h2 := hp (i + 1) (by omega)
      rw [List.drop_drop, show 40 + 40 * i = 40 * (i + 1) by omega]
      exact h2)
    rw [← List.take_append_drop 40 l, List.all_append, h0, h1]
    rfl
noncomputable def ez_lpc (i : Nat) : Bool := (((es_tab em_511).drop (40 * i)).take 40).all (fun q => q.2.all (ez_e3 511 em_511))
theorem ez_lp0 : ez_lpc 0 = true := by decide +kernel
theorem ez_lp1 : ez_lpc 1 = true := by decide +kernel
theorem ez_lp2 : ez_lpc 2 = true := by decide +kernel
theorem ez_lpn : (es_tab em_511).length ≤ 40 * 3 := by decide +kernel
theorem ez_lpd : ez_dk em_511 = true := by decide +kernel
theorem ez_lpb : (es_tab em_511).all (fun q => q.2.all (ez_e3 511 em_511)) = true := by
  refine ez_chop _ 3 _ ez_lpn (fun i hi => ?_)
  match i, hi with
  | 0, _ => exact ez_lp0
  | 1, _ => exact ez_lp1
  | 2, _ => exact ez_lp2
  | i + 3, h => exact absurd h (by omega)
theorem ez_lpr : (decide (es_own em_511 = (es_y em_511).cls) && plainName (es_y em_511).cls) = true := by decide +kernel
