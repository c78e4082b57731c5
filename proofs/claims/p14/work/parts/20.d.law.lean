theorem ez_chop {α : Type} (f : α → Bool) : ∀ (n : Nat) (l : List α), l.length ≤ 10 * n → (∀ i, i < n → ((l.drop (10 * i)).take 10).all f = true) → l.all f = true
  | 0, l, h, _ => by
    have e : l = [] := List.eq_nil_of_length_eq_zero (by omega)
    rw [e]; rfl
  | n + 1, l, h, hp => by
    have h0 := hp 0 (by omega)
    rw [Nat.mul_zero, List.drop_zero] at h0
    have h1 := ez_chop f n (l.drop 10) (by rw [List.length_drop]; omega) (fun i hi => by
      have h2 := hp (i + 1) (by omega)
      rw [List.drop_drop, show 10 + 10 * i = 10 * (i + 1) by omega]
      exact h2)
    rw [← List.take_append_drop 10 l, List.all_append, h0, h1]
    rfl
noncomputable def ez_lpc (i : Nat) : Bool := (((es_tab em_511).drop (10 * i)).take 10).all (fun q => q.2.all (ez_e2 511 em_511))
theorem ez_lp0 : ez_lpc 0 = true := by decide +kernel
theorem ez_lp1 : ez_lpc 1 = true := by decide +kernel
theorem ez_lp2 : ez_lpc 2 = true := by decide +kernel
theorem ez_lp3 : ez_lpc 3 = true := by decide +kernel
theorem ez_lp4 : ez_lpc 4 = true := by decide +kernel
theorem ez_lp5 : ez_lpc 5 = true := by decide +kernel
theorem ez_lp6 : ez_lpc 6 = true := by decide +kernel
theorem ez_lp7 : ez_lpc 7 = true := by decide +kernel
theorem ez_lp8 : ez_lpc 8 = true := by decide +kernel
theorem ez_lp9 : ez_lpc 9 = true := by decide +kernel
theorem ez_lp10 : ez_lpc 10 = true := by decide +kernel
theorem ez_lp11 : ez_lpc 11 = true := by decide +kernel
theorem ez_lpn : (es_tab em_511).length ≤ 10 * 12 := by decide +kernel
theorem ez_lpd : ez_dk em_511 = true := by decide +kernel
theorem ez_lpb : (es_tab em_511).all (fun q => q.2.all (ez_e2 511 em_511)) = true := by
  refine ez_chop _ 12 _ ez_lpn (fun i hi => ?_)
  match i, hi with
  | 0, _ => exact ez_lp0
  | 1, _ => exact ez_lp1
  | 2, _ => exact ez_lp2
  | 3, _ => exact ez_lp3
  | 4, _ => exact ez_lp4
  | 5, _ => exact ez_lp5
  | 6, _ => exact ez_lp6
  | 7, _ => exact ez_lp7
  | 8, _ => exact ez_lp8
  | 9, _ => exact ez_lp9
  | 10, _ => exact ez_lp10
  | 11, _ => exact ez_lp11
  | i + 12, h => exact absurd h (by omega)
theorem ez_lpr : (decide (es_own em_511 = (es_y em_511).cls) && plainName (es_y em_511).cls) = true := by decide +kernel
