theorem ez_chop {α : Type} (f : α → Bool) : ∀ (n : Nat) (l : List α), l.length ≤ 12 * n → (∀ i, i < n → ((l.drop (12 * i)).take 12).all f = true) → l.all f = true
  | 0, l, h, _ => by
    have e : l = [] := List.eq_nil_of_length_eq_zero (by omega)
    rw [e]; rfl
  | n + 1, l, h, hp => by
    have h0 := hp 0 (by omega)
    rw [Nat.mul_zero, List.drop_zero] at h0
    have h1 := ez_chop f n (l.drop 12) (by rw [List.length_drop]; omega) (fun i hi => by
      have h2 := hp (i + 1) (by omega)
      rw [List.drop_drop, show 12 + 12 * i = 12 * (i + 1) by omega]
      exact h2)
    rw [← List.take_append_drop 12 l, List.all_append, h0, h1]
    rfl
noncomputable def ez_lpc (i : Nat) : Bool := (((es_tab (es_ME 194)).drop (12 * i)).take 12).all (fun q => q.2.all (ez_e2 (es_ME 194)))
theorem ez_lp0 : ez_lpc 0 = true := by decide +kernel
theorem ez_lp1 : ez_lpc 1 = true := by decide +kernel
theorem ez_lp2 : ez_lpc 2 = true := by decide +kernel
theorem ez_lp3 : ez_lpc 3 = true := by decide +kernel
theorem ez_lp4 : ez_lpc 4 = true := by decide +kernel
theorem ez_lp5 : ez_lpc 5 = true := by decide +kernel
theorem ez_lp6 : ez_lpc 6 = true := by decide +kernel
theorem ez_lp7 : ez_lpc 7 = true := by decide +kernel
theorem ez_lp8 : ez_lpc 8 = true := by decide +kernel
theorem ez_lp9 : ez_lpc 9 = true := by decide +kernel
theorem ez_lp10 : ez_lpc 10 = true := by decide +kernel
theorem ez_lp11 : ez_lpc 11 = true := by decide +kernel
theorem ez_lpn : (es_tab (es_ME 194)).length ≤ 12 * 12 := by decide +kernel
theorem ez_lpd : ez_dk (es_ME 194) = true := by decide +kernel
theorem ez_lpb : (es_tab (es_ME 194)).all (fun q => q.2.all (ez_e2 (es_ME 194))) = true := by
  refine ez_chop _ 12 _ ez_lpn (fun i hi => ?_)
  match i, hi with
  | 0, _ => exact ez_lp0
  | 1, _ => exact ez_lp1
  | 2, _ => exact ez_lp2
  | 3, _ => exact ez_lp3
  | 4, _ => exact ez_lp4
  | 5, _ => exact ez_lp5
  | 6, _ => exact ez_lp6
  | 7, _ => exact ez_lp7
  | 8, _ => exact ez_lp8
  | 9, _ => exact ez_lp9
  | 10, _ => exact ez_lp10
  | 11, _ => exact ez_lp11
  | i + 12, h => exact absurd h (by omega)
theorem ez_lpr : (decide (es_own (es_ME 194) = (es_y (es_ME 194)).cls) && plainName (es_y (es_ME 194)).cls) = true := by decide +kernel
theorem ez_lph : (es_hh (es_ME 194)).all (es_hchk (es_ME 194)) = true := by decide +kernel
theorem ez_lpl : (Nat.ble (es_lo (es_ME 194)) 84000 && (Nat.ble 84000 (es_lo (es_ME 194)) || es_wj es_WS (es_jws[194]?.getD 0) (es_cw (es_ME 194)))) = true := by decide +kernel
theorem ez_lpq : (es_CT 194).all (fun q => q.2.all (fun x => es_qq (es_at (es_tab (es_ME 194)) x.1) x)) = true := by decide +kernel
theorem ez_lpm : es_mck 194 = true := by
  unfold es_mck es_mchk
  rw [ez_lpr, ez_e2_ok ez_lpd (fun q hq => hq) ez_lpb, ez_lph, ez_lpl, ez_lpq]
  rfl
