theorem ez_chop {α : Type} (f : α → Bool) : ∀ (n : Nat) (l : List α), l.length ≤ 6 * n → (∀ i, i < n → ((l.drop (6 * i)).take 6).all f = true) → l.all f = true
  | 0, l, h, _ => by
    have e : l = [] := List.eq_nil_of_length_eq_zero (by omega)
    rw [e]; rfl
  | n + 1, l, h, hp => by
    have h0 := hp 0 (by omega)
    rw [Nat.mul_zero, List.drop_zero] at h0
    have h1 := ez_chop f n (l.drop 6) (by rw [List.length_drop]; omega) (fun i hi => by
      have h2 := hp (i + 1) (by omega)
      rw [List.drop_drop, show 6 + 6 * i = 6 * (i + 1) by omega]
      exact h2)
    rw [← List.take_append_drop 6 l, List.all_append, h0, h1]
    rfl
noncomputable def ez_lpc (i : Nat) : Bool := (((es_tab (es_ME 194)).drop (6 * i)).take 6).all (fun q => q.2.all (es_echk (es_ME 194)))
theorem ez_lp0 : ez_lpc 0 = true := by decide +kernel
theorem ez_lp1 : ez_lpc 1 = true := by decide +kernel
theorem ez_lp2 : ez_lpc 2 = true := by decide +kernel
theorem ez_lp3 : ez_lpc 3 = true := by decide +kernel
theorem ez_lp4 : ez_lpc 4 = true := by decide +kernel
theorem ez_lp5 : ez_lpc 5 = true := by decide +kernel
theorem ez_lp6 : ez_lpc 6 = true := by decide +kernel
theorem ez_lp7 : ez_lpc 7 = true := by decide +kernel
theorem ez_lp8 : ez_lpc 8 = true := by decide +kernel
theorem ez_lp9 : ez_lpc 9 = true := by decide +kernel
theorem ez_lp10 : ez_lpc 10 = true := by decide +kernel
theorem ez_lp11 : ez_lpc 11 = true := by decide +kernel
theorem ez_lp12 : ez_lpc 12 = true := by decide +kernel
theorem ez_lp13 : ez_lpc 13 = true := by decide +kernel
theorem ez_lp14 : ez_lpc 14 = true := by decide +kernel
theorem ez_lp15 : ez_lpc 15 = true := by decide +kernel
theorem ez_lp16 : ez_lpc 16 = true := by decide +kernel
theorem ez_lp17 : ez_lpc 17 = true := by decide +kernel
theorem ez_lp18 : ez_lpc 18 = true := by decide +kernel
theorem ez_lp19 : ez_lpc 19 = true := by decide +kernel
theorem ez_lp20 : ez_lpc 20 = true := by decide +kernel
theorem ez_lp21 : ez_lpc 21 = true := by decide +kernel
theorem ez_lp22 : ez_lpc 22 = true := by decide +kernel
theorem ez_lpn : (es_tab (es_ME 194)).length ≤ 6 * 23 := by decide +kernel
theorem ez_lpa : (es_tab (es_ME 194)).all (fun q => q.2.all (es_echk (es_ME 194))) = true := by
  refine ez_chop _ 23 _ ez_lpn (fun i hi => ?_)
  match i, hi with
  | 0, _ => exact ez_lp0
  | 1, _ => exact ez_lp1
  | 2, _ => exact ez_lp2
  | 3, _ => exact ez_lp3
  | 4, _ => exact ez_lp4
  | 5, _ => exact ez_lp5
  | 6, _ => exact ez_lp6
  | 7, _ => exact ez_lp7
  | 8, _ => exact ez_lp8
  | 9, _ => exact ez_lp9
  | 10, _ => exact ez_lp10
  | 11, _ => exact ez_lp11
  | 12, _ => exact ez_lp12
  | 13, _ => exact ez_lp13
  | 14, _ => exact ez_lp14
  | 15, _ => exact ez_lp15
  | 16, _ => exact ez_lp16
  | 17, _ => exact ez_lp17
  | 18, _ => exact ez_lp18
  | 19, _ => exact ez_lp19
  | 20, _ => exact ez_lp20
  | 21, _ => exact ez_lp21
  | 22, _ => exact ez_lp22
  | i + 23, h => exact absurd h (by omega)
theorem ez_lpr : (decide (es_own (es_ME 194) = (es_y (es_ME 194)).cls) && plainName (es_y (es_ME 194)).cls) = true := by decide +kernel
theorem ez_lph : (es_hh (es_ME 194)).all (es_hchk (es_ME 194)) = true := by decide +kernel
theorem ez_lpl : (Nat.ble (es_lo (es_ME 194)) 84000 && (Nat.ble 84000 (es_lo (es_ME 194)) || es_wj es_WS (es_jws[194]?.getD 0) (es_cw (es_ME 194)))) = true := by decide +kernel
theorem ez_lpq : (es_CT 194).all (fun q => q.2.all (fun x => es_qq (es_at (es_tab (es_ME 194)) x.1) x)) = true := by decide +kernel
theorem ez_lpm : es_mck 194 = true := by
  unfold es_mck es_mchk
  rw [ez_lpr, ez_lpa, ez_lph, ez_lpl, ez_lpq]
  rfl
theorem es_mk194 : (List.range' 194 1).all es_mck = true := by
  rw [show List.range' 194 1 = [194] from rfl]
  rw [List.all_cons, ez_lpm]
  rfl
