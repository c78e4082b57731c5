section
/-! getters of courts -/
noncomputable def WQ (a _k : Nat) : Bool := csa a || Nat.beq a 231
noncomputable def CoX (st : Nat → Int) (F : gS → Option gO) (s : gS) (r : gO) : Prop := ∀ u p, Fw WQ s u → J p u → RX u → gQ (F u) (fun q => gI q.2.2.2 217 0 = st r.1 ∧ (r.1 = 1 → q.2.1 = r.2.1))
noncomputable def st4 (n : Nat) : Int := if n = 4 then 1 else 0
section Qa
variable {s t u g : gS} {p : gP} {a1 a2 a3 v : Int} {a k i j n : Nat} {F : gS → Option gO} {st : Nat → Int}
theorem uQ : ∀ a k, csq a k = true → WQ a k = true := fun a k h_l => by
  unfold WQ
  unfold csq at h_l
  rw [h_l]
  rfl
theorem WQ_n (h : (9 ≤ a ∧ a < 27) ∨ (54 ≤ a ∧ a ≠ 231)) : WQ a k = false := by
  unfold WQ
  rw [csa_n (by omega), es_beqf.mpr (by omega)]
  rfl
theorem xc2 {z : Option gO} {K : Nat → gS → Option gO} {E : Int → gS → Option gO} (Vk : Int → Prop) (hn : 232 ≤ gn s) (hz : gQ z (CoX st F s)) (hL : gQ z (fun r => Fw csq s r.2.2.2)) (hV : gQ z (fun r => r.1 = 1 → Vk r.2.1)) (h1 : st 1 = 0) (hE : ∀ v t, Vk v → gQ (E v t) (fun r => r.2.1 = 0 ∧ gI r.2.2.2 231 0 = v ∧ Sm t r.2.2.2 ∧ ∀ a k, a ≠ 231 → gI r.2.2.2 a k = gI t a k)) (hC : ∀ k t, gQ (K k t) (fun r => r.2.1 = st (k + 2) ∧ r.2.1 ≠ 0 ∧ r.2.2.2 = t)) (hF : ∀ u p, J p u → RX u → gQ (F u) (fun q => gI q.2.2.2 231 0 = gI u 231 0)) : gQ (z.bind (gc1 K E)) (fun r => Xc F r.2.1 r.2.2.2) := by
  refine gQ_d1 (A := fun r => CoX st F s r ∧ Fw csq s r.2.2.2 ∧ (r.1 = 1 → Vk r.2.1)) (fun r hr => ⟨hz r hr, hL r hr, hV r hr⟩) (fun r hr c_l => ?_) (fun r hr c_l => ?_)
  · obtain ⟨x1_l, x2_l, x3⟩ := hr
    intro t ht p hj hR q hq
    obtain ⟨e1_l, e2_l, e3_l, e4_l⟩ := hE _ _ (x3 c_l) t ht
    have f1_l : Fw WQ s t.2.2.2 := Fw_sm (Fw_tr (Fw_rf hn) x2_l uQ) e3_l (fun a k _ hw => e4_l a k (fun z => by
      rw [z] at hw
      cases hw))
    obtain ⟨y1, y2⟩ := x1_l _ p f1_l hj hR q hq
    rw [c_l, h1] at y1
    refine ⟨y1.trans e1_l.symm, fun _ => ?_⟩
    rw [hF _ p hj hR q hq, e2_l, y2 c_l]
  · obtain ⟨x1_l, x2_l, x3⟩ := hr
    intro t ht p hj hR q hq
    obtain ⟨e1_l, e2_l, e3_l⟩ := hC _ _ t ht
    rw [e3_l] at hq hj hR
    obtain ⟨y1, y2⟩ := x1_l _ p (Fw_tr (Fw_rf hn) x2_l uQ) hj hR q hq
    rw [show r.1 - 2 + 2 = r.1 by omega] at e1_l
    exact ⟨y1.trans e1_l.symm, fun z => absurd z e2_l⟩
/-- rows below alike -/
theorem WQ_8 (hn : 232 ≤ gn s) (h : Fw WQ s u) : ∀ k, gI u 218 k = gI s 218 k := fun k => h.2.2 218 k (by omega) (WQ_n (by omega))
/-- cells of the class are the row's -/
theorem xr (h : Rx s) (hi : Ci 15 a j k) (hk : KK k) : gI s a j = gI s 218 k := by
  refine rd_ci (C := 15) (V := fun k => gI s 218 k) (fun k hk => ?_) hi hk
  have := h.1.1 k hk
  rw [Nat.zero_add] at this
  exact this.symm
theorem r13 (h : Rx s) : 0 ≤ gI s 218 13 ∧ gI s 218 13 ≤ 60 := by
  have h1 := h.1.2.2.1
  rw [Nat.zero_add] at h1
  exact h1
end Qa

end
section
section Qb
variable {s t u g : gS} {p : gP} {a1 a2 a3 v d lu : Int} {a k i j n m : Nat} {V W : Nat → Int} {T : (Nat → Int) → Int}
theorem RX_e8 (hn : 232 ≤ gn s) (h : Fw WQ s u) : (fun k => gI u 218 k) = (fun k => gI s 218 k) := funext (WQ_8 hn h)
end Qb
section Qc
variable {s t u g : gS} {p : gP} {a1 a2 a3 v d lu : Int} {a k i j n m : Nat} {V W : Nat → Int} {T : (Nat → Int) → Int}
end Qc

end
section
section Qd
variable {s t u g : gS} {p : gP} {a1 a2 a3 v d lu : Int} {a k i j n m : Nat} {V W : Nat → Int} {T : (Nat → Int) → Int}
end Qd

end
section
section Qe
variable {s t u g : gS} {p : gP} {a1 a2 a3 v d lu x y : Int} {a k i j n m : Nat} {V W : Nat → Int} {T : (Nat → Int) → Int} {H : Nat → Prop}
end Qe

end
section
/-! led: entries of the log; count; step -/
noncomputable def sm (f : Nat → Int) : Nat → Int
  | 0 => 0
  | n + 1 => sm f n + f n
noncomputable def hdS (V : Nat → Int) (a : Int) : Nat → Int
  | 0 => 0
  | n + 1 => gor (hdS V a n) (gshl (gand (gshr (V (88 + 2 * n + 1)) a) 1) (n : Int))
section Qf
variable {s t u g : gS} {p : gP} {a1 a2 a3 v d lu x y : Int} {a k i j n m : Nat} {V W : Nat → Int} {T : (Nat → Int) → Int}
theorem xk (h : Rx s) (hk : KK k) : cv s 9 15 k = gI s 218 k := by
  have h1 := h.1.1 k hk
  rw [Nat.zero_add] at h1
  exact h1.symm

end Qf

end
section
section Qg
variable {s t u g z : gS} {p : gP} {a1 a2 a3 v d lu x y : Int} {a i j n m : Nat} {k c w : Int} {V W : Nat → Int}
end Qg

end
section
/-! step -/
noncomputable def st9 (n : Nat) : Int := if n = 5 then 1 else if n = 4 then 2 else 0
section Qh
variable {s t u g : gS} {p : gP} {a1 a2 a3 v d lu x y : Int} {a k i j n m : Nat} {V W : Nat → Int}
theorem gsh0 : ∀ n : Nat, n < 6 → gshl 0 (n : Int) = 0 := by decide +kernel
theorem c31 (hJ : J p s) (h : RX s) : gQ (f_31 15 a1 s) (fun r => r.2.1 = hdS (fun k => gI s 218 k) a1 (gI s 218 6).toNat ∧ r.2.2.2 = s) := by
  have hg : RF s := hJ.1.2.1
  have hv := (Jv hJ).2.2.2
  have e5_l : gI s 15 5 = gI s 218 6 := (ce_n h.1).2.2.2.1
  unfold f_31
  refine gQ_loop (fun y_l => ∃ n_l : Nat, y_l = (15, a1, hdS (fun k => gI s 218 k) a1 n_l, (n_l : Int), s) ∧ (n_l : Int) ≤ gI s 218 6) (fun y_l hy => ?_) ⟨0, rfl, hv.1⟩
  obtain ⟨n_l, rfl, hn⟩ := hy
  show gQ (sb_31_4 15 a1 (hdS (fun k => gI s 218 k) a1 n_l) (n_l : Int) s) _
  unfold sb_31_4
  rw [e5_l]
  by_cases c : (n_l : Int) < gI s 218 6
  · have hn6 : n_l < 6 := by omega
    have eg : g32 ((n_l : Int) + 1) = ((n_l + 1 : Nat) : Int) := (g32_eq (v := (n_l : Int) + 1) (by omega) (by omega)).trans (by omega)
    have e1_l : gI s 18 n_l = gI s 218 (88 + 2 * n_l + 1) := xr h.2 (cjv (i := n_l) (j := 1) hn6 (by decide)) (KK_v (j := 1) hn6 (by decide))
    rw [if_pos c, Int.toNat_natCast, (rr_15_2 hg).2, e1_l, eg]
    exact gQ_chk (gQ_ret ⟨n_l + 1, rfl, by omega⟩)
  · rw [if_neg c]
    have en : (gI s 218 6).toNat = n_l := by omega
    rw [en]
    exact gQ_map (gQ_ret ⟨rfl, rfl⟩)
theorem mo_203 (hJ : J p u) : gQ (f_203 217 a1 a2 u) (fun q => ((0 ≤ a1 ∧ a1 < gI u 218 3) ∧ (0 ≤ a2 ∧ a2 ≤ 3) ∧ gI q.2.2.2 217 0 = 0 ∧ q.2.1 = (if a2 < 3 then gI u 218 (16 + 3 * a1.toNat + a2.toNat) else hdS (fun k => gI u 218 k) a1 (gI u 218 6).toNat)) ∨ (¬ (0 ≤ a1 ∧ a1 < gI u 218 3) ∧ gI q.2.2.2 217 0 = 1) ∨ ((0 ≤ a1 ∧ a1 < gI u 218 3) ∧ ¬ (0 ≤ a2 ∧ a2 ≤ 3) ∧ gI q.2.2.2 217 0 = 2)) := by
  have hv := (Jv hJ).1
  have hv6 := (Jv hJ).2.2.2
  have hr : gR u 217 1 = 218 := (rr_217_1 hJ.1.2.1).2
  have hr0 : gR (gw u 217 0 0) 217 1 = 218 := hr
  unfold f_203 f_161
  rw [hr]
  refine m_n (by omega) (fun c1_l => ?_) (fun c1_l => ?_)
  · rw [if_neg (by decide)]
    refine gQ_w1 (A := fun v_l z_l => v_l = (if 0 ≤ a2 ∧ a2 ≤ 3 then 1 else 0) ∧ z_l = u) m_150 (fun v_l z_l hz => ?_)
    obtain ⟨z1, z2⟩ := hz
    rw [z1, z2]
    by_cases c2 : 0 ≤ a2 ∧ a2 ≤ 3
    · rw [if_pos c2, if_neg (by decide)]
      unfold fb_203_27
      dsimp only
      rw [m0, if_neg (by decide)]
      by_cases c3 : a2 < 3
      · rw [if_pos c3]
        refine gQ_w1 (A := fun v_l z_l => v_l = gI u 218 (16 + 3 * a1.toNat + a2.toNat) ∧ z_l = gw u 217 0 0) (fun r_l hr2 => ?_) (fun v_l z_l hz => ?_)
        · obtain ⟨q1_l, q2_l⟩ := m_155 (s := gw u 217 0 0) (x := a1) (j := a2) hr0 (by omega) (by omega) r_l hr2
          exact ⟨q1_l.trans (m8 _), q2_l⟩
        obtain ⟨z3, z4⟩ := hz
        rw [z3, z4]
        refine gQ_ret (Or.inl ⟨c1_l, c2, m0, ?_⟩)
        rw [if_pos c3]
      · rw [if_neg c3]
        refine gQ_loop (fun y_l => ∃ n_l : Nat, y_l = (217, a1, hdS (fun k => gI u 218 k) a1 n_l, (n_l : Int), gw u 217 0 0) ∧ (n_l : Int) ≤ gI u 218 6) (fun y_l hy => ?_) ⟨0, rfl, hv6.1⟩
        obtain ⟨n_l, rfl, hn⟩ := hy
        show gQ (sb_203_56 217 a1 (hdS (fun k => gI u 218 k) a1 n_l) (n_l : Int) (gw u 217 0 0)) _
        unfold sb_203_56
        rw [hr0, m8]
        by_cases c : (n_l : Int) < gI u 218 6
        · have hn6 : n_l < 6 := by omega
          have eg : g32 ((n_l : Int) + 1) = ((n_l + 1 : Nat) : Int) := (g32_eq (v := (n_l : Int) + 1) (by omega) (by omega)).trans (by omega)
          have hle := gand_le (x := gshr (gI u 218 (88 + 2 * n_l + 1)) a1) (m := 1) (by decide) (by decide)
          have es : hdS (fun k => gI u 218 k) a1 (n_l + 1) = gor (hdS (fun k => gI u 218 k) a1 n_l) (gshl (gand (gshr (gI u 218 (88 + 2 * n_l + 1)) a1) 1) (n_l : Int)) := rfl
          rw [if_pos c]
          refine gQ_w1 (A := fun v_l z_l => v_l = gI u 218 (88 + 2 * n_l + 1) ∧ z_l = gw u 217 0 0) (fun r_l hr2 => ?_) (fun v_l z_l hz => ?_)
          · obtain ⟨q1_l, q2_l⟩ := v160 (z := gw u 217 0 0) (j := n_l) (q := 1) hr0 hn6 (by decide) rfl r_l hr2
            exact ⟨q1_l.trans (m8 _), q2_l⟩
          obtain ⟨z3, z4⟩ := hz
          rw [z3, z4]
          refine gQ_w1 (A := fun v_l z_l => v_l = (if gand (gshr (gI u 218 (88 + 2 * n_l + 1)) a1) 1 = 1 then 1 else 0) ∧ z_l = gw u 217 0 0) m_153 (fun v_l z_l hz => ?_)
          obtain ⟨z5, z6⟩ := hz
          rw [z5, z6]
          by_cases d : gand (gshr (gI u 218 (88 + 2 * n_l + 1)) a1) 1 = 1
          · rw [if_pos d, if_neg (by decide), eg]
            rw [d] at es
            exact gQ_ret ⟨n_l + 1, by rw [es], by omega⟩
          · have d0_l : gand (gshr (gI u 218 (88 + 2 * n_l + 1)) a1) 1 = 0 := by omega
            rw [if_neg d, if_pos rfl, eg]
            rw [d0_l, gsh0 n_l hn6] at es
            exact gQ_ret ⟨n_l + 1, by rw [es], by omega⟩
        · rw [if_neg c]
          have en : (gI u 218 6).toNat = n_l := by omega
          refine gQ_map (gQ_ret (Or.inl ⟨c1_l, c2, m0, ?_⟩))
          rw [if_neg c3, en]
    · rw [if_neg c2, if_pos rfl]
      unfold fb_203_27
      dsimp only
      rw [m0, if_pos (by decide)]
      exact gQ_ret (Or.inr (Or.inr ⟨c1_l, c2, m0⟩))
  · rw [if_pos rfl]
    unfold fb_203_27
    dsimp only
    rw [m0, if_pos (by decide)]
    exact gQ_ret (Or.inr (Or.inl ⟨c1_l, m0⟩))
theorem co_92 (hJ : J p s) (h : RX s) : gQ (f_92 0 a1 a2 s) (CoX st9 (f_203 217 a1 a2) s) := by
  have hg : RF s := hJ.1.2.1
  have hn := hJ.1.1
  have hv := (Jv hJ).1
  unfold f_92
  refine n_gt (by decide) (n_134 hg h.1) (fun c1_l => ?_) (fun c1_l => ?_)
  · have bad_l : ¬ (0 ≤ a2 ∧ a2 ≤ 3) → gQ (some ((4, 0, 0, gnw s 99) : gO)) (CoX st9 (f_203 217 a1 a2) s) := fun c2_l => by
      refine gQ_ret (fun u_l p hf hu hR q_l hq => ?_)
      rcases mo_203 hu q_l hq with ⟨-, h1, -⟩ | ⟨h1, -⟩ | ⟨-, -, h1⟩
      · exact absurd h1 c2_l
      · rw [WQ_8 hn hf 3] at h1
        exact absurd c1_l h1
      · exact ⟨h1, fun z_l => by cases z_l⟩
    have key_l : (0 ≤ a2 ∧ a2 ≤ 3) → ∀ w_l, w_l = (if a2 < 3 then gI s 218 (16 + 3 * a1.toNat + a2.toNat) else hdS (fun k_l => gI s 218 k_l) a1 (gI s 218 6).toNat) → CoX st9 (f_203 217 a1 a2) s (1, w_l, 0, s) := fun c2_l w_l hw u_l p hf hu hR q_l hq => by
      rcases mo_203 hu q_l hq with ⟨-, -, h1, h2⟩ | ⟨h1, -⟩ | ⟨-, h1, -⟩
      · refine ⟨h1, fun _ => ?_⟩
        rw [h2, WQ_8 hn hf, WQ_8 hn hf, RX_e8 hn hf]
        exact hw.symm
      · rw [WQ_8 hn hf 3] at h1
        exact absurd c1_l h1
      · exact absurd c2_l h1
    have cell_l : ∀ j_l, j_l < 3 → gI s (10 + j_l) a1.toNat = gI s 218 (16 + 3 * a1.toNat + j_l) := fun j_l hj => rd_st (C := 15) (V := fun k_l => gI s 218 k_l) (fun k_l hk => xk h.2 hk) (by omega) hj
    rw [(rr_0_4 hg).2, (rr_9 hg).1, (rr_9 hg).2.1, (rr_9 hg).2.2.1, (rr_0_5 hg).2]
    by_cases d : a2 < 0
    · rw [if_pos d]
      exact bad_l (by omega)
    rw [if_neg d]
    by_cases d0 : a2 < 1
    · rw [if_pos d0]
      refine gQ_chk (gQ_ret (key_l (by omega) _ ?_))
      rw [if_pos (by omega), show a2.toNat = 0 by omega]
      exact cell_l 0 (by decide)
    rw [if_neg d0]
    by_cases d1 : a2 < 2
    · rw [if_pos d1]
      refine gQ_chk (gQ_ret (key_l (by omega) _ ?_))
      rw [if_pos (by omega), show a2.toNat = 1 by omega]
      exact cell_l 1 (by decide)
    rw [if_neg d1]
    by_cases d2 : a2 < 3
    · rw [if_pos d2]
      refine gQ_chk (gQ_ret (key_l (by omega) _ ?_))
      rw [if_pos (by omega), show a2.toNat = 2 by omega]
      exact cell_l 2 (by decide)
    rw [if_neg d2]
    by_cases d3 : a2 < 4
    · rw [if_pos d3]
      refine gQ_w1 (A := fun v_l z_l => v_l = hdS (fun k_l => gI s 218 k_l) a1 (gI s 218 6).toNat ∧ z_l = s) (c31 hJ h) (fun v_l z_l hz => ?_)
      obtain ⟨z1, z2⟩ := hz
      rw [z1, z2]
      refine gQ_ret (key_l (by omega) _ ?_)
      rw [if_neg d2]
    · rw [if_neg d3]
      exact bad_l (by omega)
  · intro u_l p hf hu hR q_l hq
    rcases mo_203 hu q_l hq with ⟨h1, -⟩ | ⟨-, h1⟩ | ⟨h1, -⟩
    · rw [WQ_8 hn hf 3] at h1
      exact absurd h1 c1_l
    · exact ⟨h1, fun z_l => by cases z_l⟩
    · rw [WQ_8 hn hf 3] at h1
      exact absurd h1 c1_l
theorem xc_278 (hJ : J p s) (h : RX s) : gQ (f_278 0 a1 a2 231 s) (fun r => Xc (f_203 217 a1 a2) r.2.1 r.2.2.2) := by
  unfold f_278
  refine xc2 (st := st9) (fun _ => True) hJ.1.1 (co_92 hJ h) (fun r hr => o_92 hJ.1.2.1 cid rfl (Fw_rf hJ.1.1) r hr) (fun _ _ _ => trivial) rfl (fun v_l t_l _ => aX trivial) (fun k_l t_l => ?_) (fun u_l p hu _ q_l hq => (om_203 hu.1.2.1 um rfl (JF hu) q_l hq).2.2 231 0 (Nat.lt_of_lt_of_le (by decide) hu.1.1) rfl)
  by_cases c0 : k_l = 3
  · rw [if_pos c0, c0]
    exact gQ_ret ⟨rfl, (by decide : (1 : Int) ≠ 0), rfl⟩
  rw [if_neg c0]
  by_cases c1 : k_l = 2
  · rw [if_pos c1, c1]
    exact gQ_ret ⟨rfl, (by decide : (2 : Int) ≠ 0), rfl⟩
  rw [if_neg c1]
  exact gQ_none
end Qh

end
section
section Qi
variable {s t u g z : gS} {p : gP} {a1 a2 a3 v d lu x y : Int} {a k i j n m : Nat} {V W : Nat → Int} {T : (Nat → Int) → Int}
end Qi

end
section
section Qj
variable {s t u g z : gS} {p : gP} {a1 a2 a3 v d lu x y : Int} {a k i j n m : Nat} {V W P : Nat → Int}
end Qj

end
section
section Qk
variable {s t u g z : gS} {p : gP} {a1 a2 a3 v d lu x y M : Int} {a b k i j n m N : Nat} {V W P : Nat → Int}
end Qk

end
