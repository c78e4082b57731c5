section
/-! getters of courts -/
noncomputable def WQ (a _k : Nat) : Bool := csa a || Nat.beq a 231
noncomputable def CoX (st : Nat → Int) (F : gS → Option gO) (s : gS) (r : gO) : Prop := ∀ u p, Fw WQ s u → J p u → RX u → gQ (F u) (fun q => gI q.2.2.2 217 0 = st r.1 ∧ (r.1 = 1 → q.2.1 = r.2.1))
noncomputable def st4 (n : Nat) : Int := if n = 4 then 1 else 0
section Qa
variable {s t u g : gS} {p : gP} {a1 a2 a3 v : Int} {a k i j n : Nat} {F : gS → Option gO} {st : Nat → Int}
theorem uQ : ∀ a k, csq a k = true → WQ a k = true := fun a k h_l => by
  unfold WQ
  unfold csq at h_l
  rw [h_l]
  rfl
theorem WQ_n (h : (9 ≤ a ∧ a < 27) ∨ (54 ≤ a ∧ a ≠ 231)) : WQ a k = false := by
  unfold WQ
  rw [csa_n (by omega), es_beqf.mpr (by omega)]
  rfl
theorem xc2 {z : Option gO} {K : Nat → gS → Option gO} {E : Int → gS → Option gO} (Vk : Int → Prop) (hn : 232 ≤ gn s) (hz : gQ z (CoX st F s)) (hL : gQ z (fun r => Fw csq s r.2.2.2)) (hV : gQ z (fun r => r.1 = 1 → Vk r.2.1)) (h1 : st 1 = 0) (hE : ∀ v t, Vk v → gQ (E v t) (fun r => r.2.1 = 0 ∧ gI r.2.2.2 231 0 = v ∧ Sm t r.2.2.2 ∧ ∀ a k, a ≠ 231 → gI r.2.2.2 a k = gI t a k)) (hC : ∀ k t, gQ (K k t) (fun r => r.2.1 = st (k + 2) ∧ r.2.1 ≠ 0 ∧ r.2.2.2 = t)) (hF : ∀ u p, J p u → RX u → gQ (F u) (fun q => gI q.2.2.2 231 0 = gI u 231 0)) : gQ (z.bind (gc1 K E)) (fun r => Xc F r.2.1 r.2.2.2) := by
  refine gQ_d1 (A := fun r => CoX st F s r ∧ Fw csq s r.2.2.2 ∧ (r.1 = 1 → Vk r.2.1)) (fun r hr => ⟨hz r hr, hL r hr, hV r hr⟩) (fun r hr c_l => ?_) (fun r hr c_l => ?_)
  · obtain ⟨x1_l, x2_l, x3⟩ := hr
    intro t ht p hj hR q hq
    obtain ⟨e1_l, e2_l, e3_l, e4_l⟩ := hE _ _ (x3 c_l) t ht
    have f1_l : Fw WQ s t.2.2.2 := Fw_sm (Fw_tr (Fw_rf hn) x2_l uQ) e3_l (fun a k _ hw => e4_l a k (fun z => by
      rw [z] at hw
      cases hw))
    obtain ⟨y1, y2⟩ := x1_l _ p f1_l hj hR q hq
    rw [c_l, h1] at y1
    refine ⟨y1.trans e1_l.symm, fun _ => ?_⟩
    rw [hF _ p hj hR q hq, e2_l, y2 c_l]
  · obtain ⟨x1_l, x2_l, x3⟩ := hr
    intro t ht p hj hR q hq
    obtain ⟨e1_l, e2_l, e3_l⟩ := hC _ _ t ht
    rw [e3_l] at hq hj hR
    obtain ⟨y1, y2⟩ := x1_l _ p (Fw_tr (Fw_rf hn) x2_l uQ) hj hR q hq
    rw [show r.1 - 2 + 2 = r.1 by omega] at e1_l
    exact ⟨y1.trans e1_l.symm, fun z => absurd z e2_l⟩
/-- rows below alike -/
theorem WQ_8 (hn : 232 ≤ gn s) (h : Fw WQ s u) : ∀ k, gI u 218 k = gI s 218 k := fun k => h.2.2 218 k (by omega) (WQ_n (by omega))
/-- cells of the class are the row's -/
theorem xr (h : Rx s) (hi : Ci 15 a j k) (hk : KK k) : gI s a j = gI s 218 k := by
  refine rd_ci (C := 15) (V := fun k => gI s 218 k) (fun k hk => ?_) hi hk
  have := h.1.1 k hk
  rw [Nat.zero_add] at this
  exact this.symm
theorem r13 (h : Rx s) : 0 ≤ gI s 218 13 ∧ gI s 218 13 ≤ 60 := by
  have h1 := h.1.2.2.1
  rw [Nat.zero_add] at h1
  exact h1
/-- rival -/
theorem co_95 (hJ : J p s) (h : RX s) : gQ (f_95 0 a1 a2 s) (CoX st5 (f_208 217 a1 a2) s) := by
  have hg : RF s := hJ.1.2.1
  have hn := hJ.1.1
  have hv := (Jv hJ).2.2.2
  have mo : ∀ u_l p, Fw WQ s u_l → J p u_l → gQ (f_208 217 a1 a2 u_l) (fun q_l => ((0 ≤ a1 ∧ a1 < gI s 218 6) ∧ gI q_l.2.2.2 217 0 = 0 ∧ q_l.2.1 = gI s 218 (88 + 2 * a1.toNat + (if a2 = 0 then 0 else 1))) ∨ (¬ (0 ≤ a1 ∧ a1 < gI s 218 6) ∧ gI q_l.2.2.2 217 0 = 1)) := fun u_l p hf hu => by
    have hr := (rr_217_1 hu.1.2.1).2
    have e8 := WQ_8 hn hf
    unfold f_208 f_164
    rw [hr, e8 6]
    refine m_n (by omega) (fun c_l => ?_) (fun c_l => ?_)
    · rw [if_neg (by decide)]
      unfold fb_208_14
      dsimp only
      rw [m0, if_neg (by decide)]
      obtain ⟨j_l, hj⟩ : ∃ j_l : Nat, a1 = (j_l : Int) := ⟨a1.toNat, by omega⟩
      have hj6 : j_l < 6 := by omega
      by_cases c3 : a2 = 0
      · rw [if_pos c3]
        unfold fb_208_39
        refine gQ_w1 (A := fun w_l z_l => w_l = gI s 218 (88 + 2 * j_l) ∧ z_l = gw u_l 217 0 0) (fun r_l hr2 => ?_) (fun w_l z_l hz => ?_)
        · rw [hj] at hr2
          obtain ⟨q1_l, q2_l⟩ := v160 (z := gw u_l 217 0 0) (q := 0) hr hj6 (by decide) rfl r_l hr2
          exact ⟨q1_l.trans ((m8 _).trans (e8 _)), q2_l⟩
        · obtain ⟨z1, z2⟩ := hz
          refine gQ_ret (Or.inl ⟨c_l, ?_, ?_⟩)
          · dsimp only
            rw [z2, m0]
          · dsimp only
            rw [z1, if_pos c3, hj, Int.toNat_natCast, Nat.add_zero]
      · rw [if_neg c3]
        unfold fb_208_39
        refine gQ_w1 (A := fun w_l z_l => w_l = gI s 218 (88 + 2 * j_l + 1) ∧ z_l = gw u_l 217 0 0) (fun r_l hr2 => ?_) (fun w_l z_l hz => ?_)
        · rw [hj] at hr2
          obtain ⟨q1_l, q2_l⟩ := v160 (z := gw u_l 217 0 0) (q := 1) hr hj6 (by decide) rfl r_l hr2
          exact ⟨q1_l.trans ((m8 _).trans (e8 _)), q2_l⟩
        · obtain ⟨z1, z2⟩ := hz
          refine gQ_ret (Or.inl ⟨c_l, ?_, ?_⟩)
          · dsimp only
            rw [z2, m0]
          · dsimp only
            rw [z1, if_neg c3, hj, Int.toNat_natCast]
    · rw [if_pos rfl]
      unfold fb_208_14
      dsimp only
      rw [m0, if_pos (by decide)]
      exact gQ_ret (Or.inr ⟨c_l, m0⟩)
  unfold f_95
  refine n_gt (by decide) (n_137 hg h.1) (fun c_l => ?_) (fun c_l => ?_)
  · rw [(rr_0_5 hg).2, (rr_15_1 hg).2, (rr_15_2 hg).2]
    have key_l : ∀ x_l, x_l = gI s 218 (88 + 2 * a1.toNat + (if a2 = 0 then 0 else 1)) → CoX st5 (f_208 217 a1 a2) s (1, x_l, 0, s) := fun x_l hx u_l p hf hu _ q_l hq => by
      rcases mo u_l p hf hu q_l hq with ⟨-, h1, h2⟩ | ⟨h1, -⟩
      · exact ⟨h1, fun _ => h2.trans hx.symm⟩
      · exact absurd c_l h1
    by_cases c3 : a2 = 0
    · rw [if_pos c3]
      exact gQ_chk (gQ_ret (key_l _ (by rw [if_pos c3]; exact xr h.2 (cjv0 (i := a1.toNat) (by omega)) (KK_v0 (by omega)))))
    · rw [if_neg c3]
      exact gQ_chk (gQ_ret (key_l _ (by rw [if_neg c3]; exact xr h.2 (cjv (i := a1.toNat) (j := 1) (by omega) (by decide)) (KK_v (j := 1) (by omega) (by decide)))))
  · intro u_l p hf hu _ q_l hq
    rcases mo u_l p hf hu q_l hq with ⟨h1, -⟩ | ⟨-, h1⟩
    · exact absurd h1 c_l
    · exact ⟨h1, fun z_l => by cases z_l⟩
/-- the wrapped calls -/
theorem xc_281 (hJ : J p s) (h : RX s) : gQ (f_281 0 a1 a2 231 s) (fun r => Xc (f_208 217 a1 a2) r.2.1 r.2.2.2) := by
  unfold f_281
  refine xc2 (st := st5) (fun _ => True) hJ.1.1 (co_95 hJ h) (fun r hr => o_95 hJ.1.2.1 cid rfl (Fw_rf hJ.1.1) r hr) (fun _ _ _ => trivial) rfl (fun v_l t_l _ => aX trivial) (fun k_l t_l => ?_) (fun u_l p hu _ q_l hq => (om_208 hu.1.2.1 um rfl (JF hu) q_l hq).2.2 231 0 (Nat.lt_of_lt_of_le (by decide) hu.1.1) rfl)
  by_cases c0 : k_l = 3
  · rw [if_pos c0, c0]
    exact gQ_ret ⟨rfl, (by decide : (1 : Int) ≠ 0), rfl⟩
  rw [if_neg c0]
  exact gQ_none
end Qa

end
section
section Qb
variable {s t u g : gS} {p : gP} {a1 a2 a3 v d lu : Int} {a k i j n m : Nat} {V W : Nat → Int} {T : (Nat → Int) → Int}
end Qb
section Qc
variable {s t u g : gS} {p : gP} {a1 a2 a3 v d lu : Int} {a k i j n m : Nat} {V W : Nat → Int} {T : (Nat → Int) → Int}
end Qc

end
section
section Qd
variable {s t u g : gS} {p : gP} {a1 a2 a3 v d lu : Int} {a k i j n m : Nat} {V W : Nat → Int} {T : (Nat → Int) → Int}
end Qd

end
section
section Qe
variable {s t u g : gS} {p : gP} {a1 a2 a3 v d lu x y : Int} {a k i j n m : Nat} {V W : Nat → Int} {T : (Nat → Int) → Int} {H : Nat → Prop}
end Qe

end
section
/-! led: entries of the log; count; step -/
noncomputable def sm (f : Nat → Int) : Nat → Int
  | 0 => 0
  | n + 1 => sm f n + f n
section Qf
variable {s t u g : gS} {p : gP} {a1 a2 a3 v d lu x y : Int} {a k i j n m : Nat} {V W : Nat → Int} {T : (Nat → Int) → Int}
end Qf

end
section
section Qg
variable {s t u g z : gS} {p : gP} {a1 a2 a3 v d lu x y : Int} {a i j n m : Nat} {k c w : Int} {V W : Nat → Int}
end Qg

end
section
section Qh
variable {s t u g : gS} {p : gP} {a1 a2 a3 v d lu x y : Int} {a k i j n m : Nat} {V W : Nat → Int}
end Qh

end
section
section Qi
variable {s t u g z : gS} {p : gP} {a1 a2 a3 v d lu x y : Int} {a k i j n m : Nat} {V W : Nat → Int} {T : (Nat → Int) → Int}
end Qi

end
section
section Qj
variable {s t u g z : gS} {p : gP} {a1 a2 a3 v d lu x y : Int} {a k i j n m : Nat} {V W P : Nat → Int}
end Qj

end
section
section Qk
variable {s t u g z : gS} {p : gP} {a1 a2 a3 v d lu x y M : Int} {a b k i j n m N : Nat} {V W P : Nat → Int}
end Qk

end
