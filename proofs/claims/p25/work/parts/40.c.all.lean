section
/-! getters of texts -/
noncomputable def st5 (n : Nat) : Int := if n = 5 then 1 else 0
noncomputable def st2 (n : Nat) : Int := if n = 2 then 1 else 0
section Ge
variable {s t : gS} {p : gP} {a1 a2 v : Int}
theorem gand1 {x : Int} : gand x 1 = 0 ∨ gand x 1 = 1 := by
  have h_l := gand_le (x := x) (m := 1) (by decide) (by decide)
  omega
end Ge

end
section
/-! mates -/
section Ma
variable {s t : gS} {p : gP}
end Ma

end
section
/-! tests that stop tricks: pure numbers of both sides -/
noncomputable def orn (V : Nat → Int) (m : Int) : Nat → Int
  | 0 => 0
  | n + 1 => gor (orn V m n) (if gand (gshr m (n : Int)) 1 = 0 then 0 else V (76 + 2 * n + 1))
section Sp
variable {s u : gS} {p : gP} {m T a1 a2 : Int} {n : Nat}
theorem gnand {x a b : Int} : gand (gand x (gxor a (-1))) (gxor b (-1)) = gand x (gxor (gor a b) (-1)) := by
  unfold gand gxor gor
  rw [Int32.ofInt_toInt, Int32.ofInt_toInt, Int32.ofInt_toInt, Int32.ofInt_toInt, Int32.ofInt_toInt]
  congr 1
  generalize Int32.ofInt x = X
  generalize Int32.ofInt a = A
  generalize Int32.ofInt b = B
  apply Int32.toBitVec.inj
  show ((X.toBitVec &&& (A.toBitVec ^^^ (Int32.ofInt (-1)).toBitVec)) &&& (B.toBitVec ^^^ (Int32.ofInt (-1)).toBitVec)) = (X.toBitVec &&& ((A.toBitVec ||| B.toBitVec) ^^^ (Int32.ofInt (-1)).toBitVec))
  generalize X.toBitVec = x1
  generalize A.toBitVec = x2
  generalize B.toBitVec = x3
  rw [show (Int32.ofInt (-1)).toBitVec = BitVec.allOnes 32 from by decide]
  apply BitVec.eq_of_getLsbD_eq
  intro i_l hi_l
  simp only [BitVec.getLsbD_and, BitVec.getLsbD_xor, BitVec.getLsbD_or, BitVec.getLsbD_allOnes, hi_l, decide_true]
  cases x1.getLsbD i_l <;> cases x2.getLsbD i_l <;> cases x3.getLsbD i_l <;> rfl
theorem gnor0 {x a : Int} : gand x (gxor (gor a 0) (-1)) = gand x (gxor a (-1)) := by
  unfold gand gxor gor
  rw [Int32.ofInt_toInt, Int32.ofInt_toInt, Int32.ofInt_toInt]
  congr 1
  generalize Int32.ofInt x = X
  generalize Int32.ofInt a = A
  apply Int32.toBitVec.inj
  show (X.toBitVec &&& ((A.toBitVec ||| (Int32.ofInt 0).toBitVec) ^^^ (Int32.ofInt (-1)).toBitVec)) = (X.toBitVec &&& (A.toBitVec ^^^ (Int32.ofInt (-1)).toBitVec))
  rw [show (Int32.ofInt 0).toBitVec = 0#32 from by decide, BitVec.or_zero]
theorem gn_0 {x : Int} (hx : 0 ≤ x ∧ x ≤ 100) : gand x (gxor 0 (-1)) = x := by
  have h_l : ∀ k : Nat, k < 101 → gand (k : Int) (gxor 0 (-1)) = (k : Int) := by decide +kernel
  have h1 := h_l x.toNat (by omega)
  rw [show ((x.toNat : Nat) : Int) = x by omega] at h1
  exact h1
/-- the class's tests -/
theorem p_5 (hJ : J p s) (h : Rt s) (hT : 0 ≤ T ∧ T ≤ 100) : gQ (f_5 9 m T s) (fun r => r.2.1 = (if gand T (gxor (orn (gI s 218) m (gI s 218 5).toNat) (-1)) = 0 then 1 else 0) ∧ r.2.2.2 = s) := by
  have hg : RF s := hJ.1.2.1
  have hv := (Jv hJ).2.2.1
  have r9 : gR s 9 4 = 14 := (rr_9 hg).2.2.2.2
  unfold f_5
  refine gQ_loop (fun y_l => ∃ n_l : Nat, (n_l : Int) ≤ gI s 218 5 ∧ y_l = (9, m, gand T (gxor (orn (gI s 218) m n_l) (-1)), (n_l : Int), s)) (fun y_l hy => ?_) ⟨0, by omega, ?_⟩
  · obtain ⟨n_l, hn, rfl⟩ := hy
    show gQ (sb_5_5 9 m (gand T (gxor (orn (gI s 218) m n_l) (-1))) (n_l : Int) s) _
    unfold sb_5_5
    dsimp only
    rw [(ce_n h).2.2.1, r9]
    have eg : g32 ((n_l : Int) + 1) = ((n_l + 1 : Nat) : Int) := (g32_eq (v := (n_l : Int) + 1) (by omega) (by omega)).trans (by omega)
    by_cases c : (n_l : Int) < gI s 218 5
    · rw [if_pos c]
      by_cases c2 : gand (gshr m (n_l : Int)) 1 = 0
      · rw [if_pos c2]
        refine gQ_ret ⟨n_l + 1, by omega, ?_⟩
        rw [eg]
        have e_l : gand T (gxor (orn (gI s 218) m (n_l + 1)) (-1)) = gand T (gxor (orn (gI s 218) m n_l) (-1)) := by
          show gand T (gxor (gor (orn (gI s 218) m n_l) (if gand (gshr m (n_l : Int)) 1 = 0 then 0 else _)) (-1)) = _
          rw [if_pos c2]
          exact gnor0
        rw [e_l]
      · rw [if_neg c2]
        refine gQ_chk (gQ_ret ⟨n_l + 1, by omega, ?_⟩)
        rw [eg, Int.toNat_natCast]
        have e_l : gand T (gxor (orn (gI s 218) m (n_l + 1)) (-1)) = gand (gand T (gxor (orn (gI s 218) m n_l) (-1))) (gxor (gI s 218 (76 + 2 * n_l + 1)) (-1)) := by
          show gand T (gxor (gor (orn (gI s 218) m n_l) (if gand (gshr m (n_l : Int)) 1 = 0 then 0 else _)) (-1)) = _
          rw [if_neg c2]
          exact gnand.symm
        rw [e_l, show gI s 14 n_l = gI s 218 (76 + 2 * n_l + 1) from ce_t h (i := n_l) (by omega) (j := 1) (by decide)]
    · rw [if_neg c]
      have en : (gI s 218 5).toNat = n_l := by omega
      refine gQ_map ?_
      rw [en]
      by_cases c2 : gand T (gxor (orn (gI s 218) m n_l) (-1)) = 0
      · rw [if_pos c2, if_pos c2]
        exact gQ_ret ⟨rfl, rfl⟩
      · rw [if_neg c2, if_neg c2]
        exact gQ_ret ⟨rfl, rfl⟩
  · show (9, m, T, (0 : Int), s) = (9, m, gand T (gxor 0 (-1)), ((0 : Nat) : Int), s)
    rw [gn_0 hT]
    rfl
theorem p_231 (hr : gR u 217 1 = 218) (hv : 0 ≤ gI u 218 5 ∧ gI u 218 5 ≤ 6) : gQ (f_231 217 m u) (fun r => r.2.1 = orn (gI u 218) m (gI u 218 5).toNat ∧ r.2.2.2 = u) := by
  unfold f_231
  refine gQ_loop (fun y_l => ∃ n_l : Nat, (n_l : Int) ≤ gI u 218 5 ∧ y_l = (217, m, orn (gI u 218) m n_l, (n_l : Int), u)) (fun y_l hy => ?_) ⟨0, by omega, rfl⟩
  obtain ⟨n_l, hn, rfl⟩ := hy
  show gQ (sb_231_4 217 m (orn (gI u 218) m n_l) (n_l : Int) u) _
  unfold sb_231_4
  rw [hr]
  have eg : g32 ((n_l : Int) + 1) = ((n_l + 1 : Nat) : Int) := (g32_eq (v := (n_l : Int) + 1) (by omega) (by omega)).trans (by omega)
  by_cases c : (n_l : Int) < gI u 218 5
  · rw [if_pos c]
    refine gQ_w1 (A := fun v_l z_l => v_l = (if gand (gshr m (n_l : Int)) 1 = 1 then 1 else 0) ∧ z_l = u) m_153 (fun v_l z_l hz => ?_)
    obtain ⟨z1, z2⟩ := hz
    rw [z1, z2]
    rcases gand1 (x := gshr m (n_l : Int)) with e_l | e_l
    · rw [e_l, if_neg (show ¬ (0 : Int) = 1 by decide), if_pos (show (0 : Int) = 0 from rfl)]
      refine gQ_ret ⟨n_l + 1, by omega, ?_⟩
      rw [eg]
      show _ = (217, m, gor (orn (gI u 218) m n_l) (if gand (gshr m (n_l : Int)) 1 = 0 then 0 else _), _, _)
      rw [if_pos e_l]
    · rw [e_l, if_pos (show (1 : Int) = 1 from rfl), if_neg (show ¬ (1 : Int) = 0 by decide)]
      refine gQ_w1 (A := fun v_l z_l => v_l = gI u 218 (76 + 2 * n_l + 1) ∧ z_l = u) (m_159 (x := (n_l : Int)) hr (by omega)) (fun v_l z_l hz => ?_)
      obtain ⟨z1, z2⟩ := hz
      rw [z1, z2]
      refine gQ_ret ⟨n_l + 1, by omega, ?_⟩
      rw [eg]
      show _ = (217, m, gor (orn (gI u 218) m n_l) (if gand (gshr m (n_l : Int)) 1 = 0 then 0 else _), _, _)
      rw [if_neg (by omega)]
  · rw [if_neg c]
    have en : (gI u 218 5).toNat = n_l := by omega
    rw [en]
    exact gQ_map (gQ_ret ⟨rfl, rfl⟩)
/-- what a man knows, on both sides -/
theorem mT (h : Rt s) (ha : 0 ≤ a1 ∧ a1 < 6) : 0 ≤ gI s 218 (42 + 6 * a1.toNat) ∧ gI s 218 (42 + 6 * a1.toNat) ≤ 100 := (h.1 _ (tx_m a1.toNat (by omega)).1).2.2
theorem E8_e (h : E8 s u) : gI u 218 = gI s 218 := funext h
/-- stopped -/
theorem bo_110 : gQ (f_110 0 a1 a2 s) (fun r => r.1 = 1 → r.2.1 = 0 ∨ r.2.1 = 1) := by
  unfold f_110
  cases hz : f_135 0 a1 s with
  | none => exact gQ_none
  | some r =>
    rw [Option.bind_some]
    unfold gt0
    by_cases c0 : r.1 = 0
    · rw [if_pos c0]
      refine gQ_chk ?_
      refine gQ_w1 (A := fun v_l _ => v_l = 0 ∨ v_l = 1) ?_ (fun v_l z_l hv => gQ_ret (fun _ => hv))
      unfold f_5
      refine gQ_loop (fun _ => True) (fun y_l _ => ?_) trivial
      obtain ⟨y0, y1, y2, y3, w_l⟩ := y_l
      show gQ (sb_5_5 y0 y1 y2 y3 w_l) _
      unfold sb_5_5
      exact gQ_ite (gQ_ite (gQ_ret trivial) (gQ_chk (gQ_ret trivial))) (gQ_map (gQ_ite (gQ_ret (Or.inr rfl)) (gQ_ret (Or.inl rfl))))
    rw [if_neg c0]
    by_cases c1 : 2 ≤ r.1
    · rw [if_pos c1]
      refine gQ_ret (fun z_l => ?_)
      have z_l : r.1 = 1 := z_l
      omega
    · rw [if_neg c1]
      exact gQ_none
theorem co_110 (hJ : J p s) (h : Rt s) : gQ (f_110 0 a1 a2 s) (Co st5 (f_233 217 a1 a2) s) := by
  have hg : RF s := hJ.1.2.1
  have hv := (Jv hJ).2.1
  have hv5 := (Jv hJ).2.2.1
  have r4 : gR s 0 4 = 9 := (rr_0_4 hg).2
  have r5_l : gR s 0 5 = 15 := (rr_0_5 hg).2
  have r15 : gR s 15 0 = 16 := (rr_15_0 hg).2
  have mo : ∀ u_l p, E8 s u_l → J p u_l → Rt u_l → gQ (f_233 217 a1 a2 u_l) (fun q_l => ((0 ≤ a1 ∧ a1 < gI s 218 4) ∧ gI q_l.2.2.2 217 0 = 0 ∧ q_l.2.1 = (if gand (gI s 218 (42 + 6 * a1.toNat)) (gxor (orn (gI s 218) a2 (gI s 218 5).toNat) (-1)) = 0 then 1 else 0)) ∨ (¬ (0 ≤ a1 ∧ a1 < gI s 218 4) ∧ gI q_l.2.2.2 217 0 = 1)) := fun u_l p e8 hu hR => by
    have hr := (rr_217_1 hu.1.2.1).2
    have e8w : ∀ w0_l, E8 s (gw u_l 217 0 w0_l) := fun w0_l => E8_t e8 m8
    unfold f_233 f_162
    rw [hr, e8 4]
    refine m_n (by omega) (fun c_l => ?_) (fun c_l => ?_)
    · rw [if_neg (by decide)]
      unfold fb_233_14 fb_233_45
      dsimp only
      rw [m0, if_pos rfl]
      refine gQ_w1 (A := fun v_l z_l => v_l = gI s 218 (42 + 6 * a1.toNat) ∧ z_l = gw u_l 217 0 0) (fun r_l hr2 => ?_) (fun v_l z_l hz => ?_)
      · obtain ⟨q1_l, q2_l⟩ := m_156 (s := gw u_l 217 0 0) (x := a1) (j := 2) hr (by omega) (by decide) r_l hr2
        refine ⟨q1_l.trans ?_, q2_l⟩
        rw [show 40 + 6 * a1.toNat + (2 : Int).toNat = 42 + 6 * a1.toNat by omega]
        exact e8w 0 _
      obtain ⟨z1, z2⟩ := hz
      rw [z1, z2]
      refine gQ_w1 (A := fun v_l z_l => v_l = orn (gI s 218) a2 (gI s 218 5).toNat ∧ z_l = gw u_l 217 0 0) (fun r_l hr2 => ?_) (fun v_l z_l hz => ?_)
      · obtain ⟨q1_l, q2_l⟩ := p_231 (u := gw u_l 217 0 0) (m := a2) hr (by rw [e8w 0 5]; exact hv5) r_l hr2
        refine ⟨q1_l.trans ?_, q2_l⟩
        rw [E8_e (e8w 0)]
      obtain ⟨z1, z2⟩ := hz
      rw [z1, z2]
      by_cases c3 : gand (gI s 218 (42 + 6 * a1.toNat)) (gxor (orn (gI s 218) a2 (gI s 218 5).toNat) (-1)) = 0
      · rw [if_pos c3, if_pos c3]
        exact gQ_ret (Or.inl ⟨c_l, m0, rfl⟩)
      · rw [if_neg c3, if_neg c3]
        exact gQ_ret (Or.inl ⟨c_l, m0, rfl⟩)
    · rw [if_pos rfl]
      unfold fb_233_14 fb_233_45
      dsimp only
      rw [m0, if_neg (by decide)]
      exact gQ_ret (Or.inr ⟨c_l, m0⟩)
  unfold f_110
  refine n_gt (by decide) (n_135 hg h) (fun c_l => ?_) (fun c_l => ?_)
  · rw [r4, r5_l, r15, rr_16 hg (i := a1.toNat) (by omega), ce_m h (i := a1.toNat) (by omega)]
    refine gQ_chk (gQ_w1 (A := fun v_l z_l => v_l = (if gand (gI s 218 (42 + 6 * a1.toNat)) (gxor (orn (gI s 218) a2 (gI s 218 5).toNat) (-1)) = 0 then 1 else 0) ∧ z_l = s) (p_5 hJ h (mT h (by omega))) (fun v_l z_l hz => gQ_ret ?_))
    intro u_l p e8 hu hR q_l hq
    rcases mo u_l p e8 hu hR q_l hq with ⟨-, h1, h2⟩ | ⟨h1, -⟩
    · exact ⟨h1, fun _ => h2.trans hz.1.symm⟩
    · exact absurd c_l h1
  · intro u_l p e8 hu hR q_l hq
    rcases mo u_l p e8 hu hR q_l hq with ⟨h1, -⟩ | ⟨-, h1⟩
    · exact absurd h1 c_l
    · exact ⟨h1, fun z_l => by cases z_l⟩
end Sp

end
section
/-! slips, fewest, cheapest -/
section Se
variable {s u : gS} {p : gP} {m T a1 a2 : Int} {n : Nat}
end Se

end
section
/-! fewest, cheapest -/
section Le
variable {s u : gS} {p : gP} {m T a1 a2 : Int} {n : Nat}
end Le

end
