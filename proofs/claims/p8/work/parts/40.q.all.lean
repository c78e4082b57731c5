section
/-! getters of courts -/
noncomputable def WQ (a _k : Nat) : Bool := csa a || Nat.beq a 231
noncomputable def CoX (st : Nat → Int) (F : gS → Option gO) (s : gS) (r : gO) : Prop := ∀ u p, Fw WQ s u → J p u → RX u → gQ (F u) (fun q => gI q.2.2.2 217 0 = st r.1 ∧ (r.1 = 1 → q.2.1 = r.2.1))
noncomputable def st4 (n : Nat) : Int := if n = 4 then 1 else 0
section Qa
variable {s t u g : gS} {p : gP} {a1 a2 a3 v : Int} {a k i j n : Nat} {F : gS → Option gO} {st : Nat → Int}
theorem uQ : ∀ a k, csq a k = true → WQ a k = true := fun a k h_l => by
  unfold WQ
  unfold csq at h_l
  rw [h_l]
  rfl
theorem WQ_n (h : (9 ≤ a ∧ a < 27) ∨ (54 ≤ a ∧ a ≠ 231)) : WQ a k = false := by
  unfold WQ
  rw [csa_n (by omega), es_beqf.mpr (by omega)]
  rfl
theorem xc2 {z : Option gO} {K : Nat → gS → Option gO} {E : Int → gS → Option gO} (Vk : Int → Prop) (hn : 232 ≤ gn s) (hz : gQ z (CoX st F s)) (hL : gQ z (fun r => Fw csq s r.2.2.2)) (hV : gQ z (fun r => r.1 = 1 → Vk r.2.1)) (h1 : st 1 = 0) (hE : ∀ v t, Vk v → gQ (E v t) (fun r => r.2.1 = 0 ∧ gI r.2.2.2 231 0 = v ∧ Sm t r.2.2.2 ∧ ∀ a k, a ≠ 231 → gI r.2.2.2 a k = gI t a k)) (hC : ∀ k t, gQ (K k t) (fun r => r.2.1 = st (k + 2) ∧ r.2.1 ≠ 0 ∧ r.2.2.2 = t)) (hF : ∀ u p, J p u → RX u → gQ (F u) (fun q => gI q.2.2.2 231 0 = gI u 231 0)) : gQ (z.bind (gc1 K E)) (fun r => Xc F r.2.1 r.2.2.2) := by
  refine gQ_d1 (A := fun r => CoX st F s r ∧ Fw csq s r.2.2.2 ∧ (r.1 = 1 → Vk r.2.1)) (fun r hr => ⟨hz r hr, hL r hr, hV r hr⟩) (fun r hr c_l => ?_) (fun r hr c_l => ?_)
  · obtain ⟨x1_l, x2_l, x3⟩ := hr
    intro t ht p hj hR q hq
    obtain ⟨e1_l, e2_l, e3_l, e4_l⟩ := hE _ _ (x3 c_l) t ht
    have f1_l : Fw WQ s t.2.2.2 := Fw_sm (Fw_tr (Fw_rf hn) x2_l uQ) e3_l (fun a k _ hw => e4_l a k (fun z => by
      rw [z] at hw
      cases hw))
    obtain ⟨y1, y2⟩ := x1_l _ p f1_l hj hR q hq
    rw [c_l, h1] at y1
    refine ⟨y1.trans e1_l.symm, fun _ => ?_⟩
    rw [hF _ p hj hR q hq, e2_l, y2 c_l]
  · obtain ⟨x1_l, x2_l, x3⟩ := hr
    intro t ht p hj hR q hq
    obtain ⟨e1_l, e2_l, e3_l⟩ := hC _ _ t ht
    rw [e3_l] at hq hj hR
    obtain ⟨y1, y2⟩ := x1_l _ p (Fw_tr (Fw_rf hn) x2_l uQ) hj hR q hq
    rw [show r.1 - 2 + 2 = r.1 by omega] at e1_l
    exact ⟨y1.trans e1_l.symm, fun z => absurd z e2_l⟩
/-- rows below alike -/
theorem WQ_8 (hn : 232 ≤ gn s) (h : Fw WQ s u) : ∀ k, gI u 218 k = gI s 218 k := fun k => h.2.2 218 k (by omega) (WQ_n (by omega))
/-- cells of the class are the row's -/
theorem xr (h : Rx s) (hi : Ci 15 a j k) (hk : KK k) : gI s a j = gI s 218 k := by
  refine rd_ci (C := 15) (V := fun k => gI s 218 k) (fun k hk => ?_) hi hk
  have := h.1.1 k hk
  rw [Nat.zero_add] at this
  exact this.symm
theorem r13 (h : Rx s) : 0 ≤ gI s 218 13 ∧ gI s 218 13 ≤ 60 := by
  have h1 := h.1.2.2.1
  rw [Nat.zero_add] at h1
  exact h1
end Qa

end
section
section Qb
variable {s t u g : gS} {p : gP} {a1 a2 a3 v d lu : Int} {a k i j n m : Nat} {V W : Nat → Int} {T : (Nat → Int) → Int}
/-- with the further ranges of wip/p4/next: h.2.1.2.1.1 -/
theorem RX_vg (h : RX s) : Vg (fun k => gI s 218 k) := by
  have h1 := h.2.1.2.1.1
  simp only [Nat.zero_add] at h1
  exact h1
theorem RX_e8 (hn : 232 ≤ gn s) (h : Fw WQ s u) : (fun k => gI u 218 k) = (fun k => gI s 218 k) := funext (WQ_8 hn h)
theorem uQC : ∀ a k, WQ a k = true → WC a k = true := fun a k h_l => by
  unfold WQ at h_l
  unfold WC
  cases hc : csa a with
  | true => rfl
  | false =>
    rw [hc, Bool.false_or] at h_l
    rw [h_l]
    simp only [Bool.or_true]
theorem law_Q (hJ : J p s) (hT : Tlw s 218 9 T) (hf : Fw WQ s u) : Tlw u 218 9 T := law_C hJ hT (Fw_tr (Fw_rf hJ.1.1) hf uQC)
end Qb
section Qc
variable {s t u g : gS} {p : gP} {a1 a2 a3 v d lu : Int} {a k i j n m : Nat} {V W : Nat → Int} {T : (Nat → Int) → Int}
end Qc

end
section
section Qd
variable {s t u g : gS} {p : gP} {a1 a2 a3 v d lu : Int} {a k i j n m : Nat} {V W : Nat → Int} {T : (Nat → Int) → Int}
end Qd

end
section
section Qe
variable {s t u g : gS} {p : gP} {a1 a2 a3 v d lu x y : Int} {a k i j n m : Nat} {V W : Nat → Int} {T : (Nat → Int) → Int} {H : Nat → Prop}
end Qe

end
section
/-! led: entries of the log; count; step -/
noncomputable def sm (f : Nat → Int) : Nat → Int
  | 0 => 0
  | n + 1 => sm f n + f n
section Qf
variable {s t u g : gS} {p : gP} {a1 a2 a3 v d lu x y : Int} {a k i j n m : Nat} {V W : Nat → Int} {T : (Nat → Int) → Int}
theorem xk (h : Rx s) (hk : KK k) : cv s 9 15 k = gI s 218 k := by
  have h1 := h.1.1 k hk
  rw [Nat.zero_add] at h1
  exact h1.symm

end Qf

end
section
section Qg
variable {s t u g z : gS} {p : gP} {a1 a2 a3 v d lu x y : Int} {a i j n m : Nat} {k c w : Int} {V W : Nat → Int}
end Qg

end
section
/-! step -/
noncomputable def st9 (n : Nat) : Int := if n = 5 then 1 else if n = 4 then 2 else 0
section Qh
variable {s t u g : gS} {p : gP} {a1 a2 a3 v d lu x y : Int} {a k i j n m : Nat} {V W : Nat → Int}
end Qh

end
section
/-! man (wants RX_vp: the further ranges of the row that now counts) -/
/-- costs, days or shows of n steps from the a-th on -/
noncomputable def sgF (V : Nat → Int) (j a : Nat) : Nat → Int
  | 0 => 0
  | n + 1 => sgF V j a n + V (16 + 3 * (a + n) + j)
noncomputable def outF (V : Nat → Int) (i : Nat) : Int := if 0 < V (40 + 6 * i + 4) then sgF V 1 ((V (40 + 6 * i + 3)).toNat + 1) ((V 3).toNat - ((V (40 + 6 * i + 3)).toNat + 1)) else sgF V 1 (V (40 + 6 * i + 3)).toNat ((V 3).toNat - (V (40 + 6 * i + 3)).toNat)
noncomputable def manG (T : (Nat → Int) → Int) (V : Nat → Int) (i : Nat) (b : Int) : Int := if b < 6 then V (40 + 6 * i + b.toNat) else if b = 6 then T (fF V i) else if b = 7 then outF V i else if b = 8 then sgF V 0 (V (40 + 6 * i + 3)).toNat ((V 3).toNat - (V (40 + 6 * i + 3)).toNat) - V (40 + 6 * i + 4) else sgF V 2 (V (40 + 6 * i + 3)).toNat ((V 3).toNat - (V (40 + 6 * i + 3)).toNat) - outF V i
section Qi
variable {s t u g z : gS} {p : gP} {a1 a2 a3 v d lu x y : Int} {a k i j n m : Nat} {V W : Nat → Int} {T : (Nat → Int) → Int}
theorem ar1 {a n m : Nat} (h : ((a + n : Nat) : Int) < (m : Int)) (hm : m ≤ 8) : (0 ≤ ((a + n : Nat) : Int) ∧ ((a + n : Nat) : Int) < 8) ∧ a + n < 8 ∧ a + n ≤ 8 ∧ a + (n + 1) ≤ m := by omega
theorem ar2 {x y : Int} {n : Nat} (hb : 0 ≤ x ∧ x ≤ 100 * n) (hc : 0 ≤ y ∧ y ≤ 100) (hn : n ≤ 8) : g32 (x + y) = x + y := g32_eq (by omega) (by omega)
theorem ar3 {x y z : Int} {n : Nat} (hb : 0 ≤ x ∧ x ≤ 100 * n) (hc : 0 ≤ y ∧ y ≤ 100) (hn : n ≤ 8) (hz : 0 ≤ z ∧ z ≤ 30) : g32 (x - z + y) = x - z + y := g32_eq (by omega) (by omega)
theorem ar4 {k : Nat} (h : k ≤ 9) : g32 ((k : Int) + 1) = ((k + 1 : Nat) : Int) := (g32_eq (by omega) (by omega)).trans (by omega)
theorem ar5 {a n m : Nat} (h : ¬ ((a + n : Nat) : Int) < (m : Int)) (h2 : a + n ≤ m) : m - a = n := by omega
noncomputable def Sg (V : Nat → Int) : Prop := ∀ a, a < 8 → ∀ j, j < 3 → 0 ≤ V (16 + 3 * a + j) ∧ V (16 + 3 * a + j) ≤ 100
theorem Sg_R (h : Rt s) : Sg (fun k => gI s 218 k) := fun a_l ha_l j_l hj => (h.1 _ (tx_s a_l ha_l j_l hj).1).2.2
theorem sg_b (h : Sg V) (hj : j < 3) (n : Nat) (hn : a + n ≤ 8) : 0 ≤ sgF V j a n ∧ sgF V j a n ≤ 100 * n := by
  induction n with
  | zero => exact ⟨Int.le_refl 0, Int.le_refl 0⟩
  | succ n ih_l =>
    have h1 := ih_l (by omega)
    have h2 := h (a + n) (by omega) j hj
    show 0 ≤ sgF V j a n + V (16 + 3 * (a + n) + j) ∧ sgF V j a n + V (16 + 3 * (a + n) + j) ≤ 100 * ((n + 1 : Nat) : Int)
    omega
theorem sg_hd (n : Nat) : sgF V j a (n + 1) = V (16 + 3 * a + j) + sgF V j (a + 1) n := by
  induction n with
  | zero =>
    show 0 + V (16 + 3 * (a + 0) + j) = V (16 + 3 * a + j) + 0
    rw [Nat.add_zero]
    omega
  | succ n ih_l =>
    show sgF V j a (n + 1) + V (16 + 3 * (a + (n + 1)) + j) = V (16 + 3 * a + j) + (sgF V j (a + 1) n + V (16 + 3 * (a + 1 + n) + j))
    rw [ih_l, show a + (n + 1) = a + 1 + n by omega]
    omega
/-- the class's sums -/
theorem cl_7 (hJ : J p s) (h : RX s) (ha : a ≤ 9) (h3 : gI s 218 3 = (m : Int)) (hm : m ≤ 8) : gQ (gloop st_7_23 (9, 0, (a : Int), s)) (fun r => r.2.1 = sgF (fun k => gI s 218 k) 1 a (m - a) ∧ r.2.2.2 = s) := by
  have hg : RF s := hJ.1.2.1
  have e5_l : gI s 9 5 = (m : Int) := (ce_n h.1).1.trans h3
  refine gQ_loop (fun y_l => ∃ n_l : Nat, y_l = (9, sgF (fun k => gI s 218 k) 1 a n_l, ((a + n_l : Nat) : Int), s) ∧ (n_l = 0 ∨ a + n_l ≤ m)) (fun y_l hy => ?_) ⟨0, rfl, Or.inl rfl⟩
  obtain ⟨n_l, rfl, hn⟩ := hy
  show gQ (sb_7_23 9 (sgF (fun k => gI s 218 k) 1 a n_l) ((a + n_l : Nat) : Int) s) _
  unfold sb_7_23
  rw [e5_l]
  by_cases c : ((a + n_l : Nat) : Int) < (m : Int)
  · obtain ⟨k1_l, k2_l, k3_l, k4_l⟩ := ar1 c hm
    have n8 : n_l ≤ 8 := Nat.le_trans (Nat.le_add_left n_l a) k3_l
    have hb_l := sg_b (a := a) (Sg_R h.1) (j := 1) (by decide) n_l (by omega)
    have hc_l := Sg_R h.1 (a + n_l) (by omega) 1 (by decide)
    have e1_l : gI s 11 (a + n_l) = gI s 218 (16 + 3 * (a + n_l) + 1) := ce_s h.1 k2_l (j := 1) (by decide)
    have eg : g32 (((a + n_l : Nat) : Int) + 1) = ((a + (n_l + 1) : Nat) : Int) := ar4 (by omega)
    rw [if_pos c, Int.toNat_natCast, (rr_9 hg).2.1, e1_l, eg, ar2 hb_l hc_l n8]
    exact gQ_chk (gQ_ret ⟨n_l + 1, rfl, Or.inr k4_l⟩)
  · rw [if_neg c]
    have en : m - a = n_l := by omega
    rw [en]
    exact gQ_map (gQ_ret ⟨rfl, rfl⟩)
theorem cl_8 (hJ : J p s) (h : RX s) (ha : a ≤ m) (h3 : gI s 218 3 = (m : Int)) (hm : m ≤ 8) (hx : 0 ≤ x ∧ x ≤ 30) : gQ (gloop st_8_11 (9, -x, (a : Int), s)) (fun r => r.2.1 = sgF (fun k => gI s 218 k) 0 a (m - a) - x ∧ r.2.2.2 = s) := by
  have hg : RF s := hJ.1.2.1
  have e5_l : gI s 9 5 = (m : Int) := (ce_n h.1).1.trans h3
  refine gQ_loop (fun y_l => ∃ n_l : Nat, y_l = (9, sgF (fun k => gI s 218 k) 0 a n_l - x, ((a + n_l : Nat) : Int), s) ∧ a + n_l ≤ m) (fun y_l hy => ?_) ⟨0, by rw [show sgF (fun k => gI s 218 k) 0 a 0 - x = -x from Int.zero_sub x]; rfl, ha⟩
  obtain ⟨n_l, rfl, hn⟩ := hy
  show gQ (sb_8_11 9 (sgF (fun k => gI s 218 k) 0 a n_l - x) ((a + n_l : Nat) : Int) s) _
  unfold sb_8_11
  rw [e5_l]
  by_cases c : ((a + n_l : Nat) : Int) < (m : Int)
  · obtain ⟨k1_l, k2_l, k3_l, k4_l⟩ := ar1 c hm
    have n8 : n_l ≤ 8 := Nat.le_trans (Nat.le_add_left n_l a) k3_l
    have hb_l := sg_b (a := a) (Sg_R h.1) (j := 0) (by decide) n_l (by omega)
    have hc_l := Sg_R h.1 (a + n_l) (by omega) 0 (by decide)
    have e1_l : gI s 10 (a + n_l) = gI s 218 (16 + 3 * (a + n_l) + 0) := ce_s h.1 k2_l (j := 0) (by decide)
    have eg : g32 (((a + n_l : Nat) : Int) + 1) = ((a + (n_l + 1) : Nat) : Int) := ar4 (by omega)
    rw [if_pos c, Int.toNat_natCast, (rr_9 hg).1, e1_l, eg, ar3 hb_l hc_l n8 hx]
    refine gQ_chk (gQ_ret ⟨n_l + 1, ?_, k4_l⟩)
    rw [show sgF (fun k => gI s 218 k) 0 a (n_l + 1) - x = sgF (fun k => gI s 218 k) 0 a n_l - x + gI s 218 (16 + 3 * (a + n_l) + 0) by
      show sgF (fun k => gI s 218 k) 0 a n_l + gI s 218 (16 + 3 * (a + n_l) + 0) - x = _
      omega]
  · rw [if_neg c]
    have en : m - a = n_l := by omega
    rw [en]
    exact gQ_map (gQ_ret ⟨rfl, rfl⟩)
theorem cl_9 (hJ : J p s) (h : RX s) (ha : a ≤ m) (h3 : gI s 218 3 = (m : Int)) (hm : m ≤ 8) : gQ (gloop st_9_7 (9, 0, (a : Int), s)) (fun r => r.2.1 = sgF (fun k => gI s 218 k) 2 a (m - a) ∧ r.2.2.2 = s) := by
  have hg : RF s := hJ.1.2.1
  have e5_l : gI s 9 5 = (m : Int) := (ce_n h.1).1.trans h3
  refine gQ_loop (fun y_l => ∃ n_l : Nat, y_l = (9, sgF (fun k => gI s 218 k) 2 a n_l, ((a + n_l : Nat) : Int), s) ∧ a + n_l ≤ m) (fun y_l hy => ?_) ⟨0, rfl, ha⟩
  obtain ⟨n_l, rfl, hn⟩ := hy
  show gQ (sb_9_7 9 (sgF (fun k => gI s 218 k) 2 a n_l) ((a + n_l : Nat) : Int) s) _
  unfold sb_9_7
  rw [e5_l]
  by_cases c : ((a + n_l : Nat) : Int) < (m : Int)
  · obtain ⟨k1_l, k2_l, k3_l, k4_l⟩ := ar1 c hm
    have n8 : n_l ≤ 8 := Nat.le_trans (Nat.le_add_left n_l a) k3_l
    have hb_l := sg_b (a := a) (Sg_R h.1) (j := 2) (by decide) n_l (by omega)
    have hc_l := Sg_R h.1 (a + n_l) (by omega) 2 (by decide)
    have e1_l : gI s 12 (a + n_l) = gI s 218 (16 + 3 * (a + n_l) + 2) := ce_s h.1 k2_l (j := 2) (by decide)
    have eg : g32 (((a + n_l : Nat) : Int) + 1) = ((a + (n_l + 1) : Nat) : Int) := ar4 (by omega)
    rw [if_pos c, Int.toNat_natCast, (rr_9 hg).2.2.1, e1_l, eg, ar2 hb_l hc_l n8]
    exact gQ_chk (gQ_ret ⟨n_l + 1, rfl, k4_l⟩)
  · rw [if_neg c]
    have en : m - a = n_l := by omega
    rw [en]
    exact gQ_map (gQ_ret ⟨rfl, rfl⟩)
/-- the model's sum -/
theorem mo_204 (hr : gR z 217 1 = 218) (h8 : ∀ k, gI z 218 k = V k) (hS : Sg V) (hi : i < 6) (hj : j < 3) (h3 : V 3 = (m : Int)) (hm : m ≤ 8) (ha : V (40 + 6 * i + 3) = (a : Int)) (ham : a ≤ m) (eI : x = (j : Int)) : gQ (f_204 217 (i : Int) x z) (fun r => r.2.1 = sgF V j a (m - a) ∧ r.2.2.2 = z) := by
  subst eI
  unfold f_204
  refine gQ_w1 (A := fun v_l y_l => v_l = (a : Int) ∧ y_l = z) (fun r hr2 => ?_) (fun v_l y_l hy => ?_)
  · obtain ⟨q1_l, q2_l⟩ := v156 (j := 3) hr hi (by decide) rfl r hr2
    exact ⟨q1_l.trans ((h8 _).trans ha), q2_l⟩
  obtain ⟨y1, y2⟩ := hy
  rw [y1, y2]
  refine gQ_loop (fun y_l => ∃ n_l : Nat, y_l = (217, (j : Int), sgF V j a n_l, ((a + n_l : Nat) : Int), z) ∧ a + n_l ≤ m) (fun y_l hy => ?_) ⟨0, rfl, ham⟩
  obtain ⟨n_l, rfl, hn⟩ := hy
  show gQ (sb_204_10 217 (j : Int) (sgF V j a n_l) ((a + n_l : Nat) : Int) z) _
  unfold sb_204_10
  rw [hr, h8, h3]
  by_cases c : ((a + n_l : Nat) : Int) < (m : Int)
  · obtain ⟨k1_l, k2_l, k3_l, k4_l⟩ := ar1 c hm
    have n8 : n_l ≤ 8 := Nat.le_trans (Nat.le_add_left n_l a) k3_l
    have hb_l := sg_b (a := a) hS hj n_l (by omega)
    have hc_l := hS (a + n_l) (by omega) j hj
    have eg : g32 (((a + n_l : Nat) : Int) + 1) = ((a + (n_l + 1) : Nat) : Int) := ar4 (Nat.le_succ_of_le k3_l)
    rw [if_pos c]
    refine gQ_w1 (A := fun v_l y_l => v_l = V (16 + 3 * (a + n_l) + j) ∧ y_l = z) (fun r hr2 => ?_) (fun v_l y_l hy => ?_)
    · obtain ⟨q1_l, q2_l⟩ := m_155 (s := z) (x := ((a + n_l : Nat) : Int)) (j := (j : Int)) hr k1_l ⟨Int.natCast_nonneg j, Int.ofNat_lt.mpr hj⟩ r hr2
      rw [Int.toNat_natCast, Int.toNat_natCast] at q1_l
      exact ⟨q1_l.trans (h8 _), q2_l⟩
    obtain ⟨y3, y4⟩ := hy
    rw [y3, y4, eg, ar2 hb_l hc_l n8]
    exact gQ_ret ⟨n_l + 1, rfl, k4_l⟩
  · rw [if_neg c]
    have en : m - a = n_l := ar5 c hn
    rw [en]
    exact gQ_map (gQ_ret ⟨rfl, rfl⟩)
theorem mo_205 (hr : gR z 217 1 = 218) (h8 : ∀ k, gI z 218 k = V k) (hS : Sg V) (hi : i < 6) (h3 : V 3 = (m : Int)) (hm : m ≤ 8) (ha : V (40 + 6 * i + 3) = (a : Int)) (ham : a ≤ m) (hh : V (40 + 6 * i + 4) ≤ 0 ∨ a < m) : gQ (f_205 217 (i : Int) z) (fun r => r.2.1 = outF V i ∧ r.2.2.2 = z) := by
  have hb_l := sg_b (a := a) hS (j := 1) (by decide) (m - a) (by omega)
  have eo : outF V i = (if 0 < V (40 + 6 * i + 4) then sgF V 1 (a + 1) (m - (a + 1)) else sgF V 1 a (m - a)) := by
    unfold outF
    rw [ha, h3, Int.toNat_natCast, Int.toNat_natCast]
  unfold f_205
  refine gQ_w1 (A := fun v_l y_l => v_l = sgF V 1 a (m - a) ∧ y_l = z) (mo_204 hr h8 hS hi (j := 1) (by decide) h3 hm ha ham rfl) (fun v_l y_l hy => ?_)
  obtain ⟨y1, y2⟩ := hy
  rw [y1, y2]
  refine gQ_w1 (A := fun v_l y_l => v_l = V (40 + 6 * i + 4) ∧ y_l = z) (fun r hr2 => ?_) (fun v_l y_l hy => ?_)
  · obtain ⟨q1_l, q2_l⟩ := v156 (j := 4) hr hi (by decide) rfl r hr2
    exact ⟨q1_l.trans (h8 _), q2_l⟩
  obtain ⟨y3, y4⟩ := hy
  rw [y3, y4]
  by_cases c : 0 < V (40 + 6 * i + 4)
  · rw [if_pos c] at eo ⊢
    have hc_l := hS a (by omega) 1 (by decide)
    have es : sgF V 1 a (m - a) = V (16 + 3 * a + 1) + sgF V 1 (a + 1) (m - (a + 1)) := by
      rw [show m - a = m - (a + 1) + 1 by omega]
      exact sg_hd _
    refine gQ_w1 (A := fun v_l y_l => v_l = (a : Int) ∧ y_l = z) (fun r hr2 => ?_) (fun v_l y_l hy => ?_)
    · obtain ⟨q1_l, q2_l⟩ := v156 (j := 3) hr hi (by decide) rfl r hr2
      exact ⟨q1_l.trans ((h8 _).trans ha), q2_l⟩
    obtain ⟨y5, y6⟩ := hy
    rw [y5, y6]
    refine gQ_w1 (A := fun v_l y_l => v_l = V (16 + 3 * a + 1) ∧ y_l = z) (fun r hr2 => ?_) (fun v_l y_l hy => ?_)
    · obtain ⟨q1_l, q2_l⟩ := m_155 (s := z) (x := (a : Int)) (j := 1) hr (by omega) (by omega) r hr2
      rw [Int.toNat_natCast] at q1_l
      exact ⟨q1_l.trans (h8 _), q2_l⟩
    obtain ⟨y7, y8⟩ := hy
    rw [y7, y8, eo, g32_eq (by omega) (by omega)]
    exact gQ_ret ⟨by dsimp only; omega, rfl⟩
  · rw [if_neg c] at eo ⊢
    rw [eo, g32_eq (by omega) (by omega)]
    exact gQ_ret ⟨Int.sub_zero _, rfl⟩
theorem manv (hJ : J p u) (h : RX u) (hi : i < 6) (h4 : (i : Int) < gI u 218 4) : ∃ m a : Nat, gI u 218 3 = (m : Int) ∧ m ≤ 8 ∧ gI u 218 (40 + 6 * i + 3) = (a : Int) ∧ a ≤ m ∧ (gI u 218 (40 + 6 * i + 4) ≤ 0 ∨ a < m) ∧ (0 ≤ gI u 218 (40 + 6 * i + 4) ∧ gI u 218 (40 + 6 * i + 4) ≤ 30) := by
  have hv := (RX_vg h).1.1
  have hm_l := (RX_vg h).2.1 i hi
  have hp := (RX_vp h).1 i hi h4
  dsimp only at hv hm_l hp
  rw [show 43 + 6 * i = 40 + 6 * i + 3 by omega, show 44 + 6 * i = 40 + 6 * i + 4 by omega] at hm_l hp
  exact ⟨(gI u 218 3).toNat, (gI u 218 (40 + 6 * i + 3)).toNat, by omega, by omega, by omega, by omega, by omega, by omega⟩
theorem mo_206 (hJ : J p u) (h : RX u) (hT : Tlw u 218 9 T) : gQ (f_206 217 a1 a2 u) (fun q => ((0 ≤ a1 ∧ a1 < gI u 218 4) ∧ (0 ≤ a2 ∧ a2 ≤ 9) ∧ gI q.2.2.2 217 0 = 0 ∧ q.2.1 = manG T (fun k => gI u 218 k) a1.toNat a2) ∨ (¬ (0 ≤ a1 ∧ a1 < gI u 218 4) ∧ gI q.2.2.2 217 0 = 1) ∨ ((0 ≤ a1 ∧ a1 < gI u 218 4) ∧ ¬ (0 ≤ a2 ∧ a2 ≤ 9) ∧ gI q.2.2.2 217 0 = 2)) := by
  have hv := (Jv hJ).2.1
  have hg : RF u := hJ.1.2.1
  have hn := hJ.1.1
  have hr : gR u 217 1 = 218 := (rr_217_1 hg).2
  have hr0 : gR (gw u 217 0 0) 217 1 = 218 := hr
  unfold f_206 f_162
  rw [hr]
  refine m_n (by omega) (fun c1_l => ?_) (fun c1_l => ?_)
  · rw [if_neg (by decide)]
    refine gQ_w1 (A := fun v_l z_l => v_l = (if 0 ≤ a2 ∧ a2 ≤ 9 then 1 else 0) ∧ z_l = u) m_150 (fun v_l z_l hz => ?_)
    obtain ⟨z1, z2⟩ := hz
    rw [z1, z2]
    by_cases c2 : 0 ≤ a2 ∧ a2 ≤ 9
    · rw [if_pos c2, if_neg (by decide)]
      obtain ⟨i_l, hi_l⟩ : ∃ i_l : Nat, a1 = (i_l : Int) := ⟨a1.toNat, by omega⟩
      have hi6 : i_l < 6 := by omega
      obtain ⟨m_l, a_l, h3, hm_l, ha_l, ham, hh, hx⟩ := manv hJ h hi6 (by omega)
      have h8 : ∀ k, gI (gw u 217 0 0) 218 k = (fun k => gI u 218 k) k := fun k => m8 k
      have hS_l := Sg_R h.1
      have l4 := fun (x : Int) (j : Nat) (hj : j < 3) (e : x = (j : Int)) => mo_204 (V := fun k => gI u 218 k) (x := x) hr0 h8 hS_l hi6 hj h3 hm_l ha_l ham e
      have l5 := mo_205 (V := fun k => gI u 218 k) hr0 h8 hS_l hi6 h3 hm_l ha_l ham hh
      have b1 := sg_b (a := a_l) hS_l (j := 1) (by decide) (m_l - a_l) (by omega)
      have b2 := sg_b (a := a_l) hS_l (j := 2) (by decide) (m_l - a_l) (by omega)
      have b0 := sg_b (a := a_l) hS_l (j := 0) (by decide) (m_l - a_l) (by omega)
      have eo : 0 ≤ outF (fun k => gI u 218 k) i_l ∧ outF (fun k => gI u 218 k) i_l ≤ 800 := by
        unfold outF
        dsimp only
        rw [ha_l, h3, Int.toNat_natCast, Int.toNat_natCast]
        split
        · by_cases e : a_l + 1 ≤ m_l
          · have b3 := sg_b (a := a_l + 1) hS_l (j := 1) (by decide) (m_l - (a_l + 1)) (by omega)
            omega
          · rw [show m_l - (a_l + 1) = 0 by omega]
            exact ⟨Int.le_refl 0, (by decide : (0 : Int) ≤ 800)⟩
        · omega
      unfold fb_206_28
      dsimp only
      rw [m0, if_neg (by decide), hi_l, Int.toNat_natCast]
      have fin_l : ∀ (w_l : Int) (z_l : gS), gI z_l 217 0 = 0 → w_l = manG T (fun k => gI u 218 k) i_l a2 → gQ (some ((1, w_l, 0, z_l) : gO)) (fun q => ((0 ≤ (i_l : Int) ∧ (i_l : Int) < gI u 218 4) ∧ (0 ≤ a2 ∧ a2 ≤ 9) ∧ gI q.2.2.2 217 0 = 0 ∧ q.2.1 = manG T (fun k => gI u 218 k) i_l a2) ∨ (¬ (0 ≤ (i_l : Int) ∧ (i_l : Int) < gI u 218 4) ∧ gI q.2.2.2 217 0 = 1) ∨ ((0 ≤ (i_l : Int) ∧ (i_l : Int) < gI u 218 4) ∧ ¬ (0 ≤ a2 ∧ a2 ≤ 9) ∧ gI q.2.2.2 217 0 = 2)) := fun w_l z_l h0 hw => gQ_ret (Or.inl ⟨by omega, c2, h0, hw⟩)
      by_cases d0 : a2 < 6
      · rw [if_pos d0]
        refine gQ_w1 (A := fun v_l z_l => v_l = gI u 218 (40 + 6 * i_l + a2.toNat) ∧ z_l = gw u 217 0 0) (fun r_l hr2 => ?_) (fun v_l z_l hz => ?_)
        · obtain ⟨q1_l, q2_l⟩ := v156 (z := gw u 217 0 0) (j := a2.toNat) hr0 hi6 (by omega) (by omega) r_l hr2
          exact ⟨q1_l.trans (m8 _), q2_l⟩
        obtain ⟨y1, y2⟩ := hz
        rw [y1, y2]
        exact fin_l _ _ m0 (if_pos d0).symm
      rw [if_neg d0]
      by_cases d1 : a2 = 6
      · rw [if_pos d1]
        refine gQ_w1 (A := fun v_l z_l => v_l = T (fF (fun k => gI u 218 k) i_l) ∧ gI z_l 217 0 = 0) (fun r_l hr2 => ?_) (fun v_l z_l hz => fin_l _ _ hz.2 ?_)
        · have hg0 : RF (gw u 217 0 0) := RF_sm hg rfl
          obtain ⟨q1_l, q2_l⟩ := j_198 (law_M hJ hT (Fw_m0 hn)) ⟨hr0, (rr_217_7 hg0).2, (rr_217_14 hg0).2⟩ hi6 r_l hr2
          exact ⟨q2_l.trans (congrArg T (fF_e (fun k _ => m8 k) hi6)), (q1_l.2 217 0 (by decide) (by omega)).trans m0⟩
        · rw [hz.1]
          unfold manG
          rw [if_neg d0, if_pos d1]
      rw [if_neg d1]
      by_cases d2 : a2 = 7
      · rw [if_pos d2]
        refine gQ_w1 (A := fun v_l z_l => v_l = outF (fun k => gI u 218 k) i_l ∧ z_l = gw u 217 0 0) l5 (fun v_l z_l hz => ?_)
        obtain ⟨y1, y2⟩ := hz
        rw [y1, y2]
        refine fin_l _ _ m0 ?_
        unfold manG
        rw [if_neg d0, if_neg d1, if_pos d2]
      rw [if_neg d2]
      by_cases d3 : a2 = 8
      · rw [if_pos d3]
        refine gQ_w1 (A := fun v_l z_l => v_l = sgF (fun k => gI u 218 k) 0 a_l (m_l - a_l) ∧ z_l = gw u 217 0 0) (l4 0 0 (by decide) rfl) (fun v_l z_l hz => ?_)
        obtain ⟨y1, y2⟩ := hz
        rw [y1, y2]
        refine gQ_w1 (A := fun v_l z_l => v_l = gI u 218 (40 + 6 * i_l + 4) ∧ z_l = gw u 217 0 0) (fun r_l hr2 => ?_) (fun v_l z_l hz => ?_)
        · obtain ⟨q1_l, q2_l⟩ := v156 (z := gw u 217 0 0) (j := 4) hr0 hi6 (by decide) rfl r_l hr2
          exact ⟨q1_l.trans (m8 _), q2_l⟩
        obtain ⟨y3, y4⟩ := hz
        rw [y3, y4, g32_eq (by omega) (by omega)]
        refine fin_l _ _ m0 ?_
        unfold manG
        dsimp only
        rw [if_neg d0, if_neg d1, if_neg d2, if_pos d3, ha_l, h3, Int.toNat_natCast, Int.toNat_natCast]
      rw [if_neg d3]
      refine gQ_w1 (A := fun v_l z_l => v_l = sgF (fun k => gI u 218 k) 2 a_l (m_l - a_l) ∧ z_l = gw u 217 0 0) (l4 2 2 (by decide) rfl) (fun v_l z_l hz => ?_)
      obtain ⟨y1, y2⟩ := hz
      rw [y1, y2]
      refine gQ_w1 (A := fun v_l z_l => v_l = outF (fun k => gI u 218 k) i_l ∧ z_l = gw u 217 0 0) l5 (fun v_l z_l hz => ?_)
      obtain ⟨y3, y4⟩ := hz
      rw [y3, y4, g32_eq (by omega) (by omega)]
      refine fin_l _ _ m0 ?_
      unfold manG
      dsimp only
      rw [if_neg d0, if_neg d1, if_neg d2, if_neg d3, ha_l, h3, Int.toNat_natCast, Int.toNat_natCast]
    · rw [if_neg c2, if_pos rfl]
      unfold fb_206_28
      dsimp only
      rw [m0, if_pos (by decide)]
      exact gQ_ret (Or.inr (Or.inr ⟨c1_l, c2, m0⟩))
  · rw [if_pos rfl]
    unfold fb_206_28
    dsimp only
    rw [m0, if_pos (by decide)]
    exact gQ_ret (Or.inr (Or.inl ⟨c1_l, m0⟩))
theorem cl_out (hJ : J p s) (h : RX s) (hi : i < 6) (h4 : (i : Int) < gI s 218 4) : gQ (f_7 9 (21 + i) s) (fun r => r.2.1 = outF (fun k => gI s 218 k) i ∧ r.2.2.2 = s) := by
  obtain ⟨m_l, a_l, h3, hm_l, ha_l, ham, hh, hx⟩ := manv hJ h hi h4
  have e4_l : gI s (21 + i) 4 = gI s 218 (40 + 6 * i + 4) := xr h.2 (cjm hi (by decide)) (KK_m hi (by decide))
  have e3_l : gI s (21 + i) 3 = gI s 218 (40 + 6 * i + 3) := xr h.2 (cjm hi (by decide)) (KK_m hi (by decide))
  have eo : outF (fun k => gI s 218 k) i = (if 0 < gI s 218 (40 + 6 * i + 4) then sgF (fun k => gI s 218 k) 1 (a_l + 1) (m_l - (a_l + 1)) else sgF (fun k => gI s 218 k) 1 a_l (m_l - a_l)) := by
    unfold outF
    dsimp only
    rw [ha_l, h3, Int.toNat_natCast, Int.toNat_natCast]
  unfold f_7 fb_7_22
  rw [e4_l, e3_l, ha_l]
  by_cases c : 0 < gI s 218 (40 + 6 * i + 4)
  · rw [if_pos c] at eo ⊢
    rw [eo, show g32 ((a_l : Int) + 1) = ((a_l + 1 : Nat) : Int) from (g32_eq (by omega) (by omega)).trans (by omega)]
    exact cl_7 hJ h (by omega) h3 hm_l
  · rw [if_neg c] at eo ⊢
    rw [eo]
    exact cl_7 hJ h (by omega) h3 hm_l
theorem co_93 (hJ : J p s) (h : RX s) : gQ (f_93 0 a1 a2 s) (CoX st9 (f_206 217 a1 a2) s) := by
  have hg : RF s := hJ.1.2.1
  have hn := hJ.1.1
  have hv := (Jv hJ).2.1
  obtain ⟨T, hT_l⟩ := h.2.2.2.2
  unfold f_93
  refine n_gt (by decide) (n_135 hg h.1) (fun c1_l => ?_) (fun c1_l => ?_)
  · obtain ⟨i_l, hi_l⟩ : ∃ i_l : Nat, a1 = (i_l : Int) := ⟨a1.toNat, by omega⟩
    have hi6 : i_l < 6 := by omega
    have ei : a1.toNat = i_l := by omega
    obtain ⟨m_l, a_l, h3, hm_l, ha_l, ham, hh, hx⟩ := manv hJ h hi6 (by omega)
    have hS_l := Sg_R h.1
    have bad_l : ¬ (0 ≤ a2 ∧ a2 ≤ 9) → gQ (some ((4, 0, 0, gnw s 99) : gO)) (CoX st9 (f_206 217 a1 a2) s) := fun c2_l => by
      refine gQ_ret (fun u_l p hf hu hR q_l hq => ?_)
      rcases mo_206 hu hR (law_Q hJ hT_l hf) q_l hq with ⟨-, h1, -⟩ | ⟨h1, -⟩ | ⟨-, -, h1⟩
      · exact absurd h1 c2_l
      · rw [WQ_8 hn hf 4] at h1
        exact absurd c1_l h1
      · exact ⟨h1, fun z_l => by cases z_l⟩
    have key_l : (0 ≤ a2 ∧ a2 ≤ 9) → ∀ (w_l : Int) (z_l : gS), w_l = manG T (fun k_l => gI s 218 k_l) i_l a2 → CoX st9 (f_206 217 a1 a2) s (1, w_l, 0, z_l) := fun c2_l w_l z_l hw u_l p hf hu hR q_l hq => by
      rcases mo_206 hu hR (law_Q hJ hT_l hf) q_l hq with ⟨-, -, h1, h2⟩ | ⟨h1, -⟩ | ⟨-, h1, -⟩
      · refine ⟨h1, fun _ => ?_⟩
        rw [h2, RX_e8 hn hf, ei]
        exact hw.symm
      · rw [WQ_8 hn hf 4] at h1
        exact absurd c1_l h1
      · exact absurd c2_l h1
    have ec : ∀ j_l, j_l < 6 → gI s (21 + i_l) j_l = gI s 218 (40 + 6 * i_l + j_l) := fun j_l hj => xr h.2 (cjm hi6 hj) (KK_m hi6 hj)
    have cell_l : ∀ j_l : Nat, j_l < 6 → a2 = (j_l : Int) → gQ (some ((1, gI s (21 + i_l) j_l, 0, s) : gO)) (CoX st9 (f_206 217 a1 a2) s) := fun j_l hj e_l => gQ_ret (key_l (by omega) _ _ (by
      unfold manG
      rw [if_pos (by omega), show a2.toNat = j_l by omega]
      exact ec j_l hj))
    have b2 := sg_b (a := a_l) hS_l (j := 2) (by decide) (m_l - a_l) (by omega)
    refine gQ_chk ?_
    dsimp only
    rw [(rr_0_5 hg).2, (rr_15_0 hg).2, ei, rr_16 hg hi6, (rr_0_4 hg).2, (rr_0_1 hg).2]
    by_cases d : a2 < 0
    · rw [if_pos d]
      exact bad_l (by omega)
    rw [if_neg d]
    by_cases d0 : a2 < 1
    · rw [if_pos d0]
      exact cell_l 0 (by decide) (by omega)
    rw [if_neg d0]
    by_cases d1 : a2 < 2
    · rw [if_pos d1]
      exact cell_l 1 (by decide) (by omega)
    rw [if_neg d1]
    by_cases d2 : a2 < 3
    · rw [if_pos d2]
      exact cell_l 2 (by decide) (by omega)
    rw [if_neg d2]
    by_cases d3 : a2 < 4
    · rw [if_pos d3]
      exact cell_l 3 (by decide) (by omega)
    rw [if_neg d3]
    by_cases d4 : a2 < 5
    · rw [if_pos d4]
      exact cell_l 4 (by decide) (by omega)
    rw [if_neg d4]
    by_cases d5 : a2 < 6
    · rw [if_pos d5]
      exact cell_l 5 (by decide) (by omega)
    rw [if_neg d5]
    by_cases d6 : a2 < 7
    · rw [if_pos d6, hi_l]
      have hCr : Cr s 15 (fun k_l => gI s 218 k_l) := fun k_l hk => xk h.2 hk
      have mc_l : ∀ j_l, j_l < 6 → cv s 9 15 (40 + 6 * i_l + j_l) = gI s (15 + 6 + i_l) j_l := fun j_l hj => (xk h.2 (KK_m hi6 hj)).trans (rd_m (Or.inl rfl) hCr hi6 hj).symm
      refine gQ_w1 (A := fun v_l _ => v_l = T (fF (fun k_l => gI s 218 k_l) i_l)) (fun r_l hr => ?_) (fun v_l z_l hz => gQ_ret ?_)
      · obtain ⟨-, q2_l⟩ := q_34 (C := 15) (i := i_l) hT_l ⟨(rr_3_0 hg).2, (rr_3_1 hg).2⟩ (by rw [(rr_15_0 hg).2]; exact rr_16 hg hi6) (by decide) hi6 ⟨mc_l 0 (by decide), by rw [show 41 + 6 * i_l = 40 + 6 * i_l + 1 by omega]; exact mc_l 1 (by decide), by rw [show 43 + 6 * i_l = 40 + 6 * i_l + 3 by omega]; exact mc_l 3 (by decide), by rw [show 44 + 6 * i_l = 40 + 6 * i_l + 4 by omega]; exact mc_l 4 (by decide)⟩ ⟨rfl, rfl, rfl⟩ r_l hr
        exact q2_l.trans (congrArg T (fF_k (fun k_l hk => xk h.2 hk) hi6))
      · rw [← hi_l]
        refine key_l (by omega) _ _ ?_
        unfold manG
        rw [if_neg d5, if_pos (by omega)]
        exact hz
    rw [if_neg d6]
    by_cases d7 : a2 < 8
    · rw [if_pos d7]
      refine gQ_w1 (A := fun v_l z_l => v_l = outF (fun k_l => gI s 218 k_l) i_l ∧ z_l = s) (cl_out hJ h hi6 (by omega)) (fun v_l z_l hz => gQ_ret (key_l (by omega) _ _ ?_))
      unfold manG
      rw [if_neg d5, if_neg (by omega), if_pos (by omega)]
      exact hz.1
    rw [if_neg d7]
    by_cases d8 : a2 < 9
    · rw [if_pos d8]
      refine gQ_w1 (A := fun v_l z_l => v_l = sgF (fun k_l => gI s 218 k_l) 0 a_l (m_l - a_l) - gI s 218 (40 + 6 * i_l + 4) ∧ z_l = s) ?_ (fun v_l z_l hz => gQ_ret (key_l (by omega) _ _ ?_))
      · unfold f_8
        dsimp only
        rw [ec 4 (by decide), ec 3 (by decide), ha_l, show g32 (-gI s 218 (40 + 6 * i_l + 4)) = -gI s 218 (40 + 6 * i_l + 4) from g32_eq (by omega) (by omega)]
        exact cl_8 hJ h ham h3 hm_l hx
      · unfold manG
        dsimp only
        rw [if_neg d5, if_neg (by omega), if_neg (by omega), if_pos (by omega), ha_l, h3, Int.toNat_natCast, Int.toNat_natCast]
        exact hz.1
    rw [if_neg d8]
    by_cases d9 : a2 < 10
    · rw [if_pos d9]
      refine gQ_w1 (A := fun v_l z_l => v_l = sgF (fun k_l => gI s 218 k_l) 2 a_l (m_l - a_l) ∧ z_l = s) ?_ (fun v_l z_l hz => ?_)
      · unfold f_9
        rw [ec 3 (by decide), ha_l]
        exact cl_9 hJ h ham h3 hm_l
      obtain ⟨y1, y2⟩ := hz
      rw [y1, y2, (rr_0_4 hg).2]
      refine gQ_w1 (A := fun v_l z_l => v_l = outF (fun k_l => gI s 218 k_l) i_l ∧ z_l = s) (cl_out hJ h hi6 (by omega)) (fun v_l z_l hz => gQ_ret (key_l (by omega) _ _ ?_))
      have eo : 0 ≤ outF (fun k_l => gI s 218 k_l) i_l ∧ outF (fun k_l => gI s 218 k_l) i_l ≤ 800 := by
        unfold outF
        dsimp only
        rw [ha_l, h3, Int.toNat_natCast, Int.toNat_natCast]
        have b1 := sg_b (a := a_l) hS_l (j := 1) (by decide) (m_l - a_l) (by omega)
        split
        · by_cases e_l : a_l + 1 ≤ m_l
          · have b3 := sg_b (a := a_l + 1) hS_l (j := 1) (by decide) (m_l - (a_l + 1)) (by omega)
            omega
          · rw [show m_l - (a_l + 1) = 0 by omega]
            exact ⟨Int.le_refl 0, (by decide : (0 : Int) ≤ 800)⟩
        · omega
      unfold manG
      dsimp only
      rw [if_neg d5, if_neg (by omega), if_neg (by omega), if_neg (by omega), ha_l, h3, Int.toNat_natCast, Int.toNat_natCast, hz.1]
      exact g32_eq (by omega) (by omega)
    · rw [if_neg d9]
      exact bad_l (by omega)
  · intro u_l p hf hu hR q_l hq
    rcases mo_206 hu hR (law_Q hJ hT_l hf) q_l hq with ⟨h1, -⟩ | ⟨-, h1⟩ | ⟨h1, -⟩
    · rw [WQ_8 hn hf 4] at h1
      exact absurd h1 c1_l
    · exact ⟨h1, fun z_l => by cases z_l⟩
    · rw [WQ_8 hn hf 4] at h1
      exact absurd h1 c1_l
theorem xc_279 (hJ : J p s) (h : RX s) : gQ (f_279 0 a1 a2 231 s) (fun r => Xc (f_206 217 a1 a2) r.2.1 r.2.2.2) := by
  unfold f_279
  refine xc2 (st := st9) (fun _ => True) hJ.1.1 (co_93 hJ h) (fun r hr => o_93 hJ.1.2.1 cid rfl (Fw_rf hJ.1.1) r hr) (fun _ _ _ => trivial) rfl (fun v_l t_l _ => aX trivial) (fun k_l t_l => ?_) (fun u_l p hu _ q_l hq => (om_206 hu.1.2.1 um rfl (JF hu) q_l hq).2.2 231 0 (Nat.lt_of_lt_of_le (by decide) hu.1.1) rfl)
  by_cases c0 : k_l = 3
  · rw [if_pos c0, c0]
    exact gQ_ret ⟨rfl, (by decide : (1 : Int) ≠ 0), rfl⟩
  rw [if_neg c0]
  by_cases c1 : k_l = 2
  · rw [if_pos c1, c1]
    exact gQ_ret ⟨rfl, (by decide : (2 : Int) ≠ 0), rfl⟩
  rw [if_neg c1]
  exact gQ_none
end Qi

end
section
section Qj
variable {s t u g z : gS} {p : gP} {a1 a2 a3 v d lu x y : Int} {a k i j n m : Nat} {V W P : Nat → Int}
end Qj

end
section
section Qk
variable {s t u g z : gS} {p : gP} {a1 a2 a3 v d lu x y M : Int} {a b k i j n m N : Nat} {V W P : Nat → Int}
end Qk

end
