/-! a row more in the log, on both sides -/
noncomputable def lgL (d x w y : Int) (L : Nat → Nat → Int) (i j : Nat) : Int := if i = 0 then (if j = 0 then d else if j = 1 then x else if j = 2 then w else y) else L (i - 1) j
section Lg
variable {s t u : gS} {i m k a : Nat} {V W : Nat → Int} {L : Nat → Nat → Int} {d x w y v : Int} {R O k0 j : Nat}
theorem rgw {b : Nat} : gR (gw s a k v) b j = gR s b j := rfl
theorem b_55 (hm : m < 60) (h1 : gI t 19 1 = (m : Int)) (hr : gR t 19 0 = 20) : gQ (fb_55_31 19 d x w y t) (fun r => Sm t r.2.2.2 ∧ gI r.2.2.2 19 1 = (m : Int) + 1 ∧ (∀ j, j < 4 → gI r.2.2.2 20 (4 * m + j) = if j = 0 then d else if j = 1 then x else if j = 2 then w else y) ∧ ∀ a k, ¬ (a = 20 ∧ 4 * m ≤ k ∧ k < 4 * m + 4) → ¬ (a = 19 ∧ k = 1) → gI r.2.2.2 a k = gI t a k) := by
  have e0_l : g32 ((m : Int) * 4) = ((4 * m : Nat) : Int) := by
    rw [g32_eq (by omega) (by omega)]
    omega
  have e1_l : g32 (((4 * m : Nat) : Int) + 1) = ((4 * m + 1 : Nat) : Int) := by
    rw [g32_eq (by omega) (by omega)]
    omega
  have e2_l : g32 (((4 * m : Nat) : Int) + 2) = ((4 * m + 2 : Nat) : Int) := by
    rw [g32_eq (by omega) (by omega)]
    omega
  have e3_l : g32 (((4 * m : Nat) : Int) + 3) = ((4 * m + 3 : Nat) : Int) := by
    rw [g32_eq (by omega) (by omega)]
    omega
  have e4_l : g32 ((m : Int) + 1) = (m : Int) + 1 := g32_eq (by omega) (by omega)
  have e9_l : ∀ (q : gS) (k : Nat) (v : Int), gI (gw q 20 k v) 19 1 = gI q 19 1 := fun _ _ _ => rd_a rfl (by decide)
  unfold fb_55_31
  dsimp only
  simp only [h1, e0_l, e1_l, e2_l, e3_l, Int.toNat_natCast, rgw, hr]
  refine gQ_chk (gQ_chk (gQ_chk (gQ_chk (gQ_ret ⟨⟨rfl, rfl, rfl⟩, ?_, fun j hj => ?_, fun a k ha_l hb_l => ?_⟩))))
  · dsimp only
    rw [rd_same rfl, e9_l, e9_l, e9_l, e9_l, h1, e4_l]
  · dsimp only
    rw [rd_a (a := 20) rfl (by decide)]
    simp only [rdw]
    have hj4 : j = 0 ∨ j = 1 ∨ j = 2 ∨ j = 3 := by omega
    rcases hj4 with rfl | rfl | rfl | rfl
    · rw [if_neg (by omega), if_neg (by omega), if_neg (by omega), if_pos ⟨trivial, by omega⟩, if_pos rfl]
    · rw [if_neg (by omega), if_neg (by omega), if_pos ⟨trivial, by omega⟩, if_neg (by decide), if_pos rfl]
    · rw [if_neg (by omega), if_pos ⟨trivial, by omega⟩, if_neg (by decide), if_neg (by decide), if_pos rfl]
    · rw [if_pos ⟨trivial, by omega⟩, if_neg (by decide), if_neg (by decide), if_neg (by decide)]
  · dsimp only
    simp only [rdw]
    rw [if_neg hb_l, if_neg (by omega), if_neg (by omega), if_neg (by omega), if_neg (by omega)]
theorem c15_20 : ∀ k, k < 100 → (k ≠ 1 ∧ k ≠ 2 ∧ k ≠ 15) → pa 9 15 k ≠ 20 ∧ (pa 9 15 k = 19 ∧ pj k = 1 ↔ k = 13) := by decide +kernel
/-- the class's log -/
theorem ct_55 (hg : RF s) (h : Csw s 9 15 V L) (h13 : 0 ≤ V 13 ∧ V 13 ≤ 60) : gQ (f_55 19 d x w y s) (fun r => Csw r.2.2.2 9 15 (up V 13 (min 60 (V 13 + 1))) (lgL d x w y L) ∧ Sm s r.2.2.2 ∧ ∀ a k, a ≠ 20 → ¬ (a = 19 ∧ k = 1) → gI r.2.2.2 a k = gI s a k) := by
  have e13_l : gI s 19 1 = V 13 := h.1 13 (by unfold KK; decide)
  have hr : gR s 19 0 = 20 := (rr_19_0 hg).2
  have fin_l : ∀ (t_l : gS) (m_l : Nat), m_l < 60 → gI t_l 19 1 = (m_l : Int) → ((m_l : Int) + 1 = min 60 (V 13 + 1)) → Sm s t_l → (∀ a k, a ≠ 20 → ¬ (a = 19 ∧ k = 1) → gI t_l a k = gI s a k) → (∀ i_l j_l : Nat, i_l < m_l → j_l < 4 → gI t_l 20 (4 * (m_l - 1 - i_l) + j_l) = L i_l j_l) → gQ (fb_55_31 19 d x w y t_l) (fun r => Csw r.2.2.2 9 15 (up V 13 (min 60 (V 13 + 1))) (lgL d x w y L) ∧ Sm s r.2.2.2 ∧ ∀ a k, a ≠ 20 → ¬ (a = 19 ∧ k = 1) → gI r.2.2.2 a k = gI s a k) := by
    intro t_l m_l hm_l ht hv hs ho hl r hr2
    have tr_l : gR t_l 19 0 = 20 := by
      show t_l.2.2.2 19 0 = 20
      rw [hs.2.2]
      exact hr
    obtain ⟨b1, b2, b3, b4⟩ := b_55 hm_l ht tr_l r hr2
    refine ⟨⟨fun k hk => ?_, fun i_l j_l hi_l hj => ?_⟩, ⟨b1.1.trans hs.1, b1.2.1.trans hs.2.1, b1.2.2.trans hs.2.2⟩, fun a k ha_l hz => (b4 a k (fun z_l => ha_l z_l.1) hz).trans (ho a k ha_l hz)⟩
    · obtain ⟨c1_l, c2_l⟩ := c15_20 k hk.1 hk.2
      by_cases ck : k = 13
      · subst ck
        rw [up_s, ← hv]
        exact b2
      · rw [up_n ck]
        refine Eq.trans ?_ (h.1 k hk)
        show gI r.2.2.2 (pa 9 15 k) (pj k) = gI s (pa 9 15 k) (pj k)
        rw [b4 _ _ (fun z_l => c1_l z_l.1) (fun z_l => ck (c2_l.mp z_l))]
        exact ho _ _ c1_l (fun z_l => ck (c2_l.mp z_l))
    · rw [up_s, ← hv] at hi_l ⊢
      have en : ((m_l : Int) + 1).toNat = m_l + 1 := by omega
      rw [en]
      unfold lgL
      by_cases ci : i_l = 0
      · rw [if_pos ci, show 4 * (m_l + 1 - 1 - i_l) + j_l = 4 * m_l + j_l by omega]
        exact b3 j_l hj
      · rw [if_neg ci, show 4 * (m_l + 1 - 1 - i_l) + j_l = 4 * (m_l - 1 - (i_l - 1)) + j_l by omega]
        rw [show (15 : Nat) + 5 = 20 from rfl, b4 20 _ (by omega) (by omega)]
        exact hl (i_l - 1) j_l (by omega) hj
  unfold f_55
  rw [e13_l, hr]
  by_cases c : V 13 < 60
  · rw [if_pos c]
    refine fin_l s (V 13).toNat (by omega) (by rw [e13_l]; omega) (by omega) ⟨rfl, rfl, rfl⟩ (fun _ _ _ _ => rfl) (fun i_l j_l hi_l hj => ?_)
    exact h.2 i_l j_l (by omega) hj
  · rw [if_neg c]
    dsimp only
    refine fin_l _ 59 (by decide) (rd_same rfl) (by omega) ⟨rfl, rfl, rfl⟩ (fun a k ha_l hz => ?_) (fun i_l j_l hi_l hj => ?_)
    · show (if a = 19 ∧ k = 1 then _ else if a = 20 ∧ 0 ≤ k ∧ k < 0 + 236 then _ else gI s a k) = _
      rw [if_neg hz, if_neg (fun z_l => ha_l z_l.1)]
    · show (if (20 : Nat) = 19 ∧ 4 * (59 - 1 - i_l) + j_l = 1 then (59 : Int) else if (20 : Nat) = 20 ∧ 0 ≤ 4 * (59 - 1 - i_l) + j_l ∧ 4 * (59 - 1 - i_l) + j_l < 0 + 236 then gI s 20 (4 + (4 * (59 - 1 - i_l) + j_l - 0)) else gI s 20 (4 * (59 - 1 - i_l) + j_l)) = _
      rw [if_neg (by omega), if_pos ⟨rfl, by omega, by omega⟩]
      have h9 := h.2 i_l j_l (by omega) hj
      rw [show (V 13).toNat = 60 by omega] at h9
      rw [show 4 + (4 * (59 - 1 - i_l) + j_l - 0) = 4 * (60 - 1 - i_l) + j_l by omega]
      exact h9
/-- the model's log -/
theorem mt_210 (hg : RF s) (h : Msw s 218 0 V L) (h13 : 0 ≤ V 13 ∧ V 13 ≤ 60) (hi : i < 6) : gQ (f_210 217 (i : Int) w s) (fun r => Msw r.2.2.2 218 0 (up V 13 (min 60 (V 13 + 1))) (lgL (V 7) (i : Int) w (V (40 + 6 * i)) L) ∧ Sm s r.2.2.2 ∧ ∀ a k, ¬ (a = 218 ∧ (k = 13 ∨ (100 ≤ k ∧ k < 340))) → gI r.2.2.2 a k = gI s a k) := by
  have r1_l : gR s 217 1 = 218 := (rr_217_1 hg).2
  have hc_l : ∀ k, KK k → gI s 218 k = V k := fun k hk => by
    have := h.1 k hk
    rw [Nat.zero_add] at this
    exact this
  unfold f_210
  refine gQ_loop (fun y_l => (y_l.1 = 217 ∧ y_l.2.1 = (i : Int) ∧ y_l.2.2.1 = w) ∧ (3 ≤ y_l.2.2.2.1 ∧ y_l.2.2.2.1 ≤ 239) ∧ Sm s y_l.2.2.2.2 ∧ (∀ q_l : Nat, y_l.2.2.2.1 < (q_l : Int) → q_l < 240 → gI y_l.2.2.2.2 218 (100 + q_l) = gI s 218 (100 + q_l - 4)) ∧ (∀ q_l : Nat, (q_l : Int) ≤ y_l.2.2.2.1 → gI y_l.2.2.2.2 218 (100 + q_l) = gI s 218 (100 + q_l)) ∧ ∀ a k, ¬ (a = 218 ∧ 100 ≤ k ∧ k < 340) → gI y_l.2.2.2.2 a k = gI s a k) (fun z_l hz => ?_) ⟨⟨rfl, rfl, rfl⟩, ⟨(by decide : (3 : Int) ≤ 239), Int.le_refl 239⟩, ⟨rfl, rfl, rfl⟩, fun q_l h1 h2 => by dsimp only at h1; omega, fun _ _ => rfl, fun _ _ _ => rfl⟩
  obtain ⟨x0_l, x1_l, x2_l, x3, y1⟩ := z_l
  obtain ⟨⟨q0, q1_l, q2_l⟩, hb_l, hs, h5, h6, h7⟩ := hz
  dsimp only at q0 q1_l q2_l hb_l hs h5 h6 h7
  subst q0 q1_l q2_l
  have t1_l : gR y1 217 1 = 218 := by
    show y1.2.2.2 217 1 = 218
    rw [hs.2.2]
    exact r1_l
  show gQ (sb_210_4 217 (i : Int) x2_l x3 y1) _
  unfold sb_210_4
  by_cases c : x3 < 4
  · rw [if_pos c]
    refine gQ_map ?_
    dsimp only
    simp only [rgw, t1_l]
    have e7_l : gI y1 218 7 = V 7 := (h7 218 7 (by omega)).trans (hc_l 7 (by unfold KK; decide))
    rw [e7_l]
    have hw1 : ∀ k, k < 100 → gI (gw (gw (gw y1 218 100 (V 7)) 218 101 (i : Int)) 218 102 x2_l) 218 k = gI s 218 k := fun k hk => by
      rw [rd_k rfl (by omega), rd_k rfl (by omega), rd_k rfl (by omega)]
      exact h7 218 k (by omega)
    refine gQ_w1 (A := fun v_l z_l => v_l = V (40 + 6 * i) ∧ z_l = gw (gw (gw y1 218 100 (V 7)) 218 101 (i : Int)) 218 102 x2_l) (fun r hr => ?_) (fun v_l z_l hz => ?_)
    · obtain ⟨e1_l, e2_l⟩ := m_156 (hr := by simp only [rgw]; exact t1_l) (by omega) (by decide) r hr
      rw [Int.toNat_natCast, show (0 : Int).toNat = 0 from rfl, Nat.add_zero, hw1 _ (by omega), hc_l _ (by unfold KK; omega)] at e1_l
      exact ⟨e1_l, e2_l⟩
    · obtain ⟨z1, z2⟩ := hz
      rw [z1, z2]
      have e13_l : gI (gw (gw (gw (gw y1 218 100 (V 7)) 218 101 (i : Int)) 218 102 x2_l) 218 103 (V (40 + 6 * i))) 218 13 = V 13 := by
        rw [rd_k rfl (by decide), hw1 13 (by decide)]
        exact hc_l 13 (by unfold KK; decide)
      simp only [rgw, t1_l]
      rw [e13_l, g32_eq (v := V 13 + 1) (by omega) (by omega)]
      refine gQ_w1 (A := fun v_l z_l => v_l = min 60 (V 13 + 1) ∧ z_l = gw (gw (gw (gw y1 218 100 (V 7)) 218 101 (i : Int)) 218 102 x2_l) 218 103 (V (40 + 6 * i))) dm_151 (fun v2 z2 hz2 => ?_)
      obtain ⟨p1_l, p2_l⟩ := hz2
      rw [p1_l, p2_l]
      refine gQ_ret ⟨⟨fun k hk => ?_, fun a j_l ha_l hj => ?_⟩, ⟨hs.1, hs.2.1, hs.2.2⟩, fun a k hak => ?_⟩
      · rw [Nat.zero_add]
        dsimp only
        by_cases ck : k = 13
        · rw [ck, up_s, rd_same rfl]
        · rw [up_n ck, rd_k rfl ck, rd_k rfl (by have := hk.1; omega), hw1 k hk.1]
          exact hc_l k hk
      · rw [up_s] at ha_l
        dsimp only
        rw [rd_k rfl (by omega), Nat.zero_add]
        unfold lgL
        simp only [rdw]
        by_cases ca : a = 0
        · rw [if_pos ca]
          have hj4 : j_l = 0 ∨ j_l = 1 ∨ j_l = 2 ∨ j_l = 3 := by omega
          rcases hj4 with rfl | rfl | rfl | rfl
          · rw [if_neg (by omega), if_neg (by omega), if_neg (by omega), if_pos ⟨trivial, by omega⟩, if_pos rfl]
          · rw [if_neg (by omega), if_neg (by omega), if_pos ⟨trivial, by omega⟩, if_neg (by decide), if_pos rfl]
          · rw [if_neg (by omega), if_pos ⟨trivial, by omega⟩, if_neg (by decide), if_neg (by decide), if_pos rfl]
          · rw [if_pos ⟨trivial, by omega⟩, if_neg (by decide), if_neg (by decide), if_neg (by decide)]
        · rw [if_neg ca, if_neg (by omega), if_neg (by omega), if_neg (by omega), if_neg (by omega)]
          have h9 := h5 (4 * a + j_l) (by omega) (by omega)
          rw [show 100 + 4 * a + j_l = 100 + (4 * a + j_l) by omega, h9, ← h.2 (a - 1) j_l (by omega) hj]
          congr 1
          omega
      · dsimp only
        simp only [rdw]
        rw [if_neg (by omega), if_neg (by omega), if_neg (by omega), if_neg (by omega), if_neg (by omega)]
        exact h7 a k (by omega)
  · rw [if_neg c, t1_l, g32_eq (v := 100 + x3) (by omega) (by omega), g32_eq (v := 100 + x3 - 4) (by omega) (by omega), g32_eq (v := x3 + -1) (by omega) (by omega)]
    have n1_l : (100 + x3).toNat = 100 + x3.toNat := by omega
    have n2_l : (100 + x3 - 4).toNat = 100 + (x3.toNat - 4) := by omega
    rw [n1_l, n2_l]
    refine gQ_chk (gQ_chk (gQ_ret ⟨⟨rfl, rfl, rfl⟩, by dsimp only; omega, hs, fun q_l h8 h9 => ?_, fun q_l h8 => ?_, fun a k hak => ?_⟩))
    · dsimp only at h8 ⊢
      show (if 218 = 218 ∧ 100 + q_l = 100 + x3.toNat then gI y1 218 (100 + (x3.toNat - 4)) else gI y1 218 (100 + q_l)) = _
      by_cases cq : q_l = x3.toNat
      · rw [if_pos ⟨rfl, by omega⟩, h6 _ (by omega), cq]
        congr 1
        omega
      · rw [if_neg (by omega)]
        exact h5 q_l (by omega) h9
    · dsimp only at h8 ⊢
      show (if 218 = 218 ∧ 100 + q_l = 100 + x3.toNat then gI y1 218 (100 + (x3.toNat - 4)) else gI y1 218 (100 + q_l)) = _
      rw [if_neg (by omega)]
      exact h6 q_l (by omega)
    · dsimp only
      show (if a = 218 ∧ k = 100 + x3.toNat then gI y1 218 (100 + (x3.toNat - 4)) else gI y1 a k) = _
      rw [if_neg (by omega)]
      exact h7 a k hak
end Lg
