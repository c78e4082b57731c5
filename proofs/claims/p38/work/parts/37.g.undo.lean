section Un
variable {s t : gS} {p : gP}
theorem Rt_acted {A : Int} (h : Rt s) (hA : 0 ≤ A ∧ A ≤ gI s 217 6) : Rt (gw s 217 6 A) := by
  have h8 := h.2.2.2.2
  refine rt_m h (fun a_l k_l ha_l hz => ?_) ⟨?_, fun j_l hj k_l hk hm_l => ?_⟩
  · show (if a_l = 217 ∧ k_l = 6 then _ else gI s a_l k_l) = _
    rw [if_neg hz]
  · rw [rd_same rfl]
    omega
  · rw [rd_same rfl] at hj
    rw [rd_a (a := 221) rfl (by decide), rd_a (a := 218) rfl (by decide)]
    exact h8.2 j_l (by omega) k_l hk hm_l
theorem WR_8 {k : Nat} (h : mnt k = true) : WR 218 k = true := umd _ _ (msd_8 h)
theorem rt_260 {a0 : Nat} (hg : RF s) (hn : 232 ≤ gn s) (e0 : a0 = 217) (h : Rt s) : gQ (f_260 a0 s) (fun r => Rt r.2.2.2) := by
  subst e0
  have hh := Rt_fw h (Fw_0 (w0 := 0) hn)
  have e6_l : gI (gw s 217 0 0) 217 6 = gI s 217 6 := rd_k (a := 217) (k := 6) rfl (by decide)
  have h8 := h.2.2.2.2
  have r1_l : gR s 217 1 = 218 := (rr_217_1 hg).2
  have r5_l : gR s 217 5 = 221 := (rr_217_5 hg).2
  unfold f_260
  dsimp only
  rw [e6_l]
  by_cases c0 : gI s 217 6 = 0
  · rw [if_pos c0]
    exact gQ_ret hh
  rw [if_neg c0, g32_eq (v := gI s 217 6 - 1) (by omega) (by omega)]
  have hR : Rt (gw (gw s 217 0 0) 217 6 (gI s 217 6 - 1)) := Rt_acted hh (by rw [e6_l]; omega)
  have s6_l : gI (gw (gw s 217 0 0) 217 6 (gI s 217 6 - 1)) 217 6 = gI s 217 6 - 1 := rd_same rfl
  have hc_l : ∀ k_l, gI (gw (gw s 217 0 0) 217 6 (gI s 217 6 - 1)) 218 k_l = gI s 218 k_l ∧ gI (gw (gw s 217 0 0) 217 6 (gI s 217 6 - 1)) 221 k_l = gI s 221 k_l := fun k_l => ⟨(rd_a rfl (by decide)).trans (rd_a rfl (by decide)), (rd_a rfl (by decide)).trans (rd_a rfl (by decide))⟩
  have hn2 : 232 ≤ gn (gw (gw s 217 0 0) 217 6 (gI s 217 6 - 1)) := hn
  have b1 : gR (gw (gw s 217 0 0) 217 6 (gI s 217 6 - 1)) 217 1 = 218 := r1_l
  have b5 : gR (gw (gw s 217 0 0) 217 6 (gI s 217 6 - 1)) 217 5 = 221 := r5_l
  generalize gw (gw s 217 0 0) 217 6 (gI s 217 6 - 1) = t at *
  refine gQ_loop (fun y_l => y_l.1 = 217 ∧ (0 ≤ y_l.2.1 ∧ y_l.2.1 ≤ 340) ∧ Fw WR t y_l.2.2 ∧ gI y_l.2.2 217 6 = gI t 217 6 ∧ (∀ k_l, gI y_l.2.2 221 k_l = gI t 221 k_l)) (fun y_l hy => ?_) ⟨rfl, ⟨Int.le_refl 0, (by decide : (0 : Int) ≤ 340)⟩, Fw_rf hn2, rfl, fun _ => rfl⟩
  obtain ⟨x0_l, x1_l, y1⟩ := y_l
  obtain ⟨q0, hb_l, h5, h6, h7⟩ := hy
  dsimp only at q0 hb_l h5 h6 h7
  subst q0
  have t1_l : gR y1 217 1 = 218 := (h5.2.1 217 1 (Nat.lt_of_lt_of_le (by decide) h5.1.1)).trans b1
  have t5_l : gR y1 217 5 = 221 := (h5.2.1 217 5 (Nat.lt_of_lt_of_le (by decide) h5.1.1)).trans b5
  show gQ (sb_260_26 217 x1_l y1) _
  unfold sb_260_26
  by_cases c : x1_l < 340
  · have hA : 0 ≤ gI s 217 6 - 1 ∧ gI s 217 6 - 1 ≤ 11 := by omega
    rw [if_pos c, t1_l, t5_l, h6, s6_l, g32_eq (v := 340 * (gI s 217 6 - 1)) (by omega) (by omega), g32_eq (v := 340 * (gI s 217 6 - 1) + x1_l) (by omega) (by omega), g32_eq (v := x1_l + 1) (by omega) (by omega)]
    have hv : (340 * (gI s 217 6 - 1) + x1_l).toNat = 340 * (gI s 217 6 - 1).toNat + x1_l.toNat := by omega
    have e21_l : gI y1 221 (340 * (gI s 217 6 - 1) + x1_l).toNat = gI s 221 (340 * (gI s 217 6 - 1).toNat + x1_l.toNat) := by rw [h7, (hc_l _).2, hv]
    refine gQ_chk (gQ_chk (gQ_ret ⟨rfl, by dsimp only; omega, ?_, (rd_a (a := 217) rfl (by decide)).trans (h6.trans s6_l), fun k_l => (rd_a (a := 221) rfl (by decide)).trans (h7 k_l)⟩))
    dsimp only
    rw [e21_l]
    cases hm : mnt x1_l.toNat with
    | true => exact Fw_wv h5 (WR_8 hm)
    | false =>
      have e8 := h8.2 (gI s 217 6 - 1).toNat (by omega) x1_l.toNat (by omega) hm
      refine ⟨h5.1, h5.2.1, fun a_l k_l ha_l hf => ?_⟩
      show (if a_l = 218 ∧ k_l = x1_l.toNat then _ else gI y1 a_l k_l) = _
      by_cases ck : a_l = 218 ∧ k_l = x1_l.toNat
      · rw [if_pos ck, e8, ck.1, ck.2]
        exact (hc_l _).1.symm
      · rw [if_neg ck]
        exact h5.2.2 a_l k_l ha_l hf
  · rw [if_neg c]
    exact gQ_map (gQ_ret (Rt_fw hR h5))
end Un
