section Bh
variable {s s' : gS} {L : Nat → Int} {e f a : Nat}
theorem w_176 {w : Nat} (hw1 : 1 ≤ (gtx w).length) (hM : Mp s L e) (ha : gI s 217 11 = (a : Int)) (hae : a ≤ e) (hw : gI s 217 12 = -1) (hf : f = sk L e a) : gT (f_176 217 w s) (fun r => r.1 = 1 ∧ Fm s r.2.2.2 ∧ ((Wd L e w f ∧ Tr L e (nx L e f) ∧ r.2.1 = tbs L (nx L e f) (lr L e (nx L e f) - nx L e f) ∧ gI r.2.2.2 217 12 = -1 ∧ gI r.2.2.2 217 11 = ((lr L e (nx L e f) : Nat) : Int)) ∨ (¬ Wd L e w f ∧ gI r.2.2.2 217 12 = (f : Int)) ∨ (Wd L e w f ∧ ¬ Tr L e (nx L e f) ∧ gI r.2.2.2 217 12 = ((nx L e f : Nat) : Int)))) := by
  have hsk := sk_b (L := L) (e := e) (a := a) hae
  have h400 := hM.1.2
  unfold f_176
  rw [if_pos hw]
  refine gT_v1 (A := fun v_l u_l => Fm s u_l ∧ gI u_l 217 12 = gI s 217 12 ∧ ((v_l = 1 ∧ Wd L e w (sk L e a) ∧ gI u_l 217 11 = ((sk L e a + (gtx w).length : Nat) : Int)) ∨ (v_l = 0 ∧ ¬ Wd L e w (sk L e a) ∧ gI u_l 217 11 = ((sk L e a : Nat) : Int)))) (w_171 hw1 hM ha hae) (fun v2 s1_l h1 => ?_)
  rw [← hf] at h1 hsk
  obtain ⟨hf1, hw2, h1⟩ := h1
  have hM1 := Mp_fr hM hf1
  refine gT_ite (fun h0 => ?_) (fun h0 => ?_)
  · rcases h1 with ⟨z_l, -⟩ | ⟨-, hn, hb_l⟩
    · omega
    refine gT_v0 (A := fun u_l => Fm s1_l u_l ∧ gI u_l 217 11 = gI s1_l 217 11 ∧ gI u_l 217 12 = if gI s1_l 217 12 = -1 then gI s1_l 217 11 else gI s1_l 217 12) w_172 (fun s4_l h4 => ?_)
    have h12 : gI s4_l 217 12 = (f : Int) := by rw [h4.2.2, if_pos (hw2.trans hw), hb_l]
    unfold fb_176_24
    rw [if_neg (by omega)]
    exact gT_ret ⟨rfl, Fm_t hf1 h4.1, Or.inr (Or.inl ⟨hn, h12⟩)⟩
  · rcases h1 with ⟨-, hwd, hb_l⟩ | ⟨z_l, -⟩
    · have en1 := en_w hw1 hwd
      have enb := en_b (L := L) (e := e) (f := f) hsk.2
      have hnx : nx L e f = sk L e (f + (gtx w).length) := by unfold nx; rw [en1.1]
      refine gT_mono (w176_b hM1 hb_l (by omega) (hw2.trans hw) hnx) (fun r hr => ?_)
      rcases hr with ⟨h9, hf6, ⟨k1_l, k2_l, k3_l, k4_l⟩ | ⟨k1_l, k2_l⟩⟩
      · exact ⟨h9, Fm_t hf1 hf6, Or.inl ⟨hwd, k1_l, k2_l, k3_l, k4_l⟩⟩
      · exact ⟨h9, Fm_t hf1 hf6, Or.inr (Or.inr ⟨hwd, k1_l, k2_l⟩)⟩
    · omega
theorem v_14 {w : Nat} (hw1 : 1 ≤ (gtx w).length) (h : At s L e f) (h6 : gR s 6 0 = 1) : gT (f_14 6 w s) (fun r => r.1 = 1 ∧ Fr s r.2.2.2 ∧ ((Wd L e w f ∧ Tr L e (nx L e f) ∧ r.2.1 = tbs L (nx L e f) (lr L e (nx L e f) - nx L e f) ∧ At r.2.2.2 L e (nx L e (nx L e f))) ∨ (¬ Wd L e w f ∧ r.2.1 = -1 ∧ At r.2.2.2 L e f) ∨ (Wd L e w f ∧ ¬ Tr L e (nx L e f) ∧ r.2.1 = -1 ∧ At r.2.2.2 L e (nx L e f)))) := by
  unfold f_14
  rw [h6]
  refine gT_v1 (A := fun v_l u_l => Fr s u_l ∧ ((v_l = 1 ∧ Wd L e w f ∧ At u_l L e (nx L e f)) ∨ (v_l = 0 ∧ ¬ Wd L e w f ∧ At u_l L e f))) (v_82 hw1 h) (fun v2 s1_l h1 => ?_)
  obtain ⟨hf1, h1⟩ := h1
  refine gT_ite (fun h0 => ?_) (fun h0 => ?_)
  · rcases h1 with ⟨z_l, -⟩ | ⟨-, hn, hA⟩
    · omega
    exact gT_ret ⟨rfl, hf1, Or.inr (Or.inl ⟨hn, rfl, hA⟩)⟩
  · rcases h1 with ⟨-, hwd, hA⟩ | ⟨z_l, -⟩
    · rw [(hf1.1.2.2 6 0).trans h6]
      refine gT_v1 (A := fun v_l u_l => Fr s1_l u_l ∧ ((Tr L e (nx L e f) ∧ v_l = tbs L (nx L e f) (lr L e (nx L e f) - nx L e f) ∧ At u_l L e (nx L e (nx L e f))) ∨ (¬ Tr L e (nx L e f) ∧ v_l = -1 ∧ At u_l L e (nx L e f)))) (v_85 hA) (fun v5 s4_l h4 => ?_)
      rcases h4 with ⟨hf4, ⟨k1_l, k2_l, k3_l⟩ | ⟨k1_l, k2_l, k3_l⟩⟩
      · exact gT_ret ⟨rfl, Fr_t hf1 hf4, Or.inl ⟨hwd, k1_l, k2_l, k3_l⟩⟩
      · exact gT_ret ⟨rfl, Fr_t hf1 hf4, Or.inr (Or.inr ⟨hwd, k1_l, k2_l, k3_l⟩)⟩
    · omega
end Bh
