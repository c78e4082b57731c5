section Le
variable {s s' : gS} {L : Nat → Int} {e f a : Nat}
theorem w_153 {x y : Int} : gT (f_153 x y s) (fun r => r.1 = 1 ∧ ((r.2.1 = 1 ∧ ¬ gand (gshr x y) 1 = 0) ∨ (r.2.1 = 0 ∧ gand (gshr x y) 1 = 0)) ∧ r.2.2.2 = s) := by
  have b_l := gand_le (x := gshr x y) (m := 1) (by decide) (by decide)
  unfold f_153
  exact gT_ite (fun h_l => gT_ret ⟨rfl, Or.inl ⟨rfl, by omega⟩, rfl⟩) (fun h_l => gT_ret ⟨rfl, Or.inr ⟨rfl, by omega⟩, rfl⟩)
/-- what lettersAfter does where nothing is wrong yet, behind the word -/
theorem w176_b (hM : Mp s L e) (ha : gI s 217 11 = (a : Int)) (hae : a ≤ e) (hw : gI s 217 12 = -1) (hf : f = sk L e a) : gT (fb_176_24 217 s) (fun r => r.1 = 1 ∧ Fm s r.2.2.2 ∧ ((Tr L e f ∧ r.2.1 = tbs L f (lr L e f - f) ∧ gI r.2.2.2 217 12 = -1 ∧ gI r.2.2.2 217 11 = ((lr L e f : Nat) : Int)) ∨ (¬ Tr L e f ∧ gI r.2.2.2 217 12 = (f : Int)))) := by
  have hsk := sk_b (L := L) (e := e) (a := a) hae
  have h400 := hM.1.2
  unfold fb_176_24
  rw [if_pos hw]
  refine gT_v1 (A := fun v_l u_l => v_l = ((sk L e a : Nat) : Int) ∧ Fm s u_l ∧ gI u_l 217 12 = gI s 217 12 ∧ gI u_l 217 11 = ((sk L e a : Nat) : Int)) (w_173 hM ha hae) (fun v7 s6_l h6 => ?_)
  rw [← hf] at h6 hsk
  obtain ⟨e7_l, hf6, hw6, hb6⟩ := h6
  rw [hw] at hw6
  have hend : ∀ (i_l : Nat) (x4_l : Int) (u_l : gS), Fm s u_l → gI u_l 217 12 = -1 → gI u_l 217 11 = ((f + i_l : Nat) : Int) → lr L e f = f + i_l → (∀ j_l, j_l < i_l → 97 ≤ L (f + j_l) ∧ L (f + j_l) ≤ 122) → ((x4_l = 1 ∧ tgd L f i_l) ∨ (x4_l = 0 ∧ ¬ tgd L f i_l)) → gT (fb_176_145 217 v7 (tbs L f i_l) x4_l u_l) (fun r => r.1 = 1 ∧ Fm s r.2.2.2 ∧ ((Tr L e f ∧ r.2.1 = tbs L f (lr L e f - f) ∧ gI r.2.2.2 217 12 = -1 ∧ gI r.2.2.2 217 11 = ((lr L e f : Nat) : Int)) ∨ (¬ Tr L e f ∧ gI r.2.2.2 217 12 = (f : Int)))) := by
    intro i_l x4_l u_l hfu hwu hbu hlr hlt hg
    have hi_l : lr L e f - f = i_l := by omega
    have hwrong : ¬ Tr L e f → gT (fb_176_154 217 v7 (tbs L f i_l) u_l) (fun r => r.1 = 1 ∧ Fm s r.2.2.2 ∧ ((Tr L e f ∧ r.2.1 = tbs L f (lr L e f - f) ∧ gI r.2.2.2 217 12 = -1 ∧ gI r.2.2.2 217 11 = ((lr L e f : Nat) : Int)) ∨ (¬ Tr L e f ∧ gI r.2.2.2 217 12 = (f : Int)))) := by
      intro hn
      unfold fb_176_154
      refine gT_v0 (A := fun z_l => Fm u_l z_l ∧ gI z_l 217 11 = gI u_l 217 11 ∧ gI z_l 217 12 = if gI u_l 217 12 = -1 then v7 else gI u_l 217 12) w_172 (fun s8 h8 => ?_)
      refine gT_ret ⟨rfl, Fm_t hfu h8.1, Or.inr ⟨hn, ?_⟩⟩
      dsimp only
      rw [h8.2.2, if_pos hwu, e7_l]
    unfold fb_176_145
    refine gT_ite (fun c1_l => hwrong (fun z_l => ?_)) (fun c1_l => ?_)
    · have := z_l.2
      rw [hi_l] at this
      rcases hg with ⟨g1, -⟩ | ⟨-, g2⟩
      · omega
      · exact g2 this
    have hgd : tgd L f i_l := by
      rcases hg with ⟨-, g2⟩ | ⟨g1, -⟩
      · exact g2
      · exact absurd g1 c1_l
    cases i_l with
    | zero =>
      refine gT_ite (fun c2_l => hwrong (fun z_l => ?_)) (fun c2_l => absurd rfl c2_l)
      have := lr_s z_l.1
      have := lrn_b (L := L) (e := e) e (a := f + 1)
      unfold lr at *
      omega
    | succ i_l =>
      have h1 := tbs_1 hlt hgd
      refine gT_ite (fun c2_l => by omega) (fun c2_l => ?_)
      have hl : f < e ∧ 97 ≤ L f ∧ L f ≤ 122 := by
        by_cases c : f < e ∧ 97 ≤ L f ∧ L f ≤ 122
        · exact c
        · rw [lr_n c] at hlr; omega
      refine gT_ret ⟨rfl, hfu, Or.inl ⟨⟨hl, by rw [hi_l]; exact hgd⟩, by rw [hi_l], hwu, by rw [hlr]; exact hbu⟩⟩
  refine gT_loop (fun y_l => (y_l.1 = 217 ∧ y_l.2.1 = v7) ∧ (Fm s y_l.2.2.2.2 ∧ gI y_l.2.2.2.2 217 12 = -1) ∧ ∃ i_l : Nat, gI y_l.2.2.2.2 217 11 = ((f + i_l : Nat) : Int) ∧ f + i_l ≤ e ∧ lr L e (f + i_l) = lr L e f ∧ (∀ j_l, j_l < i_l → 97 ≤ L (f + j_l) ∧ L (f + j_l) ≤ 122) ∧ y_l.2.2.1 = tbs L f i_l ∧ ((y_l.2.2.2.1 = 1 ∧ tgd L f i_l) ∨ (y_l.2.2.2.1 = 0 ∧ ¬ tgd L f i_l))) (fun y_l => (e - gI y_l.2.2.2.2 217 11).toNat) (fun y_l hy => ?_) ⟨⟨rfl, rfl⟩, ⟨hf6, hw6⟩, 0, hb6, by omega, rfl, fun j_l hj => by omega, rfl, Or.inl ⟨rfl, trivial⟩⟩
  obtain ⟨x0_l, x2_l, x3, x4_l, u_l⟩ := y_l
  obtain ⟨⟨q0, q1_l⟩, ⟨hfu, hwu⟩, i_l, hbu, hie, hlr, hlt, hx3, hg⟩ := hy
  dsimp only at q0 q1_l hfu hwu hbu hx3 hg
  subst q0 q1_l hx3
  have hu := Mp_fr hM hfu
  show gT (sb_176_44 217 x2_l (tbs L f i_l) x4_l u_l) _
  unfold sb_176_44
  rw [hbu, hu.1.1]
  refine gT_ite (fun hxe => ?_) (fun hxe => gT_map (hend i_l x4_l u_l hfu hwu hbu (by rw [← hlr, lr_n (a := f + i_l) (by omega)]) hlt hg))
  refine gT_v1 (A := fun v_l z_l => v_l = L (f + i_l) ∧ z_l = u_l) (w_168 hu (by omega)) (fun v9 s8 h8 => ?_)
  obtain ⟨e9_l, e8⟩ := h8
  subst e8
  refine gT_v1 (A := fun v_l z_l => ((v_l = 1 ∧ 97 ≤ v9 ∧ v9 ≤ 122) ∨ (v_l = 0 ∧ ¬ (97 ≤ v9 ∧ v9 ≤ 122))) ∧ z_l = s8) w_150 (fun v11 s10 h10 => ?_)
  obtain ⟨e11_l, e10_l⟩ := h10
  subst e10_l
  refine gT_ite (fun hc_l => gT_map (hend i_l x4_l s10 hfu hwu hbu (by rw [← hlr, lr_n (a := f + i_l) (by omega)]) hlt hg)) (fun hc_l => ?_)
  have hlet : 97 ≤ L (f + i_l) ∧ L (f + i_l) ≤ 122 := by omega
  rw [hbu]
  refine gT_v1 (A := fun v_l z_l => v_l = L (f + i_l) ∧ z_l = s10) (w_168 hu (by omega)) (fun v16 s15 h15 => ?_)
  obtain ⟨e16_l, e15_l⟩ := h15
  subst e15_l
  rw [g32_eq (v := v16 - 97) (by omega) (by omega)]
  have hnext : ∀ w0_l : Int, ((w0_l = 1 ∧ tgd L f (i_l + 1)) ∨ (w0_l = 0 ∧ ¬ tgd L f (i_l + 1))) → gT (fb_176_112 217 x2_l (tbs L f i_l) (v16 - 97) w0_l s15) (Sum.elim (fun y_l => ((y_l.1 = 217 ∧ y_l.2.1 = x2_l) ∧ (Fm s y_l.2.2.2.2 ∧ gI y_l.2.2.2.2 217 12 = -1) ∧ ∃ i_l : Nat, gI y_l.2.2.2.2 217 11 = ((f + i_l : Nat) : Int) ∧ f + i_l ≤ e ∧ lr L e (f + i_l) = lr L e f ∧ (∀ j_l, j_l < i_l → 97 ≤ L (f + j_l) ∧ L (f + j_l) ≤ 122) ∧ y_l.2.2.1 = tbs L f i_l ∧ ((y_l.2.2.2.1 = 1 ∧ tgd L f i_l) ∨ (y_l.2.2.2.1 = 0 ∧ ¬ tgd L f i_l))) ∧ ((e : Int) - gI y_l.2.2.2.2 217 11).toNat < ((e : Int) - ((f + i_l : Nat) : Int)).toNat) (fun r => r.1 = 1 ∧ Fm s r.2.2.2 ∧ ((Tr L e f ∧ r.2.1 = tbs L f (lr L e f - f) ∧ gI r.2.2.2 217 12 = -1 ∧ gI r.2.2.2 217 11 = ((lr L e f : Nat) : Int)) ∨ (¬ Tr L e f ∧ gI r.2.2.2 217 12 = (f : Int))))) := by
    intro w0_l hw0
    have k1_l : gI (gw s15 217 11 (((f + i_l : Nat) : Int) + 1)) 217 11 = ((f + (i_l + 1) : Nat) : Int) := (rd_same rfl).trans (by omega)
    have k2_l : gI (gw s15 217 11 (((f + i_l : Nat) : Int) + 1)) 217 12 = gI s15 217 12 := rd_k (a := 217) (k := 12) rfl (by decide)
    have h130 : ∀ z_l : Int, gor (tbs L f i_l) z_l = tbs L f (i_l + 1) → gT (fb_176_130 217 x2_l w0_l z_l (tbs L f i_l) s15) (Sum.elim (fun y_l => ((y_l.1 = 217 ∧ y_l.2.1 = x2_l) ∧ (Fm s y_l.2.2.2.2 ∧ gI y_l.2.2.2.2 217 12 = -1) ∧ ∃ i_l : Nat, gI y_l.2.2.2.2 217 11 = ((f + i_l : Nat) : Int) ∧ f + i_l ≤ e ∧ lr L e (f + i_l) = lr L e f ∧ (∀ j_l, j_l < i_l → 97 ≤ L (f + j_l) ∧ L (f + j_l) ≤ 122) ∧ y_l.2.2.1 = tbs L f i_l ∧ ((y_l.2.2.2.1 = 1 ∧ tgd L f i_l) ∨ (y_l.2.2.2.1 = 0 ∧ ¬ tgd L f i_l))) ∧ ((e : Int) - gI y_l.2.2.2.2 217 11).toNat < ((e : Int) - ((f + i_l : Nat) : Int)).toNat) (fun r => r.1 = 1 ∧ Fm s r.2.2.2 ∧ ((Tr L e f ∧ r.2.1 = tbs L f (lr L e f - f) ∧ gI r.2.2.2 217 12 = -1 ∧ gI r.2.2.2 217 11 = ((lr L e f : Nat) : Int)) ∨ (¬ Tr L e f ∧ gI r.2.2.2 217 12 = (f : Int))))) := by
      intro z_l hz
      unfold fb_176_130
      have hie2 : f + (i_l + 1) ≤ e := by omega
      have hms : ((e : Int) - ((f + (i_l + 1) : Nat) : Int)).toNat < ((e : Int) - ((f + i_l : Nat) : Int)).toNat := by omega
      rw [hbu, g32_eq (v := ((f + i_l : Nat) : Int) + 1) (by omega) (by omega)]
      refine gT_ret ⟨⟨⟨rfl, rfl⟩, ⟨Fm_w hfu (Or.inl rfl), k2_l.trans hwu⟩, i_l + 1, k1_l, hie2, ?_, fun j_l hj => ?_, hz, hw0⟩, ?_⟩
      · rw [← hlr, lr_s (a := f + i_l) ⟨by omega, hlet⟩]
        rfl
      · by_cases ej : j_l = i_l
        · rw [ej]; exact hlet
        · exact hlt j_l (by omega)
      · show ((e : Int) - gI (gw s15 217 11 (((f + i_l : Nat) : Int) + 1)) 217 11).toNat < ((e : Int) - ((f + i_l : Nat) : Int)).toNat
        rw [k1_l]
        exact hms
    unfold fb_176_112
    refine gT_ite (fun c6_l => h130 _ ?_) (fun c6_l => h130 _ ?_)
    · show _ = (if L (f + i_l) - 97 < 6 then gor (tbs L f i_l) (gshl 1 (L (f + i_l) - 97)) else gor (tbs L f i_l) 0)
      rw [if_pos (by omega), e16_l]
    · show _ = (if L (f + i_l) - 97 < 6 then gor (tbs L f i_l) (gshl 1 (L (f + i_l) - 97)) else gor (tbs L f i_l) 0)
      rw [if_neg (by omega)]
  refine gT_ite (fun c4_l => hnext 0 (Or.inr ⟨rfl, fun z_l => ?_⟩)) (fun c4_l => ?_)
  · rcases hg with ⟨g2, -⟩ | ⟨-, g2⟩
    · omega
    · exact g2 z_l.1
  have hgd : tgd L f i_l := by
    rcases hg with ⟨-, g2⟩ | ⟨g2, -⟩
    · exact g2
    · exact absurd g2 c4_l
  refine gT_ite (fun c6_l => ?_) (fun c6_l => hnext 0 (Or.inr ⟨rfl, fun z_l => by have := z_l.2.1; omega⟩))
  refine gT_v1 (A := fun v_l z_l => ((v_l = 1 ∧ ¬ gand (gshr (tbs L f i_l) (v16 - 97)) 1 = 0) ∨ (v_l = 0 ∧ gand (gshr (tbs L f i_l) (v16 - 97)) 1 = 0)) ∧ z_l = s15) w_153 (fun v19 s18 h18 => ?_)
  obtain ⟨e19_l, e18_l⟩ := h18
  subst e18_l
  refine gT_ite (fun c7_l => hnext 1 (Or.inl ⟨rfl, hgd, by omega, ?_⟩)) (fun c7_l => hnext 0 (Or.inr ⟨rfl, fun z_l => ?_⟩))
  · rcases e19_l with ⟨z1, -⟩ | ⟨-, z2⟩
    · omega
    · rw [← e16_l]; exact z2
  · rcases e19_l with ⟨-, z2⟩ | ⟨z1, -⟩
    · exact z2 (by rw [e16_l]; exact z_l.2.2)
    · omega
end Le
