/-! the full relation over pure courts: now, and remembered (newest first) -/
noncomputable def gCt : Type := (Nat → Int) × (Nat → Nat → Int)
noncomputable def Okc (c : gCt) : Prop := Vq c.1 ∧ 0 ≤ c.1 13 ∧ c.1 13 ≤ 60
noncomputable def Pc (s : gS) (n : Nat) (P : Nat → gCt) : Prop := gI s 0 14 = (n : Int) ∧ (0 ≤ gI s 0 13 ∧ gI s 0 13 ≤ 11) ∧ ∀ j, j < n → Csw s 9 (pst (gI s 0 13) j) (P j).1 (P j).2
noncomputable def Pm (s : gS) (n : Nat) (P : Nat → gCt) : Prop := gI s 217 6 = (n : Int) ∧ ∀ j, j < n → Msw s 221 (340 * (n - 1 - j)) (P j).1 (P j).2
noncomputable def Pok (n : Nat) (P : Nat → gCt) : Prop := n ≤ 12 ∧ ∀ j, j < n → Okc (P j)
/-- image and law -/
noncomputable def Rr (s : gS) : Prop := (gI s 217 3 = 1 → RW s 219 0 54 60 ∧ ∃ T, Tlw s 219 54 T) ∧ ∃ T, Tlw s 218 9 T
noncomputable def Cs (s : gS) (c : gCt) (n : Nat) (P : Nat → gCt) : Prop := Csw s 9 15 c.1 c.2 ∧ Pc s n P
noncomputable def Ms (s : gS) (c : gCt) (n : Nat) (P : Nat → gCt) : Prop := Msw s 218 0 c.1 c.2 ∧ Pm s n P
section Dt
variable {s t : gS} {c : gCt} {n : Nat} {P : Nat → gCt}
theorem Rx_data (h : Rx s) : ∃ c n P, Cs s c n P ∧ Ms s c n P ∧ Okc c ∧ Pok n P ∧ Rr s ∧ ∀ k, gI s 218 k = c.1 k := by
  obtain ⟨h1, h2, ⟨h3, h4, h5, h6⟩, hT_l⟩ := h
  have en : gI s 0 14 = ((gI s 0 14).toNat : Int) := by omega
  obtain ⟨a1_l, a2, a3, a4⟩ := h1
  refine ⟨(fun k => gI s 218 (0 + k), fun i_l j_l => gI s 218 (0 + 100 + 4 * i_l + j_l)), (gI s 0 14).toNat, fun j_l => (fun k => gI s 221 (340 * ((gI s 0 14).toNat - 1 - j_l) + k), fun i_l l => gI s 221 (340 * ((gI s 0 14).toNat - 1 - j_l) + 100 + 4 * i_l + l)), ⟨⟨fun k hk => (a1_l k hk).symm, fun i_l j_l hi_l hj => (a4 i_l j_l hi_l hj).symm⟩, en, h4, fun j_l hj => ?_⟩, ⟨⟨fun k _ => rfl, fun i_l j_l _ _ => rfl⟩, by rw [← h3]; exact en, fun j_l hj => ⟨fun k _ => rfl, fun i_l l _ _ => rfl⟩⟩, ⟨a2, a3⟩, ⟨by omega, fun j_l hj => ?_⟩, ⟨h2, hT_l⟩, fun k => by
    show gI s 218 k = gI s 218 (0 + k)
    rw [Nat.zero_add]⟩
  · obtain ⟨b1, b2, b3, b4⟩ := h6 j_l (by omega)
    exact ⟨fun k hk => (b1 k hk).symm, fun i_l l hi_l hl => (b4 i_l l hi_l hl).symm⟩
  · obtain ⟨b1, b2, b3, b4⟩ := h6 j_l (by omega)
    exact ⟨b2, b3⟩
theorem data_Rx (hc : Cs s c n P) (hm : Ms s c n P) (ho : Okc c) (hp : Pok n P) (hr : Rr s) : Rx s := by
  obtain ⟨c1_l, c2_l, c3_l, c4_l⟩ := hc
  obtain ⟨m1_l, m2_l, m3_l⟩ := hm
  have en : (gI s 0 14).toNat = n := by omega
  refine ⟨sides_RW c1_l m1_l ho.1 ho.2, hr.1, ⟨c2_l.trans m2_l.symm, c3_l, ?_, fun j_l hj => ?_⟩, hr.2⟩
  · have := hp.1
    omega
  · have hj2 : j_l < n := by omega
    rw [en]
    exact sides_RW (c4_l j_l hj2) (m3_l j_l hj2) (hp.2 j_l hj2).1 (hp.2 j_l hj2).2
/-- what leaves the model's rows alone; what leaves the class's courts alone -/
theorem Ms_e (h : Ms s c n P) (ho : Okc c) (hp : Pok n P) (e1 : ∀ k, k < 340 → gI t 218 k = gI s 218 k) (e2 : ∀ k, gI t 221 k = gI s 221 k) (e3 : gI t 217 6 = gI s 217 6) : Ms t c n P := by
  obtain ⟨m1_l, m2_l, m3_l⟩ := h
  refine ⟨Msw_e m1_l ho.2.2 (fun k hk => ?_), e3.trans m2_l, fun j_l hj => Msw_e (m3_l j_l hj) (hp.2 j_l hj).2.2 (fun k _ => e2 _)⟩
  rw [Nat.zero_add]
  exact e1 k hk
theorem Cs_e (h : Cs s c n P) (e1 : ∀ a k, (9 ≤ a ∧ a < 27) ∨ (73 ≤ a ∧ a < 217) → gI t a k = gI s a k) (e2 : gI t 0 13 = gI s 0 13) (e3 : gI t 0 14 = gI s 0 14) : Cs t c n P := by
  obtain ⟨c1_l, c2_l, c3_l, c4_l⟩ := h
  refine ⟨Csw_e c1_l (fun a k _ _ => e1 a k (by omega)) (fun a k _ _ => e1 a k (by omega)), e3.trans c2_l, by rw [e2]; exact c3_l, fun j_l hj => ?_⟩
  rw [e2]
  refine Csw_e (c4_l j_l hj) (fun a k _ _ => e1 a k (by omega)) (fun a k ha_l hb_l => e1 a k ?_)
  unfold pst at ha_l hb_l
  omega
end Dt
