/-! acts: from both halves to the full relation -/
noncomputable def stA (n : Nat) : Int := if n = 5 then 1 else if n = 6 then 2 else 0
noncomputable def stB (n : Nat) : Int := if n = 5 then 1 else if n = 2 then 2 else if n = 6 then 3 else 0
/-- behind the class's half: the model's half leads back, with this answer -/
noncomputable def Xn (F : gS → Option gO) (w : Int) (u : gS) : Prop := ∀ p, J p u → Rt u → gQ (F u) (fun q => Rx q.2.2.2 ∧ gI q.2.2.2 217 0 = w ∧ (w = 0 → gI q.2.2.2 231 0 = q.2.1))
noncomputable def Xd (F : gS → Option gO) (w : Int) (u : gS) : Prop := ∀ p, J p u → Rt u → gQ (F u) (fun q => Rx q.2.2.2 ∧ q.2.1 = w)
abbrev gY : Type := Int × Int × gCt
noncomputable def Cres (st : Nat → Int) (s : gS) (c : gCt) (n : Nat) (P : Nat → gCt) (y : gY) (r : gO) : Prop := Fw WC s r.2.2.2 ∧ st r.1 = y.1 ∧ (y.1 = 0 → r.2.1 = y.2.1 ∧ Cs r.2.2.2 y.2.2 (pn n) (psh c P)) ∧ (y.1 ≠ 0 → Cs r.2.2.2 c n P)
noncomputable def Mres (s : gS) (c : gCt) (n : Nat) (P : Nat → gCt) (y : gY) (r : gO) : Prop := Fw WM s r.2.2.2 ∧ gI r.2.2.2 217 0 = y.1 ∧ (y.1 = 0 → r.2.1 = y.2.1 ∧ Ms r.2.2.2 y.2.2 (pn n) (psh c P)) ∧ (y.1 ≠ 0 → Ms r.2.2.2 c n P)
section Gl
variable {s t u : gS} {c c' : gCt} {n : Nat} {P : Nat → gCt} {p : gP} {y : gY} {W : Nat → Nat → Bool} {F : gS → Option gO} {st : Nat → Int} {a k : Nat}
theorem mnt_340 (h : 340 ≤ k) : mnt k = false := by
  cases hm : mnt k with
  | false => rfl
  | true =>
    have := mnt_4 hm
    omega
theorem Rr_fw (hJ : J p s) (h : Rr s) (hf : Fw W s t) (hW : ∀ a k, ((54 ≤ a ∧ a < 73) ∨ a = 219 ∨ (a = 217 ∧ k = 3) ∨ (a = 218 ∧ (k = 1 ∨ k = 2 ∨ 340 ≤ k)) ∨ 232 ≤ a) → W a k = false) : Rr t := by
  obtain ⟨h2, T, hT_l⟩ := h
  have hn := hJ.1.1
  have e_l : ∀ a k, a < 232 → ((54 ≤ a ∧ a < 73) ∨ a = 219 ∨ (a = 217 ∧ k = 3) ∨ (a = 218 ∧ (k = 1 ∨ k = 2 ∨ 340 ≤ k)) ∨ 232 ≤ a) → gI t a k = gI s a k := fun a k ha_l hx => hf.2.2 a k (by omega) (hW a k hx)
  have law_l : ∀ (R_l B_l : Nat) (T : (Nat → Int) → Int), R_l = 218 ∨ R_l = 219 → (B_l = 9 ∨ B_l = 54) → Tlw s R_l B_l T → Tlw t R_l B_l T := fun R_l B_l T hR hB_l hx => by
    refine Tlw_e hJ ?_ hx (fun k hk => e_l R_l k (by omega) (by omega)) (fun a k ha_l => hf.2.1 a k ha_l) (fun a ha_l => hf.1.2.2 a ha_l) (fun a k ha_l h2 => hf.2.2 a k ha_l (hW a k (by omega)))
    obtain ⟨b1, b2, b3, -⟩ := k0_b
    rcases hB_l with rfl | rfl
    · exact ⟨by decide, b1⟩
    · exact ⟨by decide, b3⟩
  refine ⟨fun hi_l => ?_, T, law_l 218 9 T (Or.inl rfl) (Or.inl rfl) hT_l⟩
  obtain ⟨x1_l, T2, x2_l⟩ := h2 (by rw [← e_l 217 3 (by decide) (by decide)]; exact hi_l)
  exact ⟨RW_e x1_l (fun k _ => e_l 219 _ (by decide) (by omega)) (fun a k _ _ => e_l a k (by omega) (by omega)) (fun a k _ _ => e_l a k (by omega) (by omega)), T2, law_l 219 54 T2 (Or.inr rfl) (Or.inr rfl) x2_l⟩
theorem law_C {T : (Nat → Int) → Int} (hJ : J p s) (hT : Tlw s 218 9 T) (hf : Fw WC s t) : Tlw t 218 9 T := by
  have hn := hJ.1.1
  exact Tlw_e hJ ⟨by decide, k0_b.1⟩ hT (fun k_l _ => hf.2.2 218 k_l (by omega) (WC_n (by omega))) (fun a_l k_l ha_l => hf.2.1 a_l k_l ha_l) (fun a_l ha_l => hf.1.2.2 a_l ha_l) (fun a_l k_l ha_l h2 => hf.2.2 a_l k_l ha_l (WC_n (by omega)))
theorem law_M {T : (Nat → Int) → Int} (hJ : J p s) (hT : Tlw s 218 9 T) (hf : Fw WM s t) : Tlw t 218 9 T := by
  have hn := hJ.1.1
  refine Tlw_e hJ ⟨by decide, k0_b.1⟩ hT (fun k_l hk => hf.2.2 218 k_l (by omega) (WM_n (Or.inr (Or.inr (Or.inl ⟨rfl, ?_⟩))))) (fun a_l k_l ha_l => hf.2.1 a_l k_l ha_l) (fun a_l ha_l => hf.1.2.2 a_l ha_l) (fun a_l k_l ha_l h2 => hf.2.2 a_l k_l ha_l (WM_n (by omega)))
  rcases hk with rfl | rfl | hk
  · rfl
  · rfl
  · exact mnt_340 hk
theorem Rr_C (hJ : J p s) (h : Rr s) (hf : Fw WC s t) : Rr t := Rr_fw hJ h hf (fun a_l k_l hx => by
  by_cases c : 217 ≤ a_l
  · by_cases c2 : a_l = 231
    · omega
    · exact WC_n (by omega)
  · exact WC_n (by omega))
theorem Rr_M (hJ : J p s) (h : Rr s) (hf : Fw WM s t) : Rr t := Rr_fw hJ h hf (fun a_l k_l hx => by
  rcases hx with hx | hx | hx | ⟨hx, hk⟩ | hx
  · exact WM_n (Or.inl (by omega))
  · exact WM_n (Or.inr (Or.inr (Or.inr (Or.inl hx))))
  · exact WM_n (Or.inr (Or.inl hx))
  · refine WM_n (Or.inr (Or.inr (Or.inl ⟨hx, ?_⟩)))
    rcases hk with rfl | rfl | hk
    · rfl
    · rfl
    · exact mnt_340 hk
  · exact WM_n (Or.inr (Or.inr (Or.inr (Or.inr (by omega))))))
theorem Cs_M (h : Cs s c n P) (hf : Fw WM s t) : Cs t c n P := by
  have hn := hf.1.1
  exact Cs_e h (fun a_l k_l ha_l => hf.2.2 a_l k_l (by omega) (WM_n (Or.inl (by omega)))) (hf.2.2 0 13 (by omega) (WM_n (Or.inl (by omega)))) (hf.2.2 0 14 (by omega) (WM_n (Or.inl (by omega))))
theorem Ms_C (h : Ms s c n P) (ho : Okc c) (hp : Pok n P) (hf : Fw WC s t) : Ms t c n P := by
  have hn := hf.1.1
  exact Ms_e h ho hp (fun k_l _ => hf.2.2 218 k_l (by omega) (WC_n (by omega))) (fun k_l => hf.2.2 221 k_l (by omega) (WC_n (by omega))) (hf.2.2 217 6 (by omega) (WC_n (by omega)))
theorem Pok_n (ho : Okc c) (hp : Pok n P) : Pok (pn n) (psh c P) := by
  have hb_l := pn_b hp.1
  refine ⟨hb_l.1, fun j_l hj => ?_⟩
  unfold psh
  by_cases cj : j_l = 0
  · rw [if_pos cj]
    exact ho
  · rw [if_neg cj]
    exact hp.2 (j_l - 1) (by omega)
theorem aX {v : Int} {t : gS} (_ : True) : gQ (gchk 0 1 (some ((1, 0, 0, gw t 231 (0 : Int).toNat v) : gO))) (fun r => r.2.1 = 0 ∧ gI r.2.2.2 231 0 = v ∧ Sm t r.2.2.2 ∧ ∀ a k, a ≠ 231 → gI r.2.2.2 a k = gI t a k) := gQ_chk (gQ_ret ⟨rfl, rd_same rfl, ⟨rfl, rfl, rfl⟩, fun a k ha_l => rd_a rfl ha_l⟩)
theorem aXb {v : Int} {t : gS} (h : v = 0 ∨ v = 1) : gQ (if v = 0 then gchk 0 1 (some ((1, 0, 0, gw t 231 (0 : Int).toNat 0) : gO)) else gchk 0 1 (some ((1, 0, 0, gw t 231 (0 : Int).toNat 1)))) (fun r => r.2.1 = 0 ∧ gI r.2.2.2 231 0 = v ∧ Sm t r.2.2.2 ∧ ∀ a k, a ≠ 231 → gI r.2.2.2 a k = gI t a k) := by
  rcases h with rfl | rfl
  · rw [if_pos rfl]
    exact aX trivial
  · rw [if_neg (by decide)]
    exact aX trivial
/-- an act that may be refused -/
theorem ax2 {z : Option gO} {K : Nat → gS → Option gO} {E : Int → gS → Option gO} (hJ : J p s) (hm : Ms s c n P) (ho : Okc c) (hp : Pok n P) (hr : Rr s) (hk8 : ∀ k, gI s 218 k = c.1 k) (hy : y.1 = 0 → Okc y.2.2) (hz : gQ z (Cres st s c n P y)) (h1 : st 1 = 0) (hE : ∀ t, (y.1 = 0) → gQ (E y.2.1 t) (fun r => r.2.1 = 0 ∧ gI r.2.2.2 231 0 = y.2.1 ∧ Sm t r.2.2.2 ∧ ∀ a k, a ≠ 231 → gI r.2.2.2 a k = gI t a k)) (hC : ∀ k t, gQ (K k t) (fun r => r.2.1 = st (k + 2) ∧ r.2.1 ≠ 0 ∧ r.2.2.2 = t)) (hF : ∀ u p, J p u → Rt u → Fw WC s u → Ms u c n P → (∀ k, gI u 218 k = c.1 k) → gQ (F u) (Mres u c n P y)) : gQ (z.bind (gc1 K E)) (fun r => Xn F r.2.1 r.2.2.2) := by
  refine gQ_d1 (A := Cres st s c n P y) hz (fun r hr2 e1_l => ?_) (fun r hr2 e2_l => ?_)
  · obtain ⟨x1_l, x2_l, x3, x4_l⟩ := hr2
    rw [e1_l, h1] at x2_l
    obtain ⟨x5_l, x6⟩ := x3 x2_l.symm
    rw [x5_l]
    intro t ht
    obtain ⟨e3_l, e4_l, e5_l, e6_l⟩ := hE _ x2_l.symm t ht
    intro p2_l hJ2 hR2
    have f1_l : Fw WC s t.2.2.2 := Fw_sm x1_l e5_l (fun a k _ hw => e6_l a k (fun z => by rw [WC_t (by omega)] at hw; cases hw))
    have hn := hJ.1.1
    have g8 : ∀ k, gI t.2.2.2 218 k = c.1 k := fun k => (f1_l.2.2 218 k (by omega) (WC_n (by omega))).trans (hk8 k)
    refine fun q_l hq => ?_
    obtain ⟨y1, y2, y3, y4⟩ := hF _ p2_l hJ2 hR2 f1_l (Ms_C hm ho hp f1_l) g8 q_l hq
    obtain ⟨y5, y6⟩ := y3 x2_l.symm
    have hc2 : Cs t.2.2.2 y.2.2 (pn n) (psh c P) := Cs_e x6 (fun a k ha_l => e6_l a k (by omega)) (e6_l 0 13 (by decide)) (e6_l 0 14 (by decide))
    refine ⟨data_Rx (Cs_M hc2 y1) y6 (hy x2_l.symm) (Pok_n ho hp) (Rr_M hJ2 (Rr_C hJ hr f1_l) y1), ?_, fun _ => ?_⟩
    · rw [e3_l, y2, ← x2_l]
    · have hn2 := hJ2.1.1
      rw [y1.2.2 231 0 (by omega) (WM_n (by omega)), e4_l, y5]
  · obtain ⟨x1_l, x2_l, x3, x4_l⟩ := hr2
    intro t ht
    obtain ⟨e3_l, e4_l, e5_l⟩ := hC _ _ t ht
    rw [show r.1 - 2 + 2 = r.1 by omega, x2_l] at e3_l
    have y0 : y.1 ≠ 0 := fun z => e4_l (e3_l.trans z)
    intro p2_l hJ2 hR2
    rw [e5_l] at hJ2 hR2 ⊢
    have hn := hJ.1.1
    have g8 : ∀ k, gI r.2.2.2 218 k = c.1 k := fun k => (x1_l.2.2 218 k (by omega) (WC_n (by omega))).trans (hk8 k)
    refine fun q_l hq => ?_
    obtain ⟨y1, y2, y3, y4⟩ := hF _ p2_l hJ2 hR2 x1_l (Ms_C hm ho hp x1_l) g8 q_l hq
    refine ⟨data_Rx (Cs_M (x4_l y0) y1) (y4 y0) ho hp (Rr_M hJ2 (Rr_C hJ hr x1_l) y1), ?_, fun z => absurd z e4_l⟩
    rw [e3_l, y2]
end Gl
/-! a court in the midst of an act -/
noncomputable def Cst (g s : gS) (V : Nat → Int) (L : Nat → Nat → Int) (n : Nat) (P : Nat → gCt) : Prop := (Csw s 9 15 V L ∧ Pc s n P) ∧ Fw WC g s ∧ RF s
noncomputable def Mst (g s : gS) (V : Nat → Int) (L : Nat → Nat → Int) (n : Nat) (P : Nat → gCt) : Prop := (Msw s 218 0 V L ∧ Pm s n P) ∧ Fw WM g s ∧ RF s ∧ gI s 217 0 = 0
section Ms
variable {g s t u : gS} {V W : Nat → Int} {L L' : Nat → Nat → Int} {n i j a k k0 q : Nat} {P : Nat → gCt} {v x y w d : Int} {c : gCt}
theorem Csw_w (h : Csw s 9 15 V L) (hi : Ci 15 a j k0) (h13 : k0 ≠ 13) (ha : a ≠ 20) : Csw (gw s a j v) 9 15 (up V k0 v) L := ⟨Cr_w h.1 hi, fun i_l q_l hi2 hq => by
  rw [up_n (Ne.symm h13)] at hi2 ⊢
  exact (rd_a rfl (fun z_l => ha z_l.symm)).trans (h.2 i_l q_l hi2 hq)⟩
theorem Pc_e (h : Pc s n P) (e1 : ∀ a k, (9 ≤ a ∧ a < 15) ∨ (73 ≤ a ∧ a < 217) → gI t a k = gI s a k) (e2 : gI t 0 13 = gI s 0 13) (e3 : gI t 0 14 = gI s 0 14) : Pc t n P := by
  obtain ⟨c2_l, c3_l, c4_l⟩ := h
  refine ⟨e3.trans c2_l, by rw [e2]; exact c3_l, fun j_l hj => ?_⟩
  rw [e2]
  refine Csw_e (c4_l j_l hj) (fun a k _ _ => e1 a k (by omega)) (fun a k ha_l hb_l => e1 a k ?_)
  unfold pst at ha_l hb_l
  omega
theorem Cst_w (h : Cst g s V L n P) (hi : Ci 15 a j k0) (h13 : k0 ≠ 13) (ha : (15 ≤ a ∧ a < 27) ∧ a ≠ 20) : Cst g (gw s a j v) (up V k0 v) L n P := by
  obtain ⟨⟨h1, h2⟩, h3, h4⟩ := h
  exact ⟨⟨Csw_w h1 hi h13 ha.2, Pc_e h2 (fun b_l k_l hb_l => rd_a rfl (by omega)) (rd_a rfl (by omega)) (rd_a rfl (by omega))⟩, Fw_wv h3 (WC_t (by omega)), RF_sm h4 rfl⟩
theorem Cst_55 (h : Cst g s V L n P) (h13 : 0 ≤ V 13 ∧ V 13 ≤ 60) : gQ (f_55 19 d x w y s) (fun r => Cst g r.2.2.2 (up V 13 (min 60 (V 13 + 1))) (lgL d x w y L) n P) := by
  obtain ⟨⟨h1, h2⟩, h3, h4⟩ := h
  intro r hr
  obtain ⟨q1_l, q2_l, q3_l⟩ := ct_55 h4 h1 h13 r hr
  exact ⟨⟨q1_l, Pc_e h2 (fun a_l k_l ha_l => q3_l a_l k_l (by omega) (by omega)) (q3_l 0 13 (by decide) (by decide)) (q3_l 0 14 (by decide) (by decide))⟩, Fw_sm h3 q2_l (fun a_l k_l _ hf => q3_l a_l k_l (fun z_l => by rw [WC_t (by omega)] at hf; cases hf) (fun z_l => by rw [WC_t (by omega)] at hf; cases hf)), RF_sm h4 q2_l.2.2⟩
theorem Msw_w (h : Msw s 218 0 V L) (hk : k0 < 100) (h13 : k0 ≠ 13) : Msw (gw s 218 k0 v) 218 0 (up V k0 v) L := by
  refine ⟨fun k_l hk2 => ?_, fun i_l j_l hi_l hj => ?_⟩
  · have h1 := h.1 k_l hk2
    rw [Nat.zero_add] at h1 ⊢
    unfold up
    by_cases c : k_l = k0
    · rw [if_pos c, c]
      exact rd_same rfl
    · rw [if_neg c]
      exact (rd_k rfl c).trans h1
  · rw [up_n (Ne.symm h13)] at hi_l
    exact (rd_k rfl (by omega)).trans (h.2 i_l j_l hi_l hj)
theorem Pm_q (h : Pm s n P) (e2 : ∀ k, gI t 221 k = gI s 221 k) (e3 : gI t 217 6 = gI s 217 6) : Pm t n P := ⟨e3.trans h.1, fun j_l hj => ⟨fun k hk => (e2 _).trans ((h.2 j_l hj).1 k hk), fun i_l l hi_l hl => (e2 _).trans ((h.2 j_l hj).2 i_l l hi_l hl)⟩⟩
theorem WM_8 (h : mnt k = true) : WM 218 k = true := uM _ _ (msd_8 h)
theorem Mst_w (h : Mst g s V L n P) (hk : k0 < 100) (h13 : k0 ≠ 13) (hm : mnt k0 = true) : Mst g (gw s 218 k0 v) (up V k0 v) L n P := by
  obtain ⟨⟨h1, h2⟩, h3, h4, h5⟩ := h
  exact ⟨⟨Msw_w h1 hk h13, Pm_q h2 (fun k_l => rd_a rfl (by decide)) (rd_a rfl (by decide))⟩, Fw_wv h3 (WM_8 hm), RF_sm h4 rfl, (rd_a rfl (by decide)).trans h5⟩
theorem Mst_210 (h : Mst g s V L n P) (h13 : 0 ≤ V 13 ∧ V 13 ≤ 60) (hi : i < 6) : gQ (f_210 217 (i : Int) w s) (fun r => Mst g r.2.2.2 (up V 13 (min 60 (V 13 + 1))) (lgL (V 7) (i : Int) w (V (40 + 6 * i)) L) n P) := by
  obtain ⟨⟨h1, h2⟩, h3, h4, h5⟩ := h
  intro r hr
  obtain ⟨q1_l, q2_l, q3_l⟩ := mt_210 h4 h1 h13 hi r hr
  exact ⟨⟨q1_l, Pm_q h2 (fun k_l => q3_l 221 k_l (by omega)) (q3_l 217 6 (by omega))⟩, Fw_sm h3 q2_l (fun a_l k_l _ hf => q3_l a_l k_l (fun z_l => by
    rw [z_l.1, WM_8 ?_] at hf
    · cases hf
    · rcases z_l.2 with e_l | e_l
      · rw [e_l]
        rfl
      · exact mnt_l k_l (by omega) (by omega))), RF_sm h4 q2_l.2.2, (q3_l 217 0 (by omega)).trans h5⟩
/-- reading -/
theorem Cst_r (h : Cst g s V L n P) (hi : Ci 15 a j k0) (hk : KK k0) : gI s a j = V k0 := rd_ci (C := 15) h.1.1.1 hi hk
theorem Mst_r (h : Mst g s V L n P) (hk : KK k) : gI s 218 k = V k := by
  have := h.1.1.1 k hk
  rw [Nat.zero_add] at this
  exact this
theorem cjm (hn : i < 6) (hj : j < 6) : Ci 15 (21 + i) j (40 + 6 * i + j) := by
  have h_l := cj_m (C := 15) (j := j) (Or.inl rfl) hn hj
  rw [show 15 + 6 + i = 21 + i by omega] at h_l
  exact h_l
theorem c15v : ∀ k, k < 100 → ∀ r, r < 6 → ∀ q, q < 2 → (pa 9 15 k = 17 + q ∧ pj k = r ↔ k = 88 + 2 * r + q) := by decide +kernel
theorem cjv (hn : i < 6) (hj : j < 2) : Ci 15 (17 + j) i (88 + 2 * i + j) := fun k_l hk => c15v k_l hk.1 i hn j hj
theorem c15b : ∀ k, k < 100 → (k ≠ 1 ∧ k ≠ 2 ∧ k ≠ 15) → (pa 9 15 k = 9 ∧ pj k = 9 ↔ k = 12) ∧ (pa 9 15 k = 9 ∧ pj k = 7 ↔ k = 10) ∧ (pa 9 15 k = 9 ∧ pj k = 8 ↔ k = 11) ∧ (pa 9 15 k = 9 ∧ pj k = 5 ↔ k = 3) := by decide +kernel
theorem cjb : Ci 15 9 9 12 ∧ Ci 15 9 7 10 ∧ Ci 15 9 8 11 ∧ Ci 15 9 5 3 := ⟨fun k_l hk => (c15b k_l hk.1 hk.2).1, fun k_l hk => (c15b k_l hk.1 hk.2).2.1, fun k_l hk => (c15b k_l hk.1 hk.2).2.2.1, fun k_l hk => (c15b k_l hk.1 hk.2).2.2.2⟩
theorem c15t : ∀ k, k < 100 → ∀ r, r < 6 → ∀ q, q < 2 → (pa 9 15 k = 13 + q ∧ pj k = r ↔ k = 76 + 2 * r + q) := by decide +kernel
theorem cjt (hn : i < 6) (hj : j < 2) : Ci 15 (13 + j) i (76 + 2 * i + j) := fun k_l hk => c15t k_l hk.1 i hn j hj
theorem cjc : Ci 15 15 6 8 ∧ Ci 15 15 7 9 ∧ Ci 15 15 8 7 ∧ Ci 15 15 9 14 := cj_c (Or.inl rfl)
/-- behind what is remembered -/
theorem Cst_140 (hg : RF s) (hn : 232 ≤ gn s) (ho : Okc c) (hp : Pok n P) (h : Cs s c n P) : gQ (f_140 0 s) (fun r => Cst s r.2.2.2 c.1 c.2 (pn n) (psh c P)) := fun r hr => by
  obtain ⟨q1_l, q2_l⟩ := ct_140 hg hn ho.2.2 hp.1 h r hr
  exact ⟨q1_l, q2_l, RF_fw hg q2_l⟩
theorem KK_m (hi : i < 6) (hj : j < 6) : KK (40 + 6 * i + j) := by unfold KK; omega
theorem KK_v (hi : i < 6) (hj : j < 2) : KK (88 + 2 * i + j) := by unfold KK; omega
theorem KK_t (hi : i < 6) (hj : j < 2) : KK (76 + 2 * i + j) := by unfold KK; omega
theorem KK_c : KK 3 ∧ KK 4 ∧ KK 5 ∧ KK 6 ∧ KK 7 ∧ KK 8 ∧ KK 9 ∧ KK 10 ∧ KK 11 ∧ KK 12 ∧ KK 13 ∧ KK 14 := by unfold KK; exact ⟨by decide, by decide, by decide, by decide, by decide, by decide, by decide, by decide, by decide, by decide, by decide, by decide⟩
/-- more ranges -/
noncomputable def Jn (V : Nat → Int) : Prop := (0 ≤ V 12 ∧ V 12 ≤ 50) ∧ ((0 ≤ V 5 ∧ V 5 ≤ 6) ∧ (0 ≤ V 6 ∧ V 6 ≤ 6)) ∧ ∀ i, i < 6 → 0 ≤ V (40 + 6 * i + 1) ∧ V (40 + 6 * i + 1) ≤ 9
theorem J_Jn {p : gP} (hJ : J p s) (h8 : ∀ k, gI s 218 k = V k) : Jn V := by
  have m_l : ∀ k x_l y_l, arn 218 k = some (x_l, y_l) → x_l ≤ V k ∧ V k ≤ y_l := fun k x_l y_l hk => by
    rw [← h8 k]
    exact J_ra hJ (a := 218) (k := k) (by decide) (by rw [k0_sp.2.2.2.1]; decide) hk
  refine ⟨m_l 12 0 50 rfl, ⟨m_l 5 0 6 rfl, m_l 6 0 6 rfl⟩, fun i_l hi_l => ?_⟩
  have h6 : i_l = 0 ∨ i_l = 1 ∨ i_l = 2 ∨ i_l = 3 ∨ i_l = 4 ∨ i_l = 5 := by omega
  rcases h6 with rfl | rfl | rfl | rfl | rfl | rfl
  · exact m_l 41 0 9 rfl
  · exact m_l 47 0 9 rfl
  · exact m_l 53 0 9 rfl
  · exact m_l 59 0 9 rfl
  · exact m_l 65 0 9 rfl
  · exact m_l 71 0 9 rfl
theorem n_139 (hg : RF s) (h : Cs s c n P) {x : Int} (hx : 0 ≤ x ∧ x < 6) : f_139 0 x s = if c.1 (40 + 6 * x.toNat + 5) = 0 then some (0, 0, 0, s) else some (6, 0, 0, gnw s 99) := by
  have e_l : gI s (21 + x.toNat) 5 = c.1 (40 + 6 * x.toNat + 5) := rd_ci (C := 15) h.1.1 (cjm (by omega) (by decide)) (KK_m (by omega) (by decide))
  unfold f_139 gchk
  rw [if_pos hx, (rr_0_5 hg).2, (rr_15_0 hg).2, rr_16 hg (by omega), e_l]
theorem n_137 (hg : RF s) (h : Rt s) {a1 : Int} : f_137 0 a1 s = if 0 ≤ a1 ∧ a1 < gI s 218 6 then some (0, 0, 0, s) else some (5, 0, 0, gnw s 99) := by
  unfold f_137 fb_137_15
  rw [(rr_0_5 hg).2, (ce_n h).2.2.2.1]
  by_cases c1 : a1 < 0
  · rw [if_pos c1, if_neg (by omega)]
  · rw [if_neg c1]
    by_cases c2 : a1 < gI s 218 6
    · rw [if_pos c2, if_pos (by omega)]
    · rw [if_neg c2, if_neg (by omega)]
theorem q_60 {b : Nat} : gQ (f_60 b v s) (fun r => r.2.2.2 = gw s b 0 (max 0 (min 99 (g32 (gI s b 0 + v))))) := by
  unfold f_60
  exact gQ_ret rfl
theorem Fw_nw {U : Nat → Nat → Bool} (hn : 232 ≤ gn s) : Fw U s (gnw s 99) := Fw_n (Fw_rf hn)
theorem Cs_nw (hn : 232 ≤ gn s) (h : Cs s c n P) : Cs (gnw s 99) c n P := Cs_e h (fun a_l k_l ha_l => gI_nw hn (by omega)) (gI_nw hn (by decide)) (gI_nw hn (by decide))
/-- refused: nothing is changed but an object more -/
theorem Cres_n {st : Nat → Int} {k : Nat} {T v : Int} {c' : gCt} (hn : 232 ≤ gn s) (h : Cs s c n P) (h1 : st k = T) (h0 : T ≠ 0) : Cres st s c n P (T, v, c') (k, 0, 0, gnw s 99) := ⟨Fw_nw hn, h1, fun z_l => absurd z_l h0, fun _ => Cs_nw hn h⟩
end Ms
