section
/-! a day, as a function of rows -/
noncomputable def up (V : Nat → Int) (k : Nat) (v : Int) : Nat → Int := fun j => if j = k then v else V j
noncomputable def paysF (c : Int) (V : Nat → Int) : Nat → Int := up (up V 8 (g32 (V 8 - min (V 8) c))) 9 (min 9999 (g32 (g32 (V 9 + c) - min (V 8) c)))
noncomputable def doneF (i a : Nat) (V : Nat → Int) : Nat → Int := up (up (up V (40 + 6 * i) (min 99 (g32 (V (40 + 6 * i) + V (16 + 3 * a + 2))))) (43 + 6 * i) ((a : Int) + 1)) (44 + 6 * i) 0
noncomputable def heatF (i a : Nat) (V : Nat → Int) : Nat → Int := if V (44 + 6 * i) + 1 < V (16 + 3 * a) then up V (44 + 6 * i) (V (44 + 6 * i) + 1) else doneF i a V
noncomputable def worksF (i : Nat) (V : Nat → Int) : Nat → Int := if V (43 + 6 * i) < V 3 then (if V (44 + 6 * i) = 0 then heatF i (V (43 + 6 * i)).toNat (paysF (V (16 + 3 * (V (43 + 6 * i)).toNat + 1)) V) else heatF i (V (43 + 6 * i)).toNat V) else V
noncomputable def trustF (T : (Nat → Int) → Int) (i : Nat) (V : Nat → Int) : Nat → Int := up V (40 + 6 * i) (max 0 (min 99 (g32 (V (40 + 6 * i) + T (fF V i)))))
noncomputable def barF (i : Nat) (V : Nat → Int) : Nat → Int := if V (40 + 6 * i) < V 10 then up V (45 + 6 * i) 1 else V
noncomputable def manF (T : (Nat → Int) → Int) (i : Nat) (V : Nat → Int) : Nat → Int := if V (45 + 6 * i) = 0 then barF i (trustF T i (worksF i V)) else V
noncomputable def menF (T : (Nat → Int) → Int) : Nat → (Nat → Int) → (Nat → Int)
  | 0, V => V
  | n + 1, V => manF T n (menF T n V)
/-- what holds of a row -/
noncomputable def Vg (V : Nat → Int) : Prop := ((0 ≤ V 3 ∧ V 3 ≤ 8) ∧ (0 ≤ V 4 ∧ V 4 ≤ 6)) ∧ (∀ i, i < 6 → (0 ≤ V (40 + 6 * i) ∧ V (40 + 6 * i) ≤ 99) ∧ (0 ≤ V (43 + 6 * i) ∧ V (43 + 6 * i) ≤ 8) ∧ (0 ≤ V (44 + 6 * i) ∧ V (44 + 6 * i) ≤ 30)) ∧ ∀ i, i < 8 → (0 ≤ V (16 + 3 * i) ∧ V (16 + 3 * i) ≤ 30) ∧ (0 ≤ V (16 + 3 * i + 2) ∧ V (16 + 3 * i + 2) ≤ 50)
section Dy
variable {V : Nat → Int} {i k : Nat} {T : (Nat → Int) → Int} {v c : Int}
theorem up_s : up V k v k = v := if_pos rfl
theorem up_n {j : Nat} (h : j ≠ k) : up V k v j = V j := if_neg h
theorem pays_n {j : Nat} (h : j ≠ 8 ∧ j ≠ 9) : paysF c V j = V j := by
  unfold paysF
  rw [up_n h.2, up_n h.1]
theorem Vg_pays (h : Vg V) : Vg (paysF c V) := by
  obtain ⟨h1, h2, h3⟩ := h
  refine ⟨?_, fun i_l hi_l => ?_, fun i_l hi_l => ?_⟩
  · rw [pays_n (by decide), pays_n (by decide)]
    exact h1
  · rw [pays_n (by omega), pays_n (by omega), pays_n (by omega)]
    exact h2 i_l hi_l
  · rw [pays_n (by omega), pays_n (by omega)]
    exact h3 i_l hi_l
theorem Vg_up0 (h : Vg V) (hi : i < 6) (hv : 0 ≤ v ∧ v ≤ 99) : Vg (up V (40 + 6 * i) v) := by
  obtain ⟨h1, h2, h3⟩ := h
  refine ⟨?_, fun j_l hj => ?_, fun j_l hj => ?_⟩
  · rw [up_n (by omega), up_n (by omega)]
    exact h1
  · have h9 := h2 j_l hj
    rw [up_n (k := 40 + 6 * i) (j := 43 + 6 * j_l) (by omega), up_n (k := 40 + 6 * i) (j := 44 + 6 * j_l) (by omega)]
    by_cases c : j_l = i
    · rw [c, up_s]
      rw [c] at h9
      exact ⟨hv, h9.2⟩
    · rw [up_n (by omega)]
      exact h9
  · rw [up_n (by omega), up_n (by omega)]
    exact h3 j_l hj
theorem Vg_up3 (h : Vg V) (hi : i < 6) (hv : 0 ≤ v ∧ v ≤ 8) : Vg (up V (43 + 6 * i) v) := by
  obtain ⟨h1, h2, h3⟩ := h
  refine ⟨?_, fun j_l hj => ?_, fun j_l hj => ?_⟩
  · rw [up_n (by omega), up_n (by omega)]
    exact h1
  · have h9 := h2 j_l hj
    rw [up_n (k := 43 + 6 * i) (j := 40 + 6 * j_l) (by omega), up_n (k := 43 + 6 * i) (j := 44 + 6 * j_l) (by omega)]
    by_cases c : j_l = i
    · rw [c, up_s]
      rw [c] at h9
      exact ⟨h9.1, hv, h9.2.2⟩
    · rw [up_n (by omega)]
      exact h9
  · rw [up_n (by omega), up_n (by omega)]
    exact h3 j_l hj
theorem Vg_up4 (h : Vg V) (hi : i < 6) (hv : 0 ≤ v ∧ v ≤ 30) : Vg (up V (44 + 6 * i) v) := by
  obtain ⟨h1, h2, h3⟩ := h
  refine ⟨?_, fun j_l hj => ?_, fun j_l hj => ?_⟩
  · rw [up_n (by omega), up_n (by omega)]
    exact h1
  · have h9 := h2 j_l hj
    rw [up_n (k := 44 + 6 * i) (j := 40 + 6 * j_l) (by omega), up_n (k := 44 + 6 * i) (j := 43 + 6 * j_l) (by omega)]
    by_cases c : j_l = i
    · rw [c, up_s]
      rw [c] at h9
      exact ⟨h9.1, h9.2.1, hv⟩
    · rw [up_n (by omega)]
      exact h9
  · rw [up_n (by omega), up_n (by omega)]
    exact h3 j_l hj
theorem Vg_up5 (h : Vg V) (hi : i < 6) : Vg (up V (45 + 6 * i) v) := by
  obtain ⟨h1, h2, h3⟩ := h
  refine ⟨?_, fun j_l hj => ?_, fun j_l hj => ?_⟩
  · rw [up_n (by omega), up_n (by omega)]
    exact h1
  · rw [up_n (by omega), up_n (by omega), up_n (by omega)]
    exact h2 j_l hj
  · rw [up_n (by omega), up_n (by omega)]
    exact h3 j_l hj
theorem Vg_done {a : Nat} (h : Vg V) (hi : i < 6) (ha : a < 8) : Vg (doneF i a V) := by
  have h2 := h.2.1 i hi
  have h3 := h.2.2 a ha
  unfold doneF
  refine Vg_up4 (Vg_up3 (Vg_up0 h hi ?_) hi (by omega)) hi (by decide)
  rw [g32_eq (v := V (40 + 6 * i) + V (16 + 3 * a + 2)) (by omega) (by omega)]
  omega
theorem Vg_heat {a : Nat} (h : Vg V) (hi : i < 6) (ha : a < 8) : Vg (heatF i a V) := by
  have h2 := h.2.1 i hi
  have h3 := h.2.2 a ha
  unfold heatF
  by_cases c : V (44 + 6 * i) + 1 < V (16 + 3 * a)
  · rw [if_pos c]
    exact Vg_up4 h hi (by omega)
  · rw [if_neg c]
    exact Vg_done h hi ha
theorem Vg_works (h : Vg V) (hi : i < 6) : Vg (worksF i V) := by
  have h2 := h.2.1 i hi
  have h1 := h.1
  unfold worksF
  by_cases c : V (43 + 6 * i) < V 3
  · rw [if_pos c]
    by_cases d : V (44 + 6 * i) = 0
    · rw [if_pos d]
      exact Vg_heat (Vg_pays h) hi (by omega)
    · rw [if_neg d]
      exact Vg_heat h hi (by omega)
  · rw [if_neg c]
    exact h
theorem Vg_man (h : Vg V) (hi : i < 6) : Vg (manF T i V) := by
  unfold manF
  by_cases c : V (45 + 6 * i) = 0
  · rw [if_pos c]
    have h2 : Vg (trustF T i (worksF i V)) := Vg_up0 (Vg_works h hi) hi (by omega)
    unfold barF
    by_cases d : trustF T i (worksF i V) (40 + 6 * i) < trustF T i (worksF i V) 10
    · rw [if_pos d]
      exact Vg_up5 h2 hi
    · rw [if_neg d]
      exact h2
  · rw [if_neg c]
    exact h
end Dy

end
section
/-! the model's day -/
noncomputable def Mv (s : gS) (V : Nat → Int) : Prop := ∀ k, k < 100 → gI s 218 k = V k
noncomputable def dyc (k : Nat) : Prop := k = 7 ∨ k = 8 ∨ k = 9 ∨ k = 14 ∨ (40 ≤ k ∧ k < 76)
noncomputable def Fdy (s t : gS) : Prop := (gn t = gn s ∧ (∀ a, gK t a = gK s a) ∧ ∀ a k, gR t a k = gR s a k) ∧ ∀ a k, ¬ (a = 218 ∧ dyc k) → a ≠ 223 → ¬ (a = 217 ∧ (9 ≤ k ∧ k ≤ 17 ∧ k ≠ 12 ∧ k ≠ 14)) → gI t a k = gI s a k
noncomputable def Mr (s : gS) : Prop := gR s 217 1 = 218 ∧ gR s 217 7 = 222 ∧ gR s 217 14 = 223
section Md
variable {s t u : gS} {V W : Nat → Int} {i k : Nat} {T : (Nat → Int) → Int} {v c x y : Int} {B : Nat}
theorem Fdy_r : Fdy s s := ⟨⟨rfl, fun _ => rfl, fun _ _ => rfl⟩, fun _ _ _ _ _ => rfl⟩
theorem Fdy_t (h : Fdy s t) (h2 : Fdy t u) : Fdy s u := ⟨⟨h2.1.1.trans h.1.1, fun a_l => (h2.1.2.1 a_l).trans (h.1.2.1 a_l), fun a_l k_l => (h2.1.2.2 a_l k_l).trans (h.1.2.2 a_l k_l)⟩, fun a_l k_l c1_l c2_l c3_l => (h2.2 a_l k_l c1_l c2_l c3_l).trans (h.2 a_l k_l c1_l c2_l c3_l)⟩
theorem Fdy_z (h : Fz s t) : Fdy s t := ⟨h.1, fun a_l k_l _ c2_l c3_l => h.2 a_l k_l c2_l c3_l⟩
theorem Fdy_w (hk : dyc k) : Fdy s (gw s 218 k v) := ⟨⟨rfl, fun _ => rfl, fun _ _ => rfl⟩, fun a_l j_l c1_l _ _ => by
  show (if a_l = 218 ∧ j_l = k then _ else gI s a_l j_l) = _
  rw [if_neg (fun z_l => c1_l ⟨z_l.1, by rw [z_l.2]; exact hk⟩)]⟩
theorem Mr_v (h : Mr s) (hf : Fdy s t) : Mr t := ⟨(hf.1.2.2 217 1).trans h.1, (hf.1.2.2 217 7).trans h.2.1, (hf.1.2.2 217 14).trans h.2.2⟩
theorem Mv_w (h : Mv s V) : Mv (gw s 218 k v) (up V k v) := fun j_l hj => by
  show (if 218 = 218 ∧ j_l = k then v else gI s 218 j_l) = if j_l = k then v else V j_l
  by_cases c : j_l = k
  · rw [if_pos ⟨rfl, c⟩, if_pos c]
  · rw [if_neg (fun z_l => c z_l.2), if_neg c]
    exact h j_l hj
theorem Mv_z (h : Mv s V) (hf : Fz s t) : Mv t V := fun j_l hj => (hf.2 218 j_l (by decide) (by omega)).trans (h j_l hj)
theorem Mv_e (h : Mv s V) (he : ∀ k, k < 100 → V k = W k) : Mv s W := fun k hk => (h k hk).trans (he k hk)
theorem Tlw_v (h : Tlw s 218 B T) (hf : Fdy s t) (hB : B < 100) (hn : ∀ a k, a < gn s → 232 ≤ a → gI t a k = gI s a k) : Tlw t 218 B T := by
  rcases h with ⟨t1_l, t2_l, t3_l⟩ | ⟨y_l, k, t1_l, ⟨L_l, e_l, ⟨l1, l2, l3⟩, l4, l5, l6⟩, ⟨t3_l, t4_l⟩, t5_l, t6⟩
  · exact Or.inl ⟨t1_l, (hf.2 218 1 (by unfold dyc; omega) (by decide) (by omega)).trans t2_l, (hf.1.2.2 B 11).trans t3_l⟩
  · have r1_l := hf.1.2.2 B 11
    have r2 : gR t (gR s B 11) 1 = gR s (gR s B 11) 1 := hf.1.2.2 _ _
    refine Or.inr ⟨y_l, k, t1_l, ⟨L_l, e_l, ⟨(hf.2 218 1 (by unfold dyc; omega) (by decide) (by omega)).trans l1, (hf.2 218 2 (by unfold dyc; omega) (by decide) (by omega)).trans l2, l3⟩, l4, fun j_l hj => (hf.2 218 _ (by unfold dyc; omega) (by decide) (by omega)).trans (l5 j_l hj), l6⟩, ?_, ?_, t6⟩
    · rw [r1_l, r2]
      exact ⟨t3_l, t4_l⟩
    · rw [r1_l]
      obtain ⟨b1, b2, b3, b4⟩ := t5_l
      refine ⟨(hf.2 _ 0 (by omega) (by omega) (by omega)).trans b1, ?_, ?_, ?_⟩
      · rw [r2]
        refine Eq.trans ?_ b2
        exact List.map_congr_left (fun j_l _ => hf.2 _ j_l (by omega) (by omega) (by omega))
      · rw [r2, hf.1.2.1]
        exact b3
      · rw [r2]
        exact b4
theorem dm_151 : gQ (f_151 x y s) (fun r => r.2.1 = min x y ∧ r.2.2.2 = s) := by
  unfold f_151
  by_cases c : x < y
  · rw [if_pos c]
    exact gQ_ret ⟨by dsimp only; omega, rfl⟩
  · rw [if_neg c]
    exact gQ_ret ⟨by dsimp only; omega, rfl⟩
theorem dm_152 : gQ (f_152 x y s) (fun r => r.2.1 = max x y ∧ r.2.2.2 = s) := by
  unfold f_152
  by_cases c : y < x
  · rw [if_pos c]
    exact gQ_ret ⟨by dsimp only; omega, rfl⟩
  · rw [if_neg c]
    exact gQ_ret ⟨by dsimp only; omega, rfl⟩
theorem dm_157 {j : Nat} (hr : gR s 217 1 = 218) (hi : i < 6) (hj : j < 6) : gQ (f_157 217 (i : Int) (j : Int) v s) (fun r => r.2.2.2 = gw s 218 (40 + 6 * i + j) v) := by
  have e_l : g32 (g32 (40 + g32 (6 * (i : Int))) + (j : Int)) = 40 + 6 * (i : Int) + (j : Int) := by
    rw [g32_eq (v := 6 * (i : Int)) (by omega) (by omega), g32_eq (v := 40 + 6 * (i : Int)) (by omega) (by omega), g32_eq (by omega) (by omega)]
  unfold f_157
  dsimp only
  rw [e_l, hr, show (40 + 6 * (i : Int) + (j : Int)).toNat = 40 + 6 * i + j by omega]
  exact gQ_chk (gQ_ret rfl)
theorem dm_156 {j : Nat} (hr : gR s 217 1 = 218) (hv : Mv s V) (hi : i < 6) (hj : j < 6) : gQ (f_156 217 (i : Int) (j : Int) s) (fun r => r.2.1 = V (40 + 6 * i + j) ∧ r.2.2.2 = s) := fun r hr2 => by
  have h1 := m_156 (s := s) (x := (i : Int)) (j := (j : Int)) hr (by omega) (by omega) r hr2
  rw [Int.toNat_natCast, Int.toNat_natCast] at h1
  exact ⟨h1.1.trans (hv _ (by omega)), h1.2⟩
theorem dm_155 {a j : Nat} (hr : gR s 217 1 = 218) (hv : Mv s V) (ha : a < 8) (hj : j < 3) : gQ (f_155 217 (a : Int) (j : Int) s) (fun r => r.2.1 = V (16 + 3 * a + j) ∧ r.2.2.2 = s) := fun r hr2 => by
  have h1 := m_155 (s := s) (x := (a : Int)) (j := (j : Int)) hr (by omega) (by omega) r hr2
  rw [Int.toNat_natCast, Int.toNat_natCast] at h1
  exact ⟨h1.1.trans (hv _ (by omega)), h1.2⟩
theorem dm_200 (hr : gR s 217 1 = 218) (hv : Mv s V) : gQ (f_200 217 c s) (fun r => Mv r.2.2.2 (paysF c V) ∧ Fdy s r.2.2.2) := by
  unfold f_200
  rw [hr]
  refine gQ_w1 (A := fun w_l z_l => w_l = min c (gI s 218 8) ∧ z_l = s) dm_151 (fun w_l z_l hz => ?_)
  obtain ⟨z1, z2⟩ := hz
  rw [z1, z2]
  dsimp only
  simp only [gR_w, hr]
  have e9_l : gI (gw s 218 8 (g32 (gI s 218 8 - min c (gI s 218 8)))) 218 9 = gI s 218 9 := rd_k (a := 218) (k := 9) rfl (by decide)
  rw [e9_l]
  refine gQ_w1 (A := fun w_l z_l => w_l = min 9999 (g32 (g32 (gI s 218 9 + c) - min c (gI s 218 8))) ∧ z_l = gw s 218 8 (g32 (gI s 218 8 - min c (gI s 218 8)))) dm_151 (fun w_l z_l hz => ?_)
  obtain ⟨z1, z2⟩ := hz
  rw [z1, z2]
  have v8 := hv 8 (by decide)
  have v9 := hv 9 (by decide)
  rw [v8, v9, show min c (V 8) = min (V 8) c from Int.min_comm _ _]
  exact gQ_ret ⟨Mv_w (Mv_w hv), Fdy_t (Fdy_w (by unfold dyc; omega)) (Fdy_w (by unfold dyc; omega))⟩
theorem dm_heat {a : Nat} (hr : gR s 217 1 = 218) (hv : Mv s V) (hg : Vg V) (hi : i < 6) (ha : a < 8) : gQ (fb_201_37 217 (i : Int) (a : Int) s) (fun r => Mv r.2.2.2 (heatF i a V) ∧ Fdy s r.2.2.2) := by
  have g2 := hg.2.1 i hi
  have g3_l := hg.2.2 a ha
  unfold fb_201_37
  refine gQ_w1 (A := fun w_l z_l => w_l = V (40 + 6 * i + 4) ∧ z_l = s) (dm_156 (j := 4) hr hv hi (by decide)) (fun w_l z_l hz => ?_)
  obtain ⟨z1, z2⟩ := hz
  rw [z1, z2, show 40 + 6 * i + 4 = 44 + 6 * i by omega, g32_eq (v := V (44 + 6 * i) + 1) (by omega) (by omega)]
  refine gQ_v0 (A := fun z_l => z_l = gw s 218 (40 + 6 * i + 4) (V (44 + 6 * i) + 1)) (dm_157 (j := 4) hr hi (by decide)) (fun z_l hz => ?_)
  have hv1 : Mv z_l (up V (44 + 6 * i) (V (44 + 6 * i) + 1)) := by
    rw [hz, show 40 + 6 * i + 4 = 44 + 6 * i by omega]
    exact Mv_w hv
  have f1_l : Fdy s z_l := by
    rw [hz]
    exact Fdy_w (by unfold dyc; omega)
  have r1_l : gR z_l 217 1 = 218 := (f1_l.1.2.2 217 1).trans hr
  clear hz
  refine gQ_w1 (A := fun w_l y_l => w_l = V (44 + 6 * i) + 1 ∧ y_l = z_l) (fun r hr2 => ?_) (fun w_l y_l hy => ?_)
  · obtain ⟨q1_l, q2_l⟩ := dm_156 (i := i) (j := 4) r1_l hv1 hi (by decide) r hr2
    refine ⟨q1_l.trans ?_, q2_l⟩
    rw [show 40 + 6 * i + 4 = 44 + 6 * i by omega, up_s]
  obtain ⟨y1, y2⟩ := hy
  rw [y1, y2]
  refine gQ_w1 (A := fun w_l y_l => w_l = V (16 + 3 * a) ∧ y_l = z_l) (fun r hr2 => ?_) (fun w_l y_l hy => ?_)
  · obtain ⟨q1_l, q2_l⟩ := dm_155 (a := a) (j := 0) r1_l hv1 ha (by decide) r hr2
    refine ⟨q1_l.trans ?_, q2_l⟩
    rw [up_n (by omega)]
    rfl
  obtain ⟨y1, y2⟩ := hy
  rw [y1, y2]
  unfold heatF
  by_cases c1 : V (44 + 6 * i) + 1 < V (16 + 3 * a)
  · rw [if_pos c1, if_pos c1]
    exact gQ_ret ⟨hv1, f1_l⟩
  rw [if_neg c1, if_neg c1]
  refine gQ_w1 (A := fun w_l y_l => w_l = V (40 + 6 * i) ∧ y_l = z_l) (fun r hr2 => ?_) (fun w_l y_l hy => ?_)
  · obtain ⟨q1_l, q2_l⟩ := dm_156 (i := i) (j := 0) r1_l hv1 hi (by decide) r hr2
    refine ⟨q1_l.trans ?_, q2_l⟩
    rw [up_n (by omega)]
    rfl
  obtain ⟨y1, y2⟩ := hy
  rw [y1, y2]
  refine gQ_w1 (A := fun w_l y_l => w_l = V (16 + 3 * a + 2) ∧ y_l = z_l) (fun r hr2 => ?_) (fun w_l y_l hy => ?_)
  · obtain ⟨q1_l, q2_l⟩ := dm_155 (a := a) (j := 2) r1_l hv1 ha (by decide) r hr2
    refine ⟨q1_l.trans ?_, q2_l⟩
    rw [up_n (by omega)]
  obtain ⟨y1, y2⟩ := hy
  rw [y1, y2]
  refine gQ_w1 (A := fun w_l y_l => w_l = min 99 (g32 (V (40 + 6 * i) + V (16 + 3 * a + 2))) ∧ y_l = z_l) dm_151 (fun w_l y_l hy => ?_)
  obtain ⟨y1, y2⟩ := hy
  rw [y1, y2]
  refine gQ_v0 (A := fun y_l => y_l = gw z_l 218 (40 + 6 * i + 0) (min 99 (g32 (V (40 + 6 * i) + V (16 + 3 * a + 2))))) (dm_157 (j := 0) r1_l hi (by decide)) (fun z2 h2 => ?_)
  have r2 : gR z2 217 1 = 218 := by rw [h2]; exact r1_l
  rw [g32_eq (v := (a : Int) + 1) (by omega) (by omega)]
  refine gQ_v0 (A := fun y_l => y_l = gw z2 218 (40 + 6 * i + 3) ((a : Int) + 1)) (dm_157 (j := 3) r2 hi (by decide)) (fun z3 h3 => ?_)
  have r3 : gR z3 217 1 = 218 := by rw [h3]; exact r2
  refine gQ_v0 (A := fun y_l => y_l = gw z3 218 (40 + 6 * i + 4) 0) (dm_157 (j := 4) r3 hi (by decide)) (fun z4 h4 => ?_)
  refine gQ_ret ⟨?_, ?_⟩
  · dsimp only
    rw [h4, h3, h2, show 40 + 6 * i + 0 = 40 + 6 * i by omega, show 40 + 6 * i + 3 = 43 + 6 * i by omega, show 40 + 6 * i + 4 = 44 + 6 * i by omega]
    refine Mv_e (Mv_w (Mv_w (Mv_w hv1))) (fun k_l _ => ?_)
    unfold doneF up
    by_cases d1 : k_l = 44 + 6 * i
    · rw [if_pos d1, if_pos d1]
    · rw [if_neg d1, if_neg d1, if_neg d1]
  · dsimp only
    rw [h4, h3, h2]
    exact Fdy_t f1_l (Fdy_t (Fdy_w (by unfold dyc; omega)) (Fdy_t (Fdy_w (by unfold dyc; omega)) (Fdy_w (by unfold dyc; omega))))
theorem dm_201 (hr : gR s 217 1 = 218) (hv : Mv s V) (hg : Vg V) (hi : i < 6) : gQ (f_201 217 (i : Int) s) (fun r => Mv r.2.2.2 (worksF i V) ∧ Fdy s r.2.2.2) := by
  have g1 := hg.1
  have g2 := hg.2.1 i hi
  unfold f_201 worksF
  refine gQ_w1 (A := fun w_l z_l => w_l = V (40 + 6 * i + 3) ∧ z_l = s) (dm_156 (j := 3) hr hv hi (by decide)) (fun w_l z_l hz => ?_)
  obtain ⟨z1, z2⟩ := hz
  rw [z1, z2, show 40 + 6 * i + 3 = 43 + 6 * i by omega, hr, hv 3 (by decide)]
  by_cases c1 : V (43 + 6 * i) < V 3
  · rw [if_pos c1, if_pos c1]
    obtain ⟨a_l, ha_l⟩ : ∃ a_l : Nat, V (43 + 6 * i) = (a_l : Int) := ⟨(V (43 + 6 * i)).toNat, by omega⟩
    rw [ha_l, Int.toNat_natCast]
    have ha8 : a_l < 8 := by omega
    refine gQ_w1 (A := fun w_l z_l => w_l = V (40 + 6 * i + 4) ∧ z_l = s) (dm_156 (j := 4) hr hv hi (by decide)) (fun w_l z_l hz => ?_)
    obtain ⟨z1, z2⟩ := hz
    rw [z1, z2, show 40 + 6 * i + 4 = 44 + 6 * i by omega]
    by_cases c2 : V (44 + 6 * i) = 0
    · rw [if_pos c2, if_pos c2]
      refine gQ_w1 (A := fun w_l z_l => w_l = V (16 + 3 * a_l + 1) ∧ z_l = s) (dm_155 (j := 1) hr hv ha8 (by decide)) (fun w_l z_l hz => ?_)
      obtain ⟨z1, z2⟩ := hz
      rw [z1, z2]
      refine gQ_v0 (A := fun z_l => Mv z_l (paysF (V (16 + 3 * a_l + 1)) V) ∧ Fdy s z_l) (dm_200 hr hv) (fun z_l hz => ?_)
      refine fun r hr2 => ?_
      obtain ⟨x1_l, x2_l⟩ := dm_heat ((hz.2.1.2.2 217 1).trans hr) hz.1 (Vg_pays hg) hi ha8 r hr2
      exact ⟨x1_l, Fdy_t hz.2 x2_l⟩
    · rw [if_neg c2, if_neg c2]
      exact dm_heat hr hv hg hi ha8
  · rw [if_neg c1, if_neg c1]
    exact gQ_ret ⟨hv, Fdy_r⟩
end Md

end
section
/-! the model's days -/
noncomputable def mid2 (T : (Nat → Int) → Int) (i : Nat) (V : Nat → Int) : Nat → Int := trustF T i (worksF i V)
noncomputable def fallF (T : (Nat → Int) → Int) (i : Nat) (V : Nat → Int) : Int := if V (45 + 6 * i) = 0 then (if mid2 T i V (40 + 6 * i) < mid2 T i V 10 then 1 else 0) else 0
noncomputable def keptF (T : (Nat → Int) → Int) (i : Nat) (V : Nat → Int) : Int := if V (45 + 6 * i) = 0 then (if mid2 T i V (40 + 6 * i) < mid2 T i V 10 then 0 else 1) else 0
noncomputable def fallS (T : (Nat → Int) → Int) : Nat → (Nat → Int) → Int
  | 0, _ => 0
  | n + 1, V => fallS T n V + fallF T n (menF T n V)
noncomputable def keptS (T : (Nat → Int) → Int) : Nat → (Nat → Int) → Int
  | 0, _ => 0
  | n + 1, V => keptS T n V + keptF T n (menF T n V)
noncomputable def nsd (x : Int) : Int := g32 (g32 (1103515245 * x) + 12345)
noncomputable def luckF (k : Int) (W : Nat → Int) : Nat → Int := if grem (gand (gushr (nsd (W 14)) 16) 32767) 100 < W 11 ∧ 0 < k then up (up W 14 (nsd (W 14))) 8 (min 9999 (g32 (W 8 + 50))) else up W 14 (nsd (W 14))
noncomputable def nextF (W : Nat → Int) : Nat → Int := up W 7 (min 9999 (g32 (W 7 + 1)))
noncomputable def dayF (T : (Nat → Int) → Int) (lu : Int) (V : Nat → Int) : Nat → Int := nextF (if lu = 0 then menF T (V 4).toNat V else luckF (keptS T (V 4).toNat V) (menF T (V 4).toNat V))
noncomputable def daysF (T : (Nat → Int) → Int) (lu : Int) : Nat → (Nat → Int) → (Nat → Int)
  | 0, V => V
  | n + 1, V => dayF T lu (daysF T lu n V)
noncomputable def fallD (T : (Nat → Int) → Int) (lu : Int) : Nat → (Nat → Int) → Int
  | 0, _ => 0
  | n + 1, V => fallD T lu n V + fallS T (daysF T lu n V 4).toNat (daysF T lu n V)
section Me
variable {s t u : gS} {V W : Nat → Int} {i k : Nat} {T : (Nat → Int) → Int} {v c x y lu : Int} {B : Nat}
theorem works_n {j : Nat} (hj : j ≠ 8 ∧ j ≠ 9 ∧ (j < 40 ∨ 76 ≤ j)) (hi : i < 6) : worksF i V j = V j := by
  have hd_l : ∀ a_l W_l, doneF i a_l W_l j = W_l j := fun a_l W_l => by
    unfold doneF
    rw [up_n (by omega), up_n (by omega), up_n (by omega)]
  have hh : ∀ a_l W_l, heatF i a_l W_l j = W_l j := fun a_l W_l => by
    unfold heatF
    split
    · rw [up_n (by omega)]
    · exact hd_l a_l W_l
  unfold worksF
  split
  · split
    · rw [hh, pays_n ⟨hj.1, hj.2.1⟩]
    · rw [hh]
  · rfl
theorem mid2_n {j : Nat} (hj : j ≠ 8 ∧ j ≠ 9 ∧ (j < 40 ∨ 76 ≤ j)) (hi : i < 6) : mid2 T i V j = V j := by
  unfold mid2 trustF
  rw [up_n (by omega), works_n hj hi]
theorem man_n {j : Nat} (hj : j ≠ 8 ∧ j ≠ 9 ∧ (j < 40 ∨ 76 ≤ j)) (hi : i < 6) : manF T i V j = V j := by
  unfold manF barF
  split
  · split
    · rw [up_n (by omega)]
      exact mid2_n hj hi
    · exact mid2_n hj hi
  · rfl
theorem men_n {j : Nat} (hj : j ≠ 8 ∧ j ≠ 9 ∧ (j < 40 ∨ 76 ≤ j)) (n : Nat) (hn : n ≤ 6) : menF T n V j = V j := by
  induction n with
  | zero => rfl
  | succ n ih_l => exact (man_n hj (by omega)).trans (ih_l (by omega))
theorem Vg_men (h : Vg V) (n : Nat) (hn : n ≤ 6) : Vg (menF T n V) := by
  induction n with
  | zero => exact h
  | succ n ih_l => exact Vg_man (ih_l (by omega)) (by omega)
theorem fall_b : 0 ≤ fallF T i V ∧ fallF T i V ≤ 1 ∧ 0 ≤ keptF T i V ∧ keptF T i V ≤ 1 := by
  unfold fallF keptF
  split
  · split
    · decide
    · decide
  · decide
theorem fallS_b (n : Nat) : (0 ≤ fallS T n V ∧ fallS T n V ≤ n) ∧ (0 ≤ keptS T n V ∧ keptS T n V ≤ n) := by
  induction n with
  | zero => exact ⟨⟨Int.le_refl 0, Int.le_refl 0⟩, Int.le_refl 0, Int.le_refl 0⟩
  | succ n ih_l =>
    have h_l := fall_b (T := T) (i := n) (V := menF T n V)
    show (0 ≤ fallS T n V + fallF T n (menF T n V) ∧ fallS T n V + fallF T n (menF T n V) ≤ ((n + 1 : Nat) : Int)) ∧ (0 ≤ keptS T n V + keptF T n (menF T n V) ∧ keptS T n V + keptF T n (menF T n V) ≤ ((n + 1 : Nat) : Int))
    omega
/-- the end of a day -/
theorem Vg_o {j : Nat} (h : Vg V) (hj : j = 7 ∨ j = 8 ∨ j = 14) : Vg (up V j v) := by
  obtain ⟨h1, h2, h3⟩ := h
  refine ⟨?_, fun i_l hi_l => ?_, fun i_l hi_l => ?_⟩
  · rw [up_n (by omega), up_n (by omega)]
    exact h1
  · rw [up_n (by omega), up_n (by omega), up_n (by omega)]
    exact h2 i_l hi_l
  · rw [up_n (by omega), up_n (by omega)]
    exact h3 i_l hi_l
theorem Vg_day (h : Vg V) : Vg (dayF T lu V) := by
  have h9 := Vg_men (T := T) h (V 4).toNat (by have := h.1; omega)
  unfold dayF nextF luckF
  refine Vg_o ?_ (Or.inl rfl)
  split
  · exact h9
  · split
    · exact Vg_o (Vg_o h9 (by omega)) (by omega)
    · exact Vg_o h9 (by omega)
theorem Vg_days (h : Vg V) (n : Nat) : Vg (daysF T lu n V) := by
  induction n with
  | zero => exact h
  | succ n ih_l => exact Vg_day ih_l
theorem fF_e (h : ∀ k, k < 100 → V k = W k) (hi : i < 6) : fF V i = fF W i := by
  funext j
  unfold fF
  rw [h (40 + 6 * i) (by omega), h (41 + 6 * i) (by omega), h (43 + 6 * i) (by omega), h (44 + 6 * i) (by omega), h 9 (by decide), h 7 (by decide), h 3 (by decide)]
theorem dm_165 (hr : gR s 217 1 = 218) (hv : Mv s V) (hi : i < 6) : gQ (f_165 217 (i : Int) s) (fun r => r.2.1 = (if V (45 + 6 * i) = 0 then 1 else 0) ∧ r.2.2.2 = s) := by
  unfold f_165
  refine gQ_w1 (A := fun w_l z_l => w_l = V (40 + 6 * i + 5) ∧ z_l = s) (dm_156 (j := 5) hr hv hi (by decide)) (fun w_l z_l hz => ?_)
  obtain ⟨z1, z2⟩ := hz
  rw [z1, z2, show 40 + 6 * i + 5 = 45 + 6 * i by omega]
  by_cases c : V (45 + 6 * i) = 0
  · rw [if_pos c, if_pos c]
    exact gQ_ret ⟨rfl, rfl⟩
  · rw [if_neg c, if_neg c]
    exact gQ_ret ⟨rfl, rfl⟩
/-- a man's day, as the model's loop goes -/
theorem dm_man {x1 x2 x3 x4 x5 : Int} (hm : Mr s) (hT : ∀ t, Fdy s t → Tlw t 218 B T) (hv : Mv s V) (hg : Vg V) (hi : i < 6) (c4 : (i : Int) < V 4) (h3 : 0 ≤ x3 ∧ x3 ≤ 100000) (h5 : 0 ≤ x5 ∧ x5 ≤ 100) : gQ (sb_202_17 217 x1 x2 x3 x4 x5 (i : Int) s) (fun a => ∃ t, a = Sum.inl (217, x1, x2, x3 + fallF T i V, x4, x5 + keptF T i V, (i : Int) + 1, t) ∧ Mv t (manF T i V) ∧ Fdy s t) := by
  have hr := hm.1
  unfold sb_202_17
  rw [hr, hv 4 (by decide), if_pos c4, g32_eq (v := (i : Int) + 1) (by omega) (by omega)]
  refine gQ_w1 (A := fun w_l z_l => w_l = (if V (45 + 6 * i) = 0 then 1 else 0) ∧ z_l = s) (dm_165 hr hv hi) (fun w_l z_l hz => ?_)
  obtain ⟨z1, z2⟩ := hz
  rw [z1, z2]
  unfold fallF keptF manF
  by_cases c5 : V (45 + 6 * i) = 0
  · rw [if_pos c5, if_neg (show ¬ (1 : Int) = 0 by decide), if_pos c5, if_pos c5, if_pos c5]
    refine gQ_v0 (A := fun z_l => Mv z_l (worksF i V) ∧ Fdy s z_l) (dm_201 hr hv hg hi) (fun s4_l h4 => ?_)
    obtain ⟨v4_l, f4_l⟩ := h4
    have m4_l := Mr_v hm f4_l
    refine gQ_w1 (A := fun w_l z_l => w_l = worksF i V (40 + 6 * i + 0) ∧ z_l = s4_l) (dm_156 (j := 0) m4_l.1 v4_l hi (by decide)) (fun w_l z_l hz => ?_)
    obtain ⟨z1, z2⟩ := hz
    rw [z1, z2, show 40 + 6 * i + 0 = 40 + 6 * i by omega]
    refine gQ_w1 (A := fun w_l z_l => Fz s4_l z_l ∧ w_l = T (fF (worksF i V) i)) (fun r_l hr2 => ?_) (fun w_l s8 h8 => ?_)
    · obtain ⟨q1_l, q2_l⟩ := j_198 (hT s4_l f4_l) m4_l hi r_l hr2
      refine ⟨q1_l, q2_l.trans ?_⟩
      rw [fF_e (V := gI s4_l 218) (W := worksF i V) (fun k_l hk => v4_l k_l hk) hi]
    obtain ⟨f8_l, w8⟩ := h8
    rw [w8]
    have v8 := Mv_z v4_l f8_l
    have f48 := Fdy_t f4_l (Fdy_z f8_l)
    have m8' := Mr_v hm f48
    refine gQ_w1 (A := fun w_l z_l => w_l = min 99 (g32 (worksF i V (40 + 6 * i) + T (fF (worksF i V) i))) ∧ z_l = s8) dm_151 (fun w_l z_l hz => ?_)
    obtain ⟨z1, z2⟩ := hz
    rw [z1, z2]
    refine gQ_w1 (A := fun w_l z_l => w_l = max 0 (min 99 (g32 (worksF i V (40 + 6 * i) + T (fF (worksF i V) i)))) ∧ z_l = s8) dm_152 (fun w_l z_l hz => ?_)
    obtain ⟨z1, z2⟩ := hz
    rw [z1, z2]
    refine gQ_v0 (A := fun z_l => z_l = gw s8 218 (40 + 6 * i + 0) (max 0 (min 99 (g32 (worksF i V (40 + 6 * i) + T (fF (worksF i V) i)))))) (dm_157 (j := 0) m8'.1 hi (by decide)) (fun s14 h14 => ?_)
    have v14 : Mv s14 (mid2 T i V) := by
      rw [h14]
      exact Mv_w v8
    have f14_l : Fdy s s14 := by
      rw [h14]
      exact Fdy_t f48 (Fdy_w (by unfold dyc; omega))
    have m14 := Mr_v hm f14_l
    clear h14
    refine gQ_w1 (A := fun w_l z_l => w_l = mid2 T i V (40 + 6 * i + 0) ∧ z_l = s14) (dm_156 (j := 0) m14.1 v14 hi (by decide)) (fun w_l z_l hz => ?_)
    obtain ⟨z1, z2⟩ := hz
    rw [z1, z2, show 40 + 6 * i + 0 = 40 + 6 * i by omega, m14.1, v14 10 (by decide)]
    unfold barF
    by_cases c6 : mid2 T i V (40 + 6 * i) < mid2 T i V 10
    · have c6' : trustF T i (worksF i V) (40 + 6 * i) < trustF T i (worksF i V) 10 := c6
      rw [if_pos c6, if_pos c6, if_pos c6, if_pos c6', g32_eq (v := x3 + 1) (by omega) (by omega)]
      refine gQ_v0 (A := fun z_l => z_l = gw s14 218 (40 + 6 * i + 5) 1) (dm_157 (j := 5) m14.1 hi (by decide)) (fun s18 h18 => ?_)
      refine gQ_ret ⟨s18, by rw [Int.add_zero], ?_, ?_⟩
      · rw [h18, show 40 + 6 * i + 5 = 45 + 6 * i by omega]
        exact Mv_w v14
      · rw [h18]
        exact Fdy_t f14_l (Fdy_w (by unfold dyc; omega))
    · have c6' : ¬ trustF T i (worksF i V) (40 + 6 * i) < trustF T i (worksF i V) 10 := c6
      rw [if_neg c6, if_neg c6, if_neg c6, if_neg c6', g32_eq (v := x5 + 1) (by omega) (by omega)]
      exact gQ_ret ⟨s14, by rw [Int.add_zero], v14, f14_l⟩
  · rw [if_neg c5, if_pos (show (0 : Int) = 0 from rfl), if_neg c5, if_neg c5, if_neg c5]
    exact gQ_ret ⟨s, by rw [Int.add_zero, Int.add_zero], hv, Fdy_r⟩
/-- a day, as the model's loop goes -/
theorem dm_day {x1 x3 x4 : Int} (hm : Mr s) (hT : ∀ t, Fdy s t → Tlw t 218 B T) (hv : Mv s V) (hg : Vg V) (h3 : 0 ≤ x3 ∧ x3 ≤ 90000) (h4 : 0 ≤ x4 ∧ x4 ≤ 1000) : gQ (gloop st_202_17 (217, x1, lu, x3, x4, 0, 0, s)) (fun a => ∃ t, a = Sum.inl (217, x1, lu, x3 + fallS T (V 4).toNat V, x4 + 1, t) ∧ Mv t (dayF T lu V) ∧ Fdy s t) := by
  have hV4 := hg.1.2
  refine gQ_loop (fun y_l => ∃ (n_l : Nat) (t : gS), y_l = (217, x1, lu, x3 + fallS T n_l V, x4, keptS T n_l V, (n_l : Int), t) ∧ (n_l : Int) ≤ V 4 ∧ Mv t (menF T n_l V) ∧ Fdy s t) (fun y_l hy => ?_) ⟨0, s, by show _ = (217, x1, lu, x3 + 0, x4, 0, ((0 : Nat) : Int), s); rw [Int.add_zero]; rfl, by omega, hv, Fdy_r⟩
  obtain ⟨n_l, t, rfl, hn, ht, ft⟩ := hy
  have hn6 : n_l ≤ 6 := by omega
  have hb_l := fallS_b (T := T) (V := V) n_l
  have hgn := Vg_men (T := T) hg n_l hn6
  have mt_l := Mr_v hm ft
  have e4_l : menF T n_l V 4 = V 4 := men_n (by omega) n_l hn6
  show gQ (sb_202_17 217 x1 lu (x3 + fallS T n_l V) x4 (keptS T n_l V) (n_l : Int) t) _
  by_cases c : (n_l : Int) < V 4
  · refine fun a ha_l => ?_
    obtain ⟨z_l, q1_l, q2_l, q3_l⟩ := dm_man (B := B) (T := T) (i := n_l) mt_l (fun w_l hw => hT w_l (Fdy_t ft hw)) ht hgn (by omega) (by rw [e4_l]; exact c) (by omega) (by omega) a ha_l
    rw [q1_l]
    refine ⟨n_l + 1, z_l, ?_, by omega, q2_l, Fdy_t ft q3_l⟩
    show (217, x1, lu, x3 + fallS T n_l V + fallF T n_l (menF T n_l V), x4, keptS T n_l V + keptF T n_l (menF T n_l V), (n_l : Int) + 1, z_l) = (217, x1, lu, x3 + (fallS T n_l V + fallF T n_l (menF T n_l V)), x4, keptS T n_l V + keptF T n_l (menF T n_l V), ((n_l + 1 : Nat) : Int), z_l)
    rw [Int.add_assoc]
    rfl
  · have en : (V 4).toNat = n_l := by omega
    unfold sb_202_17
    rw [mt_l.1, ht 4 (by decide), e4_l, if_neg c]
    refine gQ_map ?_
    unfold dayF
    rw [en]
    have fin_l : ∀ (z_l : gS) (W_l : Nat → Int), Mv z_l W_l → Fdy s z_l → gR z_l 217 1 = 218 → gQ (fb_202_164 217 x1 lu (x3 + fallS T n_l V) x4 z_l) (fun a => ∃ t, a = Sum.inl (217, x1, lu, x3 + fallS T n_l V, x4 + 1, t) ∧ Mv t (nextF W_l) ∧ Fdy s t) := fun z_l W_l hz fz rz => by
      unfold fb_202_164
      rw [rz, hz 7 (by decide)]
      refine gQ_w1 (A := fun w_l y_l => w_l = min 9999 (g32 (W_l 7 + 1)) ∧ y_l = z_l) dm_151 (fun w_l y_l hy => ?_)
      obtain ⟨y1, y2⟩ := hy
      rw [y1, y2]
      dsimp only
      rw [g32_eq (v := x4 + 1) (by omega) (by omega)]
      exact gQ_ret ⟨_, rfl, Mv_w hz, Fdy_t fz (Fdy_w (by unfold dyc; omega))⟩
    by_cases cl : lu = 0
    · rw [if_pos cl, if_pos cl]
      exact fin_l t _ ht ft mt_l.1
    · rw [if_neg cl, if_neg cl]
      refine gQ_w1 (A := fun w_l z_l => w_l = grem (gand (gushr (nsd (menF T n_l V 14)) 16) 32767) 100 ∧ z_l = gw t 218 14 (nsd (menF T n_l V 14))) ?_ (fun w_l z_l hz => ?_)
      · unfold f_199
        dsimp only
        simp only [gR_w, mt_l.1]
        rw [if_neg (by decide), ht 14 (by decide)]
        have e14_l : gI (gw t 218 14 (g32 (g32 (1103515245 * menF T n_l V 14) + 12345))) 218 14 = nsd (menF T n_l V 14) := rd_same rfl
        rw [e14_l]
        exact gQ_ret ⟨rfl, rfl⟩
      · obtain ⟨z1, z2⟩ := hz
        have vz : Mv z_l (up (menF T n_l V) 14 (nsd (menF T n_l V 14))) := by
          rw [z2]
          exact Mv_w ht
        have fz : Fdy s z_l := by
          rw [z2]
          exact Fdy_t ft (Fdy_w (by unfold dyc; omega))
        have rz := (Mr_v hm fz).1
        clear z2
        rw [z1, rz, vz 11 (by decide), up_n (by decide)]
        unfold luckF
        by_cases d1 : grem (gand (gushr (nsd (menF T n_l V 14)) 16) 32767) 100 < menF T n_l V 11
        · rw [if_pos d1]
          by_cases d2 : 0 < keptS T n_l V
          · rw [if_pos d2, if_pos ⟨d1, d2⟩, vz 8 (by decide), up_n (by decide)]
            refine gQ_w1 (A := fun w_l y_l => w_l = min 9999 (g32 (menF T n_l V 8 + 50)) ∧ y_l = z_l) dm_151 (fun w_l y_l hy => ?_)
            obtain ⟨y1, y2⟩ := hy
            rw [y1, y2]
            exact fin_l _ _ (Mv_w vz) (Fdy_t fz (Fdy_w (by unfold dyc; omega))) rz
          · rw [if_neg d2, if_neg (fun q_l => d2 q_l.2)]
            exact fin_l z_l _ vz fz rz
        · rw [if_neg d1, if_neg (fun q_l => d1 q_l.1)]
          exact fin_l z_l _ vz fz rz
theorem dm_202 {n : Nat} (hn : n ≤ 1000) (hm : Mr s) (hT : ∀ t, Fdy s t → Tlw t 218 B T) (hv : Mv s V) (hg : Vg V) : gQ (f_202 217 (n : Int) lu s) (fun r => r.2.1 = fallD T lu n V ∧ Mv r.2.2.2 (daysF T lu n V) ∧ Fdy s r.2.2.2) := by
  have fb : ∀ j_l, 0 ≤ fallD T lu j_l V ∧ fallD T lu j_l V ≤ 6 * j_l := fun j_l => by
    induction j_l with
    | zero => exact ⟨Int.le_refl 0, Int.le_refl 0⟩
    | succ j_l ih_l =>
      have h9 := fallS_b (T := T) (V := daysF T lu j_l V) (daysF T lu j_l V 4).toNat
      have h8 := (Vg_days (T := T) (lu := lu) hg j_l).1.2
      show 0 ≤ fallD T lu j_l V + fallS T (daysF T lu j_l V 4).toNat (daysF T lu j_l V) ∧ fallD T lu j_l V + fallS T (daysF T lu j_l V 4).toNat (daysF T lu j_l V) ≤ 6 * ((j_l + 1 : Nat) : Int)
      omega
  unfold f_202
  refine gQ_loop (fun y_l => ∃ (j_l : Nat) (t : gS), y_l = (217, (n : Int), lu, fallD T lu j_l V, (j_l : Int), t) ∧ j_l ≤ n ∧ Mv t (daysF T lu j_l V) ∧ Fdy s t) (fun y_l hy => ?_) ⟨0, s, rfl, Nat.zero_le _, hv, Fdy_r⟩
  obtain ⟨j_l, t, rfl, hj, ht, ft⟩ := hy
  show gQ (sb_202_5 217 (n : Int) lu (fallD T lu j_l V) (j_l : Int) t) _
  unfold sb_202_5
  by_cases c : (j_l : Int) < (n : Int)
  · rw [if_pos c]
    refine fun a_l ha_l => ?_
    have h9 := fb j_l
    obtain ⟨z_l, q1_l, q2_l, q3_l⟩ := dm_day (B := B) (T := T) (Mr_v hm ft) (fun w_l hw => hT w_l (Fdy_t ft hw)) ht (Vg_days hg j_l) (by omega) (by omega) a_l ha_l
    rw [q1_l]
    exact ⟨j_l + 1, z_l, rfl, by omega, q2_l, Fdy_t ft q3_l⟩
  · rw [if_neg c]
    have en : j_l = n := by omega
    refine gQ_map (gQ_ret ⟨?_, ?_, ft⟩)
    · show fallD T lu j_l V = fallD T lu n V
      rw [en]
    · dsimp only
      rw [← en]
      exact ht
end Me

end
section
/-! the class's day -/
noncomputable def Cr (s : gS) (C : Nat) (V : Nat → Int) : Prop := ∀ k, KK k → cv s 9 C k = V k
noncomputable def Fct (C : Nat) (s t : gS) : Prop := (gn t = gn s ∧ (∀ a, gK t a = gK s a) ∧ ∀ a k, gR t a k = gR s a k) ∧ ∀ a k, ¬ (a = C ∨ (C + 6 ≤ a ∧ a < C + 12)) → a ≠ 4 → a ≠ 5 → ¬ (a = 3 ∧ k = 2) → gI t a k = gI s a k
noncomputable def Ci (C a j k0 : Nat) : Prop := ∀ k, KK k → (pa 9 C k = a ∧ pj k = j ↔ k = k0)
/-- refs that a day of the court C needs -/
noncomputable def Rc9 (C : Nat) (s : gS) : Prop := (gR s C 0 = C + 1 ∧ ∀ i, i < 6 → gR s (C + 1) i = C + 6 + i) ∧ (gR s 9 0 = 10 ∧ gR s 9 1 = 11 ∧ gR s 9 2 = 12) ∧ (gR s 3 0 = 4 ∧ gR s 3 1 = 5)
section Cd
variable {s t u : gS} {V W : Nat → Int} {i k C a j k0 : Nat} {T : (Nat → Int) → Int} {v c x y lu : Int}
theorem Fct_r : Fct C s s := ⟨⟨rfl, fun _ => rfl, fun _ _ => rfl⟩, fun _ _ _ _ _ _ => rfl⟩
theorem Fct_t (h : Fct C s t) (h2 : Fct C t u) : Fct C s u := ⟨⟨h2.1.1.trans h.1.1, fun a_l => (h2.1.2.1 a_l).trans (h.1.2.1 a_l), fun a_l k_l => (h2.1.2.2 a_l k_l).trans (h.1.2.2 a_l k_l)⟩, fun a_l k_l c1_l c2_l c3_l c4_l => (h2.2 a_l k_l c1_l c2_l c3_l c4_l).trans (h.2 a_l k_l c1_l c2_l c3_l c4_l)⟩
theorem Fct_w (ha : a = C ∨ (C + 6 ≤ a ∧ a < C + 12)) : Fct C s (gw s a k v) := ⟨⟨rfl, fun _ => rfl, fun _ _ => rfl⟩, fun b_l j_l c1_l _ _ _ => by
  show (if b_l = a ∧ j_l = k then _ else gI s b_l j_l) = _
  rw [if_neg (fun z_l => c1_l (by rw [z_l.1]; exact ha))]⟩
theorem Fct_f (h : Ft s t) : Fct C s t := ⟨h.1, fun a_l k_l _ c2_l c3_l c4_l => h.2 a_l k_l c2_l c3_l c4_l⟩
theorem Rc_f (h : Rc9 C s) (hf : Fct C s t) : Rc9 C t := by
  obtain ⟨⟨h1, h2⟩, ⟨h3, h4, h5⟩, h6, h7⟩ := h
  exact ⟨⟨(hf.1.2.2 _ _).trans h1, fun i_l hi_l => (hf.1.2.2 _ _).trans (h2 i_l hi_l)⟩, ⟨(hf.1.2.2 _ _).trans h3, (hf.1.2.2 _ _).trans h4, (hf.1.2.2 _ _).trans h5⟩, (hf.1.2.2 _ _).trans h6, (hf.1.2.2 _ _).trans h7⟩
theorem Cr_w (h : Cr s C V) (hi : Ci C a j k0) : Cr (gw s a j v) C (up V k0 v) := fun k_l hk => by
  show (if pa 9 C k_l = a ∧ pj k_l = j then v else gI s (pa 9 C k_l) (pj k_l)) = if k_l = k0 then v else V k_l
  by_cases c : k_l = k0
  · rw [if_pos ((hi k_l hk).mpr c), if_pos c]
  · rw [if_neg (fun z_l => c ((hi k_l hk).mp z_l)), if_neg c]
    exact h k_l hk
theorem Cr_e (h : Cr s C V) (he : ∀ k, KK k → V k = W k) : Cr s C W := fun k hk => (h k hk).trans (he k hk)
theorem c15m : ∀ k, k < 100 → ∀ n, n < 6 → ∀ j, j < 6 → (pa 9 15 k = 21 + n ∧ pj k = j ↔ k = 40 + 6 * n + j) := by decide +kernel
theorem c42m : ∀ k, k < 100 → ∀ n, n < 6 → ∀ j, j < 6 → (pa 9 42 k = 48 + n ∧ pj k = j ↔ k = 40 + 6 * n + j) := by decide +kernel
theorem c15c : ∀ k, k < 100 → (k ≠ 1 ∧ k ≠ 2 ∧ k ≠ 15) → ((pa 9 15 k = 15 ∧ pj k = 6 ↔ k = 8) ∧ (pa 9 15 k = 15 ∧ pj k = 7 ↔ k = 9)) := by decide +kernel
theorem c15d : ∀ k, k < 100 → (k ≠ 1 ∧ k ≠ 2 ∧ k ≠ 15) → ((pa 9 15 k = 15 ∧ pj k = 8 ↔ k = 7) ∧ (pa 9 15 k = 15 ∧ pj k = 9 ↔ k = 14)) := by decide +kernel
theorem c42c : ∀ k, k < 100 → (k ≠ 1 ∧ k ≠ 2 ∧ k ≠ 15) → ((pa 9 42 k = 42 ∧ pj k = 6 ↔ k = 8) ∧ (pa 9 42 k = 42 ∧ pj k = 7 ↔ k = 9)) := by decide +kernel
theorem c42d : ∀ k, k < 100 → (k ≠ 1 ∧ k ≠ 2 ∧ k ≠ 15) → ((pa 9 42 k = 42 ∧ pj k = 8 ↔ k = 7) ∧ (pa 9 42 k = 42 ∧ pj k = 9 ↔ k = 14)) := by decide +kernel
theorem cj_m (hC : C = 15 ∨ C = 42) {n : Nat} (hn : n < 6) (hj : j < 6) : Ci C (C + 6 + n) j (40 + 6 * n + j) := fun k_l hk => by
  rcases hC with rfl | rfl
  · exact c15m k_l hk.1 n hn j hj
  · exact c42m k_l hk.1 n hn j hj
theorem cj_c (hC : C = 15 ∨ C = 42) : Ci C C 6 8 ∧ Ci C C 7 9 ∧ Ci C C 8 7 ∧ Ci C C 9 14 := by
  rcases hC with rfl | rfl
  · exact ⟨fun k_l hk => (c15c k_l hk.1 hk.2).1, fun k_l hk => (c15c k_l hk.1 hk.2).2, fun k_l hk => (c15d k_l hk.1 hk.2).1, fun k_l hk => (c15d k_l hk.1 hk.2).2⟩
  · exact ⟨fun k_l hk => (c42c k_l hk.1 hk.2).1, fun k_l hk => (c42c k_l hk.1 hk.2).2, fun k_l hk => (c42d k_l hk.1 hk.2).1, fun k_l hk => (c42d k_l hk.1 hk.2).2⟩
theorem rd_ci (h : Cr s C V) (hi : Ci C a j k0) (hk : KK k0) : gI s a j = V k0 := by
  obtain ⟨h1, h2⟩ := (hi k0 hk).mpr rfl
  have h3 := h k0 hk
  unfold cv at h3
  rw [h1, h2] at h3
  exact h3
theorem rd_m (hC : C = 15 ∨ C = 42) (h : Cr s C V) {n : Nat} (hn : n < 6) (hj : j < 6) : gI s (C + 6 + n) j = V (40 + 6 * n + j) := rd_ci h (cj_m hC hn hj) (by unfold KK; omega)
theorem rd_b (h : Cr s C V) : gI s 9 5 = V 3 ∧ gI s 9 7 = V 10 ∧ gI s 9 8 = V 11 ∧ gI s C 4 = V 4 := ⟨h 3 (by unfold KK; decide), h 10 (by unfold KK; decide), h 11 (by unfold KK; decide), h 4 (by unfold KK; decide)⟩
theorem pa_st : ∀ a, a < 8 → ∀ j, j < 3 → pa 9 0 (16 + 3 * a + j) = 10 + j ∧ pj (16 + 3 * a + j) = a := by decide +kernel
theorem rd_st (h : Cr s C V) (ha : a < 8) (hj : j < 3) : gI s (10 + j) a = V (16 + 3 * a + j) := by
  have h1 := h (16 + 3 * a + j) (by unfold KK; omega)
  obtain ⟨h2, h3⟩ := pa_st a ha j hj
  have h4 : pa 9 C (16 + 3 * a + j) = pa 9 0 (16 + 3 * a + j) := by
    unfold pa
    rw [if_neg (by omega), if_pos (by omega), if_neg (by omega), if_pos (by omega)]
  unfold cv at h1
  rw [h4, h2, h3] at h1
  exact h1
theorem dc_26 (hC : C = 15 ∨ C = 42) (h : Cr s C V) : gQ (f_26 C c s) (fun r => Cr r.2.2.2 C (paysF c V) ∧ Fct C s r.2.2.2) := by
  obtain ⟨i6_l, i7_l, -, -⟩ := cj_c hC
  have e6_l := rd_ci h i6_l (by unfold KK; decide)
  have e7_l := rd_ci h i7_l (by unfold KK; decide)
  unfold f_26
  dsimp only
  have e7' : gI (gw s C 6 (g32 (gI s C 6 - min (gI s C 6) c))) C 7 = V 9 := (rd_k (a := C) (k := 7) rfl (by decide)).trans e7_l
  rw [e7', e6_l]
  exact gQ_ret ⟨Cr_w (Cr_w h i6_l) i7_l, Fct_t (Fct_w (by omega)) (Fct_w (by omega))⟩
theorem dc_60 (hC : C = 15 ∨ C = 42) (h : Cr s C V) (hi : i < 6) : gQ (f_60 (C + 6 + i) v s) (fun r => Cr r.2.2.2 C (up V (40 + 6 * i) (max 0 (min 99 (g32 (V (40 + 6 * i) + v))))) ∧ Fct C s r.2.2.2) := by
  have e0_l : gI s (C + 6 + i) 0 = V (40 + 6 * i) := rd_m hC h hi (by decide)
  unfold f_60
  dsimp only
  rw [e0_l]
  exact gQ_ret ⟨Cr_w h (cj_m hC hi (by decide)), Fct_w (by omega)⟩
/-- heat and its gain of trust: the works of a man that are paid -/
theorem dc_heat {E : gS → Option gO} {P : gO → Prop} (hC : C = 15 ∨ C = 42) (hr : Rc9 C s) (h : Cr s C V) (hg : Vg V) (hi : i < 6) (k1 : ∀ z, Cr z C (if V (43 + 6 * i) < V 3 then heatF i (V (43 + 6 * i)).toNat V else V) → Fct C s z → gQ (E z) P) : gQ ((f_61 (C + 6 + i) 9 s).bind (gv1 (fun v5 s4 => (f_60 (C + 6 + i) v5 s4).bind (gv0 E)))) P := by
  have g1 := hg.1
  have g2 := hg.2.1 i hi
  have e3_l : gI s (C + 6 + i) 3 = V (43 + 6 * i) := (rd_m hC h hi (j := 3) (by decide)).trans (by rw [show 40 + 6 * i + 3 = 43 + 6 * i by omega])
  have e4_l : gI s (C + 6 + i) 4 = V (44 + 6 * i) := (rd_m hC h hi (j := 4) (by decide)).trans (by rw [show 40 + 6 * i + 4 = 44 + 6 * i by omega])
  have i3_l : Ci C (C + 6 + i) 3 (43 + 6 * i) := by
    have := cj_m (j := 3) hC hi (by decide)
    rw [show 40 + 6 * i + 3 = 43 + 6 * i by omega] at this
    exact this
  have i4_l : Ci C (C + 6 + i) 4 (44 + 6 * i) := by
    have := cj_m (j := 4) hC hi (by decide)
    rw [show 40 + 6 * i + 4 = 44 + 6 * i by omega] at this
    exact this
  unfold f_61
  dsimp only
  rw [e3_l, (rd_b h).1, e4_l]
  by_cases c1 : V (43 + 6 * i) < V 3
  · rw [if_pos c1]
    rw [if_pos c1] at k1
    obtain ⟨a_l, ha_l⟩ : ∃ a_l : Nat, V (43 + 6 * i) = (a_l : Int) := ⟨(V (43 + 6 * i)).toNat, by omega⟩
    have ha8 : a_l < 8 := by omega
    have g3_l := hg.2.2 a_l ha8
    rw [ha_l, Int.toNat_natCast] at k1
    rw [g32_eq (v := V (44 + 6 * i) + 1) (by omega) (by omega)]
    have h1 := Cr_w (v := V (44 + 6 * i) + 1) h i4_l
    have f1_l : Fct C s (gw s (C + 6 + i) 4 (V (44 + 6 * i) + 1)) := Fct_w (by omega)
    have s13 : gI (gw s (C + 6 + i) 4 (V (44 + 6 * i) + 1)) (C + 6 + i) 3 = (a_l : Int) := (rd_k (a := C + 6 + i) (k := 3) rfl (by decide)).trans (e3_l.trans ha_l)
    have s14 : gI (gw s (C + 6 + i) 4 (V (44 + 6 * i) + 1)) (C + 6 + i) 4 = V (44 + 6 * i) + 1 := rd_same rfl
    have s90 : gR (gw s (C + 6 + i) 4 (V (44 + 6 * i) + 1)) 9 0 = 10 := hr.2.1.1
    have sd_l : gI (gw s (C + 6 + i) 4 (V (44 + 6 * i) + 1)) 10 a_l = V (16 + 3 * a_l) := (rd_a rfl (by omega)).trans (rd_st h ha8 (j := 0) (by decide))
    rw [s13, s14, s90, Int.toNat_natCast, sd_l]
    unfold heatF at k1
    by_cases c2 : V (44 + 6 * i) + 1 < V (16 + 3 * a_l)
    · rw [if_pos c2]
      rw [if_pos c2] at k1
      refine gQ_w1 (A := fun v_l z => v_l = 0 ∧ z = gw s (C + 6 + i) 4 (V (44 + 6 * i) + 1)) (gQ_chk (gQ_ret ⟨rfl, rfl⟩)) (fun v_l z hz => ?_)
      obtain ⟨z1, z2⟩ := hz
      rw [z1, z2]
      refine gQ_v0 (A := fun z => Cr z C (up (up V (44 + 6 * i) (V (44 + 6 * i) + 1)) (40 + 6 * i) (max 0 (min 99 (g32 (up V (44 + 6 * i) (V (44 + 6 * i) + 1) (40 + 6 * i) + 0))))) ∧ Fct C (gw s (C + 6 + i) 4 (V (44 + 6 * i) + 1)) z) (dc_60 hC h1 hi) (fun z hz => k1 z (Cr_e hz.1 (fun k_l _ => ?_)) (Fct_t f1_l hz.2))
      rw [up_n (V := V) (k := 44 + 6 * i) (j := 40 + 6 * i) (by omega), Int.add_zero, g32_eq (v := V (40 + 6 * i)) (by omega) (by omega), show max 0 (min 99 (V (40 + 6 * i))) = V (40 + 6 * i) by omega]
      by_cases d : k_l = 40 + 6 * i
      · rw [d, up_s, up_n (by omega)]
      · rw [up_n d]
    · rw [if_neg c2]
      rw [if_neg c2] at k1
      have h3 := Cr_w (v := (a_l : Int) + 1) (Cr_w (v := 0) h1 i4_l) i3_l
      have t3_l : gI (gw (gw s (C + 6 + i) 4 (V (44 + 6 * i) + 1)) (C + 6 + i) 4 0) (C + 6 + i) 3 = (a_l : Int) := (rd_k (a := C + 6 + i) (k := 3) rfl (by decide)).trans s13
      rw [t3_l, g32_eq (v := (a_l : Int) + 1) (by omega) (by omega)]
      have t4_l : gI (gw (gw (gw s (C + 6 + i) 4 (V (44 + 6 * i) + 1)) (C + 6 + i) 4 0) (C + 6 + i) 3 ((a_l : Int) + 1)) (C + 6 + i) 3 = (a_l : Int) + 1 := rd_same rfl
      have r4 : gR (gw (gw (gw s (C + 6 + i) 4 (V (44 + 6 * i) + 1)) (C + 6 + i) 4 0) (C + 6 + i) 3 ((a_l : Int) + 1)) 9 2 = 12 := hr.2.1.2.2
      rw [t4_l, r4, g32_eq (v := (a_l : Int) + 1 - 1) (by omega) (by omega), show ((a_l : Int) + 1 - 1).toNat = a_l by omega]
      have sh_l : gI (gw (gw (gw s (C + 6 + i) 4 (V (44 + 6 * i) + 1)) (C + 6 + i) 4 0) (C + 6 + i) 3 ((a_l : Int) + 1)) 12 a_l = V (16 + 3 * a_l + 2) := (rd_a rfl (by omega)).trans ((rd_a rfl (by omega)).trans ((rd_a rfl (by omega)).trans (rd_st h ha8 (j := 2) (by decide))))
      rw [sh_l]
      have f3_l : Fct C s (gw (gw (gw s (C + 6 + i) 4 (V (44 + 6 * i) + 1)) (C + 6 + i) 4 0) (C + 6 + i) 3 ((a_l : Int) + 1)) := Fct_t f1_l (Fct_t (Fct_w (by omega)) (Fct_w (by omega)))
      generalize gw (gw (gw s (C + 6 + i) 4 (V (44 + 6 * i) + 1)) (C + 6 + i) 4 0) (C + 6 + i) 3 ((a_l : Int) + 1) = s3 at *
      refine gQ_w1 (A := fun v_l z => v_l = V (16 + 3 * a_l + 2) ∧ z = s3) (gQ_chk (gQ_chk (gQ_ret ⟨rfl, rfl⟩))) (fun v_l z hz => ?_)
      obtain ⟨z1, z2⟩ := hz
      rw [z1, z2]
      refine fun r_l hr2 => ?_
      refine gQ_v0 (A := fun z => Cr z C (up (up (up (up V (44 + 6 * i) (V (44 + 6 * i) + 1)) (44 + 6 * i) 0) (43 + 6 * i) ((a_l : Int) + 1)) (40 + 6 * i) (max 0 (min 99 (g32 (up (up (up V (44 + 6 * i) (V (44 + 6 * i) + 1)) (44 + 6 * i) 0) (43 + 6 * i) ((a_l : Int) + 1) (40 + 6 * i) + V (16 + 3 * a_l + 2)))))) ∧ Fct C s3 z) (dc_60 hC h3 hi) (fun z hz => k1 z (Cr_e hz.1 (fun k_l _ => ?_)) (Fct_t f3_l hz.2)) r_l hr2
      rw [up_n (k := 43 + 6 * i) (j := 40 + 6 * i) (by omega), up_n (k := 44 + 6 * i) (j := 40 + 6 * i) (by omega), up_n (k := 44 + 6 * i) (j := 40 + 6 * i) (by omega), g32_eq (v := V (40 + 6 * i) + V (16 + 3 * a_l + 2)) (by omega) (by omega), show max 0 (min 99 (V (40 + 6 * i) + V (16 + 3 * a_l + 2))) = min 99 (V (40 + 6 * i) + V (16 + 3 * a_l + 2)) by omega]
      unfold doneF
      rw [g32_eq (v := V (40 + 6 * i) + V (16 + 3 * a_l + 2)) (by omega) (by omega)]
      unfold up
      by_cases d0 : k_l = 40 + 6 * i
      · rw [if_pos d0, if_neg (by omega), if_neg (by omega), if_pos d0]
      rw [if_neg d0]
      by_cases d3 : k_l = 43 + 6 * i
      · rw [if_pos d3, if_neg (by omega), if_pos d3]
      rw [if_neg d3]
      by_cases d4 : k_l = 44 + 6 * i
      · rw [if_pos d4, if_pos d4]
      · rw [if_neg d4, if_neg d4, if_neg d4, if_neg d3, if_neg d0]
  · rw [if_neg c1]
    rw [if_neg c1] at k1
    refine gQ_w1 (A := fun v_l z => v_l = 0 ∧ z = s) (gQ_ret ⟨rfl, rfl⟩) (fun v_l z hz => ?_)
    obtain ⟨z1, z2⟩ := hz
    rw [z1, z2]
    refine gQ_v0 (A := fun z => Cr z C (up V (40 + 6 * i) (max 0 (min 99 (g32 (V (40 + 6 * i) + 0))))) ∧ Fct C s z) (dc_60 hC h hi) (fun z hz => k1 z (Cr_e hz.1 (fun k_l _ => ?_)) hz.2)
    rw [Int.add_zero, g32_eq (v := V (40 + 6 * i)) (by omega) (by omega), show max 0 (min 99 (V (40 + 6 * i))) = V (40 + 6 * i) by omega]
    by_cases d : k_l = 40 + 6 * i
    · rw [d, up_s]
    · rw [up_n d]
end Cd

end
section
/-! the class's days -/
section Ce2
variable {s t u : gS} {V W : Nat → Int} {i k C a j k0 : Nat} {T : (Nat → Int) → Int} {v c x y lu : Int}
theorem fF_k (h : ∀ k, KK k → V k = W k) (hi : i < 6) : fF V i = fF W i := by
  funext j
  unfold fF
  rw [h (40 + 6 * i) (by unfold KK; omega), h (41 + 6 * i) (by unfold KK; omega), h (43 + 6 * i) (by unfold KK; omega), h (44 + 6 * i) (by unfold KK; omega), h 9 (by unfold KK; decide), h 7 (by unfold KK; decide), h 3 (by unfold KK; decide)]
theorem dc_42 (hC : C = 15 ∨ C = 42) (hr : Rc9 C s) (hT : ∀ t, Fct C s t → Tlw t 218 9 T) (h : Cr s C V) (hg : Vg V) (hi : i < 6) : gQ (fb_28_42 C (i : Int) 9 3 (C + 6 + i) s) (fun r => Cr r.2.2.2 C (barF i (trustF T i (if V (43 + 6 * i) < V 3 then heatF i (V (43 + 6 * i)).toNat V else V))) ∧ Fct C s r.2.2.2) := by
  unfold fb_28_42
  refine dc_heat hC hr h hg hi (fun s6_l h6 f6_l => ?_)
  have hs : ∃ W_l, W_l = (if V (43 + 6 * i) < V 3 then heatF i (V (43 + 6 * i)).toNat V else V) := ⟨_, rfl⟩
  obtain ⟨W_l, hW⟩ := hs
  rw [← hW] at h6 ⊢
  have r6 := Rc_f hr f6_l
  have m0' : gI s6_l (C + 6 + i) 0 = W_l (40 + 6 * i) := rd_m hC h6 hi (by decide)
  have m1_l : gI s6_l (C + 6 + i) 1 = W_l (40 + 6 * i + 1) := rd_m hC h6 hi (by decide)
  have m3_l : gI s6_l (C + 6 + i) 3 = W_l (40 + 6 * i + 3) := rd_m hC h6 hi (by decide)
  have m4_l : gI s6_l (C + 6 + i) 4 = W_l (40 + 6 * i + 4) := rd_m hC h6 hi (by decide)
  rw [show 40 + 6 * i + 1 = 41 + 6 * i by omega] at m1_l
  rw [show 40 + 6 * i + 3 = 43 + 6 * i by omega] at m3_l
  rw [show 40 + 6 * i + 4 = 44 + 6 * i by omega] at m4_l
  refine gQ_w1 (A := fun v_l z_l => Ft s6_l z_l ∧ v_l = T (fF W_l i)) (fun r hr2 => ?_) (fun v9 s8 h8 => ?_)
  · obtain ⟨q1_l, q2_l⟩ := q_34 (C := C) (i := i) (hT s6_l f6_l) r6.2.2 (by rw [r6.1.1]; exact r6.1.2 i hi) (by omega) hi ⟨(h6 _ (by unfold KK; omega)).trans m0'.symm, (h6 _ (by unfold KK; omega)).trans m1_l.symm, (h6 _ (by unfold KK; omega)).trans m3_l.symm, (h6 _ (by unfold KK; omega)).trans m4_l.symm⟩ ⟨rfl, rfl, rfl⟩ r hr2
    refine ⟨q1_l, q2_l.trans ?_⟩
    rw [fF_k (V := cv s6_l 9 C) (W := W_l) h6 hi]
  obtain ⟨f8_l, e9_l⟩ := h8
  rw [e9_l]
  have f68 : Fct C s s8 := Fct_t f6_l (Fct_f f8_l)
  have h8 : Cr s8 C W_l := fun k_l hk => by
    have hp : pa 9 C k_l ≠ 4 ∧ pa 9 C k_l ≠ 5 ∧ pa 9 C k_l ≠ 3 := by
      unfold pa
      repeat' split
      all_goals omega
    exact (f8_l.2 _ _ hp.1 hp.2.1 (fun z_l => hp.2.2 z_l.1)).trans (h6 k_l hk)
  refine gQ_v0 (A := fun z_l => Cr z_l C (up W_l (40 + 6 * i) (max 0 (min 99 (g32 (W_l (40 + 6 * i) + T (fF W_l i)))))) ∧ Fct C s8 z_l) (dc_60 hC h8 hi) (fun s10 h10 => ?_)
  obtain ⟨h10, f10⟩ := h10
  have f11_l := Fct_t f68 f10
  have t0_l : gI s10 (C + 6 + i) 0 = trustF T i W_l (40 + 6 * i) := rd_m hC h10 hi (by decide)
  have b7 : gI s10 9 7 = trustF T i W_l 10 := (rd_b h10).2.1
  rw [t0_l, b7]
  unfold barF
  by_cases c : trustF T i W_l (40 + 6 * i) < trustF T i W_l 10
  · rw [if_pos c, if_pos c]
    have i5_l : Ci C (C + 6 + i) 5 (45 + 6 * i) := by
      have := cj_m (j := 5) hC hi (by decide)
      rw [show 40 + 6 * i + 5 = 45 + 6 * i by omega] at this
      exact this
    exact gQ_ret ⟨Cr_w h10 i5_l, Fct_t f11_l (Fct_w (by omega))⟩
  · rw [if_neg c, if_neg c]
    exact gQ_ret ⟨h10, f11_l⟩
theorem dc_28 (hC : C = 15 ∨ C = 42) (hr : Rc9 C s) (hT : ∀ t, Fct C s t → Tlw t 218 9 T) (h : Cr s C V) (hg : Vg V) (hi : i < 6) : gQ (f_28 C (i : Int) 9 3 s) (fun r => Cr r.2.2.2 C (barF i (trustF T i (worksF i V))) ∧ Fct C s r.2.2.2) := by
  have g1 := hg.1
  have g2 := hg.2.1 i hi
  have e3_l : gI s (C + 6 + i) 3 = V (43 + 6 * i) := (rd_m hC h hi (j := 3) (by decide)).trans (by rw [show 40 + 6 * i + 3 = 43 + 6 * i by omega])
  have e4_l : gI s (C + 6 + i) 4 = V (44 + 6 * i) := (rd_m hC h hi (j := 4) (by decide)).trans (by rw [show 40 + 6 * i + 4 = 44 + 6 * i by omega])
  unfold f_28
  dsimp only
  rw [hr.1.1, Int.toNat_natCast, hr.1.2 i hi, e4_l, e3_l, (rd_b h).1]
  refine gQ_chk ?_
  have tail_l : gQ (fb_28_42 C (i : Int) 9 3 (C + 6 + i) s) (fun r => Cr r.2.2.2 C (barF i (trustF T i (if V (43 + 6 * i) < V 3 then heatF i (V (43 + 6 * i)).toNat V else V))) ∧ Fct C s r.2.2.2) := dc_42 hC hr hT h hg hi
  unfold worksF
  by_cases c4 : V (44 + 6 * i) = 0
  · rw [if_pos c4, if_pos c4]
    by_cases c3 : V (43 + 6 * i) < V 3
    · rw [if_pos c3, if_pos c3]
      have ha8 : (V (43 + 6 * i)).toNat < 8 := by omega
      rw [hr.2.1.2.1, show gI s 11 (V (43 + 6 * i)).toNat = V (16 + 3 * (V (43 + 6 * i)).toNat + 1) from rd_st h ha8 (j := 1) (by decide)]
      refine gQ_chk (gQ_v0 (A := fun z_l => Cr z_l C (paysF (V (16 + 3 * (V (43 + 6 * i)).toNat + 1)) V) ∧ Fct C s z_l) (dc_26 hC h) (fun s2_l h2 => fun r hr2 => ?_))
      obtain ⟨x1_l, x2_l⟩ := dc_42 (T := T) hC (Rc_f hr h2.2) (fun t ht => hT t (Fct_t h2.2 ht)) h2.1 (Vg_pays hg) hi r hr2
      rw [pays_n (by omega), pays_n (by decide), if_pos c3] at x1_l
      exact ⟨x1_l, Fct_t h2.2 x2_l⟩
    · rw [if_neg c3, if_neg c3]
      rw [if_neg c3] at tail_l
      exact tail_l
  · rw [if_neg c4]
    by_cases c3 : V (43 + 6 * i) < V 3
    · rw [if_pos c3, if_neg c4]
      rw [if_pos c3] at tail_l
      exact tail_l
    · rw [if_neg c3]
      rw [if_neg c3] at tail_l
      exact tail_l
/-- bits of a draw by either shift -/
theorem b32767 : ∀ i, i < 32 → 15 ≤ i → (32767#32).getLsbD i = false := by decide
theorem by15 (x : BitVec 32) : (x.sshiftRight 16) &&& 32767#32 = (x >>> 16) &&& 32767#32 := by
  apply BitVec.eq_of_getLsbD_eq
  intro i_l hi_l
  rw [BitVec.getLsbD_and, BitVec.getLsbD_and]
  by_cases h8 : i_l < 15
  · rw [BitVec.getLsbD_sshiftRight, BitVec.getLsbD_ushiftRight, if_pos (by omega)]
    have hd_l : decide (32 ≤ i_l) = false := by
      rw [decide_eq_false_iff_not]
      omega
    rw [hd_l]
    rfl
  · rw [b32767 i_l hi_l (by omega), Bool.and_false, Bool.and_false]
theorem gsh_15 {v : Int} : gand (gshr v 16) 32767 = gand (gushr v 16) 32767 := by
  unfold gand gshr gushr
  rw [Int32.ofInt_toInt, Int32.ofInt_toInt]
  congr 1
  apply Int32.toBitVec.inj
  exact by15 (Int32.ofInt v).toBitVec
/-- who is kept -/
theorem kept_i (n : Nat) (hn : n ≤ 6) : 0 < keptS T n V ↔ ∃ j, j < n ∧ menF T n V (45 + 6 * j) = 0 := by
  have key_l : ∀ (i_l j : Nat) (W_l : Nat → Int), i_l < 6 → j ≠ i_l → manF T i_l W_l (45 + 6 * j) = W_l (45 + 6 * j) := fun i_l j W_l hi_l hj => by
    have hw : worksF i_l W_l (45 + 6 * j) = W_l (45 + 6 * j) := by
      have hd_l : ∀ a_l X_l, doneF i_l a_l X_l (45 + 6 * j) = X_l (45 + 6 * j) := fun a_l X_l => by
        unfold doneF
        rw [up_n (by omega), up_n (by omega), up_n (by omega)]
      have hh : ∀ a_l X_l, heatF i_l a_l X_l (45 + 6 * j) = X_l (45 + 6 * j) := fun a_l X_l => by
        unfold heatF
        split
        · rw [up_n (by omega)]
        · exact hd_l a_l X_l
      unfold worksF
      split
      · split
        · rw [hh, pays_n (by omega)]
        · rw [hh]
      · rfl
    unfold manF barF trustF
    split
    · split
      · rw [up_n (by omega), up_n (by omega)]
        exact hw
      · rw [up_n (by omega)]
        exact hw
    · rfl
  have own_l : ∀ (i_l : Nat) (W_l : Nat → Int), i_l < 6 → (manF T i_l W_l (45 + 6 * i_l) = 0 ↔ keptF T i_l W_l = 1) := fun i_l W_l hi_l => by
    have hw : trustF T i_l (worksF i_l W_l) (45 + 6 * i_l) = W_l (45 + 6 * i_l) := by
      have hd_l : ∀ a_l X_l, doneF i_l a_l X_l (45 + 6 * i_l) = X_l (45 + 6 * i_l) := fun a_l X_l => by
        unfold doneF
        rw [up_n (by omega), up_n (by omega), up_n (by omega)]
      have hh : ∀ a_l X_l, heatF i_l a_l X_l (45 + 6 * i_l) = X_l (45 + 6 * i_l) := fun a_l X_l => by
        unfold heatF
        split
        · rw [up_n (by omega)]
        · exact hd_l a_l X_l
      unfold trustF
      rw [up_n (by omega)]
      unfold worksF
      split
      · split
        · rw [hh, pays_n (by omega)]
        · rw [hh]
      · rfl
    unfold manF barF keptF mid2
    by_cases c : W_l (45 + 6 * i_l) = 0
    · rw [if_pos c, if_pos c]
      by_cases d : trustF T i_l (worksF i_l W_l) (40 + 6 * i_l) < trustF T i_l (worksF i_l W_l) 10
      · rw [if_pos d, if_pos d, up_s]
        exact ⟨fun z_l => absurd z_l (by decide), fun z_l => absurd z_l (by decide)⟩
      · rw [if_neg d, if_neg d, hw]
        exact ⟨fun _ => rfl, fun _ => c⟩
    · rw [if_neg c, if_neg c]
      exact ⟨fun z_l => absurd z_l c, fun z_l => absurd z_l (by decide)⟩
  induction n with
  | zero => exact ⟨fun z_l => absurd z_l (by show ¬ (0 : Int) < 0; decide), fun ⟨j, hj, _⟩ => by omega⟩
  | succ n ih_l =>
    have hb_l := fall_b (T := T) (i := n) (V := menF T n V)
    have hk := (fallS_b (T := T) (V := V) n).2
    have hi_l := ih_l (by omega)
    have ho := own_l n (menF T n V) (by omega)
    show 0 < keptS T n V + keptF T n (menF T n V) ↔ ∃ j, j < n + 1 ∧ manF T n (menF T n V) (45 + 6 * j) = 0
    constructor
    · intro hz
      by_cases c : 0 < keptS T n V
      · obtain ⟨j, h1, h2⟩ := hi_l.mp c
        exact ⟨j, by omega, by rw [key_l n j _ (by omega) (by omega)]; exact h2⟩
      · exact ⟨n, by omega, ho.mpr (by omega)⟩
    · intro ⟨j, h1, h2⟩
      by_cases c : j = n
      · rw [c] at h2
        have := ho.mp h2
        omega
      · rw [key_l n j _ (by omega) c] at h2
        have := hi_l.mpr ⟨j, by omega, h2⟩
        omega
theorem dc_29 (hC : C = 15 ∨ C = 42) (hr : Rc9 C s) (h : Cr s C V) (hg : Vg V) : gQ (f_29 C 0 s) (fun r => r.2.2.2 = s ∧ (r.2.1 ≠ 0 ↔ ∃ j, j < (V 4).toNat ∧ V (45 + 6 * j) = 0)) := by
  have h4 := hg.1.2
  unfold f_29
  refine gQ_loop (fun y_l => ∃ (n_l : Nat) (x_l : Int), y_l = (C, 0, x_l, (n_l : Int), s) ∧ (n_l : Int) ≤ V 4 ∧ (0 ≤ x_l ∧ x_l < 64) ∧ (x_l ≠ 0 ↔ ∃ j, j < n_l ∧ V (45 + 6 * j) = 0)) (fun y_l hy => ?_) ⟨0, 0, rfl, by omega, by decide, fun z_l => absurd rfl z_l, fun ⟨j, hj, _⟩ => by omega⟩
  obtain ⟨n_l, x_l, rfl, hn, hx, hi_l⟩ := hy
  show gQ (sb_29_4 C 0 x_l (n_l : Int) s) _
  unfold sb_29_4
  dsimp only
  rw [(rd_b h).2.2.2, hr.1.1, Int.toNat_natCast]
  by_cases c : (n_l : Int) < V 4
  · have hn6 : n_l < 6 := by omega
    have e5_l : gI s (C + 6 + n_l) 5 = V (45 + 6 * n_l) := (rd_m hC h hn6 (j := 5) (by decide)).trans (by rw [show 40 + 6 * n_l + 5 = 45 + 6 * n_l by omega])
    rw [if_pos c, hr.1.2 n_l hn6, e5_l, g32_eq (v := (n_l : Int) + 1) (by omega) (by omega)]
    refine gQ_chk ?_
    by_cases d : V (45 + 6 * n_l) = 0
    · rw [if_pos d]
      have hb_l := gshl_5 (x := (n_l : Int)) (by omega)
      have hge := gor_ge (x := x_l) (y := gshl 1 (n_l : Int)) (by omega) (by omega)
      have hlt := gor_lt (x := x_l) (y := gshl 1 (n_l : Int)) 6 (by decide) ⟨hx.1, hx.2⟩ ⟨by omega, by show gshl 1 (n_l : Int) < 64; omega⟩
      have hlt2 : gor x_l (gshl 1 (n_l : Int)) < 64 := hlt.2
      exact gQ_ret ⟨n_l + 1, _, rfl, by omega, ⟨by omega, hlt2⟩, fun _ => ⟨n_l, by omega, d⟩, fun _ => by omega⟩
    · rw [if_neg d]
      refine gQ_ret ⟨n_l + 1, x_l, rfl, by omega, hx, fun z_l => ?_, fun ⟨j, h1, h2⟩ => ?_⟩
      · obtain ⟨j, h1, h2⟩ := hi_l.mp z_l
        exact ⟨j, by omega, h2⟩
      · exact hi_l.mpr ⟨j, by
          by_cases e : j = n_l
          · rw [e] at h2
            exact absurd h2 d
          · omega, h2⟩
  · rw [if_neg c]
    have en : (V 4).toNat = n_l := by omega
    rw [en]
    exact gQ_map (gQ_ret ⟨rfl, hi_l⟩)
/-- the class's day; its luck -/
noncomputable def dayC (T : (Nat → Int) → Int) (lu : Int) (V : Nat → Int) : Nat → Int := nextF (if grem (gand (gushr (nsd (menF T (V 4).toNat V 14)) 16) 32767) 100 < lu ∧ 0 < keptS T (V 4).toNat V then up (up (menF T (V 4).toNat V) 14 (nsd (menF T (V 4).toNat V 14))) 8 (min 9999 (g32 (menF T (V 4).toNat V 8 + 50))) else up (menF T (V 4).toNat V) 14 (nsd (menF T (V 4).toNat V 14)))
theorem dc_27 (hC : C = 15 ∨ C = 42) (hr : Rc9 C s) (hT : ∀ t, Fct C s t → Tlw t 218 9 T) (h : Cr s C V) (hg : Vg V) : gQ (f_27 C 9 3 lu s) (fun r => r.2.1 = fallS T (V 4).toNat V ∧ Cr r.2.2.2 C (dayC T lu V) ∧ Fct C s r.2.2.2) := by
  have hV4 := hg.1.2
  unfold f_27
  refine gQ_loop (fun y_l => ∃ (n_l : Nat) (t : gS), y_l = (C, 9, 3, lu, fallS T n_l V, (n_l : Int), t) ∧ (n_l : Int) ≤ V 4 ∧ Cr t C (menF T n_l V) ∧ Fct C s t) (fun y_l hy => ?_) ⟨0, s, rfl, by omega, h, Fct_r⟩
  obtain ⟨n_l, t, rfl, hn, ht, ft⟩ := hy
  have hn6 : n_l ≤ 6 := by omega
  have hb_l := (fallS_b (T := T) (V := V) n_l).1
  have hgn := Vg_men (T := T) hg n_l hn6
  have rt := Rc_f hr ft
  have e4_l : menF T n_l V 4 = V 4 := men_n (by omega) n_l hn6
  show gQ (sb_27_6 C 9 3 lu (fallS T n_l V) (n_l : Int) t) _
  unfold sb_27_6
  dsimp only
  rw [(rd_b ht).2.2.2, e4_l, rt.1.1, Int.toNat_natCast]
  by_cases c : (n_l : Int) < V 4
  · have hi_l : n_l < 6 := by omega
    have e5_l : gI t (C + 6 + n_l) 5 = menF T n_l V (45 + 6 * n_l) := (rd_m hC ht hi_l (j := 5) (by decide)).trans (by rw [show 40 + 6 * n_l + 5 = 45 + 6 * n_l by omega])
    rw [if_pos c, rt.1.2 n_l hi_l, e5_l]
    refine gQ_chk ?_
    have eg : g32 ((n_l : Int) + 1) = ((n_l + 1 : Nat) : Int) := (g32_eq (v := (n_l : Int) + 1) (by omega) (by omega)).trans (by omega)
    by_cases d : menF T n_l V (45 + 6 * n_l) = 0
    · rw [if_pos d]
      refine gQ_v0 (A := fun z_l => Cr z_l C (barF n_l (trustF T n_l (worksF n_l (menF T n_l V)))) ∧ Fct C t z_l) (dc_28 hC rt (fun w_l hw => hT w_l (Fct_t ft hw)) ht hgn hi_l) (fun s1_l h1 => ?_)
      obtain ⟨h1, f1_l⟩ := h1
      have em : menF T (n_l + 1) V = barF n_l (trustF T n_l (worksF n_l (menF T n_l V))) := if_pos d
      have r1_l := Rc_f rt f1_l
      have e51 : gI s1_l (C + 6 + n_l) 5 = barF n_l (trustF T n_l (worksF n_l (menF T n_l V))) (45 + 6 * n_l) := (rd_m hC h1 hi_l (j := 5) (by decide)).trans (by rw [show 40 + 6 * n_l + 5 = 45 + 6 * n_l by omega])
      rw [r1_l.1.1, r1_l.1.2 n_l hi_l, e51]
      have hw : trustF T n_l (worksF n_l (menF T n_l V)) (45 + 6 * n_l) = 0 := by
        have hd_l : ∀ a_l X_l, doneF n_l a_l X_l (45 + 6 * n_l) = X_l (45 + 6 * n_l) := fun a_l X_l => by
          unfold doneF
          rw [up_n (by omega), up_n (by omega), up_n (by omega)]
        have hh : ∀ a_l X_l, heatF n_l a_l X_l (45 + 6 * n_l) = X_l (45 + 6 * n_l) := fun a_l X_l => by
          unfold heatF
          split
          · rw [up_n (by omega)]
          · exact hd_l a_l X_l
        unfold trustF
        rw [up_n (by omega)]
        refine Eq.trans ?_ d
        unfold worksF
        split
        · split
          · rw [hh, pays_n (by omega)]
          · rw [hh]
        · rfl
      have fin_l : ∀ b_l : Int, b_l = fallF T n_l (menF T n_l V) → gQ (fb_27_57 C 9 3 lu (n_l : Int) b_l (fallS T n_l V) s1_l) (Sum.elim (fun y_l => ∃ (n_l : Nat) (t : gS), y_l = (C, 9, 3, lu, fallS T n_l V, (n_l : Int), t) ∧ (n_l : Int) ≤ V 4 ∧ Cr t C (menF T n_l V) ∧ Fct C s t) (fun r => r.2.1 = fallS T (V 4).toNat V ∧ Cr r.2.2.2 C (dayC T lu V) ∧ Fct C s r.2.2.2)) := fun b_l hb2 => by
        have hf := fall_b (T := T) (i := n_l) (V := menF T n_l V)
        unfold fb_27_57
        rw [eg, hb2, g32_eq (v := fallS T n_l V + fallF T n_l (menF T n_l V)) (by omega) (by omega)]
        exact gQ_ret ⟨n_l + 1, s1_l, rfl, by omega, by rw [em]; exact h1, Fct_t ft f1_l⟩
      by_cases q_l : trustF T n_l (worksF n_l (menF T n_l V)) (40 + 6 * n_l) < trustF T n_l (worksF n_l (menF T n_l V)) 10
      · have eb : barF n_l (trustF T n_l (worksF n_l (menF T n_l V))) (45 + 6 * n_l) = 1 := by
          unfold barF
          rw [if_pos q_l, up_s]
        rw [if_pos eb]
        exact gQ_chk (fin_l 1 (by unfold fallF mid2; rw [if_pos d, if_pos q_l]))
      · have eb : barF n_l (trustF T n_l (worksF n_l (menF T n_l V))) (45 + 6 * n_l) = 0 := by
          unfold barF
          rw [if_neg q_l]
          exact hw
        rw [if_neg (by omega)]
        exact gQ_chk (fin_l 0 (by unfold fallF mid2; rw [if_pos d, if_neg q_l]))
    · rw [if_neg d, eg]
      have em : menF T (n_l + 1) V = menF T n_l V := if_neg d
      have ef : fallF T n_l (menF T n_l V) = 0 := by
        unfold fallF
        rw [if_neg d]
      refine gQ_ret ⟨n_l + 1, t, ?_, by omega, by rw [em]; exact ht, ft⟩
      show (C, 9, 3, lu, fallS T n_l V, ((n_l + 1 : Nat) : Int), t) = (C, 9, 3, lu, fallS T n_l V + fallF T n_l (menF T n_l V), ((n_l + 1 : Nat) : Int), t)
      rw [ef, Int.add_zero]
  · rw [if_neg c]
    have en : (V 4).toNat = n_l := by omega
    obtain ⟨i6_l, i7_l, i8_l, i9_l⟩ := cj_c hC
    have e9_l := rd_ci ht i9_l (by unfold KK; decide)
    rw [e9_l]
    have h3 := Cr_w (v := nsd (menF T n_l V 14)) ht i9_l
    have f3_l : Fct C s (gw t C 9 (nsd (menF T n_l V 14))) := Fct_t ft (Fct_w (by omega))
    have es : gI (gw t C 9 (g32 (g32 (1103515245 * menF T n_l V 14) + 12345))) C 9 = nsd (menF T n_l V 14) := rd_same rfl
    rw [es, gsh_15]
    have r3 := Rc_f hr f3_l
    have hg3 : Vg (up (menF T n_l V) 14 (nsd (menF T n_l V 14))) := Vg_o hgn (by omega)
    show gQ (Option.map Sum.inr (if grem (gand (gushr (nsd (menF T n_l V 14)) 16) 32767) 100 < lu then (f_29 C 0 (gw t C 9 (nsd (menF T n_l V 14)))).bind (gv1 (fun v6 s5 => if v6 = 0 then fb_27_128 C (fallS T n_l V) s5 else fb_27_128 C (fallS T n_l V) (gw s5 C 6 (min 9999 (g32 (gI s5 C 6 + 50)))))) else fb_27_128 C (fallS T n_l V) (gw t C 9 (nsd (menF T n_l V 14))))) _
    refine gQ_map ?_
    unfold dayC
    rw [en]
    have fin_l : ∀ (z_l : gS) (W_l : Nat → Int), Cr z_l C W_l → Fct C s z_l → gQ (fb_27_128 C (fallS T n_l V) z_l) (fun r => r.2.1 = fallS T n_l V ∧ Cr r.2.2.2 C (nextF W_l) ∧ Fct C s r.2.2.2) := fun z_l W_l hz fz => by
      have e8 := rd_ci hz i8_l (by unfold KK; decide)
      unfold fb_27_128
      dsimp only
      rw [e8]
      exact gQ_ret ⟨rfl, Cr_w hz i8_l, Fct_t fz (Fct_w (by omega))⟩
    generalize gw t C 9 (nsd (menF T n_l V 14)) = s3 at *
    by_cases d1 : grem (gand (gushr (nsd (menF T n_l V 14)) 16) 32767) 100 < lu
    · rw [if_pos d1]
      refine gQ_w1 (A := fun v_l z_l => z_l = s3 ∧ (v_l ≠ 0 ↔ ∃ j, j < (up (menF T n_l V) 14 (nsd (menF T n_l V 14)) 4).toNat ∧ up (menF T n_l V) 14 (nsd (menF T n_l V 14)) (45 + 6 * j) = 0)) (dc_29 hC r3 h3 hg3) (fun v_l z_l hz => ?_)
      obtain ⟨rfl, hz⟩ := hz
      have hk := kept_i (T := T) (V := V) n_l hn6
      have hz2 : v_l ≠ 0 ↔ 0 < keptS T n_l V := by
        refine hz.trans (Iff.trans ?_ hk.symm)
        rw [up_n (by decide), e4_l, en]
        constructor
        · intro ⟨j, h1, h2⟩
          rw [up_n (by omega)] at h2
          exact ⟨j, h1, h2⟩
        · intro ⟨j, h1, h2⟩
          exact ⟨j, h1, by rw [up_n (by omega)]; exact h2⟩
      by_cases d2 : v_l = 0
      · rw [if_pos d2, if_neg (fun q_l => (hz2.mpr q_l.2) d2)]
        exact fin_l z_l _ h3 f3_l
      · rw [if_neg d2, if_pos ⟨d1, hz2.mp d2⟩]
        have e6_l : gI z_l C 6 = menF T n_l V 8 := (rd_ci h3 i6_l (by unfold KK; decide)).trans (up_n (by decide))
        rw [e6_l]
        exact fin_l _ _ (Cr_w h3 i6_l) (Fct_t f3_l (Fct_w (by omega)))
    · rw [if_neg d1, if_neg (fun q_l => d1 q_l.1)]
      exact fin_l s3 _ h3 f3_l
end Ce2

end
section
/-! days on both sides -/
section Dd
variable {s t u : gS} {V W : Nat → Int} {i k C a j k0 n : Nat} {T : (Nat → Int) → Int} {v c x y lu : Int}
theorem dayC_F (hg : Vg V) (hl : lu ≠ 0) : dayC T (V 11) V = dayF T lu V := by
  have h4 := hg.1.2
  have e11_l : menF T (V 4).toNat V 11 = V 11 := men_n (by omega) _ (by omega)
  unfold dayC dayF luckF
  rw [if_neg hl, e11_l]
theorem gre_0 (x : Int) : 0 ≤ grem (gand x 32767) 100 := by
  have h_l := gand_le (x := x) (m := 32767) (by decide) (by decide)
  rw [grem_eq (x := gand x 32767) (c := 100) (by omega) (by decide)]
  omega
/-- a day ahead: but for the draw -/
theorem dayC_0 : dayC T 0 V = nextF (up (menF T (V 4).toNat V) 14 (nsd (menF T (V 4).toNat V 14))) := by
  unfold dayC
  rw [if_neg (fun z_l => by have := gre_0 (gushr (nsd (menF T (V 4).toNat V 14)) 16); omega)]
/-- rows alike but for the draw go on alike -/
noncomputable def Eq14 (V W : Nat → Int) : Prop := ∀ k, k ≠ 14 → V k = W k
theorem up_e {v : Int} (h : Eq14 V W) : Eq14 (up V k v) (up W k v) := fun j_l hj => by
  unfold up
  split
  · rfl
  · exact h j_l hj
theorem works_e (h : Eq14 V W) (hi : i < 6) : Eq14 (worksF i V) (worksF i W) := by
  have hp : ∀ c_l, Eq14 (paysF c_l V) (paysF c_l W) := fun c_l => by
    unfold paysF
    rw [h 8 (by decide), h 9 (by decide)]
    exact up_e (up_e h)
  have hd_l : ∀ (a_l : Nat) (X_l Y : Nat → Int), Eq14 X_l Y → Eq14 (doneF i a_l X_l) (doneF i a_l Y) := fun a_l X_l Y hx => by
    unfold doneF
    rw [hx (40 + 6 * i) (by omega), hx (16 + 3 * a_l + 2) (by omega)]
    exact up_e (up_e (up_e hx))
  have hh : ∀ (a_l : Nat) (X_l Y : Nat → Int), Eq14 X_l Y → Eq14 (heatF i a_l X_l) (heatF i a_l Y) := fun a_l X_l Y hx => by
    unfold heatF
    rw [hx (44 + 6 * i) (by omega), hx (16 + 3 * a_l) (by omega)]
    split
    · exact up_e hx
    · exact hd_l a_l X_l Y hx
  unfold worksF
  rw [h (43 + 6 * i) (by omega), h 3 (by decide), h (44 + 6 * i) (by omega), h (16 + 3 * (W (43 + 6 * i)).toNat + 1) (by omega)]
  split
  · split
    · exact hh _ _ _ (hp _)
    · exact hh _ _ _ h
  · exact h
theorem fF_14 (h : Eq14 V W) (hi : i < 6) : fF V i = fF W i := by
  funext j
  unfold fF
  rw [h (40 + 6 * i) (by omega), h (41 + 6 * i) (by omega), h (43 + 6 * i) (by omega), h (44 + 6 * i) (by omega), h 9 (by decide), h 7 (by decide), h 3 (by decide)]
theorem man_e (h : Eq14 V W) (hi : i < 6) : Eq14 (manF T i V) (manF T i W) := by
  have hw := works_e h hi
  have ht : Eq14 (trustF T i (worksF i V)) (trustF T i (worksF i W)) := by
    unfold trustF
    rw [hw (40 + 6 * i) (by omega), fF_14 hw hi]
    exact up_e hw
  unfold manF barF
  rw [h (45 + 6 * i) (by omega), ht (40 + 6 * i) (by omega), ht 10 (by decide)]
  split
  · split
    · exact up_e ht
    · exact ht
  · exact h
theorem men_e (h : Eq14 V W) (n : Nat) (hn : n ≤ 6) : Eq14 (menF T n V) (menF T n W) := by
  induction n with
  | zero => exact h
  | succ n ih_l => exact man_e (ih_l (by omega)) (by omega)
theorem ahead_e (hg : Vg W) (h : Eq14 V W) : Eq14 (dayC T 0 V) (dayF T 0 W) := by
  have h4 := hg.1.2
  have hm_l : Eq14 (menF T (W 4).toNat V) (menF T (W 4).toNat W) := men_e h _ (by omega)
  rw [dayC_0]
  unfold dayF nextF
  rw [if_pos rfl, h 4 (by decide), up_n (V := menF T (W 4).toNat V) (k := 14) (j := 7) (by decide), hm_l 7 (by decide)]
  refine up_e (fun j_l hj => ?_)
  rw [up_n hj]
  exact hm_l j_l hj
/-- the class's loop of days -/
theorem dc_102 (hr0 : gR s 0 5 = 15 ∧ gR s 0 4 = 9 ∧ gR s 0 1 = 3) (hr : Rc9 15 s) (hT : ∀ t, Fct 15 s t → Tlw t 218 9 T) (h : Cr s 15 V) (hg : Vg V) (hn : n ≤ 1000) : gQ (gloop st_102_17 (0, (n : Int), 0, 0, s)) (fun r => r.2.1 = fallD T 1 n V ∧ Cr r.2.2.2 15 (daysF T 1 n V) ∧ Fct 15 s r.2.2.2) := by
  have fb : ∀ j_l, 0 ≤ fallD T 1 j_l V ∧ fallD T 1 j_l V ≤ 6 * j_l := fun j_l => by
    induction j_l with
    | zero => exact ⟨Int.le_refl 0, Int.le_refl 0⟩
    | succ j_l ih_l =>
      have h9 := fallS_b (T := T) (V := daysF T 1 j_l V) (daysF T 1 j_l V 4).toNat
      have h8 := (Vg_days (T := T) (lu := 1) hg j_l).1.2
      show 0 ≤ fallD T 1 j_l V + fallS T (daysF T 1 j_l V 4).toNat (daysF T 1 j_l V) ∧ fallD T 1 j_l V + fallS T (daysF T 1 j_l V 4).toNat (daysF T 1 j_l V) ≤ 6 * ((j_l + 1 : Nat) : Int)
      omega
  refine gQ_loop (fun y_l => ∃ (j_l : Nat) (t : gS), y_l = (0, (n : Int), fallD T 1 j_l V, (j_l : Int), t) ∧ j_l ≤ n ∧ Cr t 15 (daysF T 1 j_l V) ∧ Fct 15 s t) (fun y_l hy => ?_) ⟨0, s, rfl, Nat.zero_le _, h, Fct_r⟩
  obtain ⟨j_l, t, rfl, hj, ht, ft⟩ := hy
  have hgj := Vg_days (T := T) (lu := 1) hg j_l
  show gQ (sb_102_17 0 (n : Int) (fallD T 1 j_l V) (j_l : Int) t) _
  unfold sb_102_17
  have q5_l : gR t 0 5 = 15 := (ft.1.2.2 0 5).trans hr0.1
  have q4_l : gR t 0 4 = 9 := (ft.1.2.2 0 4).trans hr0.2.1
  have q1_l : gR t 0 1 = 3 := (ft.1.2.2 0 1).trans hr0.2.2
  rw [q5_l, q4_l, q1_l, (rd_b ht).2.2.1]
  by_cases c : (j_l : Int) < (n : Int)
  · rw [if_pos c]
    refine gQ_w1 (A := fun v_l z_l => v_l = fallS T (daysF T 1 j_l V 4).toNat (daysF T 1 j_l V) ∧ Cr z_l 15 (dayC T (daysF T 1 j_l V 11) (daysF T 1 j_l V)) ∧ Fct 15 t z_l) (dc_27 (Or.inl rfl) (Rc_f hr ft) (fun w_l hw => hT w_l (Fct_t ft hw)) ht hgj) (fun v_l z_l hz => ?_)
    obtain ⟨z1, z2, z3⟩ := hz
    have h9 := fb (j_l + 1)
    have h9' : 0 ≤ fallD T 1 j_l V + fallS T (daysF T 1 j_l V 4).toNat (daysF T 1 j_l V) ∧ fallD T 1 j_l V + fallS T (daysF T 1 j_l V 4).toNat (daysF T 1 j_l V) ≤ 6 * ((j_l + 1 : Nat) : Int) := h9
    rw [z1, g32_eq (v := (j_l : Int) + 1) (by omega) (by omega), g32_eq (v := fallD T 1 j_l V + fallS T (daysF T 1 j_l V 4).toNat (daysF T 1 j_l V)) (by omega) (by omega)]
    rw [dayC_F (lu := 1) hgj (by decide)] at z2
    exact gQ_ret ⟨j_l + 1, z_l, rfl, by omega, z2, Fct_t ft z3⟩
  · rw [if_neg c]
    have en : j_l = n := by omega
    refine gQ_map (gQ_ret ⟨?_, ?_, ft⟩)
    · show fallD T 1 j_l V = fallD T 1 n V
      rw [en]
    · dsimp only
      rw [← en]
      exact ht
end Dd

end
section
/-! further ranges of a row: where a man stands, what rivals hold (of the men and rivals there are) -/
noncomputable def Vp (V : Nat → Int) : Prop := (∀ i : Nat, i < 6 → (i : Int) < V 4 → V (43 + 6 * i) ≤ V 3 ∧ (V (44 + 6 * i) = 0 ∨ V (43 + 6 * i) < V 3)) ∧ ∀ r : Nat, r < 6 → (r : Int) < V 6 → (0 ≤ V (88 + 2 * r) ∧ V (88 + 2 * r) ≤ 9999) ∧ (0 ≤ V (88 + 2 * r + 1) ∧ V (88 + 2 * r + 1) < 2 ^ (V 3).toNat)
noncomputable def Vq (V : Nat → Int) : Prop := Vg V ∧ Vp V
section Vr
variable {V W : Nat → Int} {i k n m a : Nat} {T : (Nat → Int) → Int} {v c lu x : Int}
theorem Vp_k0 (h : Vp V) (he : ∀ k, KK k → k ≠ 0 → V k = W k) : Vp W := by
  obtain ⟨h1, h2⟩ := h
  have e3_l : V 3 = W 3 := he 3 (by unfold KK; decide) (by decide)
  have e4_l : V 4 = W 4 := he 4 (by unfold KK; decide) (by decide)
  have e6_l : V 6 = W 6 := he 6 (by unfold KK; decide) (by decide)
  refine ⟨fun i_l hi_l h4 => ?_, fun r_l hr h6 => ?_⟩
  · rw [← e3_l, ← he (43 + 6 * i_l) (by unfold KK; omega) (by omega), ← he (44 + 6 * i_l) (by unfold KK; omega) (by omega)]
    exact h1 i_l hi_l (by rw [e4_l]; exact h4)
  · rw [← e3_l, ← he (88 + 2 * r_l) (by unfold KK; omega) (by omega), ← he (88 + 2 * r_l + 1) (by unfold KK; omega) (by omega)]
    exact h2 r_l hr (by rw [e6_l]; exact h6)
theorem Vp_k (h : Vp V) (he : ∀ k, KK k → V k = W k) : Vp W := Vp_k0 h (fun k hk _ => he k hk)
theorem Vp_x (h : Vp V) (hk : (k ≠ 3 ∧ k ≠ 4 ∧ k ≠ 6) ∧ (∀ i, i < 6 → k ≠ 43 + 6 * i ∧ k ≠ 44 + 6 * i) ∧ (k < 88 ∨ 100 ≤ k)) : Vp (up V k v) := by
  obtain ⟨h1, h2⟩ := h
  obtain ⟨⟨k3_l, k4_l, k6_l⟩, k7_l, k5_l⟩ := hk
  refine ⟨fun i hi_l h4 => ?_, fun r_l hr h6 => ?_⟩
  · obtain ⟨a1_l, a2⟩ := k7_l i hi_l
    rw [up_n (Ne.symm k4_l)] at h4
    rw [up_n (Ne.symm k3_l), up_n (Ne.symm a1_l), up_n (Ne.symm a2)]
    exact h1 i hi_l h4
  · rw [up_n (Ne.symm k6_l)] at h6
    rw [up_n (Ne.symm k3_l), up_n (by omega), up_n (by omega)]
    exact h2 r_l hr h6
theorem Vp_pays (h : Vp V) : Vp (paysF c V) := Vp_x (Vp_x h ⟨⟨by decide, by decide, by decide⟩, fun i_l hi_l => by omega, Or.inl (by decide)⟩) ⟨⟨by decide, by decide, by decide⟩, fun i_l hi_l => by omega, Or.inl (by decide)⟩
theorem Vp_t (h : Vp V) (hi : i < 6) : Vp (up V (40 + 6 * i) v) := Vp_x h ⟨⟨by omega, by omega, by omega⟩, fun j_l hj => by omega, Or.inl (by omega)⟩
theorem Vp_b (h : Vp V) (hi : i < 6) : Vp (up V (45 + 6 * i) v) := Vp_x h ⟨⟨by omega, by omega, by omega⟩, fun j_l hj => by omega, Or.inl (by omega)⟩
/-- a step done: the man stands at the next one, cold -/
theorem Vp_done (h : Vp V) (hi : i < 6) (ha : (a : Int) < V 3) : Vp (doneF i a V) := by
  have h0 : Vp (up V (40 + 6 * i) (min 99 (g32 (V (40 + 6 * i) + V (16 + 3 * a + 2))))) := Vp_t h hi
  have e3_l : up V (40 + 6 * i) (min 99 (g32 (V (40 + 6 * i) + V (16 + 3 * a + 2)))) 3 = V 3 := up_n (by omega)
  unfold doneF
  generalize up V (40 + 6 * i) (min 99 (g32 (V (40 + 6 * i) + V (16 + 3 * a + 2)))) = X at h0 e3_l
  have u4_l : up (up X (43 + 6 * i) ((a : Int) + 1)) (44 + 6 * i) 0 4 = X 4 := (up_n (by omega)).trans (up_n (by omega))
  have u6 : up (up X (43 + 6 * i) ((a : Int) + 1)) (44 + 6 * i) 0 6 = X 6 := (up_n (by omega)).trans (up_n (by omega))
  refine ⟨fun j_l hj h4 => ?_, fun r_l hr h6 => ?_⟩
  · rw [u4_l] at h4
    by_cases c : j_l = i
    · rw [c, up_n (k := 44 + 6 * i) (j := 43 + 6 * i) (by omega), up_s, up_n (k := 44 + 6 * i) (j := 3) (by omega), up_n (k := 43 + 6 * i) (j := 3) (by omega), up_s, e3_l]
      exact ⟨by omega, Or.inl rfl⟩
    · have h1 := h0.1 j_l hj h4
      rw [up_n (k := 44 + 6 * i) (j := 43 + 6 * j_l) (by omega), up_n (k := 43 + 6 * i) (j := 43 + 6 * j_l) (by omega), up_n (k := 44 + 6 * i) (j := 3) (by omega), up_n (k := 43 + 6 * i) (j := 3) (by omega), up_n (k := 44 + 6 * i) (j := 44 + 6 * j_l) (by omega), up_n (k := 43 + 6 * i) (j := 44 + 6 * j_l) (by omega)]
      exact h1
  · rw [u6] at h6
    rw [up_n (k := 44 + 6 * i) (j := 88 + 2 * r_l) (by omega), up_n (k := 43 + 6 * i) (j := 88 + 2 * r_l) (by omega), up_n (k := 44 + 6 * i) (j := 88 + 2 * r_l + 1) (by omega), up_n (k := 43 + 6 * i) (j := 88 + 2 * r_l + 1) (by omega), up_n (k := 44 + 6 * i) (j := 3) (by omega), up_n (k := 43 + 6 * i) (j := 3) (by omega)]
    exact h0.2 r_l hr h6
theorem Vp_heat (h : Vp V) (hi : i < 6) (ha : (a : Int) = V (43 + 6 * i)) (hc : V (43 + 6 * i) < V 3) : Vp (heatF i a V) := by
  unfold heatF
  by_cases c : V (44 + 6 * i) + 1 < V (16 + 3 * a)
  · rw [if_pos c]
    refine ⟨fun j_l hj h4 => ?_, fun r_l hr h6 => ?_⟩
    · rw [up_n (k := 44 + 6 * i) (j := 4) (by omega)] at h4
      have h1 := h.1 j_l hj h4
      by_cases e : j_l = i
      · rw [e] at h1 ⊢
        rw [up_n (k := 44 + 6 * i) (j := 43 + 6 * i) (by omega), up_n (k := 44 + 6 * i) (j := 3) (by omega)]
        exact ⟨h1.1, Or.inr hc⟩
      · rw [up_n (k := 44 + 6 * i) (j := 43 + 6 * j_l) (by omega), up_n (k := 44 + 6 * i) (j := 3) (by omega), up_n (k := 44 + 6 * i) (j := 44 + 6 * j_l) (by omega)]
        exact h1
    · rw [up_n (k := 44 + 6 * i) (j := 6) (by omega)] at h6
      rw [up_n (k := 44 + 6 * i) (j := 88 + 2 * r_l) (by omega), up_n (k := 44 + 6 * i) (j := 88 + 2 * r_l + 1) (by omega), up_n (k := 44 + 6 * i) (j := 3) (by omega)]
      exact h.2 r_l hr h6
  · rw [if_neg c]
    exact Vp_done h hi (by omega)
theorem Vp_works (hg : Vg V) (h : Vp V) (hi : i < 6) : Vp (worksF i V) := by
  have h2 := hg.2.1 i hi
  have hp : ∀ c_l, paysF c_l V (43 + 6 * i) = V (43 + 6 * i) ∧ paysF c_l V 3 = V 3 := fun c_l => ⟨pays_n (by omega), pays_n (by decide)⟩
  unfold worksF
  by_cases c_l : V (43 + 6 * i) < V 3
  · rw [if_pos c_l]
    by_cases d : V (44 + 6 * i) = 0
    · rw [if_pos d]
      refine Vp_heat (Vp_pays h) hi ?_ ?_
      · rw [(hp _).1]
        omega
      · rw [(hp _).1, (hp _).2]
        exact c_l
    · rw [if_neg d]
      exact Vp_heat h hi (by omega) c_l
  · rw [if_neg c_l]
    exact h
theorem Vp_man (hg : Vg V) (h : Vp V) (hi : i < 6) : Vp (manF T i V) := by
  unfold manF
  by_cases c : V (45 + 6 * i) = 0
  · rw [if_pos c]
    have h2 : Vp (trustF T i (worksF i V)) := Vp_t (Vp_works hg h hi) hi
    unfold barF
    by_cases d : trustF T i (worksF i V) (40 + 6 * i) < trustF T i (worksF i V) 10
    · rw [if_pos d]
      exact Vp_b h2 hi
    · rw [if_neg d]
      exact h2
  · rw [if_neg c]
    exact h
theorem Vp_men (hg : Vg V) (h : Vp V) (n : Nat) (hn : n ≤ 6) : Vp (menF T n V) := by
  induction n with
  | zero => exact h
  | succ n ih_l => exact Vp_man (Vg_men hg n (by omega)) (ih_l (by omega)) (by omega)
theorem Vp_o (h : Vp V) (hk : k = 7 ∨ k = 8 ∨ k = 9 ∨ k = 13 ∨ k = 14) : Vp (up V k v) := Vp_x h ⟨⟨by omega, by omega, by omega⟩, fun j_l hj => by omega, Or.inl (by omega)⟩
theorem Vp_day (hg : Vg V) (h : Vp V) : Vp (dayF T lu V) := by
  have h4 := hg.1.2
  have hm_l := Vp_men (T := T) hg h (V 4).toNat (by omega)
  unfold dayF nextF luckF
  refine Vp_o ?_ (by omega)
  split
  · exact hm_l
  · split
    · exact Vp_o (Vp_o hm_l (by omega)) (by omega)
    · exact Vp_o hm_l (by omega)
theorem Vp_days (hg : Vg V) (h : Vp V) (n : Nat) : Vp (daysF T lu n V) := by
  induction n with
  | zero => exact h
  | succ n ih_l => exact Vp_day (Vg_days hg n) ih_l
end Vr

end
