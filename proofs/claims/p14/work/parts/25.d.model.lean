theorem t12 : T 12 217 := ⟨by first | decide | omega | (dsimp only; omega), by decide +kernel⟩
/-- rows of the model that go along with its m -/
def rwi (f i : Nat) : Nat := if f = 5 then i % 340 else i
section Mr
variable {p : gP} {s s2 s3 s4 : gS} {a a' f f' i j : Nat} {v : Int}
theorem r_rw (h : J p s) (t : T 12 a) (hf : f = 1 ∨ f = 2 ∨ f = 4 ∨ f = 5) : (gR s a f < 232 ∧ 13 ≤ k0 (gR s a f)) ∧ ∀ i, arn (gR s a f) i = mrn (rwi f i) := by
  rw [T_12 t]
  have e := k0_sp
  rcases hf with rfl | rfl | rfl | rfl
  · rw [J_r (r := 218) h rfl (by decide +kernel) (by decide +kernel)]
    exact ⟨⟨by first | decide | omega | (dsimp only; omega), by omega⟩, fun i => rfl⟩
  · rw [J_r (r := 219) h rfl (by decide +kernel) (by decide +kernel)]
    exact ⟨⟨by first | decide | omega | (dsimp only; omega), by omega⟩, fun i => rfl⟩
  · rw [J_r (r := 220) h rfl (by decide +kernel) (by decide +kernel)]
    exact ⟨⟨by first | decide | omega | (dsimp only; omega), by omega⟩, fun i => rfl⟩
  · rw [J_r (r := 221) h rfl (by decide +kernel) (by decide +kernel)]
    exact ⟨⟨by first | decide | omega | (dsimp only; omega), by omega⟩, fun i => rfl⟩
theorem J_cpm (h : J p s) (h2 : J p s2) (h3 : J p s3) (h4 : J p s4) (t : T 12 a) (t' : T 12 a') (hf : f = 1 ∨ f = 2 ∨ f = 4 ∨ f = 5) (hf' : f' = 1 ∨ f' = 2 ∨ f' = 4 ∨ f' = 5) (hr : rwi f i = rwi f' j) : J p (gw s (gR s2 a f) i (gI s3 (gR s4 a' f') j)) := by
  obtain ⟨⟨-, k1⟩, e1⟩ := r_rw h2 t hf
  obtain ⟨⟨k2, k3⟩, e2⟩ := r_rw h4 t' hf'
  refine J_wb h k1 (fun q hq => J_ra h3 k2 k3 ?_)
  rw [e2, ← hr, ← e1]
  exact hq
theorem mrn_none {k : Nat} (hk : (13 < k ∧ k < 40 ∧ (k - 16) % 3 ≠ 2) ∨ 76 ≤ k) : mrn k = none := by
  unfold mrn
  rw [if_neg (by omega), if_neg (by omega), if_neg (by omega), if_neg (by omega), if_neg (by omega), if_neg (by omega), if_neg (by omega)]
theorem J_wmf (h : J p s) (h2 : J p s2) (t : T 12 a) {k : Nat} (hk : (13 < k ∧ k < 40 ∧ (k - 16) % 3 ≠ 2) ∨ 76 ≤ k) : J p (gw s (gR s2 a 1) k v) :=
  J_wm h h2 t (fun q hq => by rw [mrn_none hk] at hq; cases hq)
theorem mrn_m {x w : Nat} (hx : x < 6) (hw : w < 6) : mrn (40 + 6 * x + w) = if w = 0 then some (0, 99) else if w = 1 then some (0, 9) else if w = 3 then some (0, 8) else none := by
  unfold mrn
  rw [if_neg (by omega), if_neg (by omega), if_neg (by omega), if_neg (by omega), if_neg (by omega), if_neg (by omega), if_pos (by omega), show (40 + 6 * x + w - 40) % 6 = w by omega]
theorem mrn_s {x : Nat} (hx : x < 8) : mrn (16 + 3 * x + 2) = some (0, 50) := by
  unfold mrn
  rw [if_neg (by omega), if_neg (by omega), if_neg (by omega), if_neg (by omega), if_neg (by omega), if_pos (by omega)]
theorem d_155_2 {x : Int} (_hp : -1 ≤ p.1 ∧ p.1 ≤ 0) (h : J p s) (t : T 12 a) (hx : 0 ≤ x ∧ x ≤ 7) : gT (f_155 a x 2 s) (fun r => r.1 = 1 ∧ (0 ≤ r.2.1 ∧ r.2.1 ≤ 50) ∧ J p r.2.2.2) := by
  have e1 := g32_eq (v := 3 * x) (by omega) (by omega)
  have e2 := g32_eq (v := 16 + 3 * x) (by omega) (by omega)
  have e3 := g32_eq (v := 16 + 3 * x + 2) (by omega) (by omega)
  unfold f_155
  rw [e1, e2, e3]
  refine gT_chk (by omega) (by omega) ?_
  have ei : (16 + 3 * x + 2).toNat = 16 + 3 * x.toNat + 2 := by omega
  exact gT_ret ⟨rfl, J_m h h t (by rw [ei, mrn_s (by omega)]), h⟩
theorem c_157 {x w : Int} (h : J p s) (t : T 12 a) (hx : 0 ≤ x ∧ x ≤ 5) (hw : 0 ≤ w ∧ w ≤ 5) (hv : (w = 0 → 0 ≤ v ∧ v ≤ 99) ∧ (w = 1 → 0 ≤ v ∧ v ≤ 9) ∧ (w = 3 → 0 ≤ v ∧ v ≤ 8)) : gT (f_157 a x w v s) (fun r => r.1 = 0 ∧ J p r.2.2.2 ∧ r.2.2.2 = gw s 218 (40 + 6 * x.toNat + w.toNat) v) := by
  have e1 := g32_eq (v := 6 * x) (by omega) (by omega)
  have e2 := g32_eq (v := 40 + 6 * x) (by omega) (by omega)
  have e3 := g32_eq (v := 40 + 6 * x + w) (by omega) (by omega)
  unfold f_157
  rw [e1, e2, e3]
  refine gT_chk (by omega) (by omega) ?_
  extract_lets s1
  have ei : (40 + 6 * x + w).toNat = 40 + 6 * x.toNat + w.toNat := by omega
  refine gT_ret ⟨rfl, J_wm h h t (fun q hq => ?_), by show gw s (gR s a 1) _ v = _; rw [r_m h t, ei]⟩
  rw [ei, mrn_m (by omega) (by omega)] at hq
  by_cases h0 : w.toNat = 0
  · rw [if_pos h0] at hq
    cases hq
    exact hv.1 (by omega)
  · rw [if_neg h0] at hq
    by_cases h1 : w.toNat = 1
    · rw [if_pos h1] at hq
      cases hq
      exact hv.2.1 (by omega)
    · rw [if_neg h1] at hq
      by_cases h3 : w.toNat = 3
      · rw [if_pos h3] at hq
        cases hq
        exact hv.2.2 (by omega)
      · rw [if_neg h3] at hq
        cases hq
theorem c_156 {x w : Int} (h : J p s) (t : T 12 a) (hx : 0 ≤ x ∧ x ≤ 5) (hw : 0 ≤ w ∧ w ≤ 5) : gT (f_156 a x w s) (fun r => r.1 = 1 ∧ ((w = 0 → 0 ≤ r.2.1 ∧ r.2.1 ≤ 99) ∧ (w = 1 → 0 ≤ r.2.1 ∧ r.2.1 ≤ 9) ∧ (w = 3 → 0 ≤ r.2.1 ∧ r.2.1 ≤ 8)) ∧ r.2.1 = gI s 218 (40 + 6 * x.toNat + w.toNat) ∧ r.2.2.2 = s) := by
  have e1 := g32_eq (v := 6 * x) (by omega) (by omega)
  have e2 := g32_eq (v := 40 + 6 * x) (by omega) (by omega)
  have e3 := g32_eq (v := 40 + 6 * x + w) (by omega) (by omega)
  unfold f_156
  rw [e1, e2, e3]
  refine gT_chk (by omega) (by omega) ?_
  have ei : (40 + 6 * x + w).toNat = 40 + 6 * x.toNat + w.toNat := by omega
  refine gT_ret ⟨rfl, ⟨fun h0 => ?_, fun h0 => ?_, fun h0 => ?_⟩, by show gI s (gR s a 1) _ = _; rw [r_m h t, ei], rfl⟩
  · exact J_m h h t (by rw [ei, mrn_m (by omega) (by omega), if_pos (by omega)])
  · exact J_m h h t (by rw [ei, mrn_m (by omega) (by omega), if_neg (by omega), if_pos (by omega)])
  · exact J_m h h t (by rw [ei, mrn_m (by omega) (by omega), if_neg (by omega), if_neg (by omega), if_pos (by omega)])
theorem d_157_0 {x : Int} (_hp : -1 ≤ p.1 ∧ p.1 ≤ 0) (h : J p s) (t : T 12 a) (hx : 0 ≤ x ∧ x ≤ 5) (r3 : 0 ≤ v ∧ v ≤ 99) : gT (f_157 a x 0 v s) (fun r => r.1 = 0 ∧ J p r.2.2.2) := gT_mono (c_157 h t hx (by decide) ⟨fun _ => r3, fun e => absurd e (by first | decide | omega | (dsimp only; omega)), fun e => absurd e (by first | decide | omega | (dsimp only; omega))⟩) (fun _ hr => ⟨hr.1, hr.2.1⟩)
theorem d_156_0 {x : Int} (_hp : -1 ≤ p.1 ∧ p.1 ≤ 0) (h : J p s) (t : T 12 a) (hx : 0 ≤ x ∧ x ≤ 5) : gT (f_156 a x 0 s) (fun r => r.1 = 1 ∧ (0 ≤ r.2.1 ∧ r.2.1 ≤ 99) ∧ J p r.2.2.2) := gT_mono (c_156 h t hx (by decide)) (fun _ hr => ⟨hr.1, hr.2.1.1 rfl, by rw [hr.2.2.2]; exact h⟩)
theorem d_157_1 {x : Int} (_hp : -1 ≤ p.1 ∧ p.1 ≤ 0) (h : J p s) (t : T 12 a) (hx : 0 ≤ x ∧ x ≤ 5) (r3 : 0 ≤ v ∧ v ≤ 9) : gT (f_157 a x 1 v s) (fun r => r.1 = 0 ∧ J p r.2.2.2) := gT_mono (c_157 h t hx (by decide) ⟨fun e => absurd e (by first | decide | omega | (dsimp only; omega)), fun _ => r3, fun e => absurd e (by first | decide | omega | (dsimp only; omega))⟩) (fun _ hr => ⟨hr.1, hr.2.1⟩)
theorem d_156_1 {x : Int} (_hp : -1 ≤ p.1 ∧ p.1 ≤ 0) (h : J p s) (t : T 12 a) (hx : 0 ≤ x ∧ x ≤ 5) : gT (f_156 a x 1 s) (fun r => r.1 = 1 ∧ (0 ≤ r.2.1 ∧ r.2.1 ≤ 9) ∧ J p r.2.2.2) := gT_mono (c_156 h t hx (by decide)) (fun _ hr => ⟨hr.1, hr.2.1.2.1 rfl, by rw [hr.2.2.2]; exact h⟩)
theorem d_157_2 {x : Int} (_hp : -1 ≤ p.1 ∧ p.1 ≤ 0) (h : J p s) (t : T 12 a) (hx : 0 ≤ x ∧ x ≤ 5) : gT (f_157 a x 2 v s) (fun r => r.1 = 0 ∧ J p r.2.2.2) := gT_mono (c_157 h t hx (by decide) ⟨fun e => absurd e (by first | decide | omega | (dsimp only; omega)), fun e => absurd e (by first | decide | omega | (dsimp only; omega)), fun e => absurd e (by first | decide | omega | (dsimp only; omega))⟩) (fun _ hr => ⟨hr.1, hr.2.1⟩)
theorem d_156_2 {x : Int} (_hp : -1 ≤ p.1 ∧ p.1 ≤ 0) (h : J p s) (t : T 12 a) (hx : 0 ≤ x ∧ x ≤ 5) : gT (f_156 a x 2 s) (fun r => r.1 = 1 ∧ True ∧ J p r.2.2.2) := gT_mono (c_156 h t hx (by decide)) (fun _ hr => ⟨hr.1, trivial, by rw [hr.2.2.2]; exact h⟩)
theorem d_157_3 {x : Int} (_hp : -1 ≤ p.1 ∧ p.1 ≤ 0) (h : J p s) (t : T 12 a) (hx : 0 ≤ x ∧ x ≤ 5) (r3 : 0 ≤ v ∧ v ≤ 8) : gT (f_157 a x 3 v s) (fun r => r.1 = 0 ∧ J p r.2.2.2) := gT_mono (c_157 h t hx (by decide) ⟨fun e => absurd e (by first | decide | omega | (dsimp only; omega)), fun e => absurd e (by first | decide | omega | (dsimp only; omega)), fun _ => r3⟩) (fun _ hr => ⟨hr.1, hr.2.1⟩)
theorem d_156_3 {x : Int} (_hp : -1 ≤ p.1 ∧ p.1 ≤ 0) (h : J p s) (t : T 12 a) (hx : 0 ≤ x ∧ x ≤ 5) : gT (f_156 a x 3 s) (fun r => r.1 = 1 ∧ (0 ≤ r.2.1 ∧ r.2.1 ≤ 8) ∧ J p r.2.2.2) := gT_mono (c_156 h t hx (by decide)) (fun _ hr => ⟨hr.1, hr.2.1.2.2 rfl, by rw [hr.2.2.2]; exact h⟩)
theorem d_157_4 {x : Int} (_hp : -1 ≤ p.1 ∧ p.1 ≤ 0) (h : J p s) (t : T 12 a) (hx : 0 ≤ x ∧ x ≤ 5) : gT (f_157 a x 4 v s) (fun r => r.1 = 0 ∧ J p r.2.2.2) := gT_mono (c_157 h t hx (by decide) ⟨fun e => absurd e (by first | decide | omega | (dsimp only; omega)), fun e => absurd e (by first | decide | omega | (dsimp only; omega)), fun e => absurd e (by first | decide | omega | (dsimp only; omega))⟩) (fun _ hr => ⟨hr.1, hr.2.1⟩)
theorem d_156_4 {x : Int} (_hp : -1 ≤ p.1 ∧ p.1 ≤ 0) (h : J p s) (t : T 12 a) (hx : 0 ≤ x ∧ x ≤ 5) : gT (f_156 a x 4 s) (fun r => r.1 = 1 ∧ True ∧ J p r.2.2.2) := gT_mono (c_156 h t hx (by decide)) (fun _ hr => ⟨hr.1, trivial, by rw [hr.2.2.2]; exact h⟩)
theorem d_157_5 {x : Int} (_hp : -1 ≤ p.1 ∧ p.1 ≤ 0) (h : J p s) (t : T 12 a) (hx : 0 ≤ x ∧ x ≤ 5) : gT (f_157 a x 5 v s) (fun r => r.1 = 0 ∧ J p r.2.2.2) := gT_mono (c_157 h t hx (by decide) ⟨fun e => absurd e (by first | decide | omega | (dsimp only; omega)), fun e => absurd e (by first | decide | omega | (dsimp only; omega)), fun e => absurd e (by first | decide | omega | (dsimp only; omega))⟩) (fun _ hr => ⟨hr.1, hr.2.1⟩)
theorem d_156_5 {x : Int} (_hp : -1 ≤ p.1 ∧ p.1 ≤ 0) (h : J p s) (t : T 12 a) (hx : 0 ≤ x ∧ x ≤ 5) : gT (f_156 a x 5 s) (fun r => r.1 = 1 ∧ True ∧ J p r.2.2.2) := gT_mono (c_156 h t hx (by decide)) (fun _ hr => ⟨hr.1, trivial, by rw [hr.2.2.2]; exact h⟩)
end Mr
