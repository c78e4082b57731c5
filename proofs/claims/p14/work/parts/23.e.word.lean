theorem gtx_70 : ∀ a, a < 70 → (gtx a).length ≤ 40 := by decide +kernel
theorem gtx_le (a : Nat) : (gtx a).length ≤ 40 := by
  by_cases h : a < 70
  · exact gtx_70 a h
  · unfold gtx
    rw [List.getElem?_eq_none (by rw [es_strs_len]; omega)]
    exact Nat.zero_le _
theorem gshr_0 {x : Int} (h : -2147483648 ≤ x ∧ x < 2147483648) : gshr x 0 = x := by
  have e : (Int32.ofInt x >>> (Int32.ofInt 0 &&& 31)) = Int32.ofInt x := by
    rw [show (Int32.ofInt 0 &&& 31) = 0 by decide]
    simp
  unfold gshr
  rw [e]
  exact g_oi h
section Word
variable {p : gP} {s : gS} {a0 a1 : Nat}
theorem c_80 (h : J p s) (t0 : T 10 a0) : gT (f_80 a0 a1 s) (fun r => r.1 = 1 ∧ (0 ≤ r.2.1 ∧ r.2.1 ≤ 1 ∧ (r.2.1 = 1 → gI s 1 2 = 1 ∧ gI s 1 4 = gI s 1 3 + gsl a1)) ∧ r.2.2.2 = s) := by
  have e10 := T_10 t0
  subst e10
  have hlen := gtx_le a1
  have hsl : gsl a1 = ((gtx a1).length : Int) := rfl
  have hsr := gshr_0 (x := gsl a1) (by omega)
  unfold f_80
  refine gT_ite (fun hk => ?_) (fun _ => gT_ret ⟨rfl, by dsimp only; omega, rfl⟩)
  refine gT_v1 (A := fun v u => v = gsl a1 ∧ u = s) ⟨_, rfl, rfl, hsr, rfl⟩ (fun v2 s1 hA => ?_)
  obtain ⟨rfl, rfl⟩ := hA
  have r3 := J_f (i := 3) h t0 rfl (by decide) rfl
  have r4 := J_f (i := 4) h t0 rfl (by decide) rfl
  have e1 := g32_eq (v := gI s1 1 4 - gI s1 1 3) (by omega) (by omega)
  refine gT_ite (fun h5 => ?_) (fun _ => gT_ret ⟨rfl, by dsimp only; omega, rfl⟩)
  refine gT_loop (fun y => y.1 = 1 ∧ y.2.1 = a1 ∧ (0 ≤ y.2.2.1 ∧ y.2.2.1 ≤ gsl a1) ∧ y.2.2.2 = s1) (fun y => (gsl a1 - y.2.2.1).toNat) (fun y hy => ?_) ⟨rfl, rfl, by dsimp only; omega, rfl⟩
  obtain ⟨x0, x1, x2, s⟩ := y
  obtain ⟨e0, e2, r2, e3⟩ := hy
  dsimp only at e0 e2 r2 e3
  subst e0 e2 e3
  show gT (sb_80_28 1 x1 x2 s) _
  unfold sb_80_28
  refine gT_v1 (A := fun v u => v = gsl x1 ∧ u = s) ⟨_, rfl, rfl, hsr, rfl⟩ (fun v4 s3 hA => ?_)
  obtain ⟨rfl, rfl⟩ := hA
  refine gT_ite (fun h6 => ?_) (fun _ => gT_map (gT_ret ⟨rfl, by dsimp only; omega, rfl⟩))
  have e4 := g32_eq (v := gI s3 1 3 + x2) (by omega) (by omega)
  refine gT_chk (by omega) (by omega) ?_
  refine gT_v1 (A := fun _ u => u = s3) (gT_chk (by omega) (by omega) (gT_ret ⟨rfl, rfl⟩)) (fun v6 s5 hA => ?_)
  subst hA
  have e5 := g32_eq (v := x2 + 1) (by omega) (by omega)
  refine gT_ite (fun _ => gT_ret ⟨⟨rfl, rfl, by dsimp only; omega, rfl⟩, by dsimp only; omega⟩) (fun _ => gT_map (gT_ret ⟨rfl, by dsimp only; omega, rfl⟩))
theorem d_80 (_hp : -1 ≤ p.1 ∧ p.1 ≤ 0) (h : J p s) (t0 : T 10 a0) : gT (f_80 a0 a1 s) (fun r => r.1 = 1 ∧ (0 ≤ r.2.1 ∧ r.2.1 ≤ 1) ∧ J p r.2.2.2) := gT_mono (c_80 h t0) (fun _ hr => ⟨hr.1, ⟨hr.2.1.1, hr.2.1.2.1⟩, by rw [hr.2.2]; exact h⟩)
end Word
