/-! answers alike -/
section Ax
variable {p : gP} {s : gS}
theorem an_296 {a1 : Int} {a2 : Int} (hJ : J p s) (h : Rt s) : gQ (f_296 0 a1 a2 231 s) (fun r => An2 (f_233 217 a1 a2) r.2.1 r.2.2.2) := by
  have hW := rs_296 (a1 := a1) (a2 := a2) hJ h
  unfold f_296 at hW ⊢
  refine an2 (st := st5) (fun v_l => v_l = 0 ∨ v_l = 1) (co_110 hJ h) (fun r hr => Lv_f hJ.1.1 (o_110 hJ.1.2.1 cid rfl (Fw_rf hJ.1.1) r hr)) (fun r hr c_l => bo_110 r hr c_l) hW rfl (fun v_l t_l hv => aB hv) (fun k_l t_l => ?_) (fun u_l p hu hR q_l hq => ⟨rs_233 hu hR q_l hq, (om_233 hu.1.2.1 um rfl (JF hu) q_l hq).2.2 231 0 (Nat.lt_of_lt_of_le (by decide) hu.1.1) rfl⟩)
  by_cases c0 : k_l = 3
  · rw [if_pos c0, c0]
    exact gQ_ret ⟨rfl, (by decide : (1 : Int) ≠ 0), rfl⟩
  rw [if_neg c0]
  exact gQ_none
end Ax
