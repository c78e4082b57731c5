/-! answers alike -/
section Ax
variable {p : gP} {s : gS}
theorem an_305 {a1 : Int} (hJ : J p s) (h : Rt s) : gQ (f_305 0 a1 231 s) (fun r => An2 (f_250 217 a1) r.2.1 r.2.2.2) := by
  have hW := rs_305 (a1 := a1) hJ h
  unfold f_305 at hW ⊢
  refine an2 (st := st2) (fun v_l => True) (co_122 hJ h) (fun r hr => Lv_f hJ.1.1 (o_122 hJ.1.2.1 cid rfl (Fw_rf hJ.1.1) r hr)) (fun _ _ _ => trivial) hW rfl (fun v_l t_l hv => aE trivial) (fun k_l t_l => ?_) (fun u_l p hu hR q_l hq => ⟨rs_250 hu hR q_l hq, (om_250 hu.1.2.1 um rfl (JF hu) q_l hq).2.2 231 0 (Nat.lt_of_lt_of_le (by decide) hu.1.1) rfl⟩)
  by_cases c0 : k_l = 0
  · rw [if_pos c0, c0]
    exact gQ_ret ⟨rfl, (by decide : (1 : Int) ≠ 0), rfl⟩
  rw [if_neg c0]
  exact gQ_none
end Ax
