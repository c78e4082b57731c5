section L5
variable {s t u : gS} {p : gP}
theorem Tp_R (hJ : J p s) (h : Rt s) : Tp s (gI s 222) p.2.1.toNat := by
  have hl : gI s 1 1 = p.2.1 := hJ.2.2.1
  have hb_l := J_f hJ (kd := 10) (a := 1) (i := 1) t10 rfl (fun z_l => by cases z_l) (x := 0) (y := 400) rfl
  exact ⟨(hJ.1.2.1 1 0 (by decide) (by decide +kernel)).trans (by decide +kernel), by omega, by omega, fun j_l => h.2.1 j_l⟩
end L5
