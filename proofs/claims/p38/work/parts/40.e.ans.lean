/-! answers alike -/
section Ax
variable {p : gP} {s : gS}
theorem an_123 (hJ : J p s) (h : Rt s) : gQ (f_123 0 s) (fun r => An1 (f_251 217) r.2.1 r.2.2.2) := an1 (cd_123 hJ h) (fun r hr => Lv_f hJ.1.1 (o_123 hJ.1.2.1 cid rfl (Fw_rf hJ.1.1) r hr)) (rs_123 hJ h) (fun u_l p hu hR => rs_251 hu hR)
end Ax
