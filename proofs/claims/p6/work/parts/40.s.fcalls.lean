/-! each wrapped call keeps the place of the fault -/
section Fs
variable {p : gP} {s : gS}
theorem ft_278 {a1 : Int} {a2 : Int} (hJ : J p s) (hX : RX s) (h : Fau s) : gQ (f_278 0 a1 a2 231 s) (fun r => Fau r.2.2.2) := by
  unfold f_278
  refine gQ_c1 (A := Fau) (fq hJ h (o_92 hJ.1.2.1 cid rfl (Fw_rf hJ.1.1))) (fun v_l t_l ht => ?_) (fun k_l t_l ht => ?_)
  · exact gQ_chk (gQ_ret (Fau_231 ht))
  · exact gQ_ite (gQ_ret ht) (gQ_ite (gQ_ret ht) gQ_none)
theorem ft_279 {a1 : Int} {a2 : Int} (hJ : J p s) (hX : RX s) (h : Fau s) : gQ (f_279 0 a1 a2 231 s) (fun r => Fau r.2.2.2) := by
  unfold f_279
  refine gQ_c1 (A := Fau) (fq hJ h (o_93 hJ.1.2.1 cid rfl (Fw_rf hJ.1.1))) (fun v_l t_l ht => ?_) (fun k_l t_l ht => ?_)
  · exact gQ_chk (gQ_ret (Fau_231 ht))
  · exact gQ_ite (gQ_ret ht) (gQ_ite (gQ_ret ht) gQ_none)
theorem ft_280 {a1 : Int} {a2 : Int} (hJ : J p s) (hX : RX s) (h : Fau s) : gQ (f_280 0 a1 a2 231 s) (fun r => Fau r.2.2.2) := by
  unfold f_280
  refine gQ_c1 (A := Fau) (fq hJ h (o_94 hJ.1.2.1 cid rfl (Fw_rf hJ.1.1))) (fun v_l t_l ht => ?_) (fun k_l t_l ht => ?_)
  · exact gQ_chk (gQ_ret (Fau_231 ht))
  · exact gQ_ite (gQ_ret ht) gQ_none
theorem ft_281 {a1 : Int} {a2 : Int} (hJ : J p s) (hX : RX s) (h : Fau s) : gQ (f_281 0 a1 a2 231 s) (fun r => Fau r.2.2.2) := by
  unfold f_281
  refine gQ_c1 (A := Fau) (fq hJ h (o_95 hJ.1.2.1 cid rfl (Fw_rf hJ.1.1))) (fun v_l t_l ht => ?_) (fun k_l t_l ht => ?_)
  · exact gQ_chk (gQ_ret (Fau_231 ht))
  · exact gQ_ite (gQ_ret ht) gQ_none
theorem ft_282 {a1 : Int} (hJ : J p s) (hX : RX s) (h : Fau s) : gQ (f_282 0 a1 231 s) (fun r => Fau r.2.2.2) := by
  unfold f_282
  refine gQ_c1 (A := Fau) (fi_96 hJ hX h) (fun v_l t_l ht => ?_) (fun k_l t_l ht => ?_)
  · exact gQ_chk (gQ_ret (Fau_231 ht))
  · exact gQ_ite (gQ_ret ht) (gQ_ite (gQ_ret ht) gQ_none)
theorem ft_283 {a1 : Int} {a2 : Int} (hJ : J p s) (hX : RX s) (h : Fau s) : gQ (f_283 0 a1 a2 231 s) (fun r => Fau r.2.2.2) := by
  unfold f_283
  refine gQ_c1 (A := Fau) (fi_97 hJ hX h) (fun v_l t_l ht => ?_) (fun k_l t_l ht => ?_)
  · exact gQ_ite (gQ_chk (gQ_ret (Fau_231 ht))) (gQ_chk (gQ_ret (Fau_231 ht)))
  · exact gQ_ite (gQ_ret ht) (gQ_ite (gQ_ret ht) gQ_none)
theorem ft_284 {a1 : Int} (hJ : J p s) (hX : RX s) (h : Fau s) : gQ (f_284 0 a1 231 s) (fun r => Fau r.2.2.2) := by
  unfold f_284
  refine gQ_c1 (A := Fau) (fi_98 hJ hX h) (fun v_l t_l ht => ?_) (fun k_l t_l ht => ?_)
  · exact gQ_chk (gQ_ret (Fau_231 ht))
  · exact gQ_ite (gQ_ret ht) (gQ_ite (gQ_ret ht) gQ_none)
theorem ft_285 {a1 : Int} {a2 : Int} {a3 : Int} (hJ : J p s) (hX : RX s) (h : Fau s) : gQ (f_285 0 a1 a2 a3 231 s) (fun r => Fau r.2.2.2) := by
  unfold f_285
  refine gQ_c1 (A := Fau) (fi_99 hJ hX h) (fun v_l t_l ht => ?_) (fun k_l t_l ht => ?_)
  · exact gQ_chk (gQ_ret (Fau_231 ht))
  · exact gQ_ite (gQ_ret ht) (gQ_ite (gQ_ret ht) (gQ_ite (gQ_ret ht) gQ_none))
theorem ft_286 {a1 : Int} {a2 : Int} (hJ : J p s) (hX : RX s) (h : Fau s) : gQ (f_286 0 a1 a2 231 s) (fun r => Fau r.2.2.2) := by
  unfold f_286
  refine gQ_c1 (A := Fau) (fi_100 hJ hX h) (fun v_l t_l ht => ?_) (fun k_l t_l ht => ?_)
  · exact gQ_chk (gQ_ret (Fau_231 ht))
  · exact gQ_ite (gQ_ret ht) (gQ_ite (gQ_ret ht) gQ_none)
theorem ft_287 {a1 : Int} (hJ : J p s) (hX : RX s) (h : Fau s) : gQ (f_287 0 a1 231 s) (fun r => Fau r.2.2.2) := by
  unfold f_287
  refine gQ_c1 (A := Fau) (fi_101 hJ hX h) (fun v_l t_l ht => ?_) (fun k_l t_l ht => ?_)
  · exact gQ_chk (gQ_ret (Fau_231 ht))
  · exact gQ_ite (gQ_ret ht) gQ_none
theorem ft_288 {a1 : Int} (hJ : J p s) (hX : RX s) (h : Fau s) : gQ (f_288 0 a1 231 s) (fun r => Fau r.2.2.2) := by
  unfold f_288
  refine gQ_c1 (A := Fau) (fi_102 hJ hX h) (fun v_l t_l ht => ?_) (fun k_l t_l ht => ?_)
  · exact gQ_chk (gQ_ret (Fau_231 ht))
  · exact gQ_ite (gQ_ret ht) gQ_none
theorem ft_289 {a1 : Int} {a2 : Int} {a3 : Int} (hJ : J p s) (hX : RX s) (h : Fau s) : gQ (f_289 0 a1 a2 a3 231 s) (fun r => Fau r.2.2.2) := by
  unfold f_289
  refine gQ_c1 (A := Fau) (fq hJ h (o_103 hJ.1.2.1 cid rfl (Fw_rf hJ.1.1))) (fun v_l t_l ht => ?_) (fun k_l t_l ht => ?_)
  · exact gQ_chk (gQ_ret (Fau_231 ht))
  · exact gQ_ite (gQ_ret ht) (gQ_ite (gQ_ret ht) (gQ_ite (gQ_ret ht) gQ_none))
theorem ft_290 {a1 : Int} (hJ : J p s) (hX : RX s) (h : Fau s) : gQ (f_290 0 a1 231 s) (fun r => Fau r.2.2.2) := by
  unfold f_290
  refine gQ_c1 (A := Fau) (fq hJ h (o_104 hJ.1.2.1 cid rfl (Fw_rf hJ.1.1))) (fun v_l t_l ht => ?_) (fun k_l t_l ht => ?_)
  · exact gQ_chk (gQ_ret (Fau_231 ht))
  · exact gQ_ite (gQ_ret ht) gQ_none
theorem ft_291 {a1 : Int} (hJ : J p s) (hX : RX s) (h : Fau s) : gQ (f_291 0 a1 231 s) (fun r => Fau r.2.2.2) := by
  unfold f_291
  refine gQ_c1 (A := Fau) (fq hJ h (o_105 hJ.1.2.1 cid rfl (Fw_rf hJ.1.1))) (fun v_l t_l ht => ?_) (fun k_l t_l ht => ?_)
  · exact gQ_chk (gQ_ret (Fau_231 ht))
  · exact gQ_ite (gQ_ret ht) gQ_none
theorem ft_292 {a1 : Int} (hJ : J p s) (hX : RX s) (h : Fau s) : gQ (f_292 0 a1 231 s) (fun r => Fau r.2.2.2) := by
  unfold f_292
  refine gQ_c1 (A := Fau) (fq hJ h (o_106 hJ.1.2.1 cid rfl (Fw_rf hJ.1.1))) (fun v_l t_l ht => ?_) (fun k_l t_l ht => ?_)
  · exact gQ_chk (gQ_ret (Fau_231 ht))
  · exact gQ_ite (gQ_ret ht) gQ_none
theorem ft_293 {a1 : Int} (hJ : J p s) (hX : RX s) (h : Fau s) : gQ (f_293 0 a1 231 s) (fun r => Fau r.2.2.2) := by
  unfold f_293
  refine gQ_c1 (A := Fau) (fq hJ h (o_107 hJ.1.2.1 cid rfl (Fw_rf hJ.1.1))) (fun v_l t_l ht => ?_) (fun k_l t_l ht => ?_)
  · exact gQ_chk (gQ_ret (Fau_231 ht))
  · exact gQ_ite (gQ_ret ht) gQ_none
theorem ft_294 {a1 : Int} {a2 : Int} (hJ : J p s) (hX : RX s) (h : Fau s) : gQ (f_294 0 a1 a2 231 s) (fun r => Fau r.2.2.2) := by
  unfold f_294
  refine gQ_c1 (A := Fau) (fq hJ h (o_108 hJ.1.2.1 cid rfl (Fw_rf hJ.1.1))) (fun v_l t_l ht => ?_) (fun k_l t_l ht => ?_)
  · exact gQ_chk (gQ_ret (Fau_231 ht))
  · exact gQ_ite (gQ_ret ht) (gQ_ite (gQ_ret ht) gQ_none)
theorem ft_295 {a1 : Int} {a2 : Int} (hJ : J p s) (hX : RX s) (h : Fau s) : gQ (f_295 0 a1 a2 231 s) (fun r => Fau r.2.2.2) := by
  unfold f_295
  refine gQ_c1 (A := Fau) (fq hJ h (o_109 hJ.1.2.1 cid rfl (Fw_rf hJ.1.1))) (fun v_l t_l ht => ?_) (fun k_l t_l ht => ?_)
  · exact gQ_chk (gQ_ret (Fau_231 ht))
  · exact gQ_ite (gQ_ret ht) (gQ_ite (gQ_ret ht) gQ_none)
theorem ft_296 {a1 : Int} {a2 : Int} (hJ : J p s) (hX : RX s) (h : Fau s) : gQ (f_296 0 a1 a2 231 s) (fun r => Fau r.2.2.2) := by
  unfold f_296
  refine gQ_c1 (A := Fau) (fq hJ h (o_110 hJ.1.2.1 cid rfl (Fw_rf hJ.1.1))) (fun v_l t_l ht => ?_) (fun k_l t_l ht => ?_)
  · exact gQ_ite (gQ_chk (gQ_ret (Fau_231 ht))) (gQ_chk (gQ_ret (Fau_231 ht)))
  · exact gQ_ite (gQ_ret ht) gQ_none
theorem ft_297 {a1 : Int} (hJ : J p s) (hX : RX s) (h : Fau s) : gQ (f_297 0 a1 231 s) (fun r => Fau r.2.2.2) := by
  unfold f_297
  refine gQ_c1 (A := Fau) (fq hJ h (o_111 hJ.1.2.1 cid rfl (Fw_rf hJ.1.1))) (fun v_l t_l ht => ?_) (fun k_l t_l ht => ?_)
  · exact gQ_chk (gQ_ret (Fau_231 ht))
  · exact gQ_ite (gQ_ret ht) gQ_none
theorem ft_298 {a1 : Int} {a2 : Int} (hJ : J p s) (hX : RX s) (h : Fau s) : gQ (f_298 0 a1 a2 231 s) (fun r => Fau r.2.2.2) := by
  unfold f_298
  refine gQ_c1 (A := Fau) (fq hJ h (o_112 hJ.1.2.1 cid rfl (Fw_rf hJ.1.1))) (fun v_l t_l ht => ?_) (fun k_l t_l ht => ?_)
  · exact gQ_chk (gQ_ret (Fau_231 ht))
  · exact gQ_ite (gQ_ret ht) gQ_none
theorem ft_299 {a1 : Int} (hJ : J p s) (hX : RX s) (h : Fau s) : gQ (f_299 0 a1 231 s) (fun r => Fau r.2.2.2) := by
  unfold f_299
  refine gQ_c1 (A := Fau) (fq hJ h (o_113 hJ.1.2.1 cid rfl (Fw_rf hJ.1.1))) (fun v_l t_l ht => ?_) (fun k_l t_l ht => ?_)
  · exact gQ_chk (gQ_ret (Fau_231 ht))
  · exact gQ_ite (gQ_ret ht) gQ_none
theorem ft_300 {a1 : Int} (hJ : J p s) (hX : RX s) (h : Fau s) : gQ (f_300 0 a1 231 s) (fun r => Fau r.2.2.2) := by
  unfold f_300
  refine gQ_c1 (A := Fau) (fq hJ h (o_114 hJ.1.2.1 cid rfl (Fw_rf hJ.1.1))) (fun v_l t_l ht => ?_) (fun k_l t_l ht => ?_)
  · exact gQ_chk (gQ_ret (Fau_231 ht))
  · exact gQ_ite (gQ_ret ht) gQ_none
theorem ft_301 (hJ : J p s) (hX : RX s) (h : Fau s) : gQ (f_301 0 231 s) (fun r => Fau r.2.2.2) := by
  unfold f_301
  refine gQ_c1 (A := Fau) (fq hJ h (o_115 hJ.1.2.1 cid rfl (Fw_rf hJ.1.1))) (fun v_l t_l ht => ?_) (fun k_l t_l ht => ?_)
  · exact gQ_chk (gQ_ret (Fau_231 ht))
  · exact gQ_ite (gQ_ret ht) gQ_none
theorem ft_302 {a1 : Int} {a2 : Int} (hJ : J p s) (hX : RX s) (h : Fau s) : gQ (f_302 0 a1 a2 231 s) (fun r => Fau r.2.2.2) := by
  unfold f_302
  refine gQ_c1 (A := Fau) (fq hJ h (o_116 hJ.1.2.1 cid rfl (Fw_rf hJ.1.1))) (fun v_l t_l ht => ?_) (fun k_l t_l ht => ?_)
  · exact gQ_chk (gQ_ret (Fau_231 ht))
  · exact gQ_ite (gQ_ret ht) gQ_none
theorem ft_303 {a1 : Int} {a2 : Int} (hJ : J p s) (hX : RX s) (h : Fau s) : gQ (f_303 0 a1 a2 231 s) (fun r => Fau r.2.2.2) := by
  unfold f_303
  refine gQ_c1 (A := Fau) (fq hJ h (o_117 hJ.1.2.1 cid rfl (Fw_rf hJ.1.1))) (fun v_l t_l ht => ?_) (fun k_l t_l ht => ?_)
  · exact gQ_chk (gQ_ret (Fau_231 ht))
  · exact gQ_ite (gQ_ret ht) gQ_none
theorem ft_304 {a1 : Int} (hJ : J p s) (hX : RX s) (h : Fau s) : gQ (f_304 0 a1 231 s) (fun r => Fau r.2.2.2) := by
  unfold f_304
  refine gQ_c1 (A := Fau) (fq hJ h (o_119 hJ.1.2.1 cid rfl (Fw_rf hJ.1.1))) (fun v_l t_l ht => ?_) (fun k_l t_l ht => ?_)
  · exact gQ_chk (gQ_ret (Fau_231 ht))
  · exact gQ_ite (gQ_ret ht) gQ_none
theorem ft_305 {a1 : Int} (hJ : J p s) (hX : RX s) (h : Fau s) : gQ (f_305 0 a1 231 s) (fun r => Fau r.2.2.2) := by
  unfold f_305
  refine gQ_c1 (A := Fau) (fq hJ h (o_122 hJ.1.2.1 cid rfl (Fw_rf hJ.1.1))) (fun v_l t_l ht => ?_) (fun k_l t_l ht => ?_)
  · exact gQ_chk (gQ_ret (Fau_231 ht))
  · exact gQ_ite (gQ_ret ht) gQ_none
theorem ft_306 {a1 : Int} {a2 : Int} (hJ : J p s) (hX : RX s) (h : Fau s) : gQ (f_306 0 a1 a2 231 s) (fun r => Fau r.2.2.2) := by
  unfold f_306
  refine gQ_c1 (A := Fau) (fq hJ h (o_125 hJ.1.2.1 cid rfl (Fw_rf hJ.1.1))) (fun v_l t_l ht => ?_) (fun k_l t_l ht => ?_)
  · exact gQ_chk (gQ_ret (Fau_231 ht))
  · exact gQ_ite (gQ_ret ht) gQ_none
theorem ft_307 {a1 : Int} {a2 : Int} (hJ : J p s) (hX : RX s) (h : Fau s) : gQ (f_307 0 a1 a2 231 s) (fun r => Fau r.2.2.2) := by
  unfold f_307
  refine gQ_c1 (A := Fau) (fq hJ h (o_126 hJ.1.2.1 cid rfl (Fw_rf hJ.1.1))) (fun v_l t_l ht => ?_) (fun k_l t_l ht => ?_)
  · exact gQ_chk (gQ_ret (Fau_231 ht))
  · exact gQ_ite (gQ_ret ht) gQ_none
theorem ft_308 {a1 : Int} {a2 : Int} (hJ : J p s) (hX : RX s) (h : Fau s) : gQ (f_308 0 a1 a2 231 s) (fun r => Fau r.2.2.2) := by
  unfold f_308
  refine gQ_c1 (A := Fau) (fq hJ h (o_127 hJ.1.2.1 cid rfl (Fw_rf hJ.1.1))) (fun v_l t_l ht => ?_) (fun k_l t_l ht => ?_)
  · exact gQ_chk (gQ_ret (Fau_231 ht))
  · exact gQ_ite (gQ_ret ht) gQ_none
theorem ft_309 {a1 : Int} {a2 : Int} (hJ : J p s) (hX : RX s) (h : Fau s) : gQ (f_309 0 a1 a2 231 s) (fun r => Fau r.2.2.2) := by
  unfold f_309
  refine gQ_c1 (A := Fau) (fq hJ h (o_128 hJ.1.2.1 cid rfl (Fw_rf hJ.1.1))) (fun v_l t_l ht => ?_) (fun k_l t_l ht => ?_)
  · exact gQ_chk (gQ_ret (Fau_231 ht))
  · exact gQ_ite (gQ_ret ht) gQ_none
end Fs
