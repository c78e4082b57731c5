/-! each query keeps the full relation -/
section Rx2
variable {p : gP} {s : gS}
theorem uqX : ∀ a k, csq a k = true → WX a k = true := fun a k h_l => by
  unfold WX
  unfold csq at h_l
  rw [h_l]
  rfl
theorem umX : ∀ a k, mss a k = true → WX a k = true := fun a k h_l => by
  unfold WX
  rw [h_l]
  simp only [Bool.true_or, Bool.or_true]
theorem uAX : ∀ k, WX 220 k = true := fun k => rfl
theorem JFX (h : J p s) : Fw WX s s := Fw_rf h.1.1
theorem RqX {z : Option gO} (hJ : J p s) (h : Rx s) (hq : gQ z (fun r => Fw WX s r.2.2.2)) : gQ z (fun r => Rx r.2.2.2) := fun r hr => Rx_fw hJ h (hq r hr)
theorem rx_91 (hJ : J p s) (h : Rx s) : gQ (f_91 0 s) (fun r => Rx r.2.2.2) := RqX hJ h (o_91 hJ.1.2.1 uqX rfl (JFX hJ))
theorem rx_118 {a1 : Int} (hJ : J p s) (h : Rx s) : gQ (f_118 0 a1 s) (fun r => Rx r.2.2.2) := RqX hJ h (o_118 hJ.1.2.1 uqX rfl (JFX hJ))
theorem rx_120 (hJ : J p s) (h : Rx s) : gQ (f_120 0 s) (fun r => Rx r.2.2.2) := RqX hJ h (o_120 hJ.1.2.1 uqX rfl (JFX hJ))
theorem rx_121 (hJ : J p s) (h : Rx s) : gQ (f_121 0 s) (fun r => Rx r.2.2.2) := RqX hJ h (o_121 hJ.1.2.1 uqX rfl (JFX hJ))
theorem rx_123 (hJ : J p s) (h : Rx s) : gQ (f_123 0 s) (fun r => Rx r.2.2.2) := RqX hJ h (o_123 hJ.1.2.1 uqX rfl (JFX hJ))
theorem rx_124 {a1 : Int} (hJ : J p s) (h : Rx s) : gQ (f_124 0 a1 s) (fun r => Rx r.2.2.2) := RqX hJ h (o_124 hJ.1.2.1 uqX rfl (JFX hJ))
theorem rx_133 {a1 : Int} (hJ : J p s) (h : Rx s) : gQ (f_133 0 a1 s) (fun r => Rx r.2.2.2) := RqX hJ h (o_133 hJ.1.2.1 uqX rfl (JFX hJ))
theorem rx_196 (hJ : J p s) (h : Rx s) : gQ (f_196 217 s) (fun r => Rx r.2.2.2) := RqX hJ h (om_196 hJ.1.2.1 umX rfl (JFX hJ))
theorem rx_203 {a1 : Int} {a2 : Int} (hJ : J p s) (h : Rx s) : gQ (f_203 217 a1 a2 s) (fun r => Rx r.2.2.2) := RqX hJ h (om_203 hJ.1.2.1 umX rfl (JFX hJ))
theorem rx_206 {a1 : Int} {a2 : Int} (hJ : J p s) (h : Rx s) : gQ (f_206 217 a1 a2 s) (fun r => Rx r.2.2.2) := RqX hJ h (om_206 hJ.1.2.1 umX rfl (JFX hJ))
theorem rx_207 {a1 : Int} {a2 : Int} (hJ : J p s) (h : Rx s) : gQ (f_207 217 a1 a2 s) (fun r => Rx r.2.2.2) := RqX hJ h (om_207 hJ.1.2.1 umX rfl (JFX hJ))
theorem rx_208 {a1 : Int} {a2 : Int} (hJ : J p s) (h : Rx s) : gQ (f_208 217 a1 a2 s) (fun r => Rx r.2.2.2) := RqX hJ h (om_208 hJ.1.2.1 umX rfl (JFX hJ))
theorem rx_219 {a1 : Int} {a2 : Int} {a3 : Int} (hJ : J p s) (h : Rx s) : gQ (f_219 217 a1 a2 a3 s) (fun r => Rx r.2.2.2) := RqX hJ h (om_219 hJ.1.2.1 umX uAX (Jm hJ) rfl rfl (JFX hJ))
theorem rx_220 {a1 : Int} (hJ : J p s) (h : Rx s) : gQ (f_220 217 a1 s) (fun r => Rx r.2.2.2) := RqX hJ h (om_220 hJ.1.2.1 umX uAX (Jm hJ) rfl rfl (JFX hJ))
theorem rx_221 {a1 : Int} (hJ : J p s) (h : Rx s) : gQ (f_221 217 a1 s) (fun r => Rx r.2.2.2) := RqX hJ h (om_221 hJ.1.2.1 umX uAX (Jm hJ) rfl rfl (JFX hJ))
theorem rx_223 {a1 : Int} (hJ : J p s) (h : Rx s) : gQ (f_223 217 a1 s) (fun r => Rx r.2.2.2) := RqX hJ h (om_223 hJ.1.2.1 umX uAX (Jm hJ) rfl rfl (JFX hJ))
theorem rx_224 {a1 : Int} (hJ : J p s) (h : Rx s) : gQ (f_224 217 a1 s) (fun r => Rx r.2.2.2) := RqX hJ h (om_224 hJ.1.2.1 umX uAX (Jm hJ) rfl rfl (JFX hJ))
theorem rx_229 {a1 : Int} {a2 : Int} (hJ : J p s) (h : Rx s) : gQ (f_229 217 a1 a2 s) (fun r => Rx r.2.2.2) := RqX hJ h (om_229 hJ.1.2.1 umX uAX (Jm hJ) rfl rfl (JFX hJ))
theorem rx_230 {a1 : Int} {a2 : Int} (hJ : J p s) (h : Rx s) : gQ (f_230 217 a1 a2 s) (fun r => Rx r.2.2.2) := RqX hJ h (om_230 hJ.1.2.1 umX uAX (Jm hJ) rfl rfl (JFX hJ))
theorem rx_233 {a1 : Int} {a2 : Int} (hJ : J p s) (h : Rx s) : gQ (f_233 217 a1 a2 s) (fun r => Rx r.2.2.2) := RqX hJ h (om_233 hJ.1.2.1 umX rfl (JFX hJ))
theorem rx_235 {a1 : Int} (hJ : J p s) (h : Rx s) : gQ (f_235 217 a1 s) (fun r => Rx r.2.2.2) := RqX hJ h (om_235 hJ.1.2.1 umX rfl (JFX hJ))
theorem rx_236 {a1 : Int} {a2 : Int} (hJ : J p s) (h : Rx s) : gQ (f_236 217 a1 a2 s) (fun r => Rx r.2.2.2) := RqX hJ h (om_236 hJ.1.2.1 umX rfl (JFX hJ))
theorem rx_237 {a1 : Int} (hJ : J p s) (h : Rx s) : gQ (f_237 217 a1 s) (fun r => Rx r.2.2.2) := RqX hJ h (om_237 hJ.1.2.1 umX rfl (JFX hJ))
theorem rx_239 {a1 : Int} (hJ : J p s) (h : Rx s) : gQ (f_239 217 a1 s) (fun r => Rx r.2.2.2) := RqX hJ h (om_239 hJ.1.2.1 umX rfl (JFX hJ))
theorem rx_240 (hJ : J p s) (h : Rx s) : gQ (f_240 217 s) (fun r => Rx r.2.2.2) := RqX hJ h (om_240 hJ.1.2.1 umX rfl (JFX hJ))
theorem rx_243 {a1 : Int} {a2 : Int} (hJ : J p s) (h : Rx s) : gQ (f_243 217 a1 a2 s) (fun r => Rx r.2.2.2) := RqX hJ h (om_243 hJ.1.2.1 umX rfl (JFX hJ))
theorem rx_244 {a1 : Int} {a2 : Int} (hJ : J p s) (h : Rx s) : gQ (f_244 217 a1 a2 s) (fun r => Rx r.2.2.2) := RqX hJ h (om_244 hJ.1.2.1 umX rfl (JFX hJ))
theorem rx_245 {a1 : Int} (hJ : J p s) (h : Rx s) : gQ (f_245 217 a1 s) (fun r => Rx r.2.2.2) := RqX hJ h (om_245 hJ.1.2.1 umX rfl (JFX hJ))
theorem rx_247 {a1 : Int} (hJ : J p s) (h : Rx s) : gQ (f_247 217 a1 s) (fun r => Rx r.2.2.2) := RqX hJ h (om_247 hJ.1.2.1 umX rfl (JFX hJ))
theorem rx_248 (hJ : J p s) (h : Rx s) : gQ (f_248 217 s) (fun r => Rx r.2.2.2) := RqX hJ h (om_248 hJ.1.2.1 umX rfl (JFX hJ))
theorem rx_249 (hJ : J p s) (h : Rx s) : gQ (f_249 217 s) (fun r => Rx r.2.2.2) := RqX hJ h (om_249 hJ.1.2.1 umX rfl (JFX hJ))
theorem rx_250 {a1 : Int} (hJ : J p s) (h : Rx s) : gQ (f_250 217 a1 s) (fun r => Rx r.2.2.2) := RqX hJ h (om_250 hJ.1.2.1 umX rfl (JFX hJ))
theorem rx_251 (hJ : J p s) (h : Rx s) : gQ (f_251 217 s) (fun r => Rx r.2.2.2) := RqX hJ h (om_251 hJ.1.2.1 umX rfl (JFX hJ))
theorem rx_253 {a1 : Int} (hJ : J p s) (h : Rx s) : gQ (f_253 217 a1 s) (fun r => Rx r.2.2.2) := RqX hJ h (om_253 hJ.1.2.1 umX rfl (JFX hJ))
theorem rx_254 {a1 : Int} {a2 : Int} (hJ : J p s) (h : Rx s) : gQ (f_254 217 a1 a2 s) (fun r => Rx r.2.2.2) := RqX hJ h (om_254 hJ.1.2.1 umX uAX (Jm hJ) rfl rfl (JFX hJ))
theorem rx_255 {a1 : Int} {a2 : Int} (hJ : J p s) (h : Rx s) : gQ (f_255 217 a1 a2 s) (fun r => Rx r.2.2.2) := RqX hJ h (om_255 hJ.1.2.1 umX uAX (Jm hJ) rfl rfl (JFX hJ))
theorem rx_257 {a1 : Int} {a2 : Int} (hJ : J p s) (h : Rx s) : gQ (f_257 217 a1 a2 s) (fun r => Rx r.2.2.2) := RqX hJ h (om_257 hJ.1.2.1 umX rfl (JFX hJ))
theorem rx_258 {a1 : Int} {a2 : Int} (hJ : J p s) (h : Rx s) : gQ (f_258 217 a1 a2 s) (fun r => Rx r.2.2.2) := RqX hJ h (om_258 hJ.1.2.1 umX rfl (JFX hJ))
theorem rx_263 {a1 : Int} (hJ : J p s) (h : Rx s) : gQ (f_263 217 a1 s) (fun r => Rx r.2.2.2) := RqX hJ h (om_263 hJ.1.2.1 umX rfl (JFX hJ))
theorem rx_278 {a1 : Int} {a2 : Int} (hJ : J p s) (h : Rx s) : gQ (f_278 0 a1 a2 231 s) (fun r => Rx r.2.2.2) := by
  unfold f_278
  refine RqX hJ h (gQ_c1 (A := Fw WX s) (o_92 hJ.1.2.1 uqX rfl (JFX hJ)) (fun v_l t_l ht => ?_) (fun k_l t_l ht => ?_))
  · exact gQ_chk (gQ_ret (Fw_w ht rfl rfl))
  · exact gQ_ite (gQ_ret ht) (gQ_ite (gQ_ret ht) gQ_none)
theorem rx_279 {a1 : Int} {a2 : Int} (hJ : J p s) (h : Rx s) : gQ (f_279 0 a1 a2 231 s) (fun r => Rx r.2.2.2) := by
  unfold f_279
  refine RqX hJ h (gQ_c1 (A := Fw WX s) (o_93 hJ.1.2.1 uqX rfl (JFX hJ)) (fun v_l t_l ht => ?_) (fun k_l t_l ht => ?_))
  · exact gQ_chk (gQ_ret (Fw_w ht rfl rfl))
  · exact gQ_ite (gQ_ret ht) (gQ_ite (gQ_ret ht) gQ_none)
theorem rx_280 {a1 : Int} {a2 : Int} (hJ : J p s) (h : Rx s) : gQ (f_280 0 a1 a2 231 s) (fun r => Rx r.2.2.2) := by
  unfold f_280
  refine RqX hJ h (gQ_c1 (A := Fw WX s) (o_94 hJ.1.2.1 uqX rfl (JFX hJ)) (fun v_l t_l ht => ?_) (fun k_l t_l ht => ?_))
  · exact gQ_chk (gQ_ret (Fw_w ht rfl rfl))
  · exact gQ_ite (gQ_ret ht) gQ_none
theorem rx_281 {a1 : Int} {a2 : Int} (hJ : J p s) (h : Rx s) : gQ (f_281 0 a1 a2 231 s) (fun r => Rx r.2.2.2) := by
  unfold f_281
  refine RqX hJ h (gQ_c1 (A := Fw WX s) (o_95 hJ.1.2.1 uqX rfl (JFX hJ)) (fun v_l t_l ht => ?_) (fun k_l t_l ht => ?_))
  · exact gQ_chk (gQ_ret (Fw_w ht rfl rfl))
  · exact gQ_ite (gQ_ret ht) gQ_none
theorem rx_289 {a1 : Int} {a2 : Int} {a3 : Int} (hJ : J p s) (h : Rx s) : gQ (f_289 0 a1 a2 a3 231 s) (fun r => Rx r.2.2.2) := by
  unfold f_289
  refine RqX hJ h (gQ_c1 (A := Fw WX s) (o_103 hJ.1.2.1 uqX rfl (JFX hJ)) (fun v_l t_l ht => ?_) (fun k_l t_l ht => ?_))
  · exact gQ_chk (gQ_ret (Fw_w ht rfl rfl))
  · exact gQ_ite (gQ_ret ht) (gQ_ite (gQ_ret ht) (gQ_ite (gQ_ret ht) gQ_none))
theorem rx_290 {a1 : Int} (hJ : J p s) (h : Rx s) : gQ (f_290 0 a1 231 s) (fun r => Rx r.2.2.2) := by
  unfold f_290
  refine RqX hJ h (gQ_c1 (A := Fw WX s) (o_104 hJ.1.2.1 uqX rfl (JFX hJ)) (fun v_l t_l ht => ?_) (fun k_l t_l ht => ?_))
  · exact gQ_chk (gQ_ret (Fw_w ht rfl rfl))
  · exact gQ_ite (gQ_ret ht) gQ_none
theorem rx_291 {a1 : Int} (hJ : J p s) (h : Rx s) : gQ (f_291 0 a1 231 s) (fun r => Rx r.2.2.2) := by
  unfold f_291
  refine RqX hJ h (gQ_c1 (A := Fw WX s) (o_105 hJ.1.2.1 uqX rfl (JFX hJ)) (fun v_l t_l ht => ?_) (fun k_l t_l ht => ?_))
  · exact gQ_chk (gQ_ret (Fw_w ht rfl rfl))
  · exact gQ_ite (gQ_ret ht) gQ_none
theorem rx_292 {a1 : Int} (hJ : J p s) (h : Rx s) : gQ (f_292 0 a1 231 s) (fun r => Rx r.2.2.2) := by
  unfold f_292
  refine RqX hJ h (gQ_c1 (A := Fw WX s) (o_106 hJ.1.2.1 uqX rfl (JFX hJ)) (fun v_l t_l ht => ?_) (fun k_l t_l ht => ?_))
  · exact gQ_chk (gQ_ret (Fw_w ht rfl rfl))
  · exact gQ_ite (gQ_ret ht) gQ_none
theorem rx_293 {a1 : Int} (hJ : J p s) (h : Rx s) : gQ (f_293 0 a1 231 s) (fun r => Rx r.2.2.2) := by
  unfold f_293
  refine RqX hJ h (gQ_c1 (A := Fw WX s) (o_107 hJ.1.2.1 uqX rfl (JFX hJ)) (fun v_l t_l ht => ?_) (fun k_l t_l ht => ?_))
  · exact gQ_chk (gQ_ret (Fw_w ht rfl rfl))
  · exact gQ_ite (gQ_ret ht) gQ_none
theorem rx_294 {a1 : Int} {a2 : Int} (hJ : J p s) (h : Rx s) : gQ (f_294 0 a1 a2 231 s) (fun r => Rx r.2.2.2) := by
  unfold f_294
  refine RqX hJ h (gQ_c1 (A := Fw WX s) (o_108 hJ.1.2.1 uqX rfl (JFX hJ)) (fun v_l t_l ht => ?_) (fun k_l t_l ht => ?_))
  · exact gQ_chk (gQ_ret (Fw_w ht rfl rfl))
  · exact gQ_ite (gQ_ret ht) (gQ_ite (gQ_ret ht) gQ_none)
theorem rx_295 {a1 : Int} {a2 : Int} (hJ : J p s) (h : Rx s) : gQ (f_295 0 a1 a2 231 s) (fun r => Rx r.2.2.2) := by
  unfold f_295
  refine RqX hJ h (gQ_c1 (A := Fw WX s) (o_109 hJ.1.2.1 uqX rfl (JFX hJ)) (fun v_l t_l ht => ?_) (fun k_l t_l ht => ?_))
  · exact gQ_chk (gQ_ret (Fw_w ht rfl rfl))
  · exact gQ_ite (gQ_ret ht) (gQ_ite (gQ_ret ht) gQ_none)
theorem rx_296 {a1 : Int} {a2 : Int} (hJ : J p s) (h : Rx s) : gQ (f_296 0 a1 a2 231 s) (fun r => Rx r.2.2.2) := by
  unfold f_296
  refine RqX hJ h (gQ_c1 (A := Fw WX s) (o_110 hJ.1.2.1 uqX rfl (JFX hJ)) (fun v_l t_l ht => ?_) (fun k_l t_l ht => ?_))
  · exact gQ_ite (gQ_chk (gQ_ret (Fw_w ht rfl rfl))) (gQ_chk (gQ_ret (Fw_w ht rfl rfl)))
  · exact gQ_ite (gQ_ret ht) gQ_none
theorem rx_297 {a1 : Int} (hJ : J p s) (h : Rx s) : gQ (f_297 0 a1 231 s) (fun r => Rx r.2.2.2) := by
  unfold f_297
  refine RqX hJ h (gQ_c1 (A := Fw WX s) (o_111 hJ.1.2.1 uqX rfl (JFX hJ)) (fun v_l t_l ht => ?_) (fun k_l t_l ht => ?_))
  · exact gQ_chk (gQ_ret (Fw_w ht rfl rfl))
  · exact gQ_ite (gQ_ret ht) gQ_none
theorem rx_298 {a1 : Int} {a2 : Int} (hJ : J p s) (h : Rx s) : gQ (f_298 0 a1 a2 231 s) (fun r => Rx r.2.2.2) := by
  unfold f_298
  refine RqX hJ h (gQ_c1 (A := Fw WX s) (o_112 hJ.1.2.1 uqX rfl (JFX hJ)) (fun v_l t_l ht => ?_) (fun k_l t_l ht => ?_))
  · exact gQ_chk (gQ_ret (Fw_w ht rfl rfl))
  · exact gQ_ite (gQ_ret ht) gQ_none
theorem rx_299 {a1 : Int} (hJ : J p s) (h : Rx s) : gQ (f_299 0 a1 231 s) (fun r => Rx r.2.2.2) := by
  unfold f_299
  refine RqX hJ h (gQ_c1 (A := Fw WX s) (o_113 hJ.1.2.1 uqX rfl (JFX hJ)) (fun v_l t_l ht => ?_) (fun k_l t_l ht => ?_))
  · exact gQ_chk (gQ_ret (Fw_w ht rfl rfl))
  · exact gQ_ite (gQ_ret ht) gQ_none
theorem rx_300 {a1 : Int} (hJ : J p s) (h : Rx s) : gQ (f_300 0 a1 231 s) (fun r => Rx r.2.2.2) := by
  unfold f_300
  refine RqX hJ h (gQ_c1 (A := Fw WX s) (o_114 hJ.1.2.1 uqX rfl (JFX hJ)) (fun v_l t_l ht => ?_) (fun k_l t_l ht => ?_))
  · exact gQ_chk (gQ_ret (Fw_w ht rfl rfl))
  · exact gQ_ite (gQ_ret ht) gQ_none
theorem rx_301 (hJ : J p s) (h : Rx s) : gQ (f_301 0 231 s) (fun r => Rx r.2.2.2) := by
  unfold f_301
  refine RqX hJ h (gQ_c1 (A := Fw WX s) (o_115 hJ.1.2.1 uqX rfl (JFX hJ)) (fun v_l t_l ht => ?_) (fun k_l t_l ht => ?_))
  · exact gQ_chk (gQ_ret (Fw_w ht rfl rfl))
  · exact gQ_ite (gQ_ret ht) gQ_none
theorem rx_302 {a1 : Int} {a2 : Int} (hJ : J p s) (h : Rx s) : gQ (f_302 0 a1 a2 231 s) (fun r => Rx r.2.2.2) := by
  unfold f_302
  refine RqX hJ h (gQ_c1 (A := Fw WX s) (o_116 hJ.1.2.1 uqX rfl (JFX hJ)) (fun v_l t_l ht => ?_) (fun k_l t_l ht => ?_))
  · exact gQ_chk (gQ_ret (Fw_w ht rfl rfl))
  · exact gQ_ite (gQ_ret ht) gQ_none
theorem rx_303 {a1 : Int} {a2 : Int} (hJ : J p s) (h : Rx s) : gQ (f_303 0 a1 a2 231 s) (fun r => Rx r.2.2.2) := by
  unfold f_303
  refine RqX hJ h (gQ_c1 (A := Fw WX s) (o_117 hJ.1.2.1 uqX rfl (JFX hJ)) (fun v_l t_l ht => ?_) (fun k_l t_l ht => ?_))
  · exact gQ_chk (gQ_ret (Fw_w ht rfl rfl))
  · exact gQ_ite (gQ_ret ht) gQ_none
theorem rx_304 {a1 : Int} (hJ : J p s) (h : Rx s) : gQ (f_304 0 a1 231 s) (fun r => Rx r.2.2.2) := by
  unfold f_304
  refine RqX hJ h (gQ_c1 (A := Fw WX s) (o_119 hJ.1.2.1 uqX rfl (JFX hJ)) (fun v_l t_l ht => ?_) (fun k_l t_l ht => ?_))
  · exact gQ_chk (gQ_ret (Fw_w ht rfl rfl))
  · exact gQ_ite (gQ_ret ht) gQ_none
theorem rx_305 {a1 : Int} (hJ : J p s) (h : Rx s) : gQ (f_305 0 a1 231 s) (fun r => Rx r.2.2.2) := by
  unfold f_305
  refine RqX hJ h (gQ_c1 (A := Fw WX s) (o_122 hJ.1.2.1 uqX rfl (JFX hJ)) (fun v_l t_l ht => ?_) (fun k_l t_l ht => ?_))
  · exact gQ_chk (gQ_ret (Fw_w ht rfl rfl))
  · exact gQ_ite (gQ_ret ht) gQ_none
theorem rx_306 {a1 : Int} {a2 : Int} (hJ : J p s) (h : Rx s) : gQ (f_306 0 a1 a2 231 s) (fun r => Rx r.2.2.2) := by
  unfold f_306
  refine RqX hJ h (gQ_c1 (A := Fw WX s) (o_125 hJ.1.2.1 uqX rfl (JFX hJ)) (fun v_l t_l ht => ?_) (fun k_l t_l ht => ?_))
  · exact gQ_chk (gQ_ret (Fw_w ht rfl rfl))
  · exact gQ_ite (gQ_ret ht) gQ_none
theorem rx_307 {a1 : Int} {a2 : Int} (hJ : J p s) (h : Rx s) : gQ (f_307 0 a1 a2 231 s) (fun r => Rx r.2.2.2) := by
  unfold f_307
  refine RqX hJ h (gQ_c1 (A := Fw WX s) (o_126 hJ.1.2.1 uqX rfl (JFX hJ)) (fun v_l t_l ht => ?_) (fun k_l t_l ht => ?_))
  · exact gQ_chk (gQ_ret (Fw_w ht rfl rfl))
  · exact gQ_ite (gQ_ret ht) gQ_none
theorem rx_308 {a1 : Int} {a2 : Int} (hJ : J p s) (h : Rx s) : gQ (f_308 0 a1 a2 231 s) (fun r => Rx r.2.2.2) := by
  unfold f_308
  refine RqX hJ h (gQ_c1 (A := Fw WX s) (o_127 hJ.1.2.1 uqX rfl (JFX hJ)) (fun v_l t_l ht => ?_) (fun k_l t_l ht => ?_))
  · exact gQ_chk (gQ_ret (Fw_w ht rfl rfl))
  · exact gQ_ite (gQ_ret ht) gQ_none
theorem rx_309 {a1 : Int} {a2 : Int} (hJ : J p s) (h : Rx s) : gQ (f_309 0 a1 a2 231 s) (fun r => Rx r.2.2.2) := by
  unfold f_309
  refine RqX hJ h (gQ_c1 (A := Fw WX s) (o_128 hJ.1.2.1 uqX rfl (JFX hJ)) (fun v_l t_l ht => ?_) (fun k_l t_l ht => ?_))
  · exact gQ_chk (gQ_ret (Fw_w ht rfl rfl))
  · exact gQ_ite (gQ_ret ht) gQ_none
end Rx2
