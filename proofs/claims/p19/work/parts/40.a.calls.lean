/-! each call keeps the texts alike -/
section Rs
variable {p : gP} {s : gS}
theorem rs_88 {a1 : Int} (hJ : J p s) (h : Rt s) : gQ (f_88 0 a1 s) (fun r => Rt r.2.2.2) := rt_88 hJ h
theorem rs_91 (hJ : J p s) (h : Rt s) : gQ (f_91 0 s) (fun r => Rt r.2.2.2) := Rq h (o_91 hJ.1.2.1 uq rfl (JF hJ))
theorem rs_118 {a1 : Int} (hJ : J p s) (h : Rt s) : gQ (f_118 0 a1 s) (fun r => Rt r.2.2.2) := Rq h (o_118 hJ.1.2.1 uq rfl (JF hJ))
theorem rs_120 (hJ : J p s) (h : Rt s) : gQ (f_120 0 s) (fun r => Rt r.2.2.2) := Rq h (o_120 hJ.1.2.1 uq rfl (JF hJ))
theorem rs_121 (hJ : J p s) (h : Rt s) : gQ (f_121 0 s) (fun r => Rt r.2.2.2) := Rq h (o_121 hJ.1.2.1 uq rfl (JF hJ))
theorem rs_123 (hJ : J p s) (h : Rt s) : gQ (f_123 0 s) (fun r => Rt r.2.2.2) := Rq h (o_123 hJ.1.2.1 uq rfl (JF hJ))
theorem rs_124 {a1 : Int} (hJ : J p s) (h : Rt s) : gQ (f_124 0 a1 s) (fun r => Rt r.2.2.2) := Rq h (o_124 hJ.1.2.1 uq rfl (JF hJ))
theorem rs_129 {a1 : Int} (hJ : J p s) (h : Rt s) : gQ (f_129 0 a1 s) (fun r => Rt r.2.2.2) := rt_129 hJ.1.2.1 hJ.1.1 rfl h
theorem rs_130 (hJ : J p s) (h : Rt s) : gQ (f_130 0 s) (fun r => Rt r.2.2.2) := rt_130 hJ.1.2.1 hJ.1.1 rfl h
theorem rs_133 {a1 : Int} (hJ : J p s) (h : Rt s) : gQ (f_133 0 a1 s) (fun r => Rt r.2.2.2) := Rq h (o_133 hJ.1.2.1 uq rfl (JF hJ))
theorem rs_167 {a1 : Int} (hJ : J p s) (h : Rt s) : gQ (f_167 217 a1 s) (fun r => Rt r.2.2.2) := rt_167 hJ h
theorem rs_195 (hJ : J p s) (h : Rt s) : gQ (f_195 217 s) (fun r => Rt r.2.2.2) := rt_195 hJ.1.2.1 hJ.1.1 rfl h
theorem rs_196 (hJ : J p s) (h : Rt s) : gQ (f_196 217 s) (fun r => Rt r.2.2.2) := Rq h (om_196 hJ.1.2.1 um rfl (JF hJ))
theorem rs_203 {a1 : Int} {a2 : Int} (hJ : J p s) (h : Rt s) : gQ (f_203 217 a1 a2 s) (fun r => Rt r.2.2.2) := Rq h (om_203 hJ.1.2.1 um rfl (JF hJ))
theorem rs_206 {a1 : Int} {a2 : Int} (hJ : J p s) (h : Rt s) : gQ (f_206 217 a1 a2 s) (fun r => Rt r.2.2.2) := Rq h (om_206 hJ.1.2.1 um rfl (JF hJ))
theorem rs_207 {a1 : Int} {a2 : Int} (hJ : J p s) (h : Rt s) : gQ (f_207 217 a1 a2 s) (fun r => Rt r.2.2.2) := Rq h (om_207 hJ.1.2.1 um rfl (JF hJ))
theorem rs_208 {a1 : Int} {a2 : Int} (hJ : J p s) (h : Rt s) : gQ (f_208 217 a1 a2 s) (fun r => Rt r.2.2.2) := Rq h (om_208 hJ.1.2.1 um rfl (JF hJ))
theorem rs_211 {a1 : Int} (hJ : J p s) (h : Rt s) : gQ (f_211 217 a1 s) (fun r => Rt r.2.2.2) := rt_211 hJ rfl h
theorem rs_213 {a1 : Int} {a2 : Int} (hJ : J p s) (h : Rt s) : gQ (f_213 217 a1 a2 s) (fun r => Rt r.2.2.2) := rt_213 hJ rfl h
theorem rs_214 {a1 : Int} (hJ : J p s) (h : Rt s) : gQ (f_214 217 a1 s) (fun r => Rt r.2.2.2) := rt_214 hJ rfl h
theorem rs_215 {a1 : Int} {a2 : Int} {a3 : Int} (hJ : J p s) (h : Rt s) : gQ (f_215 217 a1 a2 a3 s) (fun r => Rt r.2.2.2) := rt_215 hJ rfl h
theorem rs_216 {a1 : Int} {a2 : Int} (hJ : J p s) (h : Rt s) : gQ (f_216 217 a1 a2 s) (fun r => Rt r.2.2.2) := rt_216 hJ rfl h
theorem rs_217 {a1 : Int} (hJ : J p s) (h : Rt s) : gQ (f_217 217 a1 s) (fun r => Rt r.2.2.2) := rt_217 hJ rfl h
theorem rs_218 {a1 : Int} (hJ : J p s) (h : Rt s) : gQ (f_218 217 a1 s) (fun r => Rt r.2.2.2) := rt_218 hJ rfl h
theorem rs_219 {a1 : Int} {a2 : Int} {a3 : Int} (hJ : J p s) (h : Rt s) : gQ (f_219 217 a1 a2 a3 s) (fun r => Rt r.2.2.2) := Rq h (om_219 hJ.1.2.1 um uA (Jm hJ) rfl rfl (JF hJ))
theorem rs_220 {a1 : Int} (hJ : J p s) (h : Rt s) : gQ (f_220 217 a1 s) (fun r => Rt r.2.2.2) := Rq h (om_220 hJ.1.2.1 um uA (Jm hJ) rfl rfl (JF hJ))
theorem rs_221 {a1 : Int} (hJ : J p s) (h : Rt s) : gQ (f_221 217 a1 s) (fun r => Rt r.2.2.2) := Rq h (om_221 hJ.1.2.1 um uA (Jm hJ) rfl rfl (JF hJ))
theorem rs_223 {a1 : Int} (hJ : J p s) (h : Rt s) : gQ (f_223 217 a1 s) (fun r => Rt r.2.2.2) := Rq h (om_223 hJ.1.2.1 um uA (Jm hJ) rfl rfl (JF hJ))
theorem rs_224 {a1 : Int} (hJ : J p s) (h : Rt s) : gQ (f_224 217 a1 s) (fun r => Rt r.2.2.2) := Rq h (om_224 hJ.1.2.1 um uA (Jm hJ) rfl rfl (JF hJ))
theorem rs_229 {a1 : Int} {a2 : Int} (hJ : J p s) (h : Rt s) : gQ (f_229 217 a1 a2 s) (fun r => Rt r.2.2.2) := Rq h (om_229 hJ.1.2.1 um uA (Jm hJ) rfl rfl (JF hJ))
theorem rs_230 {a1 : Int} {a2 : Int} (hJ : J p s) (h : Rt s) : gQ (f_230 217 a1 a2 s) (fun r => Rt r.2.2.2) := Rq h (om_230 hJ.1.2.1 um uA (Jm hJ) rfl rfl (JF hJ))
theorem rs_233 {a1 : Int} {a2 : Int} (hJ : J p s) (h : Rt s) : gQ (f_233 217 a1 a2 s) (fun r => Rt r.2.2.2) := Rq h (om_233 hJ.1.2.1 um rfl (JF hJ))
theorem rs_235 {a1 : Int} (hJ : J p s) (h : Rt s) : gQ (f_235 217 a1 s) (fun r => Rt r.2.2.2) := Rq h (om_235 hJ.1.2.1 um rfl (JF hJ))
theorem rs_236 {a1 : Int} {a2 : Int} (hJ : J p s) (h : Rt s) : gQ (f_236 217 a1 a2 s) (fun r => Rt r.2.2.2) := Rq h (om_236 hJ.1.2.1 um rfl (JF hJ))
theorem rs_237 {a1 : Int} (hJ : J p s) (h : Rt s) : gQ (f_237 217 a1 s) (fun r => Rt r.2.2.2) := Rq h (om_237 hJ.1.2.1 um rfl (JF hJ))
theorem rs_239 {a1 : Int} (hJ : J p s) (h : Rt s) : gQ (f_239 217 a1 s) (fun r => Rt r.2.2.2) := Rq h (om_239 hJ.1.2.1 um rfl (JF hJ))
theorem rs_240 (hJ : J p s) (h : Rt s) : gQ (f_240 217 s) (fun r => Rt r.2.2.2) := Rq h (om_240 hJ.1.2.1 um rfl (JF hJ))
theorem rs_243 {a1 : Int} {a2 : Int} (hJ : J p s) (h : Rt s) : gQ (f_243 217 a1 a2 s) (fun r => Rt r.2.2.2) := Rq h (om_243 hJ.1.2.1 um rfl (JF hJ))
theorem rs_244 {a1 : Int} {a2 : Int} (hJ : J p s) (h : Rt s) : gQ (f_244 217 a1 a2 s) (fun r => Rt r.2.2.2) := Rq h (om_244 hJ.1.2.1 um rfl (JF hJ))
theorem rs_245 {a1 : Int} (hJ : J p s) (h : Rt s) : gQ (f_245 217 a1 s) (fun r => Rt r.2.2.2) := Rq h (om_245 hJ.1.2.1 um rfl (JF hJ))
theorem rs_247 {a1 : Int} (hJ : J p s) (h : Rt s) : gQ (f_247 217 a1 s) (fun r => Rt r.2.2.2) := Rq h (om_247 hJ.1.2.1 um rfl (JF hJ))
theorem rs_248 (hJ : J p s) (h : Rt s) : gQ (f_248 217 s) (fun r => Rt r.2.2.2) := Rq h (om_248 hJ.1.2.1 um rfl (JF hJ))
theorem rs_249 (hJ : J p s) (h : Rt s) : gQ (f_249 217 s) (fun r => Rt r.2.2.2) := Rq h (om_249 hJ.1.2.1 um rfl (JF hJ))
theorem rs_250 {a1 : Int} (hJ : J p s) (h : Rt s) : gQ (f_250 217 a1 s) (fun r => Rt r.2.2.2) := Rq h (om_250 hJ.1.2.1 um rfl (JF hJ))
theorem rs_251 (hJ : J p s) (h : Rt s) : gQ (f_251 217 s) (fun r => Rt r.2.2.2) := Rq h (om_251 hJ.1.2.1 um rfl (JF hJ))
theorem rs_253 {a1 : Int} (hJ : J p s) (h : Rt s) : gQ (f_253 217 a1 s) (fun r => Rt r.2.2.2) := Rq h (om_253 hJ.1.2.1 um rfl (JF hJ))
theorem rs_254 {a1 : Int} {a2 : Int} (hJ : J p s) (h : Rt s) : gQ (f_254 217 a1 a2 s) (fun r => Rt r.2.2.2) := Rq h (om_254 hJ.1.2.1 um uA (Jm hJ) rfl rfl (JF hJ))
theorem rs_255 {a1 : Int} {a2 : Int} (hJ : J p s) (h : Rt s) : gQ (f_255 217 a1 a2 s) (fun r => Rt r.2.2.2) := Rq h (om_255 hJ.1.2.1 um uA (Jm hJ) rfl rfl (JF hJ))
theorem rs_257 {a1 : Int} {a2 : Int} (hJ : J p s) (h : Rt s) : gQ (f_257 217 a1 a2 s) (fun r => Rt r.2.2.2) := Rq h (om_257 hJ.1.2.1 um rfl (JF hJ))
theorem rs_258 {a1 : Int} {a2 : Int} (hJ : J p s) (h : Rt s) : gQ (f_258 217 a1 a2 s) (fun r => Rt r.2.2.2) := Rq h (om_258 hJ.1.2.1 um rfl (JF hJ))
theorem rs_259 {a1 : Int} (hJ : J p s) (h : Rt s) : gQ (f_259 217 a1 s) (fun r => Rt r.2.2.2) := rt_259 hJ.1.2.1 hJ.1.1 rfl h
theorem rs_260 (hJ : J p s) (h : Rt s) : gQ (f_260 217 s) (fun r => Rt r.2.2.2) := rt_260 hJ.1.2.1 hJ.1.1 rfl h
theorem rs_263 {a1 : Int} (hJ : J p s) (h : Rt s) : gQ (f_263 217 a1 s) (fun r => Rt r.2.2.2) := Rq h (om_263 hJ.1.2.1 um rfl (JF hJ))
theorem rs_277 (hJ : J p s) (h : Rt s) : gQ (f_277 0 231 s) (fun r => Rt r.2.2.2) := by
  unfold f_277
  refine gQ_c1 (A := Rt) (rt_90 hJ.1.2.1 hJ.1.1 rfl h) (fun v_l t_l ht => ?_) (fun k_l t_l ht => ?_)
  · exact gQ_chk (gQ_ret (Rt_231 ht))
  · exact gQ_ite (gQ_ret ht) gQ_none
theorem rs_278 {a1 : Int} {a2 : Int} (hJ : J p s) (h : Rt s) : gQ (f_278 0 a1 a2 231 s) (fun r => Rt r.2.2.2) := by
  unfold f_278
  refine gQ_c1 (A := Rt) (Rq h (o_92 hJ.1.2.1 uq rfl (JF hJ))) (fun v_l t_l ht => ?_) (fun k_l t_l ht => ?_)
  · exact gQ_chk (gQ_ret (Rt_231 ht))
  · exact gQ_ite (gQ_ret ht) (gQ_ite (gQ_ret ht) gQ_none)
theorem rs_279 {a1 : Int} {a2 : Int} (hJ : J p s) (h : Rt s) : gQ (f_279 0 a1 a2 231 s) (fun r => Rt r.2.2.2) := by
  unfold f_279
  refine gQ_c1 (A := Rt) (Rq h (o_93 hJ.1.2.1 uq rfl (JF hJ))) (fun v_l t_l ht => ?_) (fun k_l t_l ht => ?_)
  · exact gQ_chk (gQ_ret (Rt_231 ht))
  · exact gQ_ite (gQ_ret ht) (gQ_ite (gQ_ret ht) gQ_none)
theorem rs_280 {a1 : Int} {a2 : Int} (hJ : J p s) (h : Rt s) : gQ (f_280 0 a1 a2 231 s) (fun r => Rt r.2.2.2) := by
  unfold f_280
  refine gQ_c1 (A := Rt) (Rq h (o_94 hJ.1.2.1 uq rfl (JF hJ))) (fun v_l t_l ht => ?_) (fun k_l t_l ht => ?_)
  · exact gQ_chk (gQ_ret (Rt_231 ht))
  · exact gQ_ite (gQ_ret ht) gQ_none
theorem rs_281 {a1 : Int} {a2 : Int} (hJ : J p s) (h : Rt s) : gQ (f_281 0 a1 a2 231 s) (fun r => Rt r.2.2.2) := by
  unfold f_281
  refine gQ_c1 (A := Rt) (Rq h (o_95 hJ.1.2.1 uq rfl (JF hJ))) (fun v_l t_l ht => ?_) (fun k_l t_l ht => ?_)
  · exact gQ_chk (gQ_ret (Rt_231 ht))
  · exact gQ_ite (gQ_ret ht) gQ_none
theorem rs_282 {a1 : Int} (hJ : J p s) (h : Rt s) : gQ (f_282 0 a1 231 s) (fun r => Rt r.2.2.2) := by
  unfold f_282
  refine gQ_c1 (A := Rt) (rt_96 hJ.1.2.1 hJ.1.1 rfl h) (fun v_l t_l ht => ?_) (fun k_l t_l ht => ?_)
  · exact gQ_chk (gQ_ret (Rt_231 ht))
  · exact gQ_ite (gQ_ret ht) (gQ_ite (gQ_ret ht) gQ_none)
theorem rs_283 {a1 : Int} {a2 : Int} (hJ : J p s) (h : Rt s) : gQ (f_283 0 a1 a2 231 s) (fun r => Rt r.2.2.2) := by
  unfold f_283
  refine gQ_c1 (A := Rt) (rt_97 hJ.1.2.1 hJ.1.1 rfl h) (fun v_l t_l ht => ?_) (fun k_l t_l ht => ?_)
  · exact gQ_ite (gQ_chk (gQ_ret (Rt_231 ht))) (gQ_chk (gQ_ret (Rt_231 ht)))
  · exact gQ_ite (gQ_ret ht) (gQ_ite (gQ_ret ht) gQ_none)
theorem rs_284 {a1 : Int} (hJ : J p s) (h : Rt s) : gQ (f_284 0 a1 231 s) (fun r => Rt r.2.2.2) := by
  unfold f_284
  refine gQ_c1 (A := Rt) (rt_98 hJ.1.2.1 hJ.1.1 rfl h) (fun v_l t_l ht => ?_) (fun k_l t_l ht => ?_)
  · exact gQ_chk (gQ_ret (Rt_231 ht))
  · exact gQ_ite (gQ_ret ht) (gQ_ite (gQ_ret ht) gQ_none)
theorem rs_285 {a1 : Int} {a2 : Int} {a3 : Int} (hJ : J p s) (h : Rt s) : gQ (f_285 0 a1 a2 a3 231 s) (fun r => Rt r.2.2.2) := by
  unfold f_285
  refine gQ_c1 (A := Rt) (rt_99 hJ.1.2.1 hJ.1.1 rfl h) (fun v_l t_l ht => ?_) (fun k_l t_l ht => ?_)
  · exact gQ_chk (gQ_ret (Rt_231 ht))
  · exact gQ_ite (gQ_ret ht) (gQ_ite (gQ_ret ht) (gQ_ite (gQ_ret ht) gQ_none))
theorem rs_286 {a1 : Int} {a2 : Int} (hJ : J p s) (h : Rt s) : gQ (f_286 0 a1 a2 231 s) (fun r => Rt r.2.2.2) := by
  unfold f_286
  refine gQ_c1 (A := Rt) (rt_100 hJ.1.2.1 hJ.1.1 rfl h) (fun v_l t_l ht => ?_) (fun k_l t_l ht => ?_)
  · exact gQ_chk (gQ_ret (Rt_231 ht))
  · exact gQ_ite (gQ_ret ht) (gQ_ite (gQ_ret ht) gQ_none)
theorem rs_287 {a1 : Int} (hJ : J p s) (h : Rt s) : gQ (f_287 0 a1 231 s) (fun r => Rt r.2.2.2) := by
  unfold f_287
  refine gQ_c1 (A := Rt) (rt_101 hJ.1.2.1 hJ.1.1 rfl h) (fun v_l t_l ht => ?_) (fun k_l t_l ht => ?_)
  · exact gQ_chk (gQ_ret (Rt_231 ht))
  · exact gQ_ite (gQ_ret ht) gQ_none
theorem rs_288 {a1 : Int} (hJ : J p s) (h : Rt s) : gQ (f_288 0 a1 231 s) (fun r => Rt r.2.2.2) := by
  unfold f_288
  refine gQ_c1 (A := Rt) (rt_102 hJ.1.2.1 hJ.1.1 rfl h) (fun v_l t_l ht => ?_) (fun k_l t_l ht => ?_)
  · exact gQ_chk (gQ_ret (Rt_231 ht))
  · exact gQ_ite (gQ_ret ht) gQ_none
theorem rs_289 {a1 : Int} {a2 : Int} {a3 : Int} (hJ : J p s) (h : Rt s) : gQ (f_289 0 a1 a2 a3 231 s) (fun r => Rt r.2.2.2) := by
  unfold f_289
  refine gQ_c1 (A := Rt) (Rq h (o_103 hJ.1.2.1 uq rfl (JF hJ))) (fun v_l t_l ht => ?_) (fun k_l t_l ht => ?_)
  · exact gQ_chk (gQ_ret (Rt_231 ht))
  · exact gQ_ite (gQ_ret ht) (gQ_ite (gQ_ret ht) (gQ_ite (gQ_ret ht) gQ_none))
theorem rs_290 {a1 : Int} (hJ : J p s) (h : Rt s) : gQ (f_290 0 a1 231 s) (fun r => Rt r.2.2.2) := by
  unfold f_290
  refine gQ_c1 (A := Rt) (Rq h (o_104 hJ.1.2.1 uq rfl (JF hJ))) (fun v_l t_l ht => ?_) (fun k_l t_l ht => ?_)
  · exact gQ_chk (gQ_ret (Rt_231 ht))
  · exact gQ_ite (gQ_ret ht) gQ_none
theorem rs_291 {a1 : Int} (hJ : J p s) (h : Rt s) : gQ (f_291 0 a1 231 s) (fun r => Rt r.2.2.2) := by
  unfold f_291
  refine gQ_c1 (A := Rt) (Rq h (o_105 hJ.1.2.1 uq rfl (JF hJ))) (fun v_l t_l ht => ?_) (fun k_l t_l ht => ?_)
  · exact gQ_chk (gQ_ret (Rt_231 ht))
  · exact gQ_ite (gQ_ret ht) gQ_none
theorem rs_292 {a1 : Int} (hJ : J p s) (h : Rt s) : gQ (f_292 0 a1 231 s) (fun r => Rt r.2.2.2) := by
  unfold f_292
  refine gQ_c1 (A := Rt) (Rq h (o_106 hJ.1.2.1 uq rfl (JF hJ))) (fun v_l t_l ht => ?_) (fun k_l t_l ht => ?_)
  · exact gQ_chk (gQ_ret (Rt_231 ht))
  · exact gQ_ite (gQ_ret ht) gQ_none
theorem rs_293 {a1 : Int} (hJ : J p s) (h : Rt s) : gQ (f_293 0 a1 231 s) (fun r => Rt r.2.2.2) := by
  unfold f_293
  refine gQ_c1 (A := Rt) (Rq h (o_107 hJ.1.2.1 uq rfl (JF hJ))) (fun v_l t_l ht => ?_) (fun k_l t_l ht => ?_)
  · exact gQ_chk (gQ_ret (Rt_231 ht))
  · exact gQ_ite (gQ_ret ht) gQ_none
theorem rs_294 {a1 : Int} {a2 : Int} (hJ : J p s) (h : Rt s) : gQ (f_294 0 a1 a2 231 s) (fun r => Rt r.2.2.2) := by
  unfold f_294
  refine gQ_c1 (A := Rt) (Rq h (o_108 hJ.1.2.1 uq rfl (JF hJ))) (fun v_l t_l ht => ?_) (fun k_l t_l ht => ?_)
  · exact gQ_chk (gQ_ret (Rt_231 ht))
  · exact gQ_ite (gQ_ret ht) (gQ_ite (gQ_ret ht) gQ_none)
theorem rs_295 {a1 : Int} {a2 : Int} (hJ : J p s) (h : Rt s) : gQ (f_295 0 a1 a2 231 s) (fun r => Rt r.2.2.2) := by
  unfold f_295
  refine gQ_c1 (A := Rt) (Rq h (o_109 hJ.1.2.1 uq rfl (JF hJ))) (fun v_l t_l ht => ?_) (fun k_l t_l ht => ?_)
  · exact gQ_chk (gQ_ret (Rt_231 ht))
  · exact gQ_ite (gQ_ret ht) (gQ_ite (gQ_ret ht) gQ_none)
theorem rs_296 {a1 : Int} {a2 : Int} (hJ : J p s) (h : Rt s) : gQ (f_296 0 a1 a2 231 s) (fun r => Rt r.2.2.2) := by
  unfold f_296
  refine gQ_c1 (A := Rt) (Rq h (o_110 hJ.1.2.1 uq rfl (JF hJ))) (fun v_l t_l ht => ?_) (fun k_l t_l ht => ?_)
  · exact gQ_ite (gQ_chk (gQ_ret (Rt_231 ht))) (gQ_chk (gQ_ret (Rt_231 ht)))
  · exact gQ_ite (gQ_ret ht) gQ_none
theorem rs_297 {a1 : Int} (hJ : J p s) (h : Rt s) : gQ (f_297 0 a1 231 s) (fun r => Rt r.2.2.2) := by
  unfold f_297
  refine gQ_c1 (A := Rt) (Rq h (o_111 hJ.1.2.1 uq rfl (JF hJ))) (fun v_l t_l ht => ?_) (fun k_l t_l ht => ?_)
  · exact gQ_chk (gQ_ret (Rt_231 ht))
  · exact gQ_ite (gQ_ret ht) gQ_none
theorem rs_298 {a1 : Int} {a2 : Int} (hJ : J p s) (h : Rt s) : gQ (f_298 0 a1 a2 231 s) (fun r => Rt r.2.2.2) := by
  unfold f_298
  refine gQ_c1 (A := Rt) (Rq h (o_112 hJ.1.2.1 uq rfl (JF hJ))) (fun v_l t_l ht => ?_) (fun k_l t_l ht => ?_)
  · exact gQ_chk (gQ_ret (Rt_231 ht))
  · exact gQ_ite (gQ_ret ht) gQ_none
theorem rs_299 {a1 : Int} (hJ : J p s) (h : Rt s) : gQ (f_299 0 a1 231 s) (fun r => Rt r.2.2.2) := by
  unfold f_299
  refine gQ_c1 (A := Rt) (Rq h (o_113 hJ.1.2.1 uq rfl (JF hJ))) (fun v_l t_l ht => ?_) (fun k_l t_l ht => ?_)
  · exact gQ_chk (gQ_ret (Rt_231 ht))
  · exact gQ_ite (gQ_ret ht) gQ_none
theorem rs_300 {a1 : Int} (hJ : J p s) (h : Rt s) : gQ (f_300 0 a1 231 s) (fun r => Rt r.2.2.2) := by
  unfold f_300
  refine gQ_c1 (A := Rt) (Rq h (o_114 hJ.1.2.1 uq rfl (JF hJ))) (fun v_l t_l ht => ?_) (fun k_l t_l ht => ?_)
  · exact gQ_chk (gQ_ret (Rt_231 ht))
  · exact gQ_ite (gQ_ret ht) gQ_none
theorem rs_301 (hJ : J p s) (h : Rt s) : gQ (f_301 0 231 s) (fun r => Rt r.2.2.2) := by
  unfold f_301
  refine gQ_c1 (A := Rt) (Rq h (o_115 hJ.1.2.1 uq rfl (JF hJ))) (fun v_l t_l ht => ?_) (fun k_l t_l ht => ?_)
  · exact gQ_chk (gQ_ret (Rt_231 ht))
  · exact gQ_ite (gQ_ret ht) gQ_none
theorem rs_302 {a1 : Int} {a2 : Int} (hJ : J p s) (h : Rt s) : gQ (f_302 0 a1 a2 231 s) (fun r => Rt r.2.2.2) := by
  unfold f_302
  refine gQ_c1 (A := Rt) (Rq h (o_116 hJ.1.2.1 uq rfl (JF hJ))) (fun v_l t_l ht => ?_) (fun k_l t_l ht => ?_)
  · exact gQ_chk (gQ_ret (Rt_231 ht))
  · exact gQ_ite (gQ_ret ht) gQ_none
theorem rs_303 {a1 : Int} {a2 : Int} (hJ : J p s) (h : Rt s) : gQ (f_303 0 a1 a2 231 s) (fun r => Rt r.2.2.2) := by
  unfold f_303
  refine gQ_c1 (A := Rt) (Rq h (o_117 hJ.1.2.1 uq rfl (JF hJ))) (fun v_l t_l ht => ?_) (fun k_l t_l ht => ?_)
  · exact gQ_chk (gQ_ret (Rt_231 ht))
  · exact gQ_ite (gQ_ret ht) gQ_none
theorem rs_304 {a1 : Int} (hJ : J p s) (h : Rt s) : gQ (f_304 0 a1 231 s) (fun r => Rt r.2.2.2) := by
  unfold f_304
  refine gQ_c1 (A := Rt) (Rq h (o_119 hJ.1.2.1 uq rfl (JF hJ))) (fun v_l t_l ht => ?_) (fun k_l t_l ht => ?_)
  · exact gQ_chk (gQ_ret (Rt_231 ht))
  · exact gQ_ite (gQ_ret ht) gQ_none
theorem rs_305 {a1 : Int} (hJ : J p s) (h : Rt s) : gQ (f_305 0 a1 231 s) (fun r => Rt r.2.2.2) := by
  unfold f_305
  refine gQ_c1 (A := Rt) (Rq h (o_122 hJ.1.2.1 uq rfl (JF hJ))) (fun v_l t_l ht => ?_) (fun k_l t_l ht => ?_)
  · exact gQ_chk (gQ_ret (Rt_231 ht))
  · exact gQ_ite (gQ_ret ht) gQ_none
theorem rs_306 {a1 : Int} {a2 : Int} (hJ : J p s) (h : Rt s) : gQ (f_306 0 a1 a2 231 s) (fun r => Rt r.2.2.2) := by
  unfold f_306
  refine gQ_c1 (A := Rt) (Rq h (o_125 hJ.1.2.1 uq rfl (JF hJ))) (fun v_l t_l ht => ?_) (fun k_l t_l ht => ?_)
  · exact gQ_chk (gQ_ret (Rt_231 ht))
  · exact gQ_ite (gQ_ret ht) gQ_none
theorem rs_307 {a1 : Int} {a2 : Int} (hJ : J p s) (h : Rt s) : gQ (f_307 0 a1 a2 231 s) (fun r => Rt r.2.2.2) := by
  unfold f_307
  refine gQ_c1 (A := Rt) (Rq h (o_126 hJ.1.2.1 uq rfl (JF hJ))) (fun v_l t_l ht => ?_) (fun k_l t_l ht => ?_)
  · exact gQ_chk (gQ_ret (Rt_231 ht))
  · exact gQ_ite (gQ_ret ht) gQ_none
theorem rs_308 {a1 : Int} {a2 : Int} (hJ : J p s) (h : Rt s) : gQ (f_308 0 a1 a2 231 s) (fun r => Rt r.2.2.2) := by
  unfold f_308
  refine gQ_c1 (A := Rt) (Rq h (o_127 hJ.1.2.1 uq rfl (JF hJ))) (fun v_l t_l ht => ?_) (fun k_l t_l ht => ?_)
  · exact gQ_chk (gQ_ret (Rt_231 ht))
  · exact gQ_ite (gQ_ret ht) gQ_none
theorem rs_309 {a1 : Int} {a2 : Int} (hJ : J p s) (h : Rt s) : gQ (f_309 0 a1 a2 231 s) (fun r => Rt r.2.2.2) := by
  unfold f_309
  refine gQ_c1 (A := Rt) (Rq h (o_128 hJ.1.2.1 uq rfl (JF hJ))) (fun v_l t_l ht => ?_) (fun k_l t_l ht => ?_)
  · exact gQ_chk (gQ_ret (Rt_231 ht))
  · exact gQ_ite (gQ_ret ht) gQ_none
end Rs
