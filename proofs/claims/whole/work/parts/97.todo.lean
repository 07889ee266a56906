/-! what is still to prove (written by wip/whole/gen/ops.py) -/
theorem sy_0 {m : jm} {x0 x1 x2 x3 x4 : Int} (hx0 : jg x0) (hx1 : jg x1) (hx2 : jg x2) (hx3 : jg x3) (hx4 : jg x4) (h : Inv m) : kSe (fun m => jf_141 x0 x1 x2 x3 x4 m) (fun m => jf_191 x0 x1 x2 x3 x4 m) m := by
  sorry
theorem sy_1 {m : jm} {x0 : Int} (hx0 : jg x0) (h : Inv m) : kSy (fun m => jf_304 x0 m) (fun m => jf_193 x0 m) m := by
  sorry
theorem sy_2 {m : jm} {x0 : Int} (hx0 : jg x0) (h : Inv m) : kSy (fun m => jf_305 x0 m) (fun m => jf_213 x0 m) m := by
  sorry
theorem sy_3 {m : jm} {x0 : Int} (hx0 : jg x0) (h : Inv m) : kSy (fun m => jf_306 x0 m) (fun m => jf_222 x0 m) m := by
  sorry
theorem sy_4 {m : jm} {x0 : Int} (hx0 : jg x0) (h : Inv m) : kSy (fun m => jf_307 x0 m) (fun m => jf_244 x0 m) m := by
  sorry
theorem sy_6 {m : jm} (h : Inv m) : kSe (fun m => jf_143 m) (fun m => jf_245 m) m := by
  sorry
theorem sy_7 {m : jm} {x0 : Int} (hx0 : jg x0) (h : Inv m) : kSy (fun m => jf_308 x0 m) (fun m => jf_246 x0 m) m := by
  sorry
theorem sy_8 {m : jm} {x0 x1 : Int} (hx0 : jg x0) (hx1 : jg x1) (h : Inv m) : kSy (fun m => jf_309 x0 x1 m) (fun m => jf_251 x0 x1 m) m := by
  sorry
theorem sy_9 {m : jm} {x0 x1 : Int} (hx0 : jg x0) (hx1 : jg x1) (h : Inv m) : kSy (fun m => jf_310 x0 x1 m) (fun m => jf_253 x0 x1 m) m := by
  sorry
theorem sy_10 {m : jm} {x0 x1 : Int} (hx0 : jg x0) (hx1 : jg x1) (h : Inv m) : kSy (fun m => jf_311 x0 x1 m) (fun m => jf_255 x0 x1 m) m := by
  sorry
theorem sy_11 {m : jm} {x0 x1 : Int} (hx0 : jg x0) (hx1 : jg x1) (h : Inv m) : kSy (fun m => jf_312 x0 x1 m) (fun m => jf_257 x0 x1 m) m := by
  sorry
theorem sy_12 {m : jm} {x0 x1 : Int} (hx0 : jg x0) (hx1 : jg x1) (h : Inv m) : kSy (fun m => jf_313 x0 x1 m) (fun m => jf_259 x0 x1 m) m := by
  sorry
theorem sy_13 {m : jm} {x0 x1 x2 : Int} (hx0 : jg x0) (hx1 : jg x1) (hx2 : jg x2) (h : Inv m) : kSy (fun m => jf_314 x0 x1 x2 m) (fun m => jf_260 x0 x1 x2 m) m := by
  sorry
theorem sy_14 {m : jm} {x0 x1 x2 x3 x4 x5 x6 x7 x8 : Int} (hx0 : jg x0) (hx1 : jg x1) (hx2 : jg x2) (hx3 : jg x3) (hx4 : jg x4) (hx5 : jg x5) (hx6 : jg x6) (hx7 : jg x7) (hx8 : jg x8) (h : Inv m) : kSy (fun m => jf_315 x0 x1 x2 x3 x4 x5 x6 x7 x8 m) (fun m => jf_262 x0 x1 x2 x3 x4 x5 x6 x7 x8 m) m := by
  sorry
theorem sy_15 {m : jm} {x0 x1 x2 : Int} (hx0 : jg x0) (hx1 : jg x1) (hx2 : jg x2) (h : Inv m) : kSb (fun m => jf_316 x0 x1 x2 m) (fun m => jf_261 x0 x1 x2 m) m := by
  sorry
theorem sy_16 {m : jm} {x0 : Int} (hx0 : jg x0) (h : Inv m) : kSy (fun m => jf_317 x0 m) (fun m => jf_263 x0 m) m := by
  sorry
theorem sy_17 {m : jm} {x0 x1 x2 : Int} (hx0 : jg x0) (hx1 : jg x1) (hx2 : jg x2) (h : Inv m) : kSy (fun m => jf_318 x0 x1 x2 m) (fun m => jf_267 x0 x1 x2 m) m := by
  sorry
theorem sy_18 {m : jm} {x0 x1 : Int} (hx0 : jg x0) (hx1 : jg x1) (h : Inv m) : kSy (fun m => jf_319 x0 x1 m) (fun m => jf_269 x0 x1 m) m := by
  sorry
theorem sy_19 {m : jm} {x0 x1 x2 : Int} (hx0 : jg x0) (hx1 : jg x1) (hx2 : jg x2) (h : Inv m) : kSy (fun m => jf_320 x0 x1 x2 m) (fun m => jf_273 x0 x1 x2 m) m := by
  sorry
theorem sy_20 {m : jm} {x0 : Int} (hx0 : jg x0) (h : Inv m) : kSy (fun m => jf_321 x0 m) (fun m => jf_275 x0 m) m := by
  sorry
theorem sy_21 {m : jm} (h : Inv m) : kSp (fun m => jf_144 m) (fun m => jf_277 m) m := by
  sorry
theorem sy_22 {m : jm} {x0 : Int} (hx0 : jg x0) (h : Inv m) : kSy (fun m => jf_322 x0 m) (fun m => jf_278 x0 m) m := by
  sorry
theorem sy_23 {m : jm} {x0 x1 : Int} (hx0 : jg x0) (hx1 : jg x1) (h : Inv m) : kSy (fun m => jf_323 x0 x1 m) (fun m => jf_280 x0 x1 m) m := by
  sorry
theorem sy_24 {m : jm} {x0 x1 : Int} (hx0 : jg x0) (hx1 : jg x1) (h : Inv m) : kSy (fun m => jf_324 x0 x1 m) (fun m => jf_283 x0 x1 m) m := by
  sorry
theorem sy_25 {m : jm} (h : Inv m) : kSe (fun m => jf_145 m) (fun m => jf_284 m) m := by
  sorry
theorem sy_26 {m : jm} {x0 : Int} (hx0 : jg x0) (h : Inv m) : kSy (fun m => jf_325 x0 m) (fun m => jf_286 x0 m) m := by
  sorry
theorem sy_27 {m : jm} {x0 x1 x2 x3 : Int} (hx0 : jg x0) (hx1 : jg x1) (hx2 : jg x2) (hx3 : jg x3) (h : Inv m) : kSy (fun m => jf_326 x0 x1 x2 x3 m) (fun m => jf_287 x0 x1 x2 x3 m) m := by
  sorry
theorem sy_28 {m : jm} {x0 x1 x2 x3 : Int} (hx0 : jg x0) (hx1 : jg x1) (hx2 : jg x2) (hx3 : jg x3) (h : Inv m) : kSy (fun m => jf_327 x0 x1 x2 x3 m) (fun m => jf_289 x0 x1 x2 x3 m) m := by
  sorry
theorem sy_29 {m : jm} {x0 x1 x2 : Int} (hx0 : jg x0) (hx1 : jg x1) (hx2 : jg x2) (h : Inv m) : kSy (fun m => jf_328 x0 x1 x2 m) (fun m => jf_291 x0 x1 x2 m) m := by
  sorry
theorem sy_30 {m : jm} {x0 : Int} (hx0 : jg x0) (h : Inv m) : kSy (fun m => jf_329 x0 m) (fun m => jf_292 x0 m) m := by
  sorry
theorem sy_31 {m : jm} {x0 x1 x2 x3 : Int} (hx0 : jg x0) (hx1 : jg x1) (hx2 : jg x2) (hx3 : jg x3) (h : Inv m) : kSy (fun m => jf_330 x0 x1 x2 x3 m) (fun m => jf_293 x0 x1 x2 x3 m) m := by
  sorry
theorem sy_32 {m : jm} {x0 x1 x2 x3 x4 : Int} (hx0 : jg x0) (hx1 : jg x1) (hx2 : jg x2) (hx3 : jg x3) (hx4 : jg x4) (h : Inv m) : kSy (fun m => jf_331 x0 x1 x2 x3 x4 m) (fun m => jf_297 x0 x1 x2 x3 x4 m) m := by
  sorry
theorem sy_33 {m : jm} (h : Inv m) : kSe (fun m => jf_146 m) (fun m => jf_298 m) m := by
  sorry
theorem sy_34 {m : jm} (h : Inv m) : kSe (fun m => jf_147 m) (fun m => jf_301 m) m := by
  sorry
theorem k_init : jo ((jf_188 (jM1 jm140)).bind jf_189) (fun p => p.2 = (fun _ _ => 0) ∧ Inv p) := by
  sorry
