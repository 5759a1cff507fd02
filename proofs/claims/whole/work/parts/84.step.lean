/-! the law: the 28 calls -/
section LAWS
variable {p : Program} {l : Launch} {e : Env} {s : State} {m : MethodId} {below : List Frame} {meth : Method} {c : Code} {b L : Nat} {xs : Nat → Int32} {D : va_G} {ac : Nat → ClassId} {q q' xa xv : Nat → Nat} {Q : State → Prop} {σ τ : Mm} {ls : Array Slot} {i : Nat}
theorem ls_feed (C : Cl p s m meth c b L xs D ac q q' xa xv) (hl : lv_has ls 4 (LVl b q q' i)) (hi : i + 5 ≤ L) (hL : L ≤ 2560) (hI : Inv σ τ) (k : ∀ σ' τ', Inv σ' τ' → Lv p l e s m below meth c b D ac q q' Q σ' τ' (F0 m 1024 ls [])) : Lv p l e s m below meth c b D ac q q' Q σ τ (F0 m 160 ls []) := by
  obtain ⟨r, σ1, τ1, h1, h2, h3⟩ := k_feed hI (inR_toInt (xs (i + 1)))
  refine l_al C hl 1 rfl dL_law_160 ?_
  refine l_arg C hl hi hL 0 3 rfl rfl 1 (by decide) dL_law_161 dL_law_162 dL_law_163 dL_law_164 dL_law_165 ?_
  refine l_callC C (rest := []) (r1 := (r, σ1)) [.int (i32 (xs (i + 1)).toInt)] (mX7_feed C.hq h1) cd_X7_feed ic_X7 im_X7_feed se_X7_feed ml_L_13 yk_X7_feed ⟨rfl, rfl, Nat.le_of_ble_eq_true rfl, Nat.le_of_ble_eq_true rfl⟩ rfl hl.1 rfl (Nat.le_of_ble_eq_true rfl) dL_law_166 ?_
  refine l_al C hl 2 rfl dL_law_169 ?_
  refine l_arg C hl hi hL 0 3 rfl rfl 1 (by decide) dL_law_170 dL_law_171 dL_law_172 dL_law_173 dL_law_174 ?_
  refine l_callM C (rest := [.int (i32 r)]) (r1 := (r, τ1)) [.int (i32 (xs (i + 1)).toInt)] (mX8_feed C.hq' h2) cd_X8_feed ic_X8 im_X8_feed se_X8_feed ml_L_17 yk_X8_feed ⟨rfl, rfl, Nat.le_of_ble_eq_true rfl, Nat.le_of_ble_eq_true rfl⟩ rfl hl.1 rfl (Nat.le_of_ble_eq_true rfl) dL_law_175 ?_
  exact l_eq C dL_law_178 rfl (k σ1 τ1 h3)
theorem ls_end (C : Cl p s m meth c b L xs D ac q q' xa xv) (hl : lv_has ls 4 (LVl b q q' i)) (hi : i + 5 ≤ L) (hL : L ≤ 2560) (hI : Inv σ τ) (k : ∀ σ' τ', Inv σ' τ' → Lv p l e s m below meth c b D ac q q' Q σ' τ' (F0 m 1024 ls [])) : Lv p l e s m below meth c b D ac q q' Q σ τ (F0 m 183 ls []) := by
  obtain ⟨r, σ1, τ1, h1, h2, h3⟩ := k_end hI (inR_toInt (xs (i + 1)))
  refine l_al C hl 1 rfl dL_law_183 ?_
  refine l_arg C hl hi hL 0 3 rfl rfl 1 (by decide) dL_law_184 dL_law_185 dL_law_186 dL_law_187 dL_law_188 ?_
  refine l_callC C (rest := []) (r1 := (r, σ1)) [.int (i32 (xs (i + 1)).toInt)] (mX7_end C.hq h1) cd_X7_end ic_X7 im_X7_end se_X7_end ml_L_18 yk_X7_end ⟨rfl, rfl, Nat.le_of_ble_eq_true rfl, Nat.le_of_ble_eq_true rfl⟩ rfl hl.1 rfl (Nat.le_of_ble_eq_true rfl) dL_law_189 ?_
  refine l_al C hl 2 rfl dL_law_192 ?_
  refine l_arg C hl hi hL 0 3 rfl rfl 1 (by decide) dL_law_193 dL_law_194 dL_law_195 dL_law_196 dL_law_197 ?_
  refine l_callM C (rest := [.int (i32 r)]) (r1 := (r, τ1)) [.int (i32 (xs (i + 1)).toInt)] (mX8_end C.hq' h2) cd_X8_end ic_X8 im_X8_end se_X8_end ml_L_21 yk_X8_end ⟨rfl, rfl, Nat.le_of_ble_eq_true rfl, Nat.le_of_ble_eq_true rfl⟩ rfl hl.1 rfl (Nat.le_of_ble_eq_true rfl) dL_law_198 ?_
  exact l_eq C dL_law_201 rfl (k σ1 τ1 h3)
theorem ls_text (C : Cl p s m meth c b L xs D ac q q' xa xv) (hl : lv_has ls 4 (LVl b q q' i)) (hi : i + 5 ≤ L) (hL : L ≤ 2560) (hI : Inv σ τ) (k : ∀ σ' τ', Inv σ' τ' → Lv p l e s m below meth c b D ac q q' Q σ' τ' (F0 m 1024 ls [])) : Lv p l e s m below meth c b D ac q q' Q σ τ (F0 m 206 ls []) := by
  obtain ⟨r, σ1, τ1, h1, h2, h3⟩ := k_text hI 
  refine l_al C hl 1 rfl dL_law_206 ?_
  refine l_callC C (rest := []) (r1 := (r, σ1)) [] (mX7_text C.hq h1) cd_X7_text ic_X7 im_X7_text se_X7_text ml_L_22 yk_X7_text ⟨rfl, rfl, Nat.le_of_ble_eq_true rfl, Nat.le_of_ble_eq_true rfl⟩ rfl hl.1 rfl (Nat.le_of_ble_eq_true rfl) dL_law_207 ?_
  refine l_al C hl 2 rfl dL_law_210 ?_
  refine l_callM C (rest := [.int (i32 r)]) (r1 := (r, τ1)) [] (mX8_text C.hq' h2) cd_X8_text ic_X8 im_X8_text se_X8_text ml_L_26 yk_X8_text ⟨rfl, rfl, Nat.le_of_ble_eq_true rfl, Nat.le_of_ble_eq_true rfl⟩ rfl hl.1 rfl (Nat.le_of_ble_eq_true rfl) dL_law_211 ?_
  exact l_eq C dL_law_214 rfl (k σ1 τ1 h3)
theorem ls_fault (C : Cl p s m meth c b L xs D ac q q' xa xv) (hl : lv_has ls 4 (LVl b q q' i)) (hi : i + 5 ≤ L) (hL : L ≤ 2560) (hI : Inv σ τ) (k : ∀ σ' τ', Inv σ' τ' → Lv p l e s m below meth c b D ac q q' Q σ' τ' (F0 m 1024 ls [])) : Lv p l e s m below meth c b D ac q q' Q σ τ (F0 m 219 ls []) := by
  obtain ⟨r, h1, h2⟩ := k_fault hI 
  refine l_al C hl 1 rfl dL_law_219 ?_
  refine l_callC C (rest := []) (r1 := (r, σ)) [] (mX7_fault C.hq h1) cd_X7_fault ic_X7 im_X7_fault se_X7_fault ml_L_27 yk_X7_fault ⟨rfl, rfl, Nat.le_of_ble_eq_true rfl, Nat.le_of_ble_eq_true rfl⟩ rfl hl.1 rfl (Nat.le_of_ble_eq_true rfl) dL_law_220 ?_
  refine l_al C hl 2 rfl dL_law_223 ?_
  refine l_callM C (rest := [.int (i32 r)]) (r1 := (r, τ)) [] (mX8_fault C.hq' h2) cd_X8_fault ic_X8 im_X8_fault se_X8_fault ml_L_30 yk_X8_fault ⟨rfl, rfl, Nat.le_of_ble_eq_true rfl, Nat.le_of_ble_eq_true rfl⟩ rfl hl.1 rfl (Nat.le_of_ble_eq_true rfl) dL_law_224 ?_
  exact l_eq C dL_law_227 rfl (k σ τ hI)
theorem ls_rule (C : Cl p s m meth c b L xs D ac q q' xa xv) (hl : lv_has ls 4 (LVl b q q' i)) (hi : i + 5 ≤ L) (hL : L ≤ 2560) (hI : Inv σ τ) (k : ∀ σ' τ', Inv σ' τ' → Lv p l e s m below meth c b D ac q q' Q σ' τ' (F0 m 1024 ls [])) : Lv p l e s m below meth c b D ac q q' Q σ τ (F0 m 232 ls []) := by
  obtain ⟨r, τ1, h1, h2, h3⟩ := k_rule hI (inR_toInt (xs (i + 1)))
  refine l_al C hl 1 rfl dL_law_232 ?_
  refine l_arg C hl hi hL 0 3 rfl rfl 1 (by decide) dL_law_233 dL_law_234 dL_law_235 dL_law_236 dL_law_237 ?_
  refine l_callC C (rest := []) (r1 := (r, σ)) [.int (i32 (xs (i + 1)).toInt)] (mX7_rule C.hq h1) cd_X7_rule ic_X7 im_X7_rule se_X7_rule ml_L_31 yk_X7_rule ⟨rfl, rfl, Nat.le_of_ble_eq_true rfl, Nat.le_of_ble_eq_true rfl⟩ rfl hl.1 rfl (Nat.le_of_ble_eq_true rfl) dL_law_238 ?_
  refine l_al C hl 2 rfl dL_law_241 ?_
  refine l_arg C hl hi hL 0 3 rfl rfl 1 (by decide) dL_law_242 dL_law_243 dL_law_244 dL_law_245 dL_law_246 ?_
  refine l_callM C (rest := [.int (i32 r)]) (r1 := (r, τ1)) [.int (i32 (xs (i + 1)).toInt)] (mX8_rule C.hq' h2) cd_X8_rule ic_X8 im_X8_rule se_X8_rule ml_L_34 yk_X8_rule ⟨rfl, rfl, Nat.le_of_ble_eq_true rfl, Nat.le_of_ble_eq_true rfl⟩ rfl hl.1 rfl (Nat.le_of_ble_eq_true rfl) dL_law_247 ?_
  exact l_eq C dL_law_250 rfl (k σ τ1 h3)
theorem ls_point (C : Cl p s m meth c b L xs D ac q q' xa xv) (hl : lv_has ls 4 (LVl b q q' i)) (hi : i + 5 ≤ L) (hL : L ≤ 2560) (hI : Inv σ τ) (k : ∀ σ' τ', Inv σ' τ' → Lv p l e s m below meth c b D ac q q' Q σ' τ' (F0 m 1024 ls [])) : Lv p l e s m below meth c b D ac q q' Q σ τ (F0 m 255 ls []) := by
  obtain ⟨r, τ1, h1, h2, h3⟩ := k_point hI (inR_toInt (xs (i + 1))) (inR_toInt (xs (i + 2)))
  refine l_al C hl 1 rfl dL_law_255 ?_
  refine l_arg C hl hi hL 0 3 rfl rfl 1 (by decide) dL_law_256 dL_law_257 dL_law_258 dL_law_259 dL_law_260 ?_
  refine l_arg C hl hi hL 0 3 rfl rfl 2 (by decide) dL_law_261 dL_law_262 dL_law_263 dL_law_264 dL_law_265 ?_
  refine l_callC C (rest := []) (r1 := (r, σ)) [.int (i32 (xs (i + 1)).toInt), .int (i32 (xs (i + 2)).toInt)] (mX7_point C.hq h1) cd_X7_point ic_X7 im_X7_point se_X7_point ml_L_35 yk_X7_point ⟨rfl, rfl, Nat.le_of_ble_eq_true rfl, Nat.le_of_ble_eq_true rfl⟩ rfl hl.1 rfl (Nat.le_of_ble_eq_true rfl) dL_law_266 ?_
  refine l_al C hl 2 rfl dL_law_269 ?_
  refine l_arg C hl hi hL 0 3 rfl rfl 1 (by decide) dL_law_270 dL_law_271 dL_law_272 dL_law_273 dL_law_274 ?_
  refine l_arg C hl hi hL 0 3 rfl rfl 2 (by decide) dL_law_275 dL_law_276 dL_law_277 dL_law_278 dL_law_279 ?_
  refine l_callM C (rest := [.int (i32 r)]) (r1 := (r, τ1)) [.int (i32 (xs (i + 1)).toInt), .int (i32 (xs (i + 2)).toInt)] (mX8_point C.hq' h2) cd_X8_point ic_X8 im_X8_point se_X8_point ml_L_39 yk_X8_point ⟨rfl, rfl, Nat.le_of_ble_eq_true rfl, Nat.le_of_ble_eq_true rfl⟩ rfl hl.1 rfl (Nat.le_of_ble_eq_true rfl) dL_law_280 ?_
  exact l_eq C dL_law_283 rfl (k σ τ1 h3)
theorem ls_ring (C : Cl p s m meth c b L xs D ac q q' xa xv) (hl : lv_has ls 4 (LVl b q q' i)) (hi : i + 5 ≤ L) (hL : L ≤ 2560) (hI : Inv σ τ) (k : ∀ σ' τ', Inv σ' τ' → Lv p l e s m below meth c b D ac q q' Q σ' τ' (F0 m 1024 ls [])) : Lv p l e s m below meth c b D ac q q' Q σ τ (F0 m 288 ls []) := by
  obtain ⟨r, σ1, τ1, h1, h2, h3⟩ := k_ring hI (inR_toInt (xs (i + 1))) (inR_toInt (xs (i + 2))) (inR_toInt (xs (i + 3)))
  refine l_al C hl 1 rfl dL_law_288 ?_
  refine l_arg C hl hi hL 0 3 rfl rfl 1 (by decide) dL_law_289 dL_law_290 dL_law_291 dL_law_292 dL_law_293 ?_
  refine l_arg C hl hi hL 0 3 rfl rfl 2 (by decide) dL_law_294 dL_law_295 dL_law_296 dL_law_297 dL_law_298 ?_
  refine l_arg C hl hi hL 0 3 rfl rfl 3 (by decide) dL_law_299 dL_law_300 dL_law_301 dL_law_302 dL_law_303 ?_
  refine l_callC C (rest := []) (r1 := (r, σ1)) [.int (i32 (xs (i + 1)).toInt), .int (i32 (xs (i + 2)).toInt), .int (i32 (xs (i + 3)).toInt)] (mX7_ring C.hq h1) cd_X7_ring ic_X7 im_X7_ring se_X7_ring ml_L_40 yk_X7_ring ⟨rfl, rfl, Nat.le_of_ble_eq_true rfl, Nat.le_of_ble_eq_true rfl⟩ rfl hl.1 rfl (Nat.le_of_ble_eq_true rfl) dL_law_304 ?_
  refine l_al C hl 2 rfl dL_law_307 ?_
  refine l_arg C hl hi hL 0 3 rfl rfl 1 (by decide) dL_law_308 dL_law_309 dL_law_310 dL_law_311 dL_law_312 ?_
  refine l_arg C hl hi hL 0 3 rfl rfl 2 (by decide) dL_law_313 dL_law_314 dL_law_315 dL_law_316 dL_law_317 ?_
  refine l_arg C hl hi hL 0 3 rfl rfl 3 (by decide) dL_law_318 dL_law_319 dL_law_320 dL_law_321 dL_law_322 ?_
  refine l_callM C (rest := [.int (i32 r)]) (r1 := (r, τ1)) [.int (i32 (xs (i + 1)).toInt), .int (i32 (xs (i + 2)).toInt), .int (i32 (xs (i + 3)).toInt)] (mX8_ring C.hq' h2) cd_X8_ring ic_X8 im_X8_ring se_X8_ring ml_L_44 yk_X8_ring ⟨rfl, rfl, Nat.le_of_ble_eq_true rfl, Nat.le_of_ble_eq_true rfl⟩ rfl hl.1 rfl (Nat.le_of_ble_eq_true rfl) dL_law_323 ?_
  exact l_eq C dL_law_326 rfl (k σ1 τ1 h3)
theorem ls_corner (C : Cl p s m meth c b L xs D ac q q' xa xv) (hl : lv_has ls 4 (LVl b q q' i)) (hi : i + 5 ≤ L) (hL : L ≤ 2560) (hI : Inv σ τ) (k : ∀ σ' τ', Inv σ' τ' → Lv p l e s m below meth c b D ac q q' Q σ' τ' (F0 m 1024 ls [])) : Lv p l e s m below meth c b D ac q q' Q σ τ (F0 m 331 ls []) := by
  obtain ⟨r, σ1, τ1, h1, h2, h3⟩ := k_corner hI (inR_toInt (xs (i + 1))) (inR_toInt (xs (i + 2))) (inR_toInt (xs (i + 3)))
  refine l_al C hl 1 rfl dL_law_331 ?_
  refine l_arg C hl hi hL 0 3 rfl rfl 1 (by decide) dL_law_332 dL_law_333 dL_law_334 dL_law_335 dL_law_336 ?_
  refine l_arg C hl hi hL 0 3 rfl rfl 2 (by decide) dL_law_337 dL_law_338 dL_law_339 dL_law_340 dL_law_341 ?_
  refine l_arg C hl hi hL 0 3 rfl rfl 3 (by decide) dL_law_342 dL_law_343 dL_law_344 dL_law_345 dL_law_346 ?_
  refine l_callC C (rest := []) (r1 := (r, σ1)) [.int (i32 (xs (i + 1)).toInt), .int (i32 (xs (i + 2)).toInt), .int (i32 (xs (i + 3)).toInt)] (mX7_corner C.hq h1) cd_X7_corner ic_X7 im_X7_corner se_X7_corner ml_L_45 yk_X7_corner ⟨rfl, rfl, Nat.le_of_ble_eq_true rfl, Nat.le_of_ble_eq_true rfl⟩ rfl hl.1 rfl (Nat.le_of_ble_eq_true rfl) dL_law_347 ?_
  refine l_al C hl 2 rfl dL_law_350 ?_
  refine l_arg C hl hi hL 0 3 rfl rfl 1 (by decide) dL_law_351 dL_law_352 dL_law_353 dL_law_354 dL_law_355 ?_
  refine l_arg C hl hi hL 0 3 rfl rfl 2 (by decide) dL_law_356 dL_law_357 dL_law_358 dL_law_359 dL_law_360 ?_
  refine l_arg C hl hi hL 0 3 rfl rfl 3 (by decide) dL_law_361 dL_law_362 dL_law_363 dL_law_364 dL_law_365 ?_
  refine l_callM C (rest := [.int (i32 r)]) (r1 := (r, τ1)) [.int (i32 (xs (i + 1)).toInt), .int (i32 (xs (i + 2)).toInt), .int (i32 (xs (i + 3)).toInt)] (mX8_corner C.hq' h2) cd_X8_corner ic_X8 im_X8_corner se_X8_corner ml_L_48 yk_X8_corner ⟨rfl, rfl, Nat.le_of_ble_eq_true rfl, Nat.le_of_ble_eq_true rfl⟩ rfl hl.1 rfl (Nat.le_of_ble_eq_true rfl) dL_law_366 ?_
  exact l_eq C dL_law_369 rfl (k σ1 τ1 h3)
theorem ls_arc (C : Cl p s m meth c b L xs D ac q q' xa xv) (hl : lv_has ls 4 (LVl b q q' i)) (hi : i + 5 ≤ L) (hL : L ≤ 2560) (hI : Inv σ τ) (k : ∀ σ' τ', Inv σ' τ' → Lv p l e s m below meth c b D ac q q' Q σ' τ' (F0 m 1024 ls [])) : Lv p l e s m below meth c b D ac q q' Q σ τ (F0 m 374 ls []) := by
  obtain ⟨r, τ1, h1, h2, h3⟩ := k_arc hI (inR_toInt (xs (i + 1))) (inR_toInt (xs (i + 2)))
  refine l_al C hl 1 rfl dL_law_374 ?_
  refine l_arg C hl hi hL 0 3 rfl rfl 1 (by decide) dL_law_375 dL_law_376 dL_law_377 dL_law_378 dL_law_379 ?_
  refine l_arg C hl hi hL 0 3 rfl rfl 2 (by decide) dL_law_380 dL_law_381 dL_law_382 dL_law_383 dL_law_384 ?_
  refine l_callC C (rest := []) (r1 := (r, σ)) [.int (i32 (xs (i + 1)).toInt), .int (i32 (xs (i + 2)).toInt)] (mX7_arc C.hq h1) cd_X7_arc ic_X7 im_X7_arc se_X7_arc ml_L_49 yk_X7_arc ⟨rfl, rfl, Nat.le_of_ble_eq_true rfl, Nat.le_of_ble_eq_true rfl⟩ rfl hl.1 rfl (Nat.le_of_ble_eq_true rfl) dL_law_385 ?_
  refine l_al C hl 2 rfl dL_law_388 ?_
  refine l_arg C hl hi hL 0 3 rfl rfl 1 (by decide) dL_law_389 dL_law_390 dL_law_391 dL_law_392 dL_law_393 ?_
  refine l_arg C hl hi hL 0 3 rfl rfl 2 (by decide) dL_law_394 dL_law_395 dL_law_396 dL_law_397 dL_law_398 ?_
  refine l_callM C (rest := [.int (i32 r)]) (r1 := (r, τ1)) [.int (i32 (xs (i + 1)).toInt), .int (i32 (xs (i + 2)).toInt)] (mX8_arc C.hq' h2) cd_X8_arc ic_X8 im_X8_arc se_X8_arc ml_L_52 yk_X8_arc ⟨rfl, rfl, Nat.le_of_ble_eq_true rfl, Nat.le_of_ble_eq_true rfl⟩ rfl hl.1 rfl (Nat.le_of_ble_eq_true rfl) dL_law_399 ?_
  exact l_eq C dL_law_402 rfl (k σ τ1 h3)
theorem ls_along (C : Cl p s m meth c b L xs D ac q q' xa xv) (hl : lv_has ls 4 (LVl b q q' i)) (hi : i + 5 ≤ L) (hL : L ≤ 2560) (hI : Inv σ τ) (k : ∀ σ' τ', Inv σ' τ' → Lv p l e s m below meth c b D ac q q' Q σ' τ' (F0 m 1024 ls [])) : Lv p l e s m below meth c b D ac q q' Q σ τ (F0 m 407 ls []) := by
  obtain ⟨r, τ1, h1, h2, h3⟩ := k_along hI (inR_toInt (xs (i + 1))) (inR_toInt (xs (i + 2))) (inR_toInt (xs (i + 3)))
  refine l_al C hl 1 rfl dL_law_407 ?_
  refine l_arg C hl hi hL 0 3 rfl rfl 1 (by decide) dL_law_408 dL_law_409 dL_law_410 dL_law_411 dL_law_412 ?_
  refine l_arg C hl hi hL 0 3 rfl rfl 2 (by decide) dL_law_413 dL_law_414 dL_law_415 dL_law_416 dL_law_417 ?_
  refine l_arg C hl hi hL 0 3 rfl rfl 3 (by decide) dL_law_418 dL_law_419 dL_law_420 dL_law_421 dL_law_422 ?_
  refine l_callC C (rest := []) (r1 := (r, σ)) [.int (i32 (xs (i + 1)).toInt), .int (i32 (xs (i + 2)).toInt), .int (i32 (xs (i + 3)).toInt)] (mX7_along C.hq h1) cd_X7_along ic_X7 im_X7_along se_X7_along ml_L_53 yk_X7_along ⟨rfl, rfl, Nat.le_of_ble_eq_true rfl, Nat.le_of_ble_eq_true rfl⟩ rfl hl.1 rfl (Nat.le_of_ble_eq_true rfl) dL_law_423 ?_
  refine l_al C hl 2 rfl dL_law_426 ?_
  refine l_arg C hl hi hL 0 3 rfl rfl 1 (by decide) dL_law_427 dL_law_428 dL_law_429 dL_law_430 dL_law_431 ?_
  refine l_arg C hl hi hL 0 3 rfl rfl 2 (by decide) dL_law_432 dL_law_433 dL_law_434 dL_law_435 dL_law_436 ?_
  refine l_arg C hl hi hL 0 3 rfl rfl 3 (by decide) dL_law_437 dL_law_438 dL_law_439 dL_law_440 dL_law_441 ?_
  refine l_callM C (rest := [.int (i32 r)]) (r1 := (r, τ1)) [.int (i32 (xs (i + 1)).toInt), .int (i32 (xs (i + 2)).toInt), .int (i32 (xs (i + 3)).toInt)] (mX8_along C.hq' h2) cd_X8_along ic_X8 im_X8_along se_X8_along ml_L_56 yk_X8_along ⟨rfl, rfl, Nat.le_of_ble_eq_true rfl, Nat.le_of_ble_eq_true rfl⟩ rfl hl.1 rfl (Nat.le_of_ble_eq_true rfl) dL_law_442 ?_
  exact l_eq C dL_law_445 rfl (k σ τ1 h3)
theorem ls_gone (C : Cl p s m meth c b L xs D ac q q' xa xv) (hl : lv_has ls 4 (LVl b q q' i)) (hi : i + 5 ≤ L) (hL : L ≤ 2560) (hI : Inv σ τ) (k : ∀ σ' τ', Inv σ' τ' → Lv p l e s m below meth c b D ac q q' Q σ' τ' (F0 m 1024 ls [])) : Lv p l e s m below meth c b D ac q q' Q σ τ (F0 m 450 ls []) := by
  obtain ⟨r, τ1, h1, h2, h3⟩ := k_gone hI (inR_toInt (xs (i + 1)))
  refine l_al C hl 1 rfl dL_law_450 ?_
  refine l_arg C hl hi hL 0 3 rfl rfl 1 (by decide) dL_law_451 dL_law_452 dL_law_453 dL_law_454 dL_law_455 ?_
  refine l_callC C (rest := []) (r1 := (r, σ)) [.int (i32 (xs (i + 1)).toInt)] (mX7_gone C.hq h1) cd_X7_gone ic_X7 im_X7_gone se_X7_gone ml_L_57 yk_X7_gone ⟨rfl, rfl, Nat.le_of_ble_eq_true rfl, Nat.le_of_ble_eq_true rfl⟩ rfl hl.1 rfl (Nat.le_of_ble_eq_true rfl) dL_law_456 ?_
  refine l_al C hl 2 rfl dL_law_459 ?_
  refine l_arg C hl hi hL 0 3 rfl rfl 1 (by decide) dL_law_460 dL_law_461 dL_law_462 dL_law_463 dL_law_464 ?_
  refine l_callM C (rest := [.int (i32 r)]) (r1 := (r, τ1)) [.int (i32 (xs (i + 1)).toInt)] (mX8_gone C.hq' h2) cd_X8_gone ic_X8 im_X8_gone se_X8_gone ml_L_60 yk_X8_gone ⟨rfl, rfl, Nat.le_of_ble_eq_true rfl, Nat.le_of_ble_eq_true rfl⟩ rfl hl.1 rfl (Nat.le_of_ble_eq_true rfl) dL_law_465 ?_
  exact l_eq C dL_law_468 rfl (k σ τ1 h3)
theorem ls_left (C : Cl p s m meth c b L xs D ac q q' xa xv) (hl : lv_has ls 4 (LVl b q q' i)) (hi : i + 5 ≤ L) (hL : L ≤ 2560) (hI : Inv σ τ) (k : ∀ σ' τ', Inv σ' τ' → Lv p l e s m below meth c b D ac q q' Q σ' τ' (F0 m 1024 ls [])) : Lv p l e s m below meth c b D ac q q' Q σ τ (F0 m 473 ls []) := by
  obtain ⟨r, τ1, h1, h2, h3⟩ := k_left hI (inR_toInt (xs (i + 1)))
  refine l_al C hl 1 rfl dL_law_473 ?_
  refine l_arg C hl hi hL 0 3 rfl rfl 1 (by decide) dL_law_474 dL_law_475 dL_law_476 dL_law_477 dL_law_478 ?_
  refine l_callC C (rest := []) (r1 := (r, σ)) [.int (i32 (xs (i + 1)).toInt)] (mX7_left C.hq h1) cd_X7_left ic_X7 im_X7_left se_X7_left ml_L_61 yk_X7_left ⟨rfl, rfl, Nat.le_of_ble_eq_true rfl, Nat.le_of_ble_eq_true rfl⟩ rfl hl.1 rfl (Nat.le_of_ble_eq_true rfl) dL_law_479 ?_
  refine l_al C hl 2 rfl dL_law_482 ?_
  refine l_arg C hl hi hL 0 3 rfl rfl 1 (by decide) dL_law_483 dL_law_484 dL_law_485 dL_law_486 dL_law_487 ?_
  refine l_callM C (rest := [.int (i32 r)]) (r1 := (r, τ1)) [.int (i32 (xs (i + 1)).toInt)] (mX8_left C.hq' h2) cd_X8_left ic_X8 im_X8_left se_X8_left ml_L_64 yk_X8_left ⟨rfl, rfl, Nat.le_of_ble_eq_true rfl, Nat.le_of_ble_eq_true rfl⟩ rfl hl.1 rfl (Nat.le_of_ble_eq_true rfl) dL_law_488 ?_
  exact l_eq C dL_law_491 rfl (k σ τ1 h3)
theorem ls_edge (C : Cl p s m meth c b L xs D ac q q' xa xv) (hl : lv_has ls 4 (LVl b q q' i)) (hi : i + 5 ≤ L) (hL : L ≤ 2560) (hI : Inv σ τ) (k : ∀ σ' τ', Inv σ' τ' → Lv p l e s m below meth c b D ac q q' Q σ' τ' (F0 m 1024 ls [])) : Lv p l e s m below meth c b D ac q q' Q σ τ (F0 m 496 ls []) := by
  obtain ⟨r, σ1, τ1, h1, h2, h3⟩ := k_edge hI (inR_toInt (xs (i + 1))) (inR_toInt (xs (i + 2))) (inR_toInt (xs (i + 3)))
  refine l_al C hl 1 rfl dL_law_496 ?_
  refine l_arg C hl hi hL 0 3 rfl rfl 1 (by decide) dL_law_497 dL_law_498 dL_law_499 dL_law_500 dL_law_501 ?_
  refine l_arg C hl hi hL 0 3 rfl rfl 2 (by decide) dL_law_502 dL_law_503 dL_law_504 dL_law_505 dL_law_506 ?_
  refine l_arg C hl hi hL 0 3 rfl rfl 3 (by decide) dL_law_507 dL_law_508 dL_law_509 dL_law_510 dL_law_511 ?_
  refine l_callC C (rest := []) (r1 := (r, σ1)) [.int (i32 (xs (i + 1)).toInt), .int (i32 (xs (i + 2)).toInt), .int (i32 (xs (i + 3)).toInt)] (mX7_edge C.hq h1) cd_X7_edge ic_X7 im_X7_edge se_X7_edge ml_L_65 yk_X7_edge ⟨rfl, rfl, Nat.le_of_ble_eq_true rfl, Nat.le_of_ble_eq_true rfl⟩ rfl hl.1 rfl (Nat.le_of_ble_eq_true rfl) dL_law_512 ?_
  refine l_al C hl 2 rfl dL_law_515 ?_
  refine l_arg C hl hi hL 0 3 rfl rfl 1 (by decide) dL_law_516 dL_law_517 dL_law_518 dL_law_519 dL_law_520 ?_
  refine l_arg C hl hi hL 0 3 rfl rfl 2 (by decide) dL_law_521 dL_law_522 dL_law_523 dL_law_524 dL_law_525 ?_
  refine l_arg C hl hi hL 0 3 rfl rfl 3 (by decide) dL_law_526 dL_law_527 dL_law_528 dL_law_529 dL_law_530 ?_
  refine l_callM C (rest := [.int (i32 r)]) (r1 := (r, τ1)) [.int (i32 (xs (i + 1)).toInt), .int (i32 (xs (i + 2)).toInt), .int (i32 (xs (i + 3)).toInt)] (mX8_edge C.hq' h2) cd_X8_edge ic_X8 im_X8_edge se_X8_edge ml_L_68 yk_X8_edge ⟨rfl, rfl, Nat.le_of_ble_eq_true rfl, Nat.le_of_ble_eq_true rfl⟩ rfl hl.1 rfl (Nat.le_of_ble_eq_true rfl) dL_law_531 ?_
  exact l_eq C dL_law_534 rfl (k σ1 τ1 h3)
theorem ls_why (C : Cl p s m meth c b L xs D ac q q' xa xv) (hl : lv_has ls 4 (LVl b q q' i)) (hi : i + 5 ≤ L) (hL : L ≤ 2560) (hI : Inv σ τ) (k : ∀ σ' τ', Inv σ' τ' → Lv p l e s m below meth c b D ac q q' Q σ' τ' (F0 m 1024 ls [])) : Lv p l e s m below meth c b D ac q q' Q σ τ (F0 m 539 ls []) := by
  obtain ⟨r, σ1, τ1, h1, h2, h3⟩ := k_why hI (inR_toInt (xs (i + 1))) (inR_toInt (xs (i + 2)))
  refine l_al C hl 1 rfl dL_law_539 ?_
  refine l_arg C hl hi hL 0 3 rfl rfl 1 (by decide) dL_law_540 dL_law_541 dL_law_542 dL_law_543 dL_law_544 ?_
  refine l_arg C hl hi hL 0 3 rfl rfl 2 (by decide) dL_law_545 dL_law_546 dL_law_547 dL_law_548 dL_law_549 ?_
  refine l_callC C (rest := []) (r1 := (r, σ1)) [.int (i32 (xs (i + 1)).toInt), .int (i32 (xs (i + 2)).toInt)] (mX7_why C.hq h1) cd_X7_why ic_X7 im_X7_why se_X7_why ml_L_69 yk_X7_why ⟨rfl, rfl, Nat.le_of_ble_eq_true rfl, Nat.le_of_ble_eq_true rfl⟩ rfl hl.1 rfl (Nat.le_of_ble_eq_true rfl) dL_law_550 ?_
  refine l_al C hl 2 rfl dL_law_553 ?_
  refine l_arg C hl hi hL 0 3 rfl rfl 1 (by decide) dL_law_554 dL_law_555 dL_law_556 dL_law_557 dL_law_558 ?_
  refine l_arg C hl hi hL 0 3 rfl rfl 2 (by decide) dL_law_559 dL_law_560 dL_law_561 dL_law_562 dL_law_563 ?_
  refine l_callM C (rest := [.int (i32 r)]) (r1 := (r, τ1)) [.int (i32 (xs (i + 1)).toInt), .int (i32 (xs (i + 2)).toInt)] (mX8_why C.hq' h2) cd_X8_why ic_X8 im_X8_why se_X8_why ml_L_72 yk_X8_why ⟨rfl, rfl, Nat.le_of_ble_eq_true rfl, Nat.le_of_ble_eq_true rfl⟩ rfl hl.1 rfl (Nat.le_of_ble_eq_true rfl) dL_law_564 ?_
  exact l_eq C dL_law_567 rfl (k σ1 τ1 h3)
theorem ls_size (C : Cl p s m meth c b L xs D ac q q' xa xv) (hl : lv_has ls 4 (LVl b q q' i)) (hi : i + 5 ≤ L) (hL : L ≤ 2560) (hI : Inv σ τ) (k : ∀ σ' τ', Inv σ' τ' → Lv p l e s m below meth c b D ac q q' Q σ' τ' (F0 m 1024 ls [])) : Lv p l e s m below meth c b D ac q q' Q σ τ (F0 m 572 ls []) := by
  obtain ⟨r, σ1, τ1, h1, h2, h3⟩ := k_size hI (inR_toInt (xs (i + 1))) (inR_toInt (xs (i + 2)))
  refine l_al C hl 1 rfl dL_law_572 ?_
  refine l_arg C hl hi hL 0 3 rfl rfl 1 (by decide) dL_law_573 dL_law_574 dL_law_575 dL_law_576 dL_law_577 ?_
  refine l_arg C hl hi hL 0 3 rfl rfl 2 (by decide) dL_law_578 dL_law_579 dL_law_580 dL_law_581 dL_law_582 ?_
  refine l_callC C (rest := []) (r1 := (r, σ1)) [.int (i32 (xs (i + 1)).toInt), .int (i32 (xs (i + 2)).toInt)] (mX7_size C.hq h1) cd_X7_size ic_X7 im_X7_size se_X7_size ml_L_73 yk_X7_size ⟨rfl, rfl, Nat.le_of_ble_eq_true rfl, Nat.le_of_ble_eq_true rfl⟩ rfl hl.1 rfl (Nat.le_of_ble_eq_true rfl) dL_law_583 ?_
  refine l_al C hl 2 rfl dL_law_586 ?_
  refine l_arg C hl hi hL 0 3 rfl rfl 1 (by decide) dL_law_587 dL_law_588 dL_law_589 dL_law_590 dL_law_591 ?_
  refine l_arg C hl hi hL 0 3 rfl rfl 2 (by decide) dL_law_592 dL_law_593 dL_law_594 dL_law_595 dL_law_596 ?_
  refine l_callM C (rest := [.int (i32 r)]) (r1 := (r, τ1)) [.int (i32 (xs (i + 1)).toInt), .int (i32 (xs (i + 2)).toInt)] (mX8_size C.hq' h2) cd_X8_size ic_X8 im_X8_size se_X8_size ml_L_76 yk_X8_size ⟨rfl, rfl, Nat.le_of_ble_eq_true rfl, Nat.le_of_ble_eq_true rfl⟩ rfl hl.1 rfl (Nat.le_of_ble_eq_true rfl) dL_law_597 ?_
  exact l_eq C dL_law_600 rfl (k σ1 τ1 h3)
theorem ls_keep (C : Cl p s m meth c b L xs D ac q q' xa xv) (hl : lv_has ls 4 (LVl b q q' i)) (hi : i + 5 ≤ L) (hL : L ≤ 2560) (hI : Inv σ τ) (k : ∀ σ' τ', Inv σ' τ' → Lv p l e s m below meth c b D ac q q' Q σ' τ' (F0 m 1024 ls [])) : Lv p l e s m below meth c b D ac q q' Q σ τ (F0 m 605 ls []) := by
  obtain ⟨r, τ1, h1, h2, h3⟩ := k_keep hI (inR_toInt (xs (i + 1)))
  refine l_al C hl 1 rfl dL_law_605 ?_
  refine l_arg C hl hi hL 0 3 rfl rfl 1 (by decide) dL_law_606 dL_law_607 dL_law_608 dL_law_609 dL_law_610 ?_
  refine l_callC C (rest := []) (r1 := (r, σ)) [.int (i32 (xs (i + 1)).toInt)] (mX7_keep C.hq h1) cd_X7_keep ic_X7 im_X7_keep se_X7_keep ml_L_77 yk_X7_keep ⟨rfl, rfl, Nat.le_of_ble_eq_true rfl, Nat.le_of_ble_eq_true rfl⟩ rfl hl.1 rfl (Nat.le_of_ble_eq_true rfl) dL_law_611 ?_
  refine l_al C hl 2 rfl dL_law_614 ?_
  refine l_arg C hl hi hL 0 3 rfl rfl 1 (by decide) dL_law_615 dL_law_616 dL_law_617 dL_law_618 dL_law_619 ?_
  refine l_callM C (rest := [.int (i32 r)]) (r1 := (r, τ1)) [.int (i32 (xs (i + 1)).toInt)] (mX8_keep C.hq' h2) cd_X8_keep ic_X8 im_X8_keep se_X8_keep ml_L_80 yk_X8_keep ⟨rfl, rfl, Nat.le_of_ble_eq_true rfl, Nat.le_of_ble_eq_true rfl⟩ rfl hl.1 rfl (Nat.le_of_ble_eq_true rfl) dL_law_620 ?_
  exact l_eq C dL_law_623 rfl (k σ τ1 h3)
theorem ls_limit (C : Cl p s m meth c b L xs D ac q q' xa xv) (hl : lv_has ls 4 (LVl b q q' i)) (hi : i + 5 ≤ L) (hL : L ≤ 2560) (hI : Inv σ τ) (k : ∀ σ' τ', Inv σ' τ' → Lv p l e s m below meth c b D ac q q' Q σ' τ' (F0 m 1024 ls [])) : Lv p l e s m below meth c b D ac q q' Q σ τ (F0 m 628 ls []) := by
  obtain ⟨r, τ1, h1, h2, h3⟩ := k_limit hI (inR_toInt (xs (i + 1)))
  refine l_al C hl 1 rfl dL_law_628 ?_
  refine l_arg C hl hi hL 0 3 rfl rfl 1 (by decide) dL_law_629 dL_law_630 dL_law_631 dL_law_632 dL_law_633 ?_
  refine l_callC C (rest := []) (r1 := (r, σ)) [.int (i32 (xs (i + 1)).toInt)] (mX7_limit C.hq h1) cd_X7_limit ic_X7 im_X7_limit se_X7_limit ml_L_81 yk_X7_limit ⟨rfl, rfl, Nat.le_of_ble_eq_true rfl, Nat.le_of_ble_eq_true rfl⟩ rfl hl.1 rfl (Nat.le_of_ble_eq_true rfl) dL_law_634 ?_
  refine l_al C hl 2 rfl dL_law_637 ?_
  refine l_arg C hl hi hL 0 3 rfl rfl 1 (by decide) dL_law_638 dL_law_639 dL_law_640 dL_law_641 dL_law_642 ?_
  refine l_callM C (rest := [.int (i32 r)]) (r1 := (r, τ1)) [.int (i32 (xs (i + 1)).toInt)] (mX8_limit C.hq' h2) cd_X8_limit ic_X8 im_X8_limit se_X8_limit ml_L_84 yk_X8_limit ⟨rfl, rfl, Nat.le_of_ble_eq_true rfl, Nat.le_of_ble_eq_true rfl⟩ rfl hl.1 rfl (Nat.le_of_ble_eq_true rfl) dL_law_643 ?_
  exact l_eq C dL_law_646 rfl (k σ τ1 h3)
theorem ls_within (C : Cl p s m meth c b L xs D ac q q' xa xv) (hl : lv_has ls 4 (LVl b q q' i)) (hi : i + 5 ≤ L) (hL : L ≤ 2560) (hI : Inv σ τ) (k : ∀ σ' τ', Inv σ' τ' → Lv p l e s m below meth c b D ac q q' Q σ' τ' (F0 m 1024 ls [])) : Lv p l e s m below meth c b D ac q q' Q σ τ (F0 m 651 ls []) := by
  obtain ⟨r, σ1, τ1, h1, h2, h3⟩ := k_within hI (inR_toInt (xs (i + 1))) (inR_toInt (xs (i + 2))) (inR_toInt (xs (i + 3)))
  refine l_al C hl 1 rfl dL_law_651 ?_
  refine l_arg C hl hi hL 0 3 rfl rfl 1 (by decide) dL_law_652 dL_law_653 dL_law_654 dL_law_655 dL_law_656 ?_
  refine l_arg C hl hi hL 0 3 rfl rfl 2 (by decide) dL_law_657 dL_law_658 dL_law_659 dL_law_660 dL_law_661 ?_
  refine l_arg C hl hi hL 0 3 rfl rfl 3 (by decide) dL_law_662 dL_law_663 dL_law_664 dL_law_665 dL_law_666 ?_
  refine l_callC C (rest := []) (r1 := (r, σ1)) [.int (i32 (xs (i + 1)).toInt), .int (i32 (xs (i + 2)).toInt), .int (i32 (xs (i + 3)).toInt)] (mX7_within C.hq h1) cd_X7_within ic_X7 im_X7_within se_X7_within ml_L_85 yk_X7_within ⟨rfl, rfl, Nat.le_of_ble_eq_true rfl, Nat.le_of_ble_eq_true rfl⟩ rfl hl.1 rfl (Nat.le_of_ble_eq_true rfl) dL_law_667 ?_
  refine l_al C hl 2 rfl dL_law_670 ?_
  refine l_arg C hl hi hL 0 3 rfl rfl 1 (by decide) dL_law_671 dL_law_672 dL_law_673 dL_law_674 dL_law_675 ?_
  refine l_arg C hl hi hL 0 3 rfl rfl 2 (by decide) dL_law_676 dL_law_677 dL_law_678 dL_law_679 dL_law_680 ?_
  refine l_arg C hl hi hL 0 3 rfl rfl 3 (by decide) dL_law_681 dL_law_682 dL_law_683 dL_law_684 dL_law_685 ?_
  refine l_callM C (rest := [.int (i32 r)]) (r1 := (r, τ1)) [.int (i32 (xs (i + 1)).toInt), .int (i32 (xs (i + 2)).toInt), .int (i32 (xs (i + 3)).toInt)] (mX8_within C.hq' h2) cd_X8_within ic_X8 im_X8_within se_X8_within ml_L_88 yk_X8_within ⟨rfl, rfl, Nat.le_of_ble_eq_true rfl, Nat.le_of_ble_eq_true rfl⟩ rfl hl.1 rfl (Nat.le_of_ble_eq_true rfl) dL_law_686 ?_
  exact l_eq C dL_law_689 rfl (k σ1 τ1 h3)
theorem ls_move (C : Cl p s m meth c b L xs D ac q q' xa xv) (hl : lv_has ls 4 (LVl b q q' i)) (hi : i + 5 ≤ L) (hL : L ≤ 2560) (hI : Inv σ τ) (k : ∀ σ' τ', Inv σ' τ' → Lv p l e s m below meth c b D ac q q' Q σ' τ' (F0 m 1024 ls [])) : Lv p l e s m below meth c b D ac q q' Q σ τ (F0 m 694 ls []) := by
  obtain ⟨r, σ1, τ1, h1, h2, h3⟩ := k_move hI (inR_toInt (xs (i + 1))) (inR_toInt (xs (i + 2))) (inR_toInt (xs (i + 3)))
  refine l_al C hl 1 rfl dL_law_694 ?_
  refine l_arg C hl hi hL 0 3 rfl rfl 1 (by decide) dL_law_695 dL_law_696 dL_law_697 dL_law_698 dL_law_699 ?_
  refine l_arg C hl hi hL 0 3 rfl rfl 2 (by decide) dL_law_700 dL_law_701 dL_law_702 dL_law_703 dL_law_704 ?_
  refine l_arg C hl hi hL 0 3 rfl rfl 3 (by decide) dL_law_705 dL_law_706 dL_law_707 dL_law_708 dL_law_709 ?_
  refine l_callC C (rest := []) (r1 := (r, σ1)) [.int (i32 (xs (i + 1)).toInt), .int (i32 (xs (i + 2)).toInt), .int (i32 (xs (i + 3)).toInt)] (mX7_move C.hq h1) cd_X7_move ic_X7 im_X7_move se_X7_move ml_L_89 yk_X7_move ⟨rfl, rfl, Nat.le_of_ble_eq_true rfl, Nat.le_of_ble_eq_true rfl⟩ rfl hl.1 rfl (Nat.le_of_ble_eq_true rfl) dL_law_710 ?_
  refine l_al C hl 2 rfl dL_law_713 ?_
  refine l_arg C hl hi hL 0 3 rfl rfl 1 (by decide) dL_law_714 dL_law_715 dL_law_716 dL_law_717 dL_law_718 ?_
  refine l_arg C hl hi hL 0 3 rfl rfl 2 (by decide) dL_law_719 dL_law_720 dL_law_721 dL_law_722 dL_law_723 ?_
  refine l_arg C hl hi hL 0 3 rfl rfl 3 (by decide) dL_law_724 dL_law_725 dL_law_726 dL_law_727 dL_law_728 ?_
  refine l_callM C (rest := [.int (i32 r)]) (r1 := (r, τ1)) [.int (i32 (xs (i + 1)).toInt), .int (i32 (xs (i + 2)).toInt), .int (i32 (xs (i + 3)).toInt)] (mX8_move C.hq' h2) cd_X8_move ic_X8 im_X8_move se_X8_move ml_L_92 yk_X8_move ⟨rfl, rfl, Nat.le_of_ble_eq_true rfl, Nat.le_of_ble_eq_true rfl⟩ rfl hl.1 rfl (Nat.le_of_ble_eq_true rfl) dL_law_729 ?_
  exact l_eq C dL_law_732 rfl (k σ1 τ1 h3)
theorem ls_pin (C : Cl p s m meth c b L xs D ac q q' xa xv) (hl : lv_has ls 4 (LVl b q q' i)) (hi : i + 5 ≤ L) (hL : L ≤ 2560) (hI : Inv σ τ) (k : ∀ σ' τ', Inv σ' τ' → Lv p l e s m below meth c b D ac q q' Q σ' τ' (F0 m 1024 ls [])) : Lv p l e s m below meth c b D ac q q' Q σ τ (F0 m 737 ls []) := by
  obtain ⟨r, σ1, τ1, h1, h2, h3⟩ := k_pin hI (inR_toInt (xs (i + 1))) (inR_toInt (xs (i + 2)))
  refine l_al C hl 1 rfl dL_law_737 ?_
  refine l_arg C hl hi hL 0 3 rfl rfl 1 (by decide) dL_law_738 dL_law_739 dL_law_740 dL_law_741 dL_law_742 ?_
  refine l_arg C hl hi hL 0 3 rfl rfl 2 (by decide) dL_law_743 dL_law_744 dL_law_745 dL_law_746 dL_law_747 ?_
  refine l_callC C (rest := []) (r1 := (r, σ1)) [.int (i32 (xs (i + 1)).toInt), .int (i32 (xs (i + 2)).toInt)] (mX7_pin C.hq h1) cd_X7_pin ic_X7 im_X7_pin se_X7_pin ml_L_93 yk_X7_pin ⟨rfl, rfl, Nat.le_of_ble_eq_true rfl, Nat.le_of_ble_eq_true rfl⟩ rfl hl.1 rfl (Nat.le_of_ble_eq_true rfl) dL_law_748 ?_
  refine l_al C hl 2 rfl dL_law_751 ?_
  refine l_arg C hl hi hL 0 3 rfl rfl 1 (by decide) dL_law_752 dL_law_753 dL_law_754 dL_law_755 dL_law_756 ?_
  refine l_arg C hl hi hL 0 3 rfl rfl 2 (by decide) dL_law_757 dL_law_758 dL_law_759 dL_law_760 dL_law_761 ?_
  refine l_callM C (rest := [.int (i32 r)]) (r1 := (r, τ1)) [.int (i32 (xs (i + 1)).toInt), .int (i32 (xs (i + 2)).toInt)] (mX8_pin C.hq' h2) cd_X8_pin ic_X8 im_X8_pin se_X8_pin ml_L_96 yk_X8_pin ⟨rfl, rfl, Nat.le_of_ble_eq_true rfl, Nat.le_of_ble_eq_true rfl⟩ rfl hl.1 rfl (Nat.le_of_ble_eq_true rfl) dL_law_762 ?_
  exact l_eq C dL_law_765 rfl (k σ1 τ1 h3)
theorem ls_shake (C : Cl p s m meth c b L xs D ac q q' xa xv) (hl : lv_has ls 4 (LVl b q q' i)) (hi : i + 5 ≤ L) (hL : L ≤ 2560) (hI : Inv σ τ) (k : ∀ σ' τ', Inv σ' τ' → Lv p l e s m below meth c b D ac q q' Q σ' τ' (F0 m 1024 ls [])) : Lv p l e s m below meth c b D ac q q' Q σ τ (F0 m 770 ls []) := by
  obtain ⟨r, σ1, τ1, h1, h2, h3⟩ := k_shake (v := (xs (i + 1)).toInt) hI (inR_toInt (xs (i + 2)))
  refine l_al C hl 1 rfl dL_law_770 ?_
  refine l_arg C hl hi hL 0 3 rfl rfl 1 (by decide) dL_law_771 dL_law_772 dL_law_773 dL_law_774 dL_law_775 ?_
  refine l_arg C hl hi hL 0 3 rfl rfl 2 (by decide) dL_law_776 dL_law_777 dL_law_778 dL_law_779 dL_law_780 ?_
  refine l_callC C (rest := []) (r1 := (r, σ1)) [.int (i32 (xs (i + 1)).toInt), .int (i32 (xs (i + 2)).toInt)] (mX7_shake C.hq h1) cd_X7_shake ic_X7 im_X7_shake se_X7_shake ml_L_97 yk_X7_shake ⟨rfl, rfl, Nat.le_of_ble_eq_true rfl, Nat.le_of_ble_eq_true rfl⟩ rfl hl.1 rfl (Nat.le_of_ble_eq_true rfl) dL_law_781 ?_
  refine l_al C hl 2 rfl dL_law_784 ?_
  refine l_arg C hl hi hL 0 3 rfl rfl 1 (by decide) dL_law_785 dL_law_786 dL_law_787 dL_law_788 dL_law_789 ?_
  refine l_arg C hl hi hL 0 3 rfl rfl 2 (by decide) dL_law_790 dL_law_791 dL_law_792 dL_law_793 dL_law_794 ?_
  refine l_callM C (rest := [.int (i32 r)]) (r1 := (r, τ1)) [.int (i32 (xs (i + 1)).toInt), .int (i32 (xs (i + 2)).toInt)] (mX8_shake C.hq' h2) cd_X8_shake ic_X8 im_X8_shake se_X8_shake ml_L_100 yk_X8_shake ⟨rfl, rfl, Nat.le_of_ble_eq_true rfl, Nat.le_of_ble_eq_true rfl⟩ rfl hl.1 rfl (Nat.le_of_ble_eq_true rfl) dL_law_795 ?_
  exact l_eq C dL_law_798 rfl (k σ1 τ1 h3)
theorem ls_store (C : Cl p s m meth c b L xs D ac q q' xa xv) (hl : lv_has ls 4 (LVl b q q' i)) (hi : i + 5 ≤ L) (hL : L ≤ 2560) (hI : Inv σ τ) (k : ∀ σ' τ', Inv σ' τ' → Lv p l e s m below meth c b D ac q q' Q σ' τ' (F0 m 1024 ls [])) : Lv p l e s m below meth c b D ac q q' Q σ τ (F0 m 803 ls []) := by
  obtain ⟨r, σ1, τ1, h1, h2, h3⟩ := k_store hI (inR_toInt (xs (i + 1)))
  refine l_al C hl 1 rfl dL_law_803 ?_
  refine l_arg C hl hi hL 0 3 rfl rfl 1 (by decide) dL_law_804 dL_law_805 dL_law_806 dL_law_807 dL_law_808 ?_
  refine l_callC C (rest := []) (r1 := (r, σ1)) [.int (i32 (xs (i + 1)).toInt)] (mX7_store C.hq h1) cd_X7_store ic_X7 im_X7_store se_X7_store ml_L_101 yk_X7_store ⟨rfl, rfl, Nat.le_of_ble_eq_true rfl, Nat.le_of_ble_eq_true rfl⟩ rfl hl.1 rfl (Nat.le_of_ble_eq_true rfl) dL_law_809 ?_
  refine l_al C hl 2 rfl dL_law_812 ?_
  refine l_arg C hl hi hL 0 3 rfl rfl 1 (by decide) dL_law_813 dL_law_814 dL_law_815 dL_law_816 dL_law_817 ?_
  refine l_callM C (rest := [.int (i32 r)]) (r1 := (r, τ1)) [.int (i32 (xs (i + 1)).toInt)] (mX8_store C.hq' h2) cd_X8_store ic_X8 im_X8_store se_X8_store ml_L_104 yk_X8_store ⟨rfl, rfl, Nat.le_of_ble_eq_true rfl, Nat.le_of_ble_eq_true rfl⟩ rfl hl.1 rfl (Nat.le_of_ble_eq_true rfl) dL_law_818 ?_
  exact l_eq C dL_law_821 rfl (k σ1 τ1 h3)
theorem ls_back (C : Cl p s m meth c b L xs D ac q q' xa xv) (hl : lv_has ls 4 (LVl b q q' i)) (hi : i + 5 ≤ L) (hL : L ≤ 2560) (hI : Inv σ τ) (k : ∀ σ' τ', Inv σ' τ' → Lv p l e s m below meth c b D ac q q' Q σ' τ' (F0 m 1024 ls [])) : Lv p l e s m below meth c b D ac q q' Q σ τ (F0 m 826 ls []) := by
  obtain ⟨r, σ1, τ1, h1, h2, h3⟩ := k_back hI (inR_toInt (xs (i + 1)))
  refine l_al C hl 1 rfl dL_law_826 ?_
  refine l_arg C hl hi hL 0 3 rfl rfl 1 (by decide) dL_law_827 dL_law_828 dL_law_829 dL_law_830 dL_law_831 ?_
  refine l_callC C (rest := []) (r1 := (r, σ1)) [.int (i32 (xs (i + 1)).toInt)] (mX7_back C.hq h1) cd_X7_back ic_X7 im_X7_back se_X7_back ml_L_105 yk_X7_back ⟨rfl, rfl, Nat.le_of_ble_eq_true rfl, Nat.le_of_ble_eq_true rfl⟩ rfl hl.1 rfl (Nat.le_of_ble_eq_true rfl) dL_law_832 ?_
  refine l_al C hl 2 rfl dL_law_835 ?_
  refine l_arg C hl hi hL 0 3 rfl rfl 1 (by decide) dL_law_836 dL_law_837 dL_law_838 dL_law_839 dL_law_840 ?_
  refine l_callM C (rest := [.int (i32 r)]) (r1 := (r, τ1)) [.int (i32 (xs (i + 1)).toInt)] (mX8_back C.hq' h2) cd_X8_back ic_X8 im_X8_back se_X8_back ml_L_108 yk_X8_back ⟨rfl, rfl, Nat.le_of_ble_eq_true rfl, Nat.le_of_ble_eq_true rfl⟩ rfl hl.1 rfl (Nat.le_of_ble_eq_true rfl) dL_law_841 ?_
  exact l_eq C dL_law_844 rfl (k σ1 τ1 h3)
theorem ls_sheet (C : Cl p s m meth c b L xs D ac q q' xa xv) (hl : lv_has ls 4 (LVl b q q' i)) (hi : i + 5 ≤ L) (hL : L ≤ 2560) (hI : Inv σ τ) (k : ∀ σ' τ', Inv σ' τ' → Lv p l e s m below meth c b D ac q q' Q σ' τ' (F0 m 1024 ls [])) : Lv p l e s m below meth c b D ac q q' Q σ τ (F0 m 849 ls []) := by
  obtain ⟨r, σ1, τ1, h1, h2, h3⟩ := k_sheet hI (inR_toInt (xs (i + 1))) (inR_toInt (xs (i + 2))) (inR_toInt (xs (i + 3)))
  refine l_al C hl 1 rfl dL_law_849 ?_
  refine l_arg C hl hi hL 0 3 rfl rfl 1 (by decide) dL_law_850 dL_law_851 dL_law_852 dL_law_853 dL_law_854 ?_
  refine l_arg C hl hi hL 0 3 rfl rfl 2 (by decide) dL_law_855 dL_law_856 dL_law_857 dL_law_858 dL_law_859 ?_
  refine l_arg C hl hi hL 0 3 rfl rfl 3 (by decide) dL_law_860 dL_law_861 dL_law_862 dL_law_863 dL_law_864 ?_
  refine l_callC C (rest := []) (r1 := (r, σ1)) [.int (i32 (xs (i + 1)).toInt), .int (i32 (xs (i + 2)).toInt), .int (i32 (xs (i + 3)).toInt)] (mX7_sheet C.hq h1) cd_X7_sheet ic_X7 im_X7_sheet se_X7_sheet ml_L_109 yk_X7_sheet ⟨rfl, rfl, Nat.le_of_ble_eq_true rfl, Nat.le_of_ble_eq_true rfl⟩ rfl hl.1 rfl (Nat.le_of_ble_eq_true rfl) dL_law_865 ?_
  refine l_al C hl 2 rfl dL_law_868 ?_
  refine l_arg C hl hi hL 0 3 rfl rfl 1 (by decide) dL_law_869 dL_law_870 dL_law_871 dL_law_872 dL_law_873 ?_
  refine l_arg C hl hi hL 0 3 rfl rfl 2 (by decide) dL_law_874 dL_law_875 dL_law_876 dL_law_877 dL_law_878 ?_
  refine l_arg C hl hi hL 0 3 rfl rfl 3 (by decide) dL_law_879 dL_law_880 dL_law_881 dL_law_882 dL_law_883 ?_
  refine l_callM C (rest := [.int (i32 r)]) (r1 := (r, τ1)) [.int (i32 (xs (i + 1)).toInt), .int (i32 (xs (i + 2)).toInt), .int (i32 (xs (i + 3)).toInt)] (mX8_sheet C.hq' h2) cd_X8_sheet ic_X8 im_X8_sheet se_X8_sheet ml_L_112 yk_X8_sheet ⟨rfl, rfl, Nat.le_of_ble_eq_true rfl, Nat.le_of_ble_eq_true rfl⟩ rfl hl.1 rfl (Nat.le_of_ble_eq_true rfl) dL_law_884 ?_
  exact l_eq C dL_law_887 rfl (k σ1 τ1 h3)
theorem ls_lay (C : Cl p s m meth c b L xs D ac q q' xa xv) (hl : lv_has ls 4 (LVl b q q' i)) (hi : i + 5 ≤ L) (hL : L ≤ 2560) (hI : Inv σ τ) (k : ∀ σ' τ', Inv σ' τ' → Lv p l e s m below meth c b D ac q q' Q σ' τ' (F0 m 1024 ls [])) : Lv p l e s m below meth c b D ac q q' Q σ τ (F0 m 892 ls []) := by
  obtain ⟨r, σ1, τ1, h1, h2, h3⟩ := k_lay hI (inR_toInt (xs (i + 1))) (inR_toInt (xs (i + 2))) (inR_toInt (xs (i + 3)))
  refine l_al C hl 1 rfl dL_law_892 ?_
  refine l_arg C hl hi hL 0 3 rfl rfl 1 (by decide) dL_law_893 dL_law_894 dL_law_895 dL_law_896 dL_law_897 ?_
  refine l_arg C hl hi hL 0 3 rfl rfl 2 (by decide) dL_law_898 dL_law_899 dL_law_900 dL_law_901 dL_law_902 ?_
  refine l_arg C hl hi hL 0 3 rfl rfl 3 (by decide) dL_law_903 dL_law_904 dL_law_905 dL_law_906 dL_law_907 ?_
  refine l_callC C (rest := []) (r1 := (r, σ1)) [.int (i32 (xs (i + 1)).toInt), .int (i32 (xs (i + 2)).toInt), .int (i32 (xs (i + 3)).toInt)] (mX7_lay C.hq h1) cd_X7_lay ic_X7 im_X7_lay se_X7_lay ml_L_113 yk_X7_lay ⟨rfl, rfl, Nat.le_of_ble_eq_true rfl, Nat.le_of_ble_eq_true rfl⟩ rfl hl.1 rfl (Nat.le_of_ble_eq_true rfl) dL_law_908 ?_
  refine l_al C hl 2 rfl dL_law_911 ?_
  refine l_arg C hl hi hL 0 3 rfl rfl 1 (by decide) dL_law_912 dL_law_913 dL_law_914 dL_law_915 dL_law_916 ?_
  refine l_arg C hl hi hL 0 3 rfl rfl 2 (by decide) dL_law_917 dL_law_918 dL_law_919 dL_law_920 dL_law_921 ?_
  refine l_arg C hl hi hL 0 3 rfl rfl 3 (by decide) dL_law_922 dL_law_923 dL_law_924 dL_law_925 dL_law_926 ?_
  refine l_callM C (rest := [.int (i32 r)]) (r1 := (r, τ1)) [.int (i32 (xs (i + 1)).toInt), .int (i32 (xs (i + 2)).toInt), .int (i32 (xs (i + 3)).toInt)] (mX8_lay C.hq' h2) cd_X8_lay ic_X8 im_X8_lay se_X8_lay ml_L_116 yk_X8_lay ⟨rfl, rfl, Nat.le_of_ble_eq_true rfl, Nat.le_of_ble_eq_true rfl⟩ rfl hl.1 rfl (Nat.le_of_ble_eq_true rfl) dL_law_927 ?_
  exact l_eq C dL_law_930 rfl (k σ1 τ1 h3)
theorem ls_read (C : Cl p s m meth c b L xs D ac q q' xa xv) (hl : lv_has ls 4 (LVl b q q' i)) (hi : i + 5 ≤ L) (hL : L ≤ 2560) (hI : Inv σ τ) (k : ∀ σ' τ', Inv σ' τ' → Lv p l e s m below meth c b D ac q q' Q σ' τ' (F0 m 1024 ls [])) : Lv p l e s m below meth c b D ac q q' Q σ τ (F0 m 935 ls []) := by
  obtain ⟨r, σ1, τ1, h1, h2, h3⟩ := k_read hI (inR_toInt (xs (i + 1))) (inR_toInt (xs (i + 2))) (inR_toInt (xs (i + 3))) (inR_toInt (xs (i + 4)))
  refine l_al C hl 1 rfl dL_law_935 ?_
  refine l_arg C hl hi hL 0 3 rfl rfl 1 (by decide) dL_law_936 dL_law_937 dL_law_938 dL_law_939 dL_law_940 ?_
  refine l_arg C hl hi hL 0 3 rfl rfl 2 (by decide) dL_law_941 dL_law_942 dL_law_943 dL_law_944 dL_law_945 ?_
  refine l_arg C hl hi hL 0 3 rfl rfl 3 (by decide) dL_law_946 dL_law_947 dL_law_948 dL_law_949 dL_law_950 ?_
  refine l_arg C hl hi hL 0 3 rfl rfl 4 (by decide) dL_law_951 dL_law_952 dL_law_953 dL_law_954 dL_law_955 ?_
  refine l_callC C (rest := []) (r1 := (r, σ1)) [.int (i32 (xs (i + 1)).toInt), .int (i32 (xs (i + 2)).toInt), .int (i32 (xs (i + 3)).toInt), .int (i32 (xs (i + 4)).toInt)] (mX7_read C.hq h1) cd_X7_read ic_X7 im_X7_read se_X7_read ml_L_117 yk_X7_read ⟨rfl, rfl, Nat.le_of_ble_eq_true rfl, Nat.le_of_ble_eq_true rfl⟩ rfl hl.1 rfl (Nat.le_of_ble_eq_true rfl) dL_law_956 ?_
  refine l_al C hl 2 rfl dL_law_959 ?_
  refine l_arg C hl hi hL 0 3 rfl rfl 1 (by decide) dL_law_960 dL_law_961 dL_law_962 dL_law_963 dL_law_964 ?_
  refine l_arg C hl hi hL 0 3 rfl rfl 2 (by decide) dL_law_965 dL_law_966 dL_law_967 dL_law_968 dL_law_969 ?_
  refine l_arg C hl hi hL 0 3 rfl rfl 3 (by decide) dL_law_970 dL_law_971 dL_law_972 dL_law_973 dL_law_974 ?_
  refine l_arg C hl hi hL 0 3 rfl rfl 4 (by decide) dL_law_975 dL_law_976 dL_law_977 dL_law_978 dL_law_979 ?_
  refine l_callM C (rest := [.int (i32 r)]) (r1 := (r, τ1)) [.int (i32 (xs (i + 1)).toInt), .int (i32 (xs (i + 2)).toInt), .int (i32 (xs (i + 3)).toInt), .int (i32 (xs (i + 4)).toInt)] (mX8_read C.hq' h2) cd_X8_read ic_X8 im_X8_read se_X8_read ml_L_121 yk_X8_read ⟨rfl, rfl, Nat.le_of_ble_eq_true rfl, Nat.le_of_ble_eq_true rfl⟩ rfl hl.1 rfl (Nat.le_of_ble_eq_true rfl) dL_law_980 ?_
  exact l_eq C dL_law_983 rfl (k σ1 τ1 h3)
theorem ls_torn (C : Cl p s m meth c b L xs D ac q q' xa xv) (hl : lv_has ls 4 (LVl b q q' i)) (hi : i + 5 ≤ L) (hL : L ≤ 2560) (hI : Inv σ τ) (k : ∀ σ' τ', Inv σ' τ' → Lv p l e s m below meth c b D ac q q' Q σ' τ' (F0 m 1024 ls [])) : Lv p l e s m below meth c b D ac q q' Q σ τ (F0 m 988 ls []) := by
  obtain ⟨r, h1, h2⟩ := k_torn hI 
  refine l_al C hl 1 rfl dL_law_988 ?_
  refine l_callC C (rest := []) (r1 := (r, σ)) [] (mX7_torn C.hq h1) cd_X7_torn ic_X7 im_X7_torn se_X7_torn ml_L_122 yk_X7_torn ⟨rfl, rfl, Nat.le_of_ble_eq_true rfl, Nat.le_of_ble_eq_true rfl⟩ rfl hl.1 rfl (Nat.le_of_ble_eq_true rfl) dL_law_989 ?_
  refine l_al C hl 2 rfl dL_law_992 ?_
  refine l_callM C (rest := [.int (i32 r)]) (r1 := (r, τ)) [] (mX8_torn C.hq' h2) cd_X8_torn ic_X8 im_X8_torn se_X8_torn ml_L_125 yk_X8_torn ⟨rfl, rfl, Nat.le_of_ble_eq_true rfl, Nat.le_of_ble_eq_true rfl⟩ rfl hl.1 rfl (Nat.le_of_ble_eq_true rfl) dL_law_993 ?_
  exact l_eq C dL_law_996 rfl (k σ τ hI)
theorem ls_count (C : Cl p s m meth c b L xs D ac q q' xa xv) (hl : lv_has ls 4 (LVl b q q' i)) (hi : i + 5 ≤ L) (hL : L ≤ 2560) (hI : Inv σ τ) (k : ∀ σ' τ', Inv σ' τ' → Lv p l e s m below meth c b D ac q q' Q σ' τ' (F0 m 1024 ls [])) : Lv p l e s m below meth c b D ac q q' Q σ τ (F0 m 1001 ls []) := by
  obtain ⟨r, h1, h2⟩ := k_count hI (inR_toInt (xs (i + 1)))
  refine l_al C hl 1 rfl dL_law_1001 ?_
  refine l_arg C hl hi hL 0 3 rfl rfl 1 (by decide) dL_law_1002 dL_law_1003 dL_law_1004 dL_law_1005 dL_law_1006 ?_
  refine l_callC C (rest := []) (r1 := (r, σ)) [.int (i32 (xs (i + 1)).toInt)] (mX7_count C.hq h1) cd_X7_count ic_X7 im_X7_count se_X7_count ml_L_126 yk_X7_count ⟨rfl, rfl, Nat.le_of_ble_eq_true rfl, Nat.le_of_ble_eq_true rfl⟩ rfl hl.1 rfl (Nat.le_of_ble_eq_true rfl) dL_law_1007 ?_
  refine l_al C hl 2 rfl dL_law_1010 ?_
  refine l_arg C hl hi hL 0 3 rfl rfl 1 (by decide) dL_law_1011 dL_law_1012 dL_law_1013 dL_law_1014 dL_law_1015 ?_
  refine l_callM C (rest := [.int (i32 r)]) (r1 := (r, τ)) [.int (i32 (xs (i + 1)).toInt)] (mX8_count C.hq' h2) cd_X8_count ic_X8 im_X8_count se_X8_count ml_L_129 yk_X8_count ⟨rfl, rfl, Nat.le_of_ble_eq_true rfl, Nat.le_of_ble_eq_true rfl⟩ rfl hl.1 rfl (Nat.le_of_ble_eq_true rfl) dL_law_1016 ?_
  exact l_eq C dL_law_1019 rfl (k σ τ hI)
end LAWS
