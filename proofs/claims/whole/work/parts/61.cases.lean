theorem tops {σ : Mm} (h : MSt σ) (s : Int) : topM σ s ≤ σ 35 0 s := by
  have q := h s
  unfold topM
  split <;> omega
section CASES
variable {X : XW} {b L : Nat} {xs : Nat → Int32} {M : MX} {kc sl : Nat} {σ : Mm} {i : Int}
set_option maxRecDepth 100000 in
set_option maxHeartbeats 4000000 in
theorem la_time (ok : LOk X b L xs M kc sl) (h : JK σ) (h0 : 0 ≤ i) (h1 : i + 5 < L) (kk : ∀ ρ, JK ρ → LW X b M kc sl ρ 1474 i []) : LW X b M kc sl σ 196 i [] := by
  refine l_x ok dL_law_196 ?_
  refine l_arg 1 ok dL_law_197 dL_law_198 dL_law_199 dL_law_200 dL_law_201 (by decide) h0 (by omega) ?_
  refine l_call (a := 0) (rest := []) ok dL_law_202 mv_L_13 (c_X7_time X M.2.1 σ (sv xs (i + 1)) (sv_r xs _) ) (Vd.one rfl) rfl rfl ⟨(Nat.le_of_ble_eq_true rfl), (Nat.le_of_ble_eq_true rfl)⟩ rfl rfl (Nat.le_of_ble_eq_true rfl) (fun r τ hr => ?_)
  obtain ⟨rfl, rfl⟩ := hr
  have hm := jm_time h.m (sv xs (i + 1))
  show LW X b M kc sl (sc_time σ (sv xs (i + 1))) 205 i [.long (lI (rc_time σ (sv xs (i + 1))))]
  refine l_m ok dL_law_205 ?_
  refine l_arg 1 ok dL_law_206 dL_law_207 dL_law_208 dL_law_209 dL_law_210 (by decide) h0 (by omega) ?_
  refine l_call (a := 28) (rest := [.long (lI (rc_time σ (sv xs (i + 1))))]) ok dL_law_211 mv_L_17 (c_X8_time X M.2.1 (sc_time σ (sv xs (i + 1))) (sv xs (i + 1)) (sv_r xs _) ) (Vd.one rfl) rfl rfl ⟨(Nat.le_of_ble_eq_true rfl), (Nat.le_of_ble_eq_true rfl)⟩ rfl rfl (Nat.le_of_ble_eq_true rfl) (fun r ρ hr => ?_)
  obtain ⟨rfl, rfl⟩ := hr
  show LW X b M kc sl (sm_time (sc_time σ (sv xs (i + 1))) (sv xs (i + 1))) 214 i [.long (lI (rm_time (sc_time σ (sv xs (i + 1))) (sv xs (i + 1)))), .long (lI (rc_time σ (sv xs (i + 1))))]
  rw [x_time, ← e_time h.1]
  exact l_eq ok dL_law_214 dL_law_215 (by decide) (kk _ (K_time h (sv xs (i + 1))))
set_option maxRecDepth 100000 in
set_option maxHeartbeats 4000000 in
theorem la_dark (ok : LOk X b L xs M kc sl) (h : JK σ) (h0 : 0 ≤ i) (h1 : i + 5 < L) (kk : ∀ ρ, JK ρ → LW X b M kc sl ρ 1474 i []) : LW X b M kc sl σ 220 i [] := by
  refine l_x ok dL_law_220 ?_
  refine l_arg 1 ok dL_law_221 dL_law_222 dL_law_223 dL_law_224 dL_law_225 (by decide) h0 (by omega) ?_
  refine l_arg 2 ok dL_law_226 dL_law_227 dL_law_228 dL_law_229 dL_law_230 (by decide) h0 (by omega) ?_
  refine l_call (a := 0) (rest := []) ok dL_law_231 mv_L_18 (c_X7_dark X M.2.1 σ (sv xs (i + 1)) (sv xs (i + 2)) (sv_r xs _) (sv_r xs _) ) (Vd.one rfl) rfl rfl ⟨(Nat.le_of_ble_eq_true rfl), (Nat.le_of_ble_eq_true rfl)⟩ rfl rfl (Nat.le_of_ble_eq_true rfl) (fun r τ hr => ?_)
  obtain ⟨rfl, rfl⟩ := hr
  have hm := jm_dark h.m (sv xs (i + 1)) (sv xs (i + 2))
  show LW X b M kc sl (sc_dark σ (sv xs (i + 1)) (sv xs (i + 2))) 234 i [.long (lI (rc_dark σ (sv xs (i + 1)) (sv xs (i + 2))))]
  refine l_m ok dL_law_234 ?_
  refine l_arg 1 ok dL_law_235 dL_law_236 dL_law_237 dL_law_238 dL_law_239 (by decide) h0 (by omega) ?_
  refine l_arg 2 ok dL_law_240 dL_law_241 dL_law_242 dL_law_243 dL_law_244 (by decide) h0 (by omega) ?_
  refine l_call (a := 28) (rest := [.long (lI (rc_dark σ (sv xs (i + 1)) (sv xs (i + 2))))]) ok dL_law_245 mv_L_22 (c_X8_dark X M.2.1 (sc_dark σ (sv xs (i + 1)) (sv xs (i + 2))) (sv xs (i + 1)) (sv xs (i + 2)) (sv_r xs _) (sv_r xs _) ) (Vd.one rfl) rfl rfl ⟨(Nat.le_of_ble_eq_true rfl), (Nat.le_of_ble_eq_true rfl)⟩ rfl rfl (Nat.le_of_ble_eq_true rfl) (fun r ρ hr => ?_)
  obtain ⟨rfl, rfl⟩ := hr
  show LW X b M kc sl (sm_dark (sc_dark σ (sv xs (i + 1)) (sv xs (i + 2))) (sv xs (i + 1)) (sv xs (i + 2))) 248 i [.long (lI (rm_dark (sc_dark σ (sv xs (i + 1)) (sv xs (i + 2))) (sv xs (i + 1)) (sv xs (i + 2)))), .long (lI (rc_dark σ (sv xs (i + 1)) (sv xs (i + 2))))]
  rw [x_dark, ← e_dark h.1]
  exact l_eq ok dL_law_248 dL_law_249 (by decide) (kk _ (K_dark h (sv xs (i + 1)) (sv xs (i + 2))))
set_option maxRecDepth 100000 in
set_option maxHeartbeats 4000000 in
theorem la_keep (ok : LOk X b L xs M kc sl) (h : JK σ) (h0 : 0 ≤ i) (h1 : i + 5 < L) (kk : ∀ ρ, JK ρ → LW X b M kc sl ρ 1474 i []) : LW X b M kc sl σ 254 i [] := by
  refine l_x ok dL_law_254 ?_
  refine l_arg 1 ok dL_law_255 dL_law_256 dL_law_257 dL_law_258 dL_law_259 (by decide) h0 (by omega) ?_
  refine l_arg 2 ok dL_law_260 dL_law_261 dL_law_262 dL_law_263 dL_law_264 (by decide) h0 (by omega) ?_
  refine l_call (a := 0) (rest := []) ok dL_law_265 mv_L_23 (c_X7_keep X M.2.1 σ (sv xs (i + 1)) (sv xs (i + 2)) (sv_r xs _) (sv_r xs _) ) (Vd.one rfl) rfl rfl ⟨(Nat.le_of_ble_eq_true rfl), (Nat.le_of_ble_eq_true rfl)⟩ rfl rfl (Nat.le_of_ble_eq_true rfl) (fun r τ hr => ?_)
  obtain ⟨rfl, rfl⟩ := hr
  have hm := jm_keep h.m (sv xs (i + 1)) (sv xs (i + 2))
  show LW X b M kc sl (sc_keep σ (sv xs (i + 1)) (sv xs (i + 2))) 268 i [.long (lI (rc_keep σ (sv xs (i + 1)) (sv xs (i + 2))))]
  refine l_m ok dL_law_268 ?_
  refine l_arg 1 ok dL_law_269 dL_law_270 dL_law_271 dL_law_272 dL_law_273 (by decide) h0 (by omega) ?_
  refine l_arg 2 ok dL_law_274 dL_law_275 dL_law_276 dL_law_277 dL_law_278 (by decide) h0 (by omega) ?_
  refine l_call (a := 28) (rest := [.long (lI (rc_keep σ (sv xs (i + 1)) (sv xs (i + 2))))]) ok dL_law_279 mv_L_26 (c_X8_keep X M.2.1 (sc_keep σ (sv xs (i + 1)) (sv xs (i + 2))) (sv xs (i + 1)) (sv xs (i + 2)) (sv_r xs _) (sv_r xs _) ) (Vd.one rfl) rfl rfl ⟨(Nat.le_of_ble_eq_true rfl), (Nat.le_of_ble_eq_true rfl)⟩ rfl rfl (Nat.le_of_ble_eq_true rfl) (fun r ρ hr => ?_)
  obtain ⟨rfl, rfl⟩ := hr
  show LW X b M kc sl (sm_keep (sc_keep σ (sv xs (i + 1)) (sv xs (i + 2))) (sv xs (i + 1)) (sv xs (i + 2))) 282 i [.long (lI (rm_keep (sc_keep σ (sv xs (i + 1)) (sv xs (i + 2))) (sv xs (i + 1)) (sv xs (i + 2)))), .long (lI (rc_keep σ (sv xs (i + 1)) (sv xs (i + 2))))]
  rw [x_keep, ← e_keep h.1]
  exact l_eq ok dL_law_282 dL_law_283 (by decide) (kk _ (K_keep h (sv xs (i + 1)) (sv xs (i + 2))))
set_option maxRecDepth 100000 in
set_option maxHeartbeats 4000000 in
theorem la_world (ok : LOk X b L xs M kc sl) (h : JK σ) (h0 : 0 ≤ i) (h1 : i + 5 < L) (kk : ∀ ρ, JK ρ → LW X b M kc sl ρ 1474 i []) : LW X b M kc sl σ 288 i [] := by
  refine l_x ok dL_law_288 ?_
  refine l_arg 1 ok dL_law_289 dL_law_290 dL_law_291 dL_law_292 dL_law_293 (by decide) h0 (by omega) ?_
  refine l_arg 2 ok dL_law_294 dL_law_295 dL_law_296 dL_law_297 dL_law_298 (by decide) h0 (by omega) ?_
  refine l_arg 3 ok dL_law_299 dL_law_300 dL_law_301 dL_law_302 dL_law_303 (by decide) h0 (by omega) ?_
  refine l_call (a := 0) (rest := []) ok dL_law_304 mv_L_27 (c_X7_world X M.2.1 σ (sv xs (i + 1)) (sv xs (i + 2)) (sv xs (i + 3)) (sv_r xs _) (sv_r xs _) (sv_r xs _) ) (Vd.one rfl) rfl rfl ⟨(Nat.le_of_ble_eq_true rfl), (Nat.le_of_ble_eq_true rfl)⟩ rfl rfl (Nat.le_of_ble_eq_true rfl) (fun r τ hr => ?_)
  obtain ⟨rfl, rfl⟩ := hr
  have hm := jm_world h.m (sv xs (i + 1)) (sv xs (i + 2)) (sv xs (i + 3))
  show LW X b M kc sl (sc_world σ (sv xs (i + 1)) (sv xs (i + 2)) (sv xs (i + 3))) 307 i [.long (lI (rc_world (sv xs (i + 1)) (sv xs (i + 2)) (sv xs (i + 3))))]
  refine l_m ok dL_law_307 ?_
  refine l_arg 1 ok dL_law_308 dL_law_309 dL_law_310 dL_law_311 dL_law_312 (by decide) h0 (by omega) ?_
  refine l_arg 2 ok dL_law_313 dL_law_314 dL_law_315 dL_law_316 dL_law_317 (by decide) h0 (by omega) ?_
  refine l_arg 3 ok dL_law_318 dL_law_319 dL_law_320 dL_law_321 dL_law_322 (by decide) h0 (by omega) ?_
  refine l_call (a := 28) (rest := [.long (lI (rc_world (sv xs (i + 1)) (sv xs (i + 2)) (sv xs (i + 3))))]) ok dL_law_323 mv_L_31 (c_X8_world X M.2.1 (sc_world σ (sv xs (i + 1)) (sv xs (i + 2)) (sv xs (i + 3))) (sv xs (i + 1)) (sv xs (i + 2)) (sv xs (i + 3)) (sv_r xs _) (sv_r xs _) (sv_r xs _) ) (Vd.one rfl) rfl rfl ⟨(Nat.le_of_ble_eq_true rfl), (Nat.le_of_ble_eq_true rfl)⟩ rfl rfl (Nat.le_of_ble_eq_true rfl) (fun r ρ hr => ?_)
  obtain ⟨rfl, rfl⟩ := hr
  show LW X b M kc sl (sm_world (sc_world σ (sv xs (i + 1)) (sv xs (i + 2)) (sv xs (i + 3))) (sv xs (i + 1)) (sv xs (i + 2)) (sv xs (i + 3))) 326 i [.long (lI (rm_world (sc_world σ (sv xs (i + 1)) (sv xs (i + 2)) (sv xs (i + 3))) (sv xs (i + 1)) (sv xs (i + 2)) (sv xs (i + 3)))), .long (lI (rc_world (sv xs (i + 1)) (sv xs (i + 2)) (sv xs (i + 3))))]
  rw [x_world, ← e_world h.1]
  exact l_eq ok dL_law_326 dL_law_327 (by decide) (kk _ (K_world h (sv xs (i + 1)) (sv xs (i + 2)) (sv xs (i + 3))))
set_option maxRecDepth 100000 in
set_option maxHeartbeats 4000000 in
theorem la_lose (ok : LOk X b L xs M kc sl) (h : JK σ) (h0 : 0 ≤ i) (h1 : i + 5 < L) (kk : ∀ ρ, JK ρ → LW X b M kc sl ρ 1474 i []) : LW X b M kc sl σ 332 i [] := by
  refine l_x ok dL_law_332 ?_
  refine l_arg 1 ok dL_law_333 dL_law_334 dL_law_335 dL_law_336 dL_law_337 (by decide) h0 (by omega) ?_
  refine l_call (a := 0) (rest := []) ok dL_law_338 mv_L_32 (c_X7_lose X M.2.1 σ (sv xs (i + 1)) (sv_r xs _) (jCP h.1)) (Vd.one rfl) rfl rfl ⟨(Nat.le_of_ble_eq_true rfl), (Nat.le_of_ble_eq_true rfl)⟩ rfl rfl (Nat.le_of_ble_eq_true rfl) (fun r τ hr => ?_)
  obtain ⟨rfl, rfl⟩ := hr
  have hm := jm_lose h.m (sv xs (i + 1))
  show LW X b M kc sl (sc_lose σ (sv xs (i + 1))) 341 i [.long (lI (rc_lose σ (sv xs (i + 1))))]
  refine l_m ok dL_law_341 ?_
  refine l_arg 1 ok dL_law_342 dL_law_343 dL_law_344 dL_law_345 dL_law_346 (by decide) h0 (by omega) ?_
  refine l_call (a := 28) (rest := [.long (lI (rc_lose σ (sv xs (i + 1))))]) ok dL_law_347 mv_L_35 (c_X8_lose X M.2.1 (sc_lose σ (sv xs (i + 1))) (sv xs (i + 1)) (sv_r xs _) ) (Vd.one rfl) rfl rfl ⟨(Nat.le_of_ble_eq_true rfl), (Nat.le_of_ble_eq_true rfl)⟩ rfl rfl (Nat.le_of_ble_eq_true rfl) (fun r ρ hr => ?_)
  obtain ⟨rfl, rfl⟩ := hr
  show LW X b M kc sl (sm_lose (sc_lose σ (sv xs (i + 1))) (sv xs (i + 1))) 350 i [.long (lI (rm_lose (sc_lose σ (sv xs (i + 1))) (sv xs (i + 1)))), .long (lI (rc_lose σ (sv xs (i + 1))))]
  rw [x_lose, ← e_lose h.1]
  exact l_eq ok dL_law_350 dL_law_351 (by decide) (kk _ (K_lose h (sv xs (i + 1))))
set_option maxRecDepth 100000 in
set_option maxHeartbeats 4000000 in
theorem la_price (ok : LOk X b L xs M kc sl) (h : JK σ) (h0 : 0 ≤ i) (h1 : i + 5 < L) (kk : ∀ ρ, JK ρ → LW X b M kc sl ρ 1474 i []) : LW X b M kc sl σ 356 i [] := by
  refine l_x ok dL_law_356 ?_
  refine l_arg 1 ok dL_law_357 dL_law_358 dL_law_359 dL_law_360 dL_law_361 (by decide) h0 (by omega) ?_
  refine l_arg 2 ok dL_law_362 dL_law_363 dL_law_364 dL_law_365 dL_law_366 (by decide) h0 (by omega) ?_
  refine l_arg 3 ok dL_law_367 dL_law_368 dL_law_369 dL_law_370 dL_law_371 (by decide) h0 (by omega) ?_
  refine l_call (a := 0) (rest := []) ok dL_law_372 mv_L_36 (c_X7_price X M.2.1 σ (sv xs (i + 1)) (sv xs (i + 2)) (sv xs (i + 3)) (sv_r xs _) (sv_r xs _) (sv_r xs _) (jCP h.1)) (Vd.one rfl) rfl rfl ⟨(Nat.le_of_ble_eq_true rfl), (Nat.le_of_ble_eq_true rfl)⟩ rfl rfl (Nat.le_of_ble_eq_true rfl) (fun r τ hr => ?_)
  obtain ⟨rfl, rfl⟩ := hr
  have hm := jm_price h.m (sv xs (i + 1)) (sv xs (i + 2)) (sv xs (i + 3))
  show LW X b M kc sl (sc_price σ (sv xs (i + 1)) (sv xs (i + 2)) (sv xs (i + 3))) 375 i [.long (lI (rc_price σ (sv xs (i + 1)) (sv xs (i + 2)) (sv xs (i + 3))))]
  refine l_m ok dL_law_375 ?_
  refine l_arg 1 ok dL_law_376 dL_law_377 dL_law_378 dL_law_379 dL_law_380 (by decide) h0 (by omega) ?_
  refine l_arg 2 ok dL_law_381 dL_law_382 dL_law_383 dL_law_384 dL_law_385 (by decide) h0 (by omega) ?_
  refine l_arg 3 ok dL_law_386 dL_law_387 dL_law_388 dL_law_389 dL_law_390 (by decide) h0 (by omega) ?_
  refine l_call (a := 28) (rest := [.long (lI (rc_price σ (sv xs (i + 1)) (sv xs (i + 2)) (sv xs (i + 3))))]) ok dL_law_391 mv_L_39 (c_X8_price X M.2.1 (sc_price σ (sv xs (i + 1)) (sv xs (i + 2)) (sv xs (i + 3))) (sv xs (i + 1)) (sv xs (i + 2)) (sv xs (i + 3)) (sv_r xs _) (sv_r xs _) (sv_r xs _) hm.2.2.1) (Vd.one rfl) rfl rfl ⟨(Nat.le_of_ble_eq_true rfl), (Nat.le_of_ble_eq_true rfl)⟩ rfl rfl (Nat.le_of_ble_eq_true rfl) (fun r ρ hr => ?_)
  obtain ⟨rfl, rfl⟩ := hr
  show LW X b M kc sl (sm_price (sc_price σ (sv xs (i + 1)) (sv xs (i + 2)) (sv xs (i + 3))) (sv xs (i + 1)) (sv xs (i + 2)) (sv xs (i + 3))) 394 i [.long (lI (rm_price (sc_price σ (sv xs (i + 1)) (sv xs (i + 2)) (sv xs (i + 3))) (sv xs (i + 1)) (sv xs (i + 2)) (sv xs (i + 3)))), .long (lI (rc_price σ (sv xs (i + 1)) (sv xs (i + 2)) (sv xs (i + 3))))]
  rw [x_price, ← e_price h.1]
  exact l_eq ok dL_law_394 dL_law_395 (by decide) (kk _ (K_price h (sv xs (i + 1)) (sv xs (i + 2)) (sv xs (i + 3))))
set_option maxRecDepth 100000 in
set_option maxHeartbeats 4000000 in
theorem la_copy (ok : LOk X b L xs M kc sl) (h : JK σ) (h0 : 0 ≤ i) (h1 : i + 5 < L) (kk : ∀ ρ, JK ρ → LW X b M kc sl ρ 1474 i []) : LW X b M kc sl σ 400 i [] := by
  refine l_x ok dL_law_400 ?_
  refine l_arg 1 ok dL_law_401 dL_law_402 dL_law_403 dL_law_404 dL_law_405 (by decide) h0 (by omega) ?_
  refine l_arg 2 ok dL_law_406 dL_law_407 dL_law_408 dL_law_409 dL_law_410 (by decide) h0 (by omega) ?_
  refine l_arg 3 ok dL_law_411 dL_law_412 dL_law_413 dL_law_414 dL_law_415 (by decide) h0 (by omega) ?_
  refine l_arg 4 ok dL_law_416 dL_law_417 dL_law_418 dL_law_419 dL_law_420 (by decide) h0 (by omega) ?_
  refine l_arg 5 ok dL_law_421 dL_law_422 dL_law_423 dL_law_424 dL_law_425 (by decide) h0 (by omega) ?_
  refine l_call (a := 0) (rest := []) ok dL_law_426 mv_L_40 (c_X7_copy X M.2.1 σ (sv xs (i + 1)) (sv xs (i + 2)) (sv xs (i + 3)) (sv xs (i + 4)) (sv xs (i + 5)) (sv_r xs _) (sv_r xs _) (sv_r xs _) (sv_r xs _) (sv_r xs _) (jCP h.1)) (Vd.one rfl) rfl rfl ⟨(Nat.le_of_ble_eq_true rfl), (Nat.le_of_ble_eq_true rfl)⟩ rfl rfl (Nat.le_of_ble_eq_true rfl) (fun r τ hr => ?_)
  obtain ⟨rfl, rfl⟩ := hr
  have hm := jm_copy h.m (sv xs (i + 1)) (sv xs (i + 2)) (sv xs (i + 3)) (sv xs (i + 4)) (sv xs (i + 5))
  show LW X b M kc sl (sc_copy σ (sv xs (i + 1)) (sv xs (i + 2)) (sv xs (i + 3)) (sv xs (i + 4)) (sv xs (i + 5))) 429 i [.long (lI (rc_copy σ (sv xs (i + 1)) (sv xs (i + 2)) (sv xs (i + 3)) (sv xs (i + 4)) (sv xs (i + 5))))]
  refine l_m ok dL_law_429 ?_
  refine l_arg 1 ok dL_law_430 dL_law_431 dL_law_432 dL_law_433 dL_law_434 (by decide) h0 (by omega) ?_
  refine l_arg 2 ok dL_law_435 dL_law_436 dL_law_437 dL_law_438 dL_law_439 (by decide) h0 (by omega) ?_
  refine l_arg 3 ok dL_law_440 dL_law_441 dL_law_442 dL_law_443 dL_law_444 (by decide) h0 (by omega) ?_
  refine l_arg 4 ok dL_law_445 dL_law_446 dL_law_447 dL_law_448 dL_law_449 (by decide) h0 (by omega) ?_
  refine l_arg 5 ok dL_law_450 dL_law_451 dL_law_452 dL_law_453 dL_law_454 (by decide) h0 (by omega) ?_
  refine l_call (a := 28) (rest := [.long (lI (rc_copy σ (sv xs (i + 1)) (sv xs (i + 2)) (sv xs (i + 3)) (sv xs (i + 4)) (sv xs (i + 5))))]) ok dL_law_455 mv_L_44 (c_X8_copy X M.2.1 (sc_copy σ (sv xs (i + 1)) (sv xs (i + 2)) (sv xs (i + 3)) (sv xs (i + 4)) (sv xs (i + 5))) (sv xs (i + 1)) (sv xs (i + 2)) (sv xs (i + 3)) (sv xs (i + 4)) (sv xs (i + 5)) (sv_r xs _) (sv_r xs _) (sv_r xs _) (sv_r xs _) (sv_r xs _) hm.2.2.1) (Vd.one rfl) rfl rfl ⟨(Nat.le_of_ble_eq_true rfl), (Nat.le_of_ble_eq_true rfl)⟩ rfl rfl (Nat.le_of_ble_eq_true rfl) (fun r ρ hr => ?_)
  obtain ⟨rfl, rfl⟩ := hr
  show LW X b M kc sl (sm_copy (sc_copy σ (sv xs (i + 1)) (sv xs (i + 2)) (sv xs (i + 3)) (sv xs (i + 4)) (sv xs (i + 5))) (sv xs (i + 1)) (sv xs (i + 2)) (sv xs (i + 3)) (sv xs (i + 4)) (sv xs (i + 5))) 458 i [.long (lI (rm_copy (sc_copy σ (sv xs (i + 1)) (sv xs (i + 2)) (sv xs (i + 3)) (sv xs (i + 4)) (sv xs (i + 5))) (sv xs (i + 1)) (sv xs (i + 2)) (sv xs (i + 3)) (sv xs (i + 4)) (sv xs (i + 5)))), .long (lI (rc_copy σ (sv xs (i + 1)) (sv xs (i + 2)) (sv xs (i + 3)) (sv xs (i + 4)) (sv xs (i + 5))))]
  rw [x_copy, ← e_copy h.1]
  exact l_eq ok dL_law_458 dL_law_459 (by decide) (kk _ (K_copy h (sv xs (i + 1)) (sv xs (i + 2)) (sv xs (i + 3)) (sv xs (i + 4)) (sv xs (i + 5))))
set_option maxRecDepth 100000 in
set_option maxHeartbeats 4000000 in
theorem la_told (ok : LOk X b L xs M kc sl) (h : JK σ) (h0 : 0 ≤ i) (h1 : i + 5 < L) (kk : ∀ ρ, JK ρ → LW X b M kc sl ρ 1474 i []) : LW X b M kc sl σ 464 i [] := by
  refine l_x ok dL_law_464 ?_
  refine l_arg 1 ok dL_law_465 dL_law_466 dL_law_467 dL_law_468 dL_law_469 (by decide) h0 (by omega) ?_
  refine l_arg 2 ok dL_law_470 dL_law_471 dL_law_472 dL_law_473 dL_law_474 (by decide) h0 (by omega) ?_
  refine l_call (a := 0) (rest := []) ok dL_law_475 mv_L_45 (c_X7_told X M.2.1 σ (sv xs (i + 1)) (sv xs (i + 2)) (sv_r xs _) (sv_r xs _) (jCP h.1)) (Vd.one rfl) rfl rfl ⟨(Nat.le_of_ble_eq_true rfl), (Nat.le_of_ble_eq_true rfl)⟩ rfl rfl (Nat.le_of_ble_eq_true rfl) (fun r τ hr => ?_)
  obtain ⟨rfl, e⟩ := hr; have e2 := e.symm; subst e2
  have hm := h.m
  show LW X b M kc sl σ 478 i [.long (lI (rc_told σ (sv xs (i + 1)) (sv xs (i + 2))))]
  refine l_m ok dL_law_478 ?_
  refine l_arg 1 ok dL_law_479 dL_law_480 dL_law_481 dL_law_482 dL_law_483 (by decide) h0 (by omega) ?_
  refine l_arg 2 ok dL_law_484 dL_law_485 dL_law_486 dL_law_487 dL_law_488 (by decide) h0 (by omega) ?_
  refine l_call (a := 28) (rest := [.long (lI (rc_told σ (sv xs (i + 1)) (sv xs (i + 2))))]) ok dL_law_489 mv_L_48 (c_X8_told X M.2.1 σ (sv xs (i + 1)) (sv xs (i + 2)) (sv_r xs _) (sv_r xs _) hm.2.2.1) (Vd.one rfl) rfl rfl ⟨(Nat.le_of_ble_eq_true rfl), (Nat.le_of_ble_eq_true rfl)⟩ rfl rfl (Nat.le_of_ble_eq_true rfl) (fun r ρ hr => ?_)
  obtain ⟨rfl, e⟩ := hr; have e2 := e.symm; subst e2
  show LW X b M kc sl σ 492 i [.long (lI (rm_told σ (sv xs (i + 1)) (sv xs (i + 2)))), .long (lI (rc_told σ (sv xs (i + 1)) (sv xs (i + 2))))]
  rw [← e_told h.1]
  exact l_eq ok dL_law_492 dL_law_493 (by decide) (kk _ (h))
set_option maxRecDepth 100000 in
set_option maxHeartbeats 4000000 in
theorem la_store (ok : LOk X b L xs M kc sl) (h : JK σ) (h0 : 0 ≤ i) (h1 : i + 5 < L) (kk : ∀ ρ, JK ρ → LW X b M kc sl ρ 1474 i []) : LW X b M kc sl σ 498 i [] := by
  refine l_x ok dL_law_498 ?_
  refine l_arg 1 ok dL_law_499 dL_law_500 dL_law_501 dL_law_502 dL_law_503 (by decide) h0 (by omega) ?_
  refine l_arg 2 ok dL_law_504 dL_law_505 dL_law_506 dL_law_507 dL_law_508 (by decide) h0 (by omega) ?_
  refine l_arg 3 ok dL_law_509 dL_law_510 dL_law_511 dL_law_512 dL_law_513 (by decide) h0 (by omega) ?_
  refine l_arg 4 ok dL_law_514 dL_law_515 dL_law_516 dL_law_517 dL_law_518 (by decide) h0 (by omega) ?_
  refine l_arg 5 ok dL_law_519 dL_law_520 dL_law_521 dL_law_522 dL_law_523 (by decide) h0 (by omega) ?_
  refine l_call (a := 0) (rest := []) ok dL_law_524 mv_L_49 (c_X7_store X M.2.1 σ (sv xs (i + 1)) (sv xs (i + 2)) (sv xs (i + 3)) (sv xs (i + 4)) (sv xs (i + 5)) (sv_r xs _) (sv_r xs _) (sv_r xs _) (sv_r xs _) (sv_r xs _) ) (Vd.one rfl) rfl rfl ⟨(Nat.le_of_ble_eq_true rfl), (Nat.le_of_ble_eq_true rfl)⟩ rfl rfl (Nat.le_of_ble_eq_true rfl) (fun r τ hr => ?_)
  obtain ⟨rfl, rfl⟩ := hr
  have hm := jm_store h.m (sv xs (i + 1)) (sv xs (i + 2)) (sv xs (i + 3)) (sv xs (i + 4)) (sv xs (i + 5))
  show LW X b M kc sl (sc_store σ (sv xs (i + 1)) (sv xs (i + 2)) (sv xs (i + 3)) (sv xs (i + 4)) (sv xs (i + 5))) 527 i [.long (lI (rc_store (sv xs (i + 1)) (sv xs (i + 2)) (sv xs (i + 3)) (sv xs (i + 4)) (sv xs (i + 5))))]
  refine l_m ok dL_law_527 ?_
  refine l_arg 1 ok dL_law_528 dL_law_529 dL_law_530 dL_law_531 dL_law_532 (by decide) h0 (by omega) ?_
  refine l_arg 2 ok dL_law_533 dL_law_534 dL_law_535 dL_law_536 dL_law_537 (by decide) h0 (by omega) ?_
  refine l_arg 3 ok dL_law_538 dL_law_539 dL_law_540 dL_law_541 dL_law_542 (by decide) h0 (by omega) ?_
  refine l_arg 4 ok dL_law_543 dL_law_544 dL_law_545 dL_law_546 dL_law_547 (by decide) h0 (by omega) ?_
  refine l_arg 5 ok dL_law_548 dL_law_549 dL_law_550 dL_law_551 dL_law_552 (by decide) h0 (by omega) ?_
  refine l_call (a := 28) (rest := [.long (lI (rc_store (sv xs (i + 1)) (sv xs (i + 2)) (sv xs (i + 3)) (sv xs (i + 4)) (sv xs (i + 5))))]) ok dL_law_553 mv_L_52 (c_X8_store X M.2.1 (sc_store σ (sv xs (i + 1)) (sv xs (i + 2)) (sv xs (i + 3)) (sv xs (i + 4)) (sv xs (i + 5))) (sv xs (i + 1)) (sv xs (i + 2)) (sv xs (i + 3)) (sv xs (i + 4)) (sv xs (i + 5)) (sv_r xs _) (sv_r xs _) (sv_r xs _) (sv_r xs _) (sv_r xs _) hm.2.2.2.1) (Vd.one rfl) rfl rfl ⟨(Nat.le_of_ble_eq_true rfl), (Nat.le_of_ble_eq_true rfl)⟩ rfl rfl (Nat.le_of_ble_eq_true rfl) (fun r ρ hr => ?_)
  obtain ⟨rfl, rfl⟩ := hr
  show LW X b M kc sl (sm_store (sc_store σ (sv xs (i + 1)) (sv xs (i + 2)) (sv xs (i + 3)) (sv xs (i + 4)) (sv xs (i + 5))) (sv xs (i + 1)) (sv xs (i + 2)) (sv xs (i + 3)) (sv xs (i + 4)) (sv xs (i + 5))) 556 i [.long (lI (rm_store (sv xs (i + 1)) (sv xs (i + 2)) (sv xs (i + 3)) (sv xs (i + 4)) (sv xs (i + 5)))), .long (lI (rc_store (sv xs (i + 1)) (sv xs (i + 2)) (sv xs (i + 3)) (sv xs (i + 4)) (sv xs (i + 5))))]
  rw [← e_store (sv xs (i + 1)) (sv xs (i + 2)) (sv xs (i + 3)) (sv xs (i + 4)) (sv xs (i + 5))]
  exact l_eq ok dL_law_556 dL_law_557 (by decide) (kk _ (K_store h (sv xs (i + 1)) (sv xs (i + 2)) (sv xs (i + 3)) (sv xs (i + 4)) (sv xs (i + 5))))
set_option maxRecDepth 100000 in
set_option maxHeartbeats 4000000 in
theorem la_charge (ok : LOk X b L xs M kc sl) (h : JK σ) (h0 : 0 ≤ i) (h1 : i + 5 < L) (kk : ∀ ρ, JK ρ → LW X b M kc sl ρ 1474 i []) : LW X b M kc sl σ 562 i [] := by
  refine l_x ok dL_law_562 ?_
  refine l_arg 1 ok dL_law_563 dL_law_564 dL_law_565 dL_law_566 dL_law_567 (by decide) h0 (by omega) ?_
  refine l_arg 2 ok dL_law_568 dL_law_569 dL_law_570 dL_law_571 dL_law_572 (by decide) h0 (by omega) ?_
  refine l_call (a := 0) (rest := []) ok dL_law_573 mv_L_53 (c_X7_charge X M.2.1 σ (sv xs (i + 1)) (sv xs (i + 2)) (sv_r xs _) (sv_r xs _) (jCS h.1)) (Vd.one rfl) rfl rfl ⟨(Nat.le_of_ble_eq_true rfl), (Nat.le_of_ble_eq_true rfl)⟩ rfl rfl (Nat.le_of_ble_eq_true rfl) (fun r τ hr => ?_)
  obtain ⟨rfl, rfl⟩ := hr
  have hm := jm_charge h.m (sv xs (i + 1)) (sv xs (i + 2))
  show LW X b M kc sl (sc_charge σ (sv xs (i + 1)) (sv xs (i + 2))) 576 i [.long (lI (rc_charge σ (sv xs (i + 1)) (sv xs (i + 2))))]
  refine l_m ok dL_law_576 ?_
  refine l_arg 1 ok dL_law_577 dL_law_578 dL_law_579 dL_law_580 dL_law_581 (by decide) h0 (by omega) ?_
  refine l_arg 2 ok dL_law_582 dL_law_583 dL_law_584 dL_law_585 dL_law_586 (by decide) h0 (by omega) ?_
  refine l_call (a := 28) (rest := [.long (lI (rc_charge σ (sv xs (i + 1)) (sv xs (i + 2))))]) ok dL_law_587 mv_L_56 (c_X8_charge X M.2.1 (sc_charge σ (sv xs (i + 1)) (sv xs (i + 2))) (sv xs (i + 1)) (sv xs (i + 2)) (sv_r xs _) (sv_r xs _) hm.2.2.2.1) (Vd.one rfl) rfl rfl ⟨(Nat.le_of_ble_eq_true rfl), (Nat.le_of_ble_eq_true rfl)⟩ rfl rfl (Nat.le_of_ble_eq_true rfl) (fun r ρ hr => ?_)
  obtain ⟨rfl, rfl⟩ := hr
  show LW X b M kc sl (sm_charge (sc_charge σ (sv xs (i + 1)) (sv xs (i + 2))) (sv xs (i + 1)) (sv xs (i + 2))) 590 i [.long (lI (rm_charge (sc_charge σ (sv xs (i + 1)) (sv xs (i + 2))) (sv xs (i + 1)) (sv xs (i + 2)))), .long (lI (rc_charge σ (sv xs (i + 1)) (sv xs (i + 2))))]
  rw [x_charge, ← e_charge h.1]
  exact l_eq ok dL_law_590 dL_law_591 (by decide) (kk _ (K_charge h (sv xs (i + 1)) (sv xs (i + 2))))
set_option maxRecDepth 100000 in
set_option maxHeartbeats 4000000 in
theorem la_end (ok : LOk X b L xs M kc sl) (h : JK σ) (h0 : 0 ≤ i) (h1 : i + 5 < L) (kk : ∀ ρ, JK ρ → LW X b M kc sl ρ 1474 i []) : LW X b M kc sl σ 596 i [] := by
  refine l_x ok dL_law_596 ?_
  refine l_arg 1 ok dL_law_597 dL_law_598 dL_law_599 dL_law_600 dL_law_601 (by decide) h0 (by omega) ?_
  refine l_arg 2 ok dL_law_602 dL_law_603 dL_law_604 dL_law_605 dL_law_606 (by decide) h0 (by omega) ?_
  refine l_call (a := 0) (rest := []) ok dL_law_607 mv_L_57 (c_X7_end X M.2.1 σ (sv xs (i + 1)) (sv xs (i + 2)) (sv_r xs _) (sv_r xs _) ) (Vd.one rfl) rfl rfl ⟨(Nat.le_of_ble_eq_true rfl), (Nat.le_of_ble_eq_true rfl)⟩ rfl rfl (Nat.le_of_ble_eq_true rfl) (fun r τ hr => ?_)
  obtain ⟨rfl, rfl⟩ := hr
  have hm := jm_end h.m (sv xs (i + 1)) (sv xs (i + 2))
  show LW X b M kc sl (sc_end σ (sv xs (i + 1)) (sv xs (i + 2))) 610 i [.long (lI (rc_end σ (sv xs (i + 1)) (sv xs (i + 2))))]
  refine l_m ok dL_law_610 ?_
  refine l_arg 1 ok dL_law_611 dL_law_612 dL_law_613 dL_law_614 dL_law_615 (by decide) h0 (by omega) ?_
  refine l_arg 2 ok dL_law_616 dL_law_617 dL_law_618 dL_law_619 dL_law_620 (by decide) h0 (by omega) ?_
  refine l_call (a := 28) (rest := [.long (lI (rc_end σ (sv xs (i + 1)) (sv xs (i + 2))))]) ok dL_law_621 mv_L_60 (c_X8_end X M.2.1 (sc_end σ (sv xs (i + 1)) (sv xs (i + 2))) (sv xs (i + 1)) (sv xs (i + 2)) (sv_r xs _) (sv_r xs _) ) (Vd.one rfl) rfl rfl ⟨(Nat.le_of_ble_eq_true rfl), (Nat.le_of_ble_eq_true rfl)⟩ rfl rfl (Nat.le_of_ble_eq_true rfl) (fun r ρ hr => ?_)
  obtain ⟨rfl, rfl⟩ := hr
  show LW X b M kc sl (sm_end (sc_end σ (sv xs (i + 1)) (sv xs (i + 2))) (sv xs (i + 1)) (sv xs (i + 2))) 624 i [.long (lI (rm_end (sc_end σ (sv xs (i + 1)) (sv xs (i + 2))) (sv xs (i + 1)) (sv xs (i + 2)))), .long (lI (rc_end σ (sv xs (i + 1)) (sv xs (i + 2))))]
  rw [x_end, ← e_end h.1]
  exact l_eq ok dL_law_624 dL_law_625 (by decide) (kk _ (K_end h (sv xs (i + 1)) (sv xs (i + 2))))
set_option maxRecDepth 100000 in
set_option maxHeartbeats 4000000 in
theorem la_about (ok : LOk X b L xs M kc sl) (h : JK σ) (h0 : 0 ≤ i) (h1 : i + 5 < L) (kk : ∀ ρ, JK ρ → LW X b M kc sl ρ 1474 i []) : LW X b M kc sl σ 630 i [] := by
  refine l_x ok dL_law_630 ?_
  refine l_arg 1 ok dL_law_631 dL_law_632 dL_law_633 dL_law_634 dL_law_635 (by decide) h0 (by omega) ?_
  refine l_arg 2 ok dL_law_636 dL_law_637 dL_law_638 dL_law_639 dL_law_640 (by decide) h0 (by omega) ?_
  refine l_call (a := 0) (rest := []) ok dL_law_641 mv_L_61 (c_X7_about X M.2.1 σ (sv xs (i + 1)) (sv xs (i + 2)) (sv_r xs _) (sv_r xs _) (jCS h.1)) (Vd.one rfl) rfl rfl ⟨(Nat.le_of_ble_eq_true rfl), (Nat.le_of_ble_eq_true rfl)⟩ rfl rfl (Nat.le_of_ble_eq_true rfl) (fun r τ hr => ?_)
  obtain ⟨rfl, e⟩ := hr; have e2 := e.symm; subst e2
  have hm := h.m
  show LW X b M kc sl σ 644 i [.long (lI (rc_about σ (sv xs (i + 1)) (sv xs (i + 2))))]
  refine l_m ok dL_law_644 ?_
  refine l_arg 1 ok dL_law_645 dL_law_646 dL_law_647 dL_law_648 dL_law_649 (by decide) h0 (by omega) ?_
  refine l_arg 2 ok dL_law_650 dL_law_651 dL_law_652 dL_law_653 dL_law_654 (by decide) h0 (by omega) ?_
  refine l_call (a := 28) (rest := [.long (lI (rc_about σ (sv xs (i + 1)) (sv xs (i + 2))))]) ok dL_law_655 mv_L_64 (c_X8_about X M.2.1 σ (sv xs (i + 1)) (sv xs (i + 2)) (sv_r xs _) (sv_r xs _) hm.2.2.2.1) (Vd.one rfl) rfl rfl ⟨(Nat.le_of_ble_eq_true rfl), (Nat.le_of_ble_eq_true rfl)⟩ rfl rfl (Nat.le_of_ble_eq_true rfl) (fun r ρ hr => ?_)
  obtain ⟨rfl, e⟩ := hr; have e2 := e.symm; subst e2
  show LW X b M kc sl σ 658 i [.long (lI (rm_about σ (sv xs (i + 1)) (sv xs (i + 2)))), .long (lI (rc_about σ (sv xs (i + 1)) (sv xs (i + 2))))]
  rw [← e_about h.1]
  exact l_eq ok dL_law_658 dL_law_659 (by decide) (kk _ (h))
set_option maxRecDepth 100000 in
set_option maxHeartbeats 4000000 in
theorem la_isOf (ok : LOk X b L xs M kc sl) (h : JK σ) (h0 : 0 ≤ i) (h1 : i + 5 < L) (kk : ∀ ρ, JK ρ → LW X b M kc sl ρ 1474 i []) : LW X b M kc sl σ 664 i [] := by
  refine l_x ok dL_law_664 ?_
  refine l_arg 1 ok dL_law_665 dL_law_666 dL_law_667 dL_law_668 dL_law_669 (by decide) h0 (by omega) ?_
  refine l_arg 2 ok dL_law_670 dL_law_671 dL_law_672 dL_law_673 dL_law_674 (by decide) h0 (by omega) ?_
  refine l_call (a := 0) (rest := []) ok dL_law_675 mv_L_65 (c_X7_isOf X M.2.1 σ (sv xs (i + 1)) (sv xs (i + 2)) (sv_r xs _) (sv_r xs _) ) (Vd.one rfl) rfl rfl ⟨(Nat.le_of_ble_eq_true rfl), (Nat.le_of_ble_eq_true rfl)⟩ rfl rfl (Nat.le_of_ble_eq_true rfl) (fun r τ hr => ?_)
  obtain ⟨rfl, e⟩ := hr; have e2 := e.symm; subst e2
  have hm := h.m
  show LW X b M kc sl σ 678 i [.long (lI (rc_isOf σ (sv xs (i + 1)) (sv xs (i + 2))))]
  refine l_m ok dL_law_678 ?_
  refine l_arg 1 ok dL_law_679 dL_law_680 dL_law_681 dL_law_682 dL_law_683 (by decide) h0 (by omega) ?_
  refine l_arg 2 ok dL_law_684 dL_law_685 dL_law_686 dL_law_687 dL_law_688 (by decide) h0 (by omega) ?_
  refine l_call (a := 28) (rest := [.long (lI (rc_isOf σ (sv xs (i + 1)) (sv xs (i + 2))))]) ok dL_law_689 mv_L_68 (c_X8_isOf X M.2.1 σ (sv xs (i + 1)) (sv xs (i + 2)) (sv_r xs _) (sv_r xs _) ) (Vd.one rfl) rfl rfl ⟨(Nat.le_of_ble_eq_true rfl), (Nat.le_of_ble_eq_true rfl)⟩ rfl rfl (Nat.le_of_ble_eq_true rfl) (fun r ρ hr => ?_)
  obtain ⟨rfl, e⟩ := hr; have e2 := e.symm; subst e2
  show LW X b M kc sl σ 692 i [.long (lI (rm_isOf σ (sv xs (i + 1)) (sv xs (i + 2)))), .long (lI (rc_isOf σ (sv xs (i + 1)) (sv xs (i + 2))))]
  rw [← e_isOf h.1]
  exact l_eq ok dL_law_692 dL_law_693 (by decide) (kk _ (h))
set_option maxRecDepth 100000 in
set_option maxHeartbeats 4000000 in
theorem la_put (ok : LOk X b L xs M kc sl) (h : JK σ) (h0 : 0 ≤ i) (h1 : i + 5 < L) (kk : ∀ ρ, JK ρ → LW X b M kc sl ρ 1474 i []) : LW X b M kc sl σ 698 i [] := by
  refine l_x ok dL_law_698 ?_
  refine l_arg 1 ok dL_law_699 dL_law_700 dL_law_701 dL_law_702 dL_law_703 (by decide) h0 (by omega) ?_
  refine l_arg 2 ok dL_law_704 dL_law_705 dL_law_706 dL_law_707 dL_law_708 (by decide) h0 (by omega) ?_
  refine l_arg 3 ok dL_law_709 dL_law_710 dL_law_711 dL_law_712 dL_law_713 (by decide) h0 (by omega) ?_
  refine l_call (a := 0) (rest := []) ok dL_law_714 mv_L_69 (c_X7_put X M.2.1 σ (sv xs (i + 1)) (sv xs (i + 2)) (sv xs (i + 3)) (sv_r xs _) (sv_r xs _) (sv_r xs _) (jCT h.1)) (Vd.one rfl) rfl rfl ⟨(Nat.le_of_ble_eq_true rfl), (Nat.le_of_ble_eq_true rfl)⟩ rfl rfl (Nat.le_of_ble_eq_true rfl) (fun r τ hr => ?_)
  obtain ⟨rfl, rfl⟩ := hr
  have hm := jm_put h.m (sv xs (i + 1)) (sv xs (i + 2)) (sv xs (i + 3))
  show LW X b M kc sl (sc_put σ (sv xs (i + 1)) (sv xs (i + 2)) (sv xs (i + 3))) 717 i [.long (lI (rc_put σ (sv xs (i + 1)) (sv xs (i + 2)) (sv xs (i + 3))))]
  refine l_m ok dL_law_717 ?_
  refine l_arg 1 ok dL_law_718 dL_law_719 dL_law_720 dL_law_721 dL_law_722 (by decide) h0 (by omega) ?_
  refine l_arg 2 ok dL_law_723 dL_law_724 dL_law_725 dL_law_726 dL_law_727 (by decide) h0 (by omega) ?_
  refine l_arg 3 ok dL_law_728 dL_law_729 dL_law_730 dL_law_731 dL_law_732 (by decide) h0 (by omega) ?_
  refine l_call (a := 28) (rest := [.long (lI (rc_put σ (sv xs (i + 1)) (sv xs (i + 2)) (sv xs (i + 3))))]) ok dL_law_733 mv_L_72 (c_X8_put X M.2.1 (sc_put σ (sv xs (i + 1)) (sv xs (i + 2)) (sv xs (i + 3))) (sv xs (i + 1)) (sv xs (i + 2)) (sv xs (i + 3)) (sv_r xs _) (sv_r xs _) (sv_r xs _) hm.1) (Vd.one rfl) rfl rfl ⟨(Nat.le_of_ble_eq_true rfl), (Nat.le_of_ble_eq_true rfl)⟩ rfl rfl (Nat.le_of_ble_eq_true rfl) (fun r ρ hr => ?_)
  obtain ⟨rfl, rfl⟩ := hr
  show LW X b M kc sl (sm_put (sc_put σ (sv xs (i + 1)) (sv xs (i + 2)) (sv xs (i + 3))) (sv xs (i + 1)) (sv xs (i + 2)) (sv xs (i + 3))) 736 i [.long (lI (rm_put (sc_put σ (sv xs (i + 1)) (sv xs (i + 2)) (sv xs (i + 3))) (sv xs (i + 1)) (sv xs (i + 2)) (sv xs (i + 3)))), .long (lI (rc_put σ (sv xs (i + 1)) (sv xs (i + 2)) (sv xs (i + 3))))]
  rw [x_put, ← e_put h.1]
  exact l_eq ok dL_law_736 dL_law_737 (by decide) (kk _ (K_put h (sv xs (i + 1)) (sv xs (i + 2)) (sv xs (i + 3))))
set_option maxRecDepth 100000 in
set_option maxHeartbeats 4000000 in
theorem la_planned (ok : LOk X b L xs M kc sl) (h : JK σ) (h0 : 0 ≤ i) (h1 : i + 5 < L) (kk : ∀ ρ, JK ρ → LW X b M kc sl ρ 1474 i []) : LW X b M kc sl σ 742 i [] := by
  refine l_x ok dL_law_742 ?_
  refine l_arg 1 ok dL_law_743 dL_law_744 dL_law_745 dL_law_746 dL_law_747 (by decide) h0 (by omega) ?_
  refine l_arg 2 ok dL_law_748 dL_law_749 dL_law_750 dL_law_751 dL_law_752 (by decide) h0 (by omega) ?_
  refine l_call (a := 0) (rest := []) ok dL_law_753 mv_L_73 (c_X7_planned X M.2.1 σ (sv xs (i + 1)) (sv xs (i + 2)) (sv_r xs _) (sv_r xs _) (jCT h.1)) (Vd.one rfl) rfl rfl ⟨(Nat.le_of_ble_eq_true rfl), (Nat.le_of_ble_eq_true rfl)⟩ rfl rfl (Nat.le_of_ble_eq_true rfl) (fun r τ hr => ?_)
  obtain ⟨rfl, e⟩ := hr; have e2 := e.symm; subst e2
  have hm := h.m
  show LW X b M kc sl σ 756 i [.long (lI (rc_planned σ (sv xs (i + 1)) (sv xs (i + 2))))]
  refine l_m ok dL_law_756 ?_
  refine l_arg 1 ok dL_law_757 dL_law_758 dL_law_759 dL_law_760 dL_law_761 (by decide) h0 (by omega) ?_
  refine l_arg 2 ok dL_law_762 dL_law_763 dL_law_764 dL_law_765 dL_law_766 (by decide) h0 (by omega) ?_
  refine l_call (a := 28) (rest := [.long (lI (rc_planned σ (sv xs (i + 1)) (sv xs (i + 2))))]) ok dL_law_767 mv_L_76 (c_X8_planned X M.2.1 σ (sv xs (i + 1)) (sv xs (i + 2)) (sv_r xs _) (sv_r xs _) hm.1) (Vd.one rfl) rfl rfl ⟨(Nat.le_of_ble_eq_true rfl), (Nat.le_of_ble_eq_true rfl)⟩ rfl rfl (Nat.le_of_ble_eq_true rfl) (fun r ρ hr => ?_)
  obtain ⟨rfl, e⟩ := hr; have e2 := e.symm; subst e2
  show LW X b M kc sl σ 770 i [.long (lI (rm_planned σ (sv xs (i + 1)) (sv xs (i + 2)))), .long (lI (rc_planned σ (sv xs (i + 1)) (sv xs (i + 2))))]
  rw [← e_planned h.1]
  exact l_eq ok dL_law_770 dL_law_771 (by decide) (kk _ (h))
set_option maxRecDepth 100000 in
set_option maxHeartbeats 4000000 in
theorem la_behind (ok : LOk X b L xs M kc sl) (h : JK σ) (h0 : 0 ≤ i) (h1 : i + 5 < L) (kk : ∀ ρ, JK ρ → LW X b M kc sl ρ 1474 i []) : LW X b M kc sl σ 776 i [] := by
  refine l_x ok dL_law_776 ?_
  refine l_arg 1 ok dL_law_777 dL_law_778 dL_law_779 dL_law_780 dL_law_781 (by decide) h0 (by omega) ?_
  refine l_arg 2 ok dL_law_782 dL_law_783 dL_law_784 dL_law_785 dL_law_786 (by decide) h0 (by omega) ?_
  refine l_call (a := 0) (rest := []) ok dL_law_787 mv_L_77 (c_X7_behind X M.2.1 σ (sv xs (i + 1)) (sv xs (i + 2)) (sv_r xs _) (sv_r xs _) (jCS h.1) (jCT h.1) (jCL h.1)) (Vd.one rfl) rfl rfl ⟨(Nat.le_of_ble_eq_true rfl), (Nat.le_of_ble_eq_true rfl)⟩ rfl rfl (Nat.le_of_ble_eq_true rfl) (fun r τ hr => ?_)
  obtain ⟨rfl, e⟩ := hr; have e2 := e.symm; subst e2
  have hm := h.m
  show LW X b M kc sl σ 790 i [.long (lI (rc_behind σ (sv xs (i + 1)) (sv xs (i + 2))))]
  refine l_m ok dL_law_790 ?_
  refine l_arg 1 ok dL_law_791 dL_law_792 dL_law_793 dL_law_794 dL_law_795 (by decide) h0 (by omega) ?_
  refine l_arg 2 ok dL_law_796 dL_law_797 dL_law_798 dL_law_799 dL_law_800 (by decide) h0 (by omega) ?_
  refine l_call (a := 28) (rest := [.long (lI (rc_behind σ (sv xs (i + 1)) (sv xs (i + 2))))]) ok dL_law_801 mv_L_80 (c_X8_behind X M.2.1 σ (sv xs (i + 1)) (sv xs (i + 2)) (sv_r xs _) (sv_r xs _) hm.2.2.2.1 hm.1 hm.2.2.2.2.1) (Vd.one rfl) rfl rfl ⟨(Nat.le_of_ble_eq_true rfl), (Nat.le_of_ble_eq_true rfl)⟩ rfl rfl (Nat.le_of_ble_eq_true rfl) (fun r ρ hr => ?_)
  obtain ⟨rfl, e⟩ := hr; have e2 := e.symm; subst e2
  show LW X b M kc sl σ 804 i [.long (lI (rm_behind σ (sv xs (i + 1)) (sv xs (i + 2)))), .long (lI (rc_behind σ (sv xs (i + 1)) (sv xs (i + 2))))]
  rw [← e_behind h.1]
  exact l_eq ok dL_law_804 dL_law_805 (by decide) (kk _ (h))
set_option maxRecDepth 100000 in
set_option maxHeartbeats 4000000 in
theorem la_why (ok : LOk X b L xs M kc sl) (h : JK σ) (h0 : 0 ≤ i) (h1 : i + 5 < L) (kk : ∀ ρ, JK ρ → LW X b M kc sl ρ 1474 i []) : LW X b M kc sl σ 810 i [] := by
  refine l_x ok dL_law_810 ?_
  refine l_arg 1 ok dL_law_811 dL_law_812 dL_law_813 dL_law_814 dL_law_815 (by decide) h0 (by omega) ?_
  refine l_call (a := 0) (rest := []) ok dL_law_816 mv_L_81 (c_X7_why X M.2.1 σ (sv xs (i + 1)) (sv_r xs _) (jCS h.1) (jCT h.1) (jCK h.1) (jCL h.1)) (Vd.one rfl) rfl rfl ⟨(Nat.le_of_ble_eq_true rfl), (Nat.le_of_ble_eq_true rfl)⟩ rfl rfl (Nat.le_of_ble_eq_true rfl) (fun r τ hr => ?_)
  obtain ⟨rfl, e⟩ := hr; have e2 := e.symm; subst e2
  have hm := h.m
  show LW X b M kc sl σ 819 i [.long (lI (rc_why σ (sv xs (i + 1))))]
  refine l_m ok dL_law_819 ?_
  refine l_arg 1 ok dL_law_820 dL_law_821 dL_law_822 dL_law_823 dL_law_824 (by decide) h0 (by omega) ?_
  refine l_call (a := 28) (rest := [.long (lI (rc_why σ (sv xs (i + 1))))]) ok dL_law_825 mv_L_84 (c_X8_why X M.2.1 σ (sv xs (i + 1)) (sv_r xs _) hm.2.2.2.1 hm.1 hm.2.1 hm.2.2.2.2.1) (Vd.one rfl) rfl rfl ⟨(Nat.le_of_ble_eq_true rfl), (Nat.le_of_ble_eq_true rfl)⟩ rfl rfl (Nat.le_of_ble_eq_true rfl) (fun r ρ hr => ?_)
  obtain ⟨rfl, e⟩ := hr; have e2 := e.symm; subst e2
  show LW X b M kc sl σ 828 i [.long (lI (rm_why σ (sv xs (i + 1)))), .long (lI (rc_why σ (sv xs (i + 1))))]
  rw [← e_why h.1]
  exact l_eq ok dL_law_828 dL_law_829 (by decide) (kk _ (h))
set_option maxRecDepth 100000 in
set_option maxHeartbeats 4000000 in
theorem la_money (ok : LOk X b L xs M kc sl) (h : JK σ) (h0 : 0 ≤ i) (h1 : i + 5 < L) (kk : ∀ ρ, JK ρ → LW X b M kc sl ρ 1474 i []) : LW X b M kc sl σ 834 i [] := by
  refine l_x ok dL_law_834 ?_
  refine l_arg 1 ok dL_law_835 dL_law_836 dL_law_837 dL_law_838 dL_law_839 (by decide) h0 (by omega) ?_
  refine l_arg 2 ok dL_law_840 dL_law_841 dL_law_842 dL_law_843 dL_law_844 (by decide) h0 (by omega) ?_
  refine l_call (a := 0) (rest := []) ok dL_law_845 mv_L_85 (c_X7_money X M.2.1 σ (sv xs (i + 1)) (sv xs (i + 2)) (sv_r xs _) (sv_r xs _) (jCS h.1) (jCT h.1) (jCL h.1) (jCP h.1)) (Vd.one rfl) rfl rfl ⟨(Nat.le_of_ble_eq_true rfl), (Nat.le_of_ble_eq_true rfl)⟩ rfl rfl (Nat.le_of_ble_eq_true rfl) (fun r τ hr => ?_)
  obtain ⟨rfl, e⟩ := hr; have e2 := e.symm; subst e2
  have hm := h.m
  show LW X b M kc sl σ 848 i [.long (lI (rc_money σ (sv xs (i + 1)) (sv xs (i + 2))))]
  refine l_m ok dL_law_848 ?_
  refine l_arg 1 ok dL_law_849 dL_law_850 dL_law_851 dL_law_852 dL_law_853 (by decide) h0 (by omega) ?_
  refine l_arg 2 ok dL_law_854 dL_law_855 dL_law_856 dL_law_857 dL_law_858 (by decide) h0 (by omega) ?_
  refine l_call (a := 28) (rest := [.long (lI (rc_money σ (sv xs (i + 1)) (sv xs (i + 2))))]) ok dL_law_859 mv_L_88 (c_X8_money X M.2.1 σ (sv xs (i + 1)) (sv xs (i + 2)) (sv_r xs _) (sv_r xs _) hm.2.2.2.1 hm.1 hm.2.2.2.2.1 hm.2.2.1) (Vd.one rfl) rfl rfl ⟨(Nat.le_of_ble_eq_true rfl), (Nat.le_of_ble_eq_true rfl)⟩ rfl rfl (Nat.le_of_ble_eq_true rfl) (fun r ρ hr => ?_)
  obtain ⟨rfl, e⟩ := hr; have e2 := e.symm; subst e2
  show LW X b M kc sl σ 862 i [.long (lI (rm_money σ (sv xs (i + 1)) (sv xs (i + 2)))), .long (lI (rc_money σ (sv xs (i + 1)) (sv xs (i + 2))))]
  rw [← e_money h.1]
  exact l_eq ok dL_law_862 dL_law_863 (by decide) (kk _ (h))
set_option maxRecDepth 100000 in
set_option maxHeartbeats 4000000 in
theorem la_worst (ok : LOk X b L xs M kc sl) (h : JK σ) (h0 : 0 ≤ i) (h1 : i + 5 < L) (kk : ∀ ρ, JK ρ → LW X b M kc sl ρ 1474 i []) : LW X b M kc sl σ 868 i [] := by
  refine l_x ok dL_law_868 ?_
  refine l_arg 1 ok dL_law_869 dL_law_870 dL_law_871 dL_law_872 dL_law_873 (by decide) h0 (by omega) ?_
  refine l_arg 2 ok dL_law_874 dL_law_875 dL_law_876 dL_law_877 dL_law_878 (by decide) h0 (by omega) ?_
  refine l_call (a := 0) (rest := []) ok dL_law_879 mv_L_89 (c_X7_worst X M.2.1 σ (sv xs (i + 1)) (sv xs (i + 2)) (sv_r xs _) (sv_r xs _) (jCS h.1) (jCT h.1) (jCL h.1) (jCP h.1)) (Vd.one rfl) rfl rfl ⟨(Nat.le_of_ble_eq_true rfl), (Nat.le_of_ble_eq_true rfl)⟩ rfl rfl (Nat.le_of_ble_eq_true rfl) (fun r τ hr => ?_)
  obtain ⟨rfl, e⟩ := hr; have e2 := e.symm; subst e2
  have hm := h.m
  show LW X b M kc sl σ 882 i [.long (lI (rc_worst σ (sv xs (i + 1)) (sv xs (i + 2))))]
  refine l_m ok dL_law_882 ?_
  refine l_arg 1 ok dL_law_883 dL_law_884 dL_law_885 dL_law_886 dL_law_887 (by decide) h0 (by omega) ?_
  refine l_arg 2 ok dL_law_888 dL_law_889 dL_law_890 dL_law_891 dL_law_892 (by decide) h0 (by omega) ?_
  refine l_call (a := 28) (rest := [.long (lI (rc_worst σ (sv xs (i + 1)) (sv xs (i + 2))))]) ok dL_law_893 mv_L_92 (c_X8_worst X M.2.1 σ (sv xs (i + 1)) (sv xs (i + 2)) (sv_r xs _) (sv_r xs _) hm.2.2.2.1 hm.1 hm.2.2.2.2.1 hm.2.2.1) (Vd.one rfl) rfl rfl ⟨(Nat.le_of_ble_eq_true rfl), (Nat.le_of_ble_eq_true rfl)⟩ rfl rfl (Nat.le_of_ble_eq_true rfl) (fun r ρ hr => ?_)
  obtain ⟨rfl, e⟩ := hr; have e2 := e.symm; subst e2
  show LW X b M kc sl σ 896 i [.long (lI (rm_worst σ (sv xs (i + 1)) (sv xs (i + 2)))), .long (lI (rc_worst σ (sv xs (i + 1)) (sv xs (i + 2))))]
  rw [← e_worst h.1]
  exact l_eq ok dL_law_896 dL_law_897 (by decide) (kk _ (h))
set_option maxRecDepth 100000 in
set_option maxHeartbeats 4000000 in
theorem la_best (ok : LOk X b L xs M kc sl) (h : JK σ) (h0 : 0 ≤ i) (h1 : i + 5 < L) (kk : ∀ ρ, JK ρ → LW X b M kc sl ρ 1474 i []) : LW X b M kc sl σ 902 i [] := by
  refine l_x ok dL_law_902 ?_
  refine l_arg 1 ok dL_law_903 dL_law_904 dL_law_905 dL_law_906 dL_law_907 (by decide) h0 (by omega) ?_
  refine l_arg 2 ok dL_law_908 dL_law_909 dL_law_910 dL_law_911 dL_law_912 (by decide) h0 (by omega) ?_
  refine l_call (a := 0) (rest := []) ok dL_law_913 mv_L_93 (c_X7_best X M.2.1 σ (sv xs (i + 1)) (sv xs (i + 2)) (sv_r xs _) (sv_r xs _) (h.2.2 (sv xs (i + 1))).2.2 ⟨(jCS h.1 (sv xs (i + 1))).2.2.1.1, Int.le_trans (h.2.2 (sv xs (i + 1))).2.1 (h.2.2 (sv xs (i + 1))).2.2⟩ (jCS h.1) (jCT h.1) (jCP h.1) (jCK h.1)) (Vd.one rfl) rfl rfl ⟨(Nat.le_of_ble_eq_true rfl), (Nat.le_of_ble_eq_true rfl)⟩ rfl rfl (Nat.le_of_ble_eq_true rfl) (fun r τ hr => ?_)
  obtain ⟨rfl, ha⟩ := hr
  have hm : JM τ := jm_ag (jm_best h.m (sv xs (i + 1)) (sv xs (i + 2))) ha
  show LW X b M kc sl τ 916 i [.long (lI (rc_best σ (sv xs (i + 1)) (sv xs (i + 2))))]
  refine l_m ok dL_law_916 ?_
  refine l_arg 1 ok dL_law_917 dL_law_918 dL_law_919 dL_law_920 dL_law_921 (by decide) h0 (by omega) ?_
  refine l_arg 2 ok dL_law_922 dL_law_923 dL_law_924 dL_law_925 dL_law_926 (by decide) h0 (by omega) ?_
  refine l_call (a := 28) (rest := [.long (lI (rc_best σ (sv xs (i + 1)) (sv xs (i + 2))))]) ok dL_law_927 mv_L_96 (c_X8_best X M.2.1 τ (sv xs (i + 1)) (sv xs (i + 2)) (sv_r xs _) (sv_r xs _) ⟨(hm.2.2.2.1 (sv xs (i + 1))).2.2.1.1, Int.le_trans (hm.2.2.2.2.2.2.2.2 (sv xs (i + 1))).2 (tops hm.2.2.2.1 (sv xs (i + 1)))⟩ hm.2.2.2.1 hm.1 hm.2.2.1 hm.2.1) (Vd.one rfl) rfl rfl ⟨(Nat.le_of_ble_eq_true rfl), (Nat.le_of_ble_eq_true rfl)⟩ rfl rfl (Nat.le_of_ble_eq_true rfl) (fun r ρ hr => ?_)
  obtain ⟨rfl, hb⟩ := hr
  show LW X b M kc sl ρ 930 i [.long (lI (rm_best τ (sv xs (i + 1)) (sv xs (i + 2)))), .long (lI (rc_best σ (sv xs (i + 1)) (sv xs (i + 2))))]
  rw [x_best ha, ← e_best h.1]
  exact l_eq ok dL_law_930 dL_law_931 (by decide) (kk _ (K_best h ha hb))
set_option maxRecDepth 100000 in
set_option maxHeartbeats 4000000 in
theorem la_many (ok : LOk X b L xs M kc sl) (h : JK σ) (h0 : 0 ≤ i) (h1 : i + 5 < L) (kk : ∀ ρ, JK ρ → LW X b M kc sl ρ 1474 i []) : LW X b M kc sl σ 936 i [] := by
  refine l_x ok dL_law_936 ?_
  refine l_arg 1 ok dL_law_937 dL_law_938 dL_law_939 dL_law_940 dL_law_941 (by decide) h0 (by omega) ?_
  refine l_arg 2 ok dL_law_942 dL_law_943 dL_law_944 dL_law_945 dL_law_946 (by decide) h0 (by omega) ?_
  refine l_call (a := 0) (rest := []) ok dL_law_947 mv_L_97 (c_X7_many X M.2.1 σ (sv xs (i + 1)) (sv xs (i + 2)) (sv_r xs _) (sv_r xs _) (h.2.2 (sv xs (i + 1))).2.2 ⟨(jCS h.1 (sv xs (i + 1))).2.2.1.1, Int.le_trans (h.2.2 (sv xs (i + 1))).2.1 (h.2.2 (sv xs (i + 1))).2.2⟩ (jCS h.1) (jCT h.1) (jCP h.1) (jCK h.1)) (Vd.one rfl) rfl rfl ⟨(Nat.le_of_ble_eq_true rfl), (Nat.le_of_ble_eq_true rfl)⟩ rfl rfl (Nat.le_of_ble_eq_true rfl) (fun r τ hr => ?_)
  obtain ⟨rfl, ha⟩ := hr
  have hm : JM τ := jm_ag h.m ha
  show LW X b M kc sl τ 950 i [.long (lI (rc_many σ (sv xs (i + 1)) (sv xs (i + 2))))]
  refine l_m ok dL_law_950 ?_
  refine l_arg 1 ok dL_law_951 dL_law_952 dL_law_953 dL_law_954 dL_law_955 (by decide) h0 (by omega) ?_
  refine l_arg 2 ok dL_law_956 dL_law_957 dL_law_958 dL_law_959 dL_law_960 (by decide) h0 (by omega) ?_
  refine l_call (a := 28) (rest := [.long (lI (rc_many σ (sv xs (i + 1)) (sv xs (i + 2))))]) ok dL_law_961 mv_L_100 (c_X8_many X M.2.1 τ (sv xs (i + 1)) (sv xs (i + 2)) (sv_r xs _) (sv_r xs _) ⟨(hm.2.2.2.1 (sv xs (i + 1))).2.2.1.1, Int.le_trans (hm.2.2.2.2.2.2.2.2 (sv xs (i + 1))).2 (tops hm.2.2.2.1 (sv xs (i + 1)))⟩ hm.2.2.2.1 hm.1 hm.2.2.1 hm.2.1) (Vd.one rfl) rfl rfl ⟨(Nat.le_of_ble_eq_true rfl), (Nat.le_of_ble_eq_true rfl)⟩ rfl rfl (Nat.le_of_ble_eq_true rfl) (fun r ρ hr => ?_)
  obtain ⟨rfl, hb⟩ := hr
  show LW X b M kc sl ρ 964 i [.long (lI (rm_many τ (sv xs (i + 1)) (sv xs (i + 2)))), .long (lI (rc_many σ (sv xs (i + 1)) (sv xs (i + 2))))]
  rw [x_many ha, ← e_many h.1]
  exact l_eq ok dL_law_964 dL_law_965 (by decide) (kk _ (K_ag h ha hb))
set_option maxRecDepth 100000 in
set_option maxHeartbeats 4000000 in
theorem la_value (ok : LOk X b L xs M kc sl) (h : JK σ) (h0 : 0 ≤ i) (h1 : i + 5 < L) (kk : ∀ ρ, JK ρ → LW X b M kc sl ρ 1474 i []) : LW X b M kc sl σ 970 i [] := by
  refine l_x ok dL_law_970 ?_
  refine l_arg 1 ok dL_law_971 dL_law_972 dL_law_973 dL_law_974 dL_law_975 (by decide) h0 (by omega) ?_
  refine l_arg 2 ok dL_law_976 dL_law_977 dL_law_978 dL_law_979 dL_law_980 (by decide) h0 (by omega) ?_
  refine l_arg 3 ok dL_law_981 dL_law_982 dL_law_983 dL_law_984 dL_law_985 (by decide) h0 (by omega) ?_
  refine l_arg 4 ok dL_law_986 dL_law_987 dL_law_988 dL_law_989 dL_law_990 (by decide) h0 (by omega) ?_
  refine l_call (a := 0) (rest := []) ok dL_law_991 mv_L_101 (c_X7_value X M.2.1 σ (sv xs (i + 1)) (sv xs (i + 2)) (sv xs (i + 3)) (sv xs (i + 4)) (sv_r xs _) (sv_r xs _) (sv_r xs _) (sv_r xs _) (h.2.2 (sv xs (i + 1))).2.2 ⟨(jCS h.1 (sv xs (i + 1))).2.2.1.1, Int.le_trans (h.2.2 (sv xs (i + 1))).2.1 (h.2.2 (sv xs (i + 1))).2.2⟩ (jCS h.1) (jCT h.1) (jCP h.1) (jCK h.1)) (Vd.one rfl) rfl rfl ⟨(Nat.le_of_ble_eq_true rfl), (Nat.le_of_ble_eq_true rfl)⟩ rfl rfl (Nat.le_of_ble_eq_true rfl) (fun r τ hr => ?_)
  obtain ⟨rfl, ha⟩ := hr
  have hm : JM τ := jm_ag h.m ha
  show LW X b M kc sl τ 994 i [.long (lI (rc_value σ (sv xs (i + 1)) (sv xs (i + 2)) (sv xs (i + 3)) (sv xs (i + 4))))]
  refine l_m ok dL_law_994 ?_
  refine l_arg 1 ok dL_law_995 dL_law_996 dL_law_997 dL_law_998 dL_law_999 (by decide) h0 (by omega) ?_
  refine l_arg 2 ok dL_law_1000 dL_law_1001 dL_law_1002 dL_law_1003 dL_law_1004 (by decide) h0 (by omega) ?_
  refine l_arg 3 ok dL_law_1005 dL_law_1006 dL_law_1007 dL_law_1008 dL_law_1009 (by decide) h0 (by omega) ?_
  refine l_arg 4 ok dL_law_1010 dL_law_1011 dL_law_1012 dL_law_1013 dL_law_1014 (by decide) h0 (by omega) ?_
  refine l_call (a := 28) (rest := [.long (lI (rc_value σ (sv xs (i + 1)) (sv xs (i + 2)) (sv xs (i + 3)) (sv xs (i + 4))))]) ok dL_law_1015 mv_L_105 (c_X8_value X M.2.1 τ (sv xs (i + 1)) (sv xs (i + 2)) (sv xs (i + 3)) (sv xs (i + 4)) (sv_r xs _) (sv_r xs _) (sv_r xs _) (sv_r xs _) hm.2.2.2.1 hm.1 hm.2.2.1 hm.2.1) (Vd.one rfl) rfl rfl ⟨(Nat.le_of_ble_eq_true rfl), (Nat.le_of_ble_eq_true rfl)⟩ rfl rfl (Nat.le_of_ble_eq_true rfl) (fun r ρ hr => ?_)
  obtain ⟨rfl, hb⟩ := hr
  show LW X b M kc sl ρ 1018 i [.long (lI (rm_value τ (sv xs (i + 1)) (sv xs (i + 2)) (sv xs (i + 3)) (sv xs (i + 4)))), .long (lI (rc_value σ (sv xs (i + 1)) (sv xs (i + 2)) (sv xs (i + 3)) (sv xs (i + 4))))]
  rw [x_value ha, ← e_value h.1]
  exact l_eq ok dL_law_1018 dL_law_1019 (by decide) (kk _ (K_ag h ha hb))
set_option maxRecDepth 100000 in
set_option maxHeartbeats 4000000 in
theorem la_bid (ok : LOk X b L xs M kc sl) (h : JK σ) (h0 : 0 ≤ i) (h1 : i + 5 < L) (kk : ∀ ρ, JK ρ → LW X b M kc sl ρ 1474 i []) : LW X b M kc sl σ 1024 i [] := by
  refine l_x ok dL_law_1024 ?_
  refine l_arg 1 ok dL_law_1025 dL_law_1026 dL_law_1027 dL_law_1028 dL_law_1029 (by decide) h0 (by omega) ?_
  refine l_arg 2 ok dL_law_1030 dL_law_1031 dL_law_1032 dL_law_1033 dL_law_1034 (by decide) h0 (by omega) ?_
  refine l_arg 3 ok dL_law_1035 dL_law_1036 dL_law_1037 dL_law_1038 dL_law_1039 (by decide) h0 (by omega) ?_
  refine l_arg 4 ok dL_law_1040 dL_law_1041 dL_law_1042 dL_law_1043 dL_law_1044 (by decide) h0 (by omega) ?_
  refine l_call (a := 0) (rest := []) ok dL_law_1045 mv_L_106 (c_X7_bid X M.2.1 σ (sv xs (i + 1)) (sv xs (i + 2)) (sv xs (i + 3)) (sv xs (i + 4)) (sv_r xs _) (sv_r xs _) (sv_r xs _) (sv_r xs _) (jCT h.1) (jCD h.1)) (Vd.one rfl) rfl rfl ⟨(Nat.le_of_ble_eq_true rfl), (Nat.le_of_ble_eq_true rfl)⟩ rfl rfl (Nat.le_of_ble_eq_true rfl) (fun r τ hr => ?_)
  obtain ⟨rfl, rfl⟩ := hr
  have hm := jm_bid h.m (sv xs (i + 1)) (sv xs (i + 2)) (sv xs (i + 3)) (sv xs (i + 4))
  show LW X b M kc sl (sc_bid σ (sv xs (i + 1)) (sv xs (i + 2)) (sv xs (i + 3)) (sv xs (i + 4))) 1048 i [.long (lI (rc_bid σ (sv xs (i + 1)) (sv xs (i + 2)) (sv xs (i + 3)) (sv xs (i + 4))))]
  refine l_m ok dL_law_1048 ?_
  refine l_arg 1 ok dL_law_1049 dL_law_1050 dL_law_1051 dL_law_1052 dL_law_1053 (by decide) h0 (by omega) ?_
  refine l_arg 2 ok dL_law_1054 dL_law_1055 dL_law_1056 dL_law_1057 dL_law_1058 (by decide) h0 (by omega) ?_
  refine l_arg 3 ok dL_law_1059 dL_law_1060 dL_law_1061 dL_law_1062 dL_law_1063 (by decide) h0 (by omega) ?_
  refine l_arg 4 ok dL_law_1064 dL_law_1065 dL_law_1066 dL_law_1067 dL_law_1068 (by decide) h0 (by omega) ?_
  refine l_call (a := 28) (rest := [.long (lI (rc_bid σ (sv xs (i + 1)) (sv xs (i + 2)) (sv xs (i + 3)) (sv xs (i + 4))))]) ok dL_law_1069 mv_L_109 (c_X8_bid X M.2.1 (sc_bid σ (sv xs (i + 1)) (sv xs (i + 2)) (sv xs (i + 3)) (sv xs (i + 4))) (sv xs (i + 1)) (sv xs (i + 2)) (sv xs (i + 3)) (sv xs (i + 4)) (sv_r xs _) (sv_r xs _) (sv_r xs _) (sv_r xs _) hm.1 hm.2.2.2.2.2.1) (Vd.one rfl) rfl rfl ⟨(Nat.le_of_ble_eq_true rfl), (Nat.le_of_ble_eq_true rfl)⟩ rfl rfl (Nat.le_of_ble_eq_true rfl) (fun r ρ hr => ?_)
  obtain ⟨rfl, rfl⟩ := hr
  show LW X b M kc sl (sm_bid (sc_bid σ (sv xs (i + 1)) (sv xs (i + 2)) (sv xs (i + 3)) (sv xs (i + 4))) (sv xs (i + 1)) (sv xs (i + 2)) (sv xs (i + 3)) (sv xs (i + 4))) 1072 i [.long (lI (rm_bid (sc_bid σ (sv xs (i + 1)) (sv xs (i + 2)) (sv xs (i + 3)) (sv xs (i + 4))) (sv xs (i + 1)) (sv xs (i + 2)) (sv xs (i + 3)) (sv xs (i + 4)))), .long (lI (rc_bid σ (sv xs (i + 1)) (sv xs (i + 2)) (sv xs (i + 3)) (sv xs (i + 4))))]
  rw [x_bid, ← e_bid h.1]
  exact l_eq ok dL_law_1072 dL_law_1073 (by decide) (kk _ (K_bid h (sv xs (i + 1)) (sv xs (i + 2)) (sv xs (i + 3)) (sv xs (i + 4))))
set_option maxRecDepth 100000 in
set_option maxHeartbeats 4000000 in
theorem la_unbid (ok : LOk X b L xs M kc sl) (h : JK σ) (h0 : 0 ≤ i) (h1 : i + 5 < L) (kk : ∀ ρ, JK ρ → LW X b M kc sl ρ 1474 i []) : LW X b M kc sl σ 1078 i [] := by
  refine l_x ok dL_law_1078 ?_
  refine l_call (a := 0) (rest := []) ok dL_law_1079 mv_L_110 (c_X7_unbid X M.2.1 σ   (jCD h.1)) (Vd.one rfl) rfl rfl ⟨(Nat.le_of_ble_eq_true rfl), (Nat.le_of_ble_eq_true rfl)⟩ rfl rfl (Nat.le_of_ble_eq_true rfl) (fun r τ hr => ?_)
  obtain ⟨rfl, rfl⟩ := hr
  have hm := jm_unbid h.m 
  show LW X b M kc sl (sc_unbid σ ) 1082 i [.long (lI (rc_unbid σ ))]
  refine l_m ok dL_law_1082 ?_
  refine l_call (a := 28) (rest := [.long (lI (rc_unbid σ ))]) ok dL_law_1083 mv_L_114 (c_X8_unbid X M.2.1 (sc_unbid σ )   hm.2.2.2.2.2.1) (Vd.one rfl) rfl rfl ⟨(Nat.le_of_ble_eq_true rfl), (Nat.le_of_ble_eq_true rfl)⟩ rfl rfl (Nat.le_of_ble_eq_true rfl) (fun r ρ hr => ?_)
  obtain ⟨rfl, rfl⟩ := hr
  show LW X b M kc sl (sm_unbid (sc_unbid σ ) ) 1086 i [.long (lI (rm_unbid (sc_unbid σ ) )), .long (lI (rc_unbid σ ))]
  rw [x_unbid, ← e_unbid h.1]
  exact l_eq ok dL_law_1086 dL_law_1087 (by decide) (kk _ (K_unbid h ))
set_option maxRecDepth 100000 in
set_option maxHeartbeats 4000000 in
theorem la_taken (ok : LOk X b L xs M kc sl) (h : JK σ) (h0 : 0 ≤ i) (h1 : i + 5 < L) (kk : ∀ ρ, JK ρ → LW X b M kc sl ρ 1474 i []) : LW X b M kc sl σ 1092 i [] := by
  refine l_x ok dL_law_1092 ?_
  refine l_arg 1 ok dL_law_1093 dL_law_1094 dL_law_1095 dL_law_1096 dL_law_1097 (by decide) h0 (by omega) ?_
  refine l_arg 2 ok dL_law_1098 dL_law_1099 dL_law_1100 dL_law_1101 dL_law_1102 (by decide) h0 (by omega) ?_
  refine l_call (a := 0) (rest := []) ok dL_law_1103 mv_L_115 (c_X7_taken X M.2.1 σ (sv xs (i + 1)) (sv xs (i + 2)) (sv_r xs _) (sv_r xs _) (jCP h.1) (jCD h.1)) (Vd.one rfl) rfl rfl ⟨(Nat.le_of_ble_eq_true rfl), (Nat.le_of_ble_eq_true rfl)⟩ rfl rfl (Nat.le_of_ble_eq_true rfl) (fun r τ hr => ?_)
  obtain ⟨rfl, e⟩ := hr; have e2 := e.symm; subst e2
  have hm := h.m
  show LW X b M kc sl σ 1106 i [.long (lI (rc_taken σ (sv xs (i + 1)) (sv xs (i + 2))))]
  refine l_m ok dL_law_1106 ?_
  refine l_arg 1 ok dL_law_1107 dL_law_1108 dL_law_1109 dL_law_1110 dL_law_1111 (by decide) h0 (by omega) ?_
  refine l_arg 2 ok dL_law_1112 dL_law_1113 dL_law_1114 dL_law_1115 dL_law_1116 (by decide) h0 (by omega) ?_
  refine l_call (a := 28) (rest := [.long (lI (rc_taken σ (sv xs (i + 1)) (sv xs (i + 2))))]) ok dL_law_1117 mv_L_118 (c_X8_taken X M.2.1 σ (sv xs (i + 1)) (sv xs (i + 2)) (sv_r xs _) (sv_r xs _) hm.2.2.1 hm.2.2.2.2.2.1) (Vd.one rfl) rfl rfl ⟨(Nat.le_of_ble_eq_true rfl), (Nat.le_of_ble_eq_true rfl)⟩ rfl rfl (Nat.le_of_ble_eq_true rfl) (fun r ρ hr => ?_)
  obtain ⟨rfl, e⟩ := hr; have e2 := e.symm; subst e2
  show LW X b M kc sl σ 1120 i [.long (lI (rm_taken σ (sv xs (i + 1)) (sv xs (i + 2)))), .long (lI (rc_taken σ (sv xs (i + 1)) (sv xs (i + 2))))]
  rw [← e_taken h.1]
  exact l_eq ok dL_law_1120 dL_law_1121 (by decide) (kk _ (h))
set_option maxRecDepth 100000 in
set_option maxHeartbeats 4000000 in
theorem la_wanted (ok : LOk X b L xs M kc sl) (h : JK σ) (h0 : 0 ≤ i) (h1 : i + 5 < L) (kk : ∀ ρ, JK ρ → LW X b M kc sl ρ 1474 i []) : LW X b M kc sl σ 1126 i [] := by
  refine l_x ok dL_law_1126 ?_
  refine l_arg 1 ok dL_law_1127 dL_law_1128 dL_law_1129 dL_law_1130 dL_law_1131 (by decide) h0 (by omega) ?_
  refine l_arg 2 ok dL_law_1132 dL_law_1133 dL_law_1134 dL_law_1135 dL_law_1136 (by decide) h0 (by omega) ?_
  refine l_call (a := 0) (rest := []) ok dL_law_1137 mv_L_119 (c_X7_wanted X M.2.1 σ (sv xs (i + 1)) (sv xs (i + 2)) (sv_r xs _) (sv_r xs _) (jCT h.1) (jCP h.1) (jCD h.1)) (Vd.one rfl) rfl rfl ⟨(Nat.le_of_ble_eq_true rfl), (Nat.le_of_ble_eq_true rfl)⟩ rfl rfl (Nat.le_of_ble_eq_true rfl) (fun r τ hr => ?_)
  obtain ⟨rfl, e⟩ := hr; have e2 := e.symm; subst e2
  have hm := h.m
  show LW X b M kc sl σ 1140 i [.long (lI (rc_wanted σ (sv xs (i + 1)) (sv xs (i + 2))))]
  refine l_m ok dL_law_1140 ?_
  refine l_arg 1 ok dL_law_1141 dL_law_1142 dL_law_1143 dL_law_1144 dL_law_1145 (by decide) h0 (by omega) ?_
  refine l_arg 2 ok dL_law_1146 dL_law_1147 dL_law_1148 dL_law_1149 dL_law_1150 (by decide) h0 (by omega) ?_
  refine l_call (a := 28) (rest := [.long (lI (rc_wanted σ (sv xs (i + 1)) (sv xs (i + 2))))]) ok dL_law_1151 mv_L_122 (c_X8_wanted X M.2.1 σ (sv xs (i + 1)) (sv xs (i + 2)) (sv_r xs _) (sv_r xs _) hm.1 hm.2.2.1 hm.2.2.2.2.2.1) (Vd.one rfl) rfl rfl ⟨(Nat.le_of_ble_eq_true rfl), (Nat.le_of_ble_eq_true rfl)⟩ rfl rfl (Nat.le_of_ble_eq_true rfl) (fun r ρ hr => ?_)
  obtain ⟨rfl, e⟩ := hr; have e2 := e.symm; subst e2
  show LW X b M kc sl σ 1154 i [.long (lI (rm_wanted σ (sv xs (i + 1)) (sv xs (i + 2)))), .long (lI (rc_wanted σ (sv xs (i + 1)) (sv xs (i + 2))))]
  rw [← e_wanted h.1]
  exact l_eq ok dL_law_1154 dL_law_1155 (by decide) (kk _ (h))
set_option maxRecDepth 100000 in
set_option maxHeartbeats 4000000 in
theorem la_fill (ok : LOk X b L xs M kc sl) (h : JK σ) (h0 : 0 ≤ i) (h1 : i + 5 < L) (kk : ∀ ρ, JK ρ → LW X b M kc sl ρ 1474 i []) : LW X b M kc sl σ 1160 i [] := by
  refine l_x ok dL_law_1160 ?_
  refine l_arg 1 ok dL_law_1161 dL_law_1162 dL_law_1163 dL_law_1164 dL_law_1165 (by decide) h0 (by omega) ?_
  refine l_arg 2 ok dL_law_1166 dL_law_1167 dL_law_1168 dL_law_1169 dL_law_1170 (by decide) h0 (by omega) ?_
  refine l_call (a := 0) (rest := []) ok dL_law_1171 mv_L_123 (c_X7_fill X M.2.1 σ (sv xs (i + 1)) (sv xs (i + 2)) (sv_r xs _) (sv_r xs _) ⟨(h.2.2 (sv xs (i + 1))).1, (h.2.2 (sv xs (i + 1))).2.1⟩ (jCS h.1) (jCT h.1) (jCP h.1) (jCD h.1)) (Vd.one rfl) rfl rfl ⟨(Nat.le_of_ble_eq_true rfl), (Nat.le_of_ble_eq_true rfl)⟩ rfl rfl (Nat.le_of_ble_eq_true rfl) (fun r τ hr => ?_)
  obtain ⟨rfl, rfl⟩ := hr
  have hm := jm_fill h.m (sv xs (i + 1)) (sv xs (i + 2))
  show LW X b M kc sl (sc_fill σ (sv xs (i + 1)) (sv xs (i + 2))) 1174 i [.long (lI (rc_fill σ (sv xs (i + 1)) (sv xs (i + 2))))]
  refine l_m ok dL_law_1174 ?_
  refine l_arg 1 ok dL_law_1175 dL_law_1176 dL_law_1177 dL_law_1178 dL_law_1179 (by decide) h0 (by omega) ?_
  refine l_arg 2 ok dL_law_1180 dL_law_1181 dL_law_1182 dL_law_1183 dL_law_1184 (by decide) h0 (by omega) ?_
  refine l_call (a := 28) (rest := [.long (lI (rc_fill σ (sv xs (i + 1)) (sv xs (i + 2))))]) ok dL_law_1185 mv_L_126 (c_X8_fill X M.2.1 (sc_fill σ (sv xs (i + 1)) (sv xs (i + 2))) (sv xs (i + 1)) (sv xs (i + 2)) (sv_r xs _) (sv_r xs _) (hm.2.2.2.2.2.2.2.2 (sv xs (i + 1))) hm.2.2.2.1 hm.1 hm.2.2.1 hm.2.2.2.2.2.1) (Vd.one rfl) rfl rfl ⟨(Nat.le_of_ble_eq_true rfl), (Nat.le_of_ble_eq_true rfl)⟩ rfl rfl (Nat.le_of_ble_eq_true rfl) (fun r ρ hr => ?_)
  obtain ⟨rfl, rfl⟩ := hr
  show LW X b M kc sl (sm_fill (sc_fill σ (sv xs (i + 1)) (sv xs (i + 2))) (sv xs (i + 1)) (sv xs (i + 2))) 1188 i [.long (lI (rm_fill (sc_fill σ (sv xs (i + 1)) (sv xs (i + 2))) (sv xs (i + 1)) (sv xs (i + 2)))), .long (lI (rc_fill σ (sv xs (i + 1)) (sv xs (i + 2))))]
  rw [x_fill, ← e_fill h.1]
  exact l_eq ok dL_law_1188 dL_law_1189 (by decide) (kk _ (K_fill h (sv xs (i + 1)) (sv xs (i + 2))))
set_option maxRecDepth 100000 in
set_option maxHeartbeats 4000000 in
theorem la_meter (ok : LOk X b L xs M kc sl) (h : JK σ) (h0 : 0 ≤ i) (h1 : i + 5 < L) (kk : ∀ ρ, JK ρ → LW X b M kc sl ρ 1474 i []) : LW X b M kc sl σ 1194 i [] := by
  refine l_x ok dL_law_1194 ?_
  refine l_arg 1 ok dL_law_1195 dL_law_1196 dL_law_1197 dL_law_1198 dL_law_1199 (by decide) h0 (by omega) ?_
  refine l_arg 2 ok dL_law_1200 dL_law_1201 dL_law_1202 dL_law_1203 dL_law_1204 (by decide) h0 (by omega) ?_
  refine l_call (a := 0) (rest := []) ok dL_law_1205 mv_L_127 (c_X7_meter X M.2.1 σ (sv xs (i + 1)) (sv xs (i + 2)) (sv_r xs _) (sv_r xs _) ) (Vd.one rfl) rfl rfl ⟨(Nat.le_of_ble_eq_true rfl), (Nat.le_of_ble_eq_true rfl)⟩ rfl rfl (Nat.le_of_ble_eq_true rfl) (fun r τ hr => ?_)
  obtain ⟨rfl, rfl⟩ := hr
  have hm := jm_meter h.m (sv xs (i + 1)) (sv xs (i + 2))
  show LW X b M kc sl (sc_meter σ (sv xs (i + 1)) (sv xs (i + 2))) 1208 i [.long (lI (rc_meter σ (sv xs (i + 1)) (sv xs (i + 2))))]
  refine l_m ok dL_law_1208 ?_
  refine l_arg 1 ok dL_law_1209 dL_law_1210 dL_law_1211 dL_law_1212 dL_law_1213 (by decide) h0 (by omega) ?_
  refine l_arg 2 ok dL_law_1214 dL_law_1215 dL_law_1216 dL_law_1217 dL_law_1218 (by decide) h0 (by omega) ?_
  refine l_call (a := 28) (rest := [.long (lI (rc_meter σ (sv xs (i + 1)) (sv xs (i + 2))))]) ok dL_law_1219 mv_L_130 (c_X8_meter X M.2.1 (sc_meter σ (sv xs (i + 1)) (sv xs (i + 2))) (sv xs (i + 1)) (sv xs (i + 2)) (sv_r xs _) (sv_r xs _) ) (Vd.one rfl) rfl rfl ⟨(Nat.le_of_ble_eq_true rfl), (Nat.le_of_ble_eq_true rfl)⟩ rfl rfl (Nat.le_of_ble_eq_true rfl) (fun r ρ hr => ?_)
  obtain ⟨rfl, rfl⟩ := hr
  show LW X b M kc sl (sm_meter (sc_meter σ (sv xs (i + 1)) (sv xs (i + 2))) (sv xs (i + 1)) (sv xs (i + 2))) 1222 i [.long (lI (rm_meter (sc_meter σ (sv xs (i + 1)) (sv xs (i + 2))) (sv xs (i + 1)) (sv xs (i + 2)))), .long (lI (rc_meter σ (sv xs (i + 1)) (sv xs (i + 2))))]
  rw [x_meter, ← e_meter h.1]
  exact l_eq ok dL_law_1222 dL_law_1223 (by decide) (kk _ (K_meter h (sv xs (i + 1)) (sv xs (i + 2))))
set_option maxRecDepth 100000 in
set_option maxHeartbeats 4000000 in
theorem la_counts (ok : LOk X b L xs M kc sl) (h : JK σ) (h0 : 0 ≤ i) (h1 : i + 5 < L) (kk : ∀ ρ, JK ρ → LW X b M kc sl ρ 1474 i []) : LW X b M kc sl σ 1228 i [] := by
  refine l_x ok dL_law_1228 ?_
  refine l_arg 1 ok dL_law_1229 dL_law_1230 dL_law_1231 dL_law_1232 dL_law_1233 (by decide) h0 (by omega) ?_
  refine l_call (a := 0) (rest := []) ok dL_law_1234 mv_L_131 (c_X7_counts X M.2.1 σ (sv xs (i + 1)) (sv_r xs _) (jCE h.1)) (Vd.one rfl) rfl rfl ⟨(Nat.le_of_ble_eq_true rfl), (Nat.le_of_ble_eq_true rfl)⟩ rfl rfl (Nat.le_of_ble_eq_true rfl) (fun r τ hr => ?_)
  obtain ⟨rfl, e⟩ := hr; have e2 := e.symm; subst e2
  have hm := h.m
  show LW X b M kc sl σ 1237 i [.long (lI (rc_counts σ (sv xs (i + 1))))]
  refine l_m ok dL_law_1237 ?_
  refine l_arg 1 ok dL_law_1238 dL_law_1239 dL_law_1240 dL_law_1241 dL_law_1242 (by decide) h0 (by omega) ?_
  refine l_call (a := 28) (rest := [.long (lI (rc_counts σ (sv xs (i + 1))))]) ok dL_law_1243 mv_L_134 (c_X8_counts X M.2.1 σ (sv xs (i + 1)) (sv_r xs _) hm.2.2.2.2.2.2.1) (Vd.one rfl) rfl rfl ⟨(Nat.le_of_ble_eq_true rfl), (Nat.le_of_ble_eq_true rfl)⟩ rfl rfl (Nat.le_of_ble_eq_true rfl) (fun r ρ hr => ?_)
  obtain ⟨rfl, e⟩ := hr; have e2 := e.symm; subst e2
  show LW X b M kc sl σ 1246 i [.long (lI (rm_counts σ (sv xs (i + 1)))), .long (lI (rc_counts σ (sv xs (i + 1))))]
  rw [← e_counts h.1]
  exact l_eq ok dL_law_1246 dL_law_1247 (by decide) (kk _ (h))
set_option maxRecDepth 100000 in
set_option maxHeartbeats 4000000 in
theorem la_live (ok : LOk X b L xs M kc sl) (h : JK σ) (h0 : 0 ≤ i) (h1 : i + 5 < L) (kk : ∀ ρ, JK ρ → LW X b M kc sl ρ 1474 i []) : LW X b M kc sl σ 1252 i [] := by
  refine l_x ok dL_law_1252 ?_
  refine l_arg 1 ok dL_law_1253 dL_law_1254 dL_law_1255 dL_law_1256 dL_law_1257 (by decide) h0 (by omega) ?_
  refine l_arg 2 ok dL_law_1258 dL_law_1259 dL_law_1260 dL_law_1261 dL_law_1262 (by decide) h0 (by omega) ?_
  refine l_call (a := 0) (rest := []) ok dL_law_1263 mv_L_135 (c_X7_live X M.2.1 σ (sv xs (i + 1)) (sv xs (i + 2)) (sv_r xs _) (sv_r xs _) (jCS h.1) (jCT h.1) (jCP h.1) (jCR h.1) (jCK h.1) (jCL h.1)) (Vd.one rfl) rfl rfl ⟨(Nat.le_of_ble_eq_true rfl), (Nat.le_of_ble_eq_true rfl)⟩ rfl rfl (Nat.le_of_ble_eq_true rfl) (fun r τ hr => ?_)
  obtain ⟨rfl, rfl⟩ := hr
  have hm := jm_live h.m (sv xs (i + 1)) (sv xs (i + 2))
  show LW X b M kc sl (sc_live σ (sv xs (i + 1)) (sv xs (i + 2))) 1266 i [.long (lI (rc_live σ (sv xs (i + 1)) (sv xs (i + 2))))]
  refine l_m ok dL_law_1266 ?_
  refine l_arg 1 ok dL_law_1267 dL_law_1268 dL_law_1269 dL_law_1270 dL_law_1271 (by decide) h0 (by omega) ?_
  refine l_arg 2 ok dL_law_1272 dL_law_1273 dL_law_1274 dL_law_1275 dL_law_1276 (by decide) h0 (by omega) ?_
  refine l_call (a := 28) (rest := [.long (lI (rc_live σ (sv xs (i + 1)) (sv xs (i + 2))))]) ok dL_law_1277 mv_L_138 (c_X8_live X M.2.1 (sc_live σ (sv xs (i + 1)) (sv xs (i + 2))) (sv xs (i + 1)) (sv xs (i + 2)) (sv_r xs _) (sv_r xs _) hm.2.2.2.1 hm.1 hm.2.2.1 hm.2.2.2.2.2.2.2.1 hm.2.1 hm.2.2.2.2.1) (Vd.one rfl) rfl rfl ⟨(Nat.le_of_ble_eq_true rfl), (Nat.le_of_ble_eq_true rfl)⟩ rfl rfl (Nat.le_of_ble_eq_true rfl) (fun r ρ hr => ?_)
  obtain ⟨rfl, rfl⟩ := hr
  show LW X b M kc sl (sm_live (sc_live σ (sv xs (i + 1)) (sv xs (i + 2))) (sv xs (i + 1)) (sv xs (i + 2))) 1280 i [.long (lI (rm_live (sc_live σ (sv xs (i + 1)) (sv xs (i + 2))) (sv xs (i + 1)) (sv xs (i + 2)))), .long (lI (rc_live σ (sv xs (i + 1)) (sv xs (i + 2))))]
  rw [x_live, ← e_live h.1]
  exact l_eq ok dL_law_1280 dL_law_1281 (by decide) (kk _ (K_live h (sv xs (i + 1)) (sv xs (i + 2))))
set_option maxRecDepth 100000 in
set_option maxHeartbeats 4000000 in
theorem la_row (ok : LOk X b L xs M kc sl) (h : JK σ) (h0 : 0 ≤ i) (h1 : i + 5 < L) (kk : ∀ ρ, JK ρ → LW X b M kc sl ρ 1474 i []) : LW X b M kc sl σ 1286 i [] := by
  refine l_x ok dL_law_1286 ?_
  refine l_arg 1 ok dL_law_1287 dL_law_1288 dL_law_1289 dL_law_1290 dL_law_1291 (by decide) h0 (by omega) ?_
  refine l_arg 2 ok dL_law_1292 dL_law_1293 dL_law_1294 dL_law_1295 dL_law_1296 (by decide) h0 (by omega) ?_
  refine l_call (a := 0) (rest := []) ok dL_law_1297 mv_L_139 (c_X7_row X M.2.1 σ (sv xs (i + 1)) (sv xs (i + 2)) (sv_r xs _) (sv_r xs _) (jCR h.1)) (Vd.one rfl) rfl rfl ⟨(Nat.le_of_ble_eq_true rfl), (Nat.le_of_ble_eq_true rfl)⟩ rfl rfl (Nat.le_of_ble_eq_true rfl) (fun r τ hr => ?_)
  obtain ⟨rfl, e⟩ := hr; have e2 := e.symm; subst e2
  have hm := h.m
  show LW X b M kc sl σ 1300 i [.long (lI (rc_row σ (sv xs (i + 1)) (sv xs (i + 2))))]
  refine l_m ok dL_law_1300 ?_
  refine l_arg 1 ok dL_law_1301 dL_law_1302 dL_law_1303 dL_law_1304 dL_law_1305 (by decide) h0 (by omega) ?_
  refine l_arg 2 ok dL_law_1306 dL_law_1307 dL_law_1308 dL_law_1309 dL_law_1310 (by decide) h0 (by omega) ?_
  refine l_call (a := 28) (rest := [.long (lI (rc_row σ (sv xs (i + 1)) (sv xs (i + 2))))]) ok dL_law_1311 mv_L_142 (c_X8_row X M.2.1 σ (sv xs (i + 1)) (sv xs (i + 2)) (sv_r xs _) (sv_r xs _) hm.2.2.2.2.2.2.2.1) (Vd.one rfl) rfl rfl ⟨(Nat.le_of_ble_eq_true rfl), (Nat.le_of_ble_eq_true rfl)⟩ rfl rfl (Nat.le_of_ble_eq_true rfl) (fun r ρ hr => ?_)
  obtain ⟨rfl, e⟩ := hr; have e2 := e.symm; subst e2
  show LW X b M kc sl σ 1314 i [.long (lI (rm_row σ (sv xs (i + 1)) (sv xs (i + 2)))), .long (lI (rc_row σ (sv xs (i + 1)) (sv xs (i + 2))))]
  rw [← e_row h.1]
  exact l_eq ok dL_law_1314 dL_law_1315 (by decide) (kk _ (h))
set_option maxRecDepth 100000 in
set_option maxHeartbeats 4000000 in
theorem la_forge (ok : LOk X b L xs M kc sl) (h : JK σ) (h0 : 0 ≤ i) (h1 : i + 5 < L) (kk : ∀ ρ, JK ρ → LW X b M kc sl ρ 1474 i []) : LW X b M kc sl σ 1320 i [] := by
  refine l_x ok dL_law_1320 ?_
  refine l_arg 1 ok dL_law_1321 dL_law_1322 dL_law_1323 dL_law_1324 dL_law_1325 (by decide) h0 (by omega) ?_
  refine l_arg 2 ok dL_law_1326 dL_law_1327 dL_law_1328 dL_law_1329 dL_law_1330 (by decide) h0 (by omega) ?_
  refine l_arg 3 ok dL_law_1331 dL_law_1332 dL_law_1333 dL_law_1334 dL_law_1335 (by decide) h0 (by omega) ?_
  refine l_call (a := 0) (rest := []) ok dL_law_1336 mv_L_143 (c_X7_forge X M.2.1 σ (sv xs (i + 1)) (sv xs (i + 2)) (sv xs (i + 3)) (sv_r xs _) (sv_r xs _) (sv_r xs _) (jCR h.1)) (Vd.one rfl) rfl rfl ⟨(Nat.le_of_ble_eq_true rfl), (Nat.le_of_ble_eq_true rfl)⟩ rfl rfl (Nat.le_of_ble_eq_true rfl) (fun r τ hr => ?_)
  obtain ⟨rfl, rfl⟩ := hr
  have hm := jm_forge h.m (sv xs (i + 1)) (sv xs (i + 2)) (sv xs (i + 3))
  show LW X b M kc sl (sc_forge σ (sv xs (i + 1)) (sv xs (i + 2)) (sv xs (i + 3))) 1339 i [.long (lI (rc_forge σ (sv xs (i + 1)) (sv xs (i + 2)) (sv xs (i + 3))))]
  refine l_m ok dL_law_1339 ?_
  refine l_arg 1 ok dL_law_1340 dL_law_1341 dL_law_1342 dL_law_1343 dL_law_1344 (by decide) h0 (by omega) ?_
  refine l_arg 2 ok dL_law_1345 dL_law_1346 dL_law_1347 dL_law_1348 dL_law_1349 (by decide) h0 (by omega) ?_
  refine l_arg 3 ok dL_law_1350 dL_law_1351 dL_law_1352 dL_law_1353 dL_law_1354 (by decide) h0 (by omega) ?_
  refine l_call (a := 28) (rest := [.long (lI (rc_forge σ (sv xs (i + 1)) (sv xs (i + 2)) (sv xs (i + 3))))]) ok dL_law_1355 mv_L_146 (c_X8_forge X M.2.1 (sc_forge σ (sv xs (i + 1)) (sv xs (i + 2)) (sv xs (i + 3))) (sv xs (i + 1)) (sv xs (i + 2)) (sv xs (i + 3)) (sv_r xs _) (sv_r xs _) (sv_r xs _) hm.2.2.2.2.2.2.2.1) (Vd.one rfl) rfl rfl ⟨(Nat.le_of_ble_eq_true rfl), (Nat.le_of_ble_eq_true rfl)⟩ rfl rfl (Nat.le_of_ble_eq_true rfl) (fun r ρ hr => ?_)
  obtain ⟨rfl, rfl⟩ := hr
  show LW X b M kc sl (sm_forge (sc_forge σ (sv xs (i + 1)) (sv xs (i + 2)) (sv xs (i + 3))) (sv xs (i + 1)) (sv xs (i + 2)) (sv xs (i + 3))) 1358 i [.long (lI (rm_forge (sc_forge σ (sv xs (i + 1)) (sv xs (i + 2)) (sv xs (i + 3))) (sv xs (i + 1)) (sv xs (i + 2)) (sv xs (i + 3)))), .long (lI (rc_forge σ (sv xs (i + 1)) (sv xs (i + 2)) (sv xs (i + 3))))]
  rw [x_forge, ← e_forge h.1]
  exact l_eq ok dL_law_1358 dL_law_1359 (by decide) (kk _ (K_forge h (sv xs (i + 1)) (sv xs (i + 2)) (sv xs (i + 3))))
set_option maxRecDepth 100000 in
set_option maxHeartbeats 4000000 in
theorem la_check (ok : LOk X b L xs M kc sl) (h : JK σ) (h0 : 0 ≤ i) (h1 : i + 5 < L) (kk : ∀ ρ, JK ρ → LW X b M kc sl ρ 1474 i []) : LW X b M kc sl σ 1364 i [] := by
  refine l_x ok dL_law_1364 ?_
  refine l_call (a := 0) (rest := []) ok dL_law_1365 mv_L_147 (c_X7_check X M.2.1 σ   (jCS h.1) (jCP h.1) (jCR h.1)) (Vd.one rfl) rfl rfl ⟨(Nat.le_of_ble_eq_true rfl), (Nat.le_of_ble_eq_true rfl)⟩ rfl rfl (Nat.le_of_ble_eq_true rfl) (fun r τ hr => ?_)
  obtain ⟨rfl, e⟩ := hr; have e2 := e.symm; subst e2
  have hm := h.m
  show LW X b M kc sl σ 1368 i [.long (lI (rc_check σ ))]
  refine l_m ok dL_law_1368 ?_
  refine l_call (a := 28) (rest := [.long (lI (rc_check σ ))]) ok dL_law_1369 mv_L_150 (c_X8_check X M.2.1 σ   hm.2.2.2.2.2.2.2.1 hm.2.2.2.1 hm.2.2.1) (Vd.one rfl) rfl rfl ⟨(Nat.le_of_ble_eq_true rfl), (Nat.le_of_ble_eq_true rfl)⟩ rfl rfl (Nat.le_of_ble_eq_true rfl) (fun r ρ hr => ?_)
  obtain ⟨rfl, e⟩ := hr; have e2 := e.symm; subst e2
  show LW X b M kc sl σ 1372 i [.long (lI (rm_check σ )), .long (lI (rc_check σ ))]
  rw [← e_check h.1]
  exact l_eq ok dL_law_1372 dL_law_1373 (by decide) (kk _ (h))
set_option maxRecDepth 100000 in
set_option maxHeartbeats 4000000 in
theorem la_shut (ok : LOk X b L xs M kc sl) (h : JK σ) (h0 : 0 ≤ i) (h1 : i + 5 < L) (kk : ∀ ρ, JK ρ → LW X b M kc sl ρ 1474 i []) : LW X b M kc sl σ 1378 i [] := by
  refine l_x ok dL_law_1378 ?_
  refine l_call (a := 0) (rest := []) ok dL_law_1379 mv_L_151 (c_X7_shut X M.2.1 σ   ) (Vd.one rfl) rfl rfl ⟨(Nat.le_of_ble_eq_true rfl), (Nat.le_of_ble_eq_true rfl)⟩ rfl rfl (Nat.le_of_ble_eq_true rfl) (fun r τ hr => ?_)
  obtain ⟨rfl, rfl⟩ := hr
  have hm := jm_shut h.m 
  show LW X b M kc sl (sc_shut σ ) 1382 i [.long (lI (rc_shut σ ))]
  refine l_m ok dL_law_1382 ?_
  refine l_call (a := 28) (rest := [.long (lI (rc_shut σ ))]) ok dL_law_1383 mv_L_154 (c_X8_shut X M.2.1 (sc_shut σ )   ) (Vd.one rfl) rfl rfl ⟨(Nat.le_of_ble_eq_true rfl), (Nat.le_of_ble_eq_true rfl)⟩ rfl rfl (Nat.le_of_ble_eq_true rfl) (fun r ρ hr => ?_)
  obtain ⟨rfl, rfl⟩ := hr
  show LW X b M kc sl (sm_shut (sc_shut σ ) ) 1386 i [.long (lI (rm_shut (sc_shut σ ) )), .long (lI (rc_shut σ ))]
  rw [x_shut, ← e_shut h.1]
  exact l_eq ok dL_law_1386 dL_law_1387 (by decide) (kk _ (K_shut h ))
set_option maxRecDepth 100000 in
set_option maxHeartbeats 4000000 in
theorem la_warrant (ok : LOk X b L xs M kc sl) (h : JK σ) (h0 : 0 ≤ i) (h1 : i + 5 < L) (kk : ∀ ρ, JK ρ → LW X b M kc sl ρ 1474 i []) : LW X b M kc sl σ 1392 i [] := by
  refine l_x ok dL_law_1392 ?_
  refine l_arg 1 ok dL_law_1393 dL_law_1394 dL_law_1395 dL_law_1396 dL_law_1397 (by decide) h0 (by omega) ?_
  refine l_arg 2 ok dL_law_1398 dL_law_1399 dL_law_1400 dL_law_1401 dL_law_1402 (by decide) h0 (by omega) ?_
  refine l_call (a := 0) (rest := []) ok dL_law_1403 mv_L_155 (c_X7_warrant X M.2.1 σ (sv xs (i + 1)) (sv xs (i + 2)) (sv_r xs _) (sv_r xs _) ) (Vd.one rfl) rfl rfl ⟨(Nat.le_of_ble_eq_true rfl), (Nat.le_of_ble_eq_true rfl)⟩ rfl rfl (Nat.le_of_ble_eq_true rfl) (fun r τ hr => ?_)
  obtain ⟨rfl, rfl⟩ := hr
  have hm := jm_warrant h.m (sv xs (i + 1)) (sv xs (i + 2))
  show LW X b M kc sl (sc_warrant σ (sv xs (i + 1)) (sv xs (i + 2))) 1406 i [.long (lI (rc_warrant σ (sv xs (i + 1)) (sv xs (i + 2))))]
  refine l_m ok dL_law_1406 ?_
  refine l_arg 1 ok dL_law_1407 dL_law_1408 dL_law_1409 dL_law_1410 dL_law_1411 (by decide) h0 (by omega) ?_
  refine l_arg 2 ok dL_law_1412 dL_law_1413 dL_law_1414 dL_law_1415 dL_law_1416 (by decide) h0 (by omega) ?_
  refine l_call (a := 28) (rest := [.long (lI (rc_warrant σ (sv xs (i + 1)) (sv xs (i + 2))))]) ok dL_law_1417 mv_L_158 (c_X8_warrant X M.2.1 (sc_warrant σ (sv xs (i + 1)) (sv xs (i + 2))) (sv xs (i + 1)) (sv xs (i + 2)) (sv_r xs _) (sv_r xs _) ) (Vd.one rfl) rfl rfl ⟨(Nat.le_of_ble_eq_true rfl), (Nat.le_of_ble_eq_true rfl)⟩ rfl rfl (Nat.le_of_ble_eq_true rfl) (fun r ρ hr => ?_)
  obtain ⟨rfl, rfl⟩ := hr
  show LW X b M kc sl (sm_warrant (sc_warrant σ (sv xs (i + 1)) (sv xs (i + 2))) (sv xs (i + 1)) (sv xs (i + 2))) 1420 i [.long (lI (rm_warrant (sc_warrant σ (sv xs (i + 1)) (sv xs (i + 2))) (sv xs (i + 1)) (sv xs (i + 2)))), .long (lI (rc_warrant σ (sv xs (i + 1)) (sv xs (i + 2))))]
  rw [x_warrant, ← e_warrant h.1]
  exact l_eq ok dL_law_1420 dL_law_1421 (by decide) (kk _ (K_warrant h (sv xs (i + 1)) (sv xs (i + 2))))
set_option maxRecDepth 100000 in
set_option maxHeartbeats 4000000 in
theorem la_voided (ok : LOk X b L xs M kc sl) (h : JK σ) (h0 : 0 ≤ i) (h1 : i + 5 < L) (kk : ∀ ρ, JK ρ → LW X b M kc sl ρ 1474 i []) : LW X b M kc sl σ 1426 i [] := by
  refine l_x ok dL_law_1426 ?_
  refine l_arg 1 ok dL_law_1427 dL_law_1428 dL_law_1429 dL_law_1430 dL_law_1431 (by decide) h0 (by omega) ?_
  refine l_call (a := 0) (rest := []) ok dL_law_1432 mv_L_159 (c_X7_voided X M.2.1 σ (sv xs (i + 1)) (sv_r xs _) (jCR h.1) (jCS h.1)) (Vd.one rfl) rfl rfl ⟨(Nat.le_of_ble_eq_true rfl), (Nat.le_of_ble_eq_true rfl)⟩ rfl rfl (Nat.le_of_ble_eq_true rfl) (fun r τ hr => ?_)
  obtain ⟨rfl, e⟩ := hr; have e2 := e.symm; subst e2
  have hm := h.m
  show LW X b M kc sl σ 1435 i [.long (lI (rc_voided σ (sv xs (i + 1))))]
  refine l_m ok dL_law_1435 ?_
  refine l_arg 1 ok dL_law_1436 dL_law_1437 dL_law_1438 dL_law_1439 dL_law_1440 (by decide) h0 (by omega) ?_
  refine l_call (a := 28) (rest := [.long (lI (rc_voided σ (sv xs (i + 1))))]) ok dL_law_1441 mv_L_162 (c_X8_voided X M.2.1 σ (sv xs (i + 1)) (sv_r xs _) hm.2.2.2.2.2.2.2.1 hm.2.2.2.1) (Vd.one rfl) rfl rfl ⟨(Nat.le_of_ble_eq_true rfl), (Nat.le_of_ble_eq_true rfl)⟩ rfl rfl (Nat.le_of_ble_eq_true rfl) (fun r ρ hr => ?_)
  obtain ⟨rfl, e⟩ := hr; have e2 := e.symm; subst e2
  show LW X b M kc sl σ 1444 i [.long (lI (rm_voided σ (sv xs (i + 1)))), .long (lI (rc_voided σ (sv xs (i + 1))))]
  rw [← e_voided h.1]
  exact l_eq ok dL_law_1444 dL_law_1445 (by decide) (kk _ (h))
set_option maxRecDepth 100000 in
set_option maxHeartbeats 4000000 in
theorem la_count (ok : LOk X b L xs M kc sl) (h : JK σ) (h0 : 0 ≤ i) (h1 : i + 5 < L) (kk : ∀ ρ, JK ρ → LW X b M kc sl ρ 1474 i []) : LW X b M kc sl σ 1450 i [] := by
  refine l_x ok dL_law_1450 ?_
  refine l_arg 1 ok dL_law_1451 dL_law_1452 dL_law_1453 dL_law_1454 dL_law_1455 (by decide) h0 (by omega) ?_
  refine l_call (a := 0) (rest := []) ok dL_law_1456 mv_L_163 (c_X7_count X M.2.1 σ (sv xs (i + 1)) (sv_r xs _) (jCR h.1) (jCT h.1) (jCD h.1)) (Vd.one rfl) rfl rfl ⟨(Nat.le_of_ble_eq_true rfl), (Nat.le_of_ble_eq_true rfl)⟩ rfl rfl (Nat.le_of_ble_eq_true rfl) (fun r τ hr => ?_)
  obtain ⟨rfl, e⟩ := hr; have e2 := e.symm; subst e2
  have hm := h.m
  show LW X b M kc sl σ 1459 i [.long (lI (rc_count σ (sv xs (i + 1))))]
  refine l_m ok dL_law_1459 ?_
  refine l_arg 1 ok dL_law_1460 dL_law_1461 dL_law_1462 dL_law_1463 dL_law_1464 (by decide) h0 (by omega) ?_
  refine l_call (a := 28) (rest := [.long (lI (rc_count σ (sv xs (i + 1))))]) ok dL_law_1465 mv_L_166 (c_X8_count X M.2.1 σ (sv xs (i + 1)) (sv_r xs _) hm.2.2.2.2.2.2.2.1 hm.1) (Vd.one rfl) rfl rfl ⟨(Nat.le_of_ble_eq_true rfl), (Nat.le_of_ble_eq_true rfl)⟩ rfl rfl (Nat.le_of_ble_eq_true rfl) (fun r ρ hr => ?_)
  obtain ⟨rfl, e⟩ := hr; have e2 := e.symm; subst e2
  show LW X b M kc sl σ 1468 i [.long (lI (rm_count σ (sv xs (i + 1)))), .long (lI (rc_count σ (sv xs (i + 1))))]
  rw [← e_count h.1]
  exact l_eq ok dL_law_1468 dL_law_1469 (by decide) (kk _ (h))
end CASES
