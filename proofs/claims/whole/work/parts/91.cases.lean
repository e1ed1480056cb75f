/-! the law's cases (laid by wip/whole/law.py) -/
/-- from this place on both are asked the same, and answer alike -/
def LC (pc : Nat) : Prop := ∀ {l : Launch} {D : va_G} {cA : Nat → ClassId} {G : nG} {b L : Nat} {xs : Nat → Int32} {rS : Nat → Nat} {kc ns : Nat} {r r' : Nat → Nat} {j : Nat} {v u : gV}, NX l D cA R_law code 4 room_1 (lP b L xs rS) G → (∀ i, 50 ≤ i → r i = rS i) → kc ≤ room_1.cells → ns ≤ room_1.slots → L ≤ 3584 → j + 7 ≤ L → RelE v u → (∀ v u, RelE v u → G (cw (shC cA r) 50 r v ++ cw (shM cA r') 19 r' u) kc ns [(3, .int (nI j)), (0, .ref b), (1, .ref (r 0)), (2, .ref (r' 0))] 1270 []) → G (cw (shC cA r) 50 r v ++ cw (shM cA r') 19 r' u) kc ns [(3, .int (nI j)), (0, .ref b), (1, .ref (r 0)), (2, .ref (r' 0))] pc []
set_option maxRecDepth 20000 in
theorem lc_set : LC 184 := by
  intro l D cA G b L xs rS kc ns r r' j v u X hr h1 h2 hL hj hR hk
  obtain ⟨xr, v1, u1, e1, e2, hR1⟩ := op_set hR (xs (j + 1)) (xs (j + 2))
  refine n_aload_n X d_law_184 rfl 2 rfl ?_
  refine l_arg X (j := j) (k := 1) 1 0 rfl rfl (by omega) hL (by decide) d_law_185 d_law_186 d_law_187 d_law_188 d_law_189 ?_
  refine l_arg X (j := j) (k := 2) 1 0 rfl rfl (by omega) hL (by decide) d_law_190 d_law_191 d_law_192 d_law_193 d_law_194 ?_
  refine l_callC X (As := [.int (xs (j + 1)), .int (xs (j + 2))]) (st := []) hr kcL5_set kvL5_set klL5_set ⟨rfl, rfl, by decide, by decide⟩ (mX5_set e1) rfl rfl rfl (by decide) rfl h1 h2 d_law_195 ?_
  refine n_aload_n X d_law_198 rfl 3 rfl ?_
  refine l_arg X (j := j) (k := 1) 1 0 rfl rfl (by omega) hL (by decide) d_law_199 d_law_200 d_law_201 d_law_202 d_law_203 ?_
  refine l_arg X (j := j) (k := 2) 1 0 rfl rfl (by omega) hL (by decide) d_law_204 d_law_205 d_law_206 d_law_207 d_law_208 ?_
  refine l_callM X (As := [.int (xs (j + 1)), .int (xs (j + 2))]) (st := [.int xr]) kcL6_set kvL6_set klL6_set ⟨rfl, rfl, by decide, by decide⟩ (mX6_set e2) rfl rfl rfl (Nat.le_of_ble_eq_true rfl) rfl h1 h2 d_law_209 ?_
  refine n_icmp_eq X 1270 d_law_212 (by decide) (fun _ => ?_) (fun c => absurd rfl c)
  exact hk v1 u1 hR1
set_option maxRecDepth 20000 in
theorem lc_count : LC 217 := by
  intro l D cA G b L xs rS kc ns r r' j v u X hr h1 h2 hL hj hR hk
  obtain ⟨xr, v1, u1, e1, e2, hR1⟩ := op_count hR (xs (j + 1))
  refine n_aload_n X d_law_217 rfl 2 rfl ?_
  refine l_arg X (j := j) (k := 1) 1 0 rfl rfl (by omega) hL (by decide) d_law_218 d_law_219 d_law_220 d_law_221 d_law_222 ?_
  refine l_callC X (As := [.int (xs (j + 1))]) (st := []) hr kcL5_count kvL5_count klL5_count ⟨rfl, rfl, by decide, by decide⟩ (mX5_count e1) rfl rfl rfl (by decide) rfl h1 h2 d_law_223 ?_
  refine n_aload_n X d_law_226 rfl 3 rfl ?_
  refine l_arg X (j := j) (k := 1) 1 0 rfl rfl (by omega) hL (by decide) d_law_227 d_law_228 d_law_229 d_law_230 d_law_231 ?_
  refine l_callM X (As := [.int (xs (j + 1))]) (st := [.int xr]) kcL6_count kvL6_count klL6_count ⟨rfl, rfl, by decide, by decide⟩ (mX6_count e2) rfl rfl rfl (Nat.le_of_ble_eq_true rfl) rfl h1 h2 d_law_232 ?_
  refine n_icmp_eq X 1270 d_law_235 (by decide) (fun _ => ?_) (fun c => absurd rfl c)
  exact hk v1 u1 hR1
set_option maxRecDepth 20000 in
theorem lc_feed : LC 240 := by
  intro l D cA G b L xs rS kc ns r r' j v u X hr h1 h2 hL hj hR hk
  obtain ⟨xr, v1, u1, e1, e2, hR1⟩ := op_feed hR (xs (j + 1)) (xs (j + 2)) (xs (j + 3)) (xs (j + 4)) (xs (j + 5)) (xs (j + 6))
  refine n_aload_n X d_law_240 rfl 2 rfl ?_
  refine l_arg X (j := j) (k := 1) 1 0 rfl rfl (by omega) hL (by decide) d_law_241 d_law_242 d_law_243 d_law_244 d_law_245 ?_
  refine l_arg X (j := j) (k := 2) 1 0 rfl rfl (by omega) hL (by decide) d_law_246 d_law_247 d_law_248 d_law_249 d_law_250 ?_
  refine l_arg X (j := j) (k := 3) 1 0 rfl rfl (by omega) hL (by decide) d_law_251 d_law_252 d_law_253 d_law_254 d_law_255 ?_
  refine l_arg X (j := j) (k := 4) 1 0 rfl rfl (by omega) hL (by decide) d_law_256 d_law_257 d_law_258 d_law_259 d_law_260 ?_
  refine l_arg X (j := j) (k := 5) 1 0 rfl rfl (by omega) hL (by decide) d_law_261 d_law_262 d_law_263 d_law_264 d_law_265 ?_
  refine l_arg6 X (j := j) (k := 6) 1 0 rfl rfl (by omega) hL (by decide) d_law_266 d_law_267 d_law_268 d_law_270 d_law_271 ?_
  refine l_callC X (As := [.int (xs (j + 1)), .int (xs (j + 2)), .int (xs (j + 3)), .int (xs (j + 4)), .int (xs (j + 5)), .int (xs (j + 6))]) (st := []) hr kcL5_feed kvL5_feed klL5_feed ⟨rfl, rfl, by decide, by decide⟩ (mX5_feed e1) rfl rfl rfl (by decide) rfl h1 h2 d_law_272 ?_
  refine n_aload_n X d_law_275 rfl 3 rfl ?_
  refine l_arg X (j := j) (k := 1) 1 0 rfl rfl (by omega) hL (by decide) d_law_276 d_law_277 d_law_278 d_law_279 d_law_280 ?_
  refine l_arg X (j := j) (k := 2) 1 0 rfl rfl (by omega) hL (by decide) d_law_281 d_law_282 d_law_283 d_law_284 d_law_285 ?_
  refine l_arg X (j := j) (k := 3) 1 0 rfl rfl (by omega) hL (by decide) d_law_286 d_law_287 d_law_288 d_law_289 d_law_290 ?_
  refine l_arg X (j := j) (k := 4) 1 0 rfl rfl (by omega) hL (by decide) d_law_291 d_law_292 d_law_293 d_law_294 d_law_295 ?_
  refine l_arg X (j := j) (k := 5) 1 0 rfl rfl (by omega) hL (by decide) d_law_296 d_law_297 d_law_298 d_law_299 d_law_300 ?_
  refine l_arg6 X (j := j) (k := 6) 1 0 rfl rfl (by omega) hL (by decide) d_law_301 d_law_302 d_law_303 d_law_305 d_law_306 ?_
  refine l_callM X (As := [.int (xs (j + 1)), .int (xs (j + 2)), .int (xs (j + 3)), .int (xs (j + 4)), .int (xs (j + 5)), .int (xs (j + 6))]) (st := [.int xr]) kcL6_feed kvL6_feed klL6_feed ⟨rfl, rfl, by decide, by decide⟩ (mX6_feed e2) rfl rfl rfl (Nat.le_of_ble_eq_true rfl) rfl h1 h2 d_law_307 ?_
  refine n_icmp_eq X 1270 d_law_310 (by decide) (fun _ => ?_) (fun c => absurd rfl c)
  exact hk v1 u1 hR1
set_option maxRecDepth 20000 in
theorem lc_text : LC 315 := by
  intro l D cA G b L xs rS kc ns r r' j v u X hr h1 h2 hL hj hR hk
  obtain ⟨xr, v1, u1, e1, e2, hR1⟩ := op_text hR
  refine n_aload_n X d_law_315 rfl 2 rfl ?_
  refine l_callC X (As := []) (st := []) hr kcL5_text kvL5_text klL5_text ⟨rfl, rfl, by decide, by decide⟩ (mX5_text e1) rfl rfl rfl (by decide) rfl h1 h2 d_law_316 ?_
  refine n_aload_n X d_law_319 rfl 3 rfl ?_
  refine l_callM X (As := []) (st := [.int xr]) kcL6_text kvL6_text klL6_text ⟨rfl, rfl, by decide, by decide⟩ (mX6_text e2) rfl rfl rfl (Nat.le_of_ble_eq_true rfl) rfl h1 h2 d_law_320 ?_
  refine n_icmp_eq X 1270 d_law_323 (by decide) (fun _ => ?_) (fun c => absurd rfl c)
  exact hk v1 u1 hR1
set_option maxRecDepth 20000 in
theorem lc_force : LC 328 := by
  intro l D cA G b L xs rS kc ns r r' j v u X hr h1 h2 hL hj hR hk
  obtain ⟨xr, v1, u1, e1, e2, hR1⟩ := op_force hR (xs (j + 1))
  refine n_aload_n X d_law_328 rfl 2 rfl ?_
  refine l_arg X (j := j) (k := 1) 1 0 rfl rfl (by omega) hL (by decide) d_law_329 d_law_330 d_law_331 d_law_332 d_law_333 ?_
  refine l_callC X (As := [.int (xs (j + 1))]) (st := []) hr kcL5_force kvL5_force klL5_force ⟨rfl, rfl, by decide, by decide⟩ (mX5_force e1) rfl rfl rfl (by decide) rfl h1 h2 d_law_334 ?_
  refine n_aload_n X d_law_337 rfl 3 rfl ?_
  refine l_arg X (j := j) (k := 1) 1 0 rfl rfl (by omega) hL (by decide) d_law_338 d_law_339 d_law_340 d_law_341 d_law_342 ?_
  refine l_callM X (As := [.int (xs (j + 1))]) (st := [.int xr]) kcL6_force kvL6_force klL6_force ⟨rfl, rfl, by decide, by decide⟩ (mX6_force e2) rfl rfl rfl (Nat.le_of_ble_eq_true rfl) rfl h1 h2 d_law_343 ?_
  refine n_icmp_eq X 1270 d_law_346 (by decide) (fun _ => ?_) (fun c => absurd rfl c)
  exact hk v1 u1 hR1
set_option maxRecDepth 20000 in
theorem lc_asks : LC 351 := by
  intro l D cA G b L xs rS kc ns r r' j v u X hr h1 h2 hL hj hR hk
  obtain ⟨xr, v1, u1, e1, e2, hR1⟩ := op_asks hR (xs (j + 1))
  refine n_aload_n X d_law_351 rfl 2 rfl ?_
  refine l_arg X (j := j) (k := 1) 1 0 rfl rfl (by omega) hL (by decide) d_law_352 d_law_353 d_law_354 d_law_355 d_law_356 ?_
  refine l_callC X (As := [.int (xs (j + 1))]) (st := []) hr kcL5_asks kvL5_asks klL5_asks ⟨rfl, rfl, by decide, by decide⟩ (mX5_asks e1) rfl rfl rfl (by decide) rfl h1 h2 d_law_357 ?_
  refine n_aload_n X d_law_360 rfl 3 rfl ?_
  refine l_arg X (j := j) (k := 1) 1 0 rfl rfl (by omega) hL (by decide) d_law_361 d_law_362 d_law_363 d_law_364 d_law_365 ?_
  refine l_callM X (As := [.int (xs (j + 1))]) (st := [.int xr]) kcL6_asks kvL6_asks klL6_asks ⟨rfl, rfl, by decide, by decide⟩ (mX6_asks e2) rfl rfl rfl (Nat.le_of_ble_eq_true rfl) rfl h1 h2 d_law_366 ?_
  refine n_icmp_eq X 1270 d_law_369 (by decide) (fun _ => ?_) (fun c => absurd rfl c)
  exact hk v1 u1 hR1
set_option maxRecDepth 20000 in
theorem lc_rate : LC 374 := by
  intro l D cA G b L xs rS kc ns r r' j v u X hr h1 h2 hL hj hR hk
  obtain ⟨xr, v1, u1, e1, e2, hR1⟩ := op_rate hR (xs (j + 1)) (xs (j + 2)) (xs (j + 3))
  refine n_aload_n X d_law_374 rfl 2 rfl ?_
  refine l_arg X (j := j) (k := 1) 1 0 rfl rfl (by omega) hL (by decide) d_law_375 d_law_376 d_law_377 d_law_378 d_law_379 ?_
  refine l_arg X (j := j) (k := 2) 1 0 rfl rfl (by omega) hL (by decide) d_law_380 d_law_381 d_law_382 d_law_383 d_law_384 ?_
  refine l_arg X (j := j) (k := 3) 1 0 rfl rfl (by omega) hL (by decide) d_law_385 d_law_386 d_law_387 d_law_388 d_law_389 ?_
  refine l_callC X (As := [.int (xs (j + 1)), .int (xs (j + 2)), .int (xs (j + 3))]) (st := []) hr kcL5_rate kvL5_rate klL5_rate ⟨rfl, rfl, by decide, by decide⟩ (mX5_rate e1) rfl rfl rfl (by decide) rfl h1 h2 d_law_390 ?_
  refine n_aload_n X d_law_393 rfl 3 rfl ?_
  refine l_arg X (j := j) (k := 1) 1 0 rfl rfl (by omega) hL (by decide) d_law_394 d_law_395 d_law_396 d_law_397 d_law_398 ?_
  refine l_arg X (j := j) (k := 2) 1 0 rfl rfl (by omega) hL (by decide) d_law_399 d_law_400 d_law_401 d_law_402 d_law_403 ?_
  refine l_arg X (j := j) (k := 3) 1 0 rfl rfl (by omega) hL (by decide) d_law_404 d_law_405 d_law_406 d_law_407 d_law_408 ?_
  refine l_callM X (As := [.int (xs (j + 1)), .int (xs (j + 2)), .int (xs (j + 3))]) (st := [.int xr]) kcL6_rate kvL6_rate klL6_rate ⟨rfl, rfl, by decide, by decide⟩ (mX6_rate e2) rfl rfl rfl (Nat.le_of_ble_eq_true rfl) rfl h1 h2 d_law_409 ?_
  refine n_icmp_eq X 1270 d_law_412 (by decide) (fun _ => ?_) (fun c => absurd rfl c)
  exact hk v1 u1 hR1
set_option maxRecDepth 20000 in
theorem lc_change : LC 417 := by
  intro l D cA G b L xs rS kc ns r r' j v u X hr h1 h2 hL hj hR hk
  obtain ⟨xr, v1, u1, e1, e2, hR1⟩ := op_change hR (xs (j + 1)) (xs (j + 2)) (xs (j + 3))
  refine n_aload_n X d_law_417 rfl 2 rfl ?_
  refine l_arg X (j := j) (k := 1) 1 0 rfl rfl (by omega) hL (by decide) d_law_418 d_law_419 d_law_420 d_law_421 d_law_422 ?_
  refine l_arg X (j := j) (k := 2) 1 0 rfl rfl (by omega) hL (by decide) d_law_423 d_law_424 d_law_425 d_law_426 d_law_427 ?_
  refine l_arg X (j := j) (k := 3) 1 0 rfl rfl (by omega) hL (by decide) d_law_428 d_law_429 d_law_430 d_law_431 d_law_432 ?_
  refine l_callC X (As := [.int (xs (j + 1)), .int (xs (j + 2)), .int (xs (j + 3))]) (st := []) hr kcL5_change kvL5_change klL5_change ⟨rfl, rfl, by decide, by decide⟩ (mX5_change e1) rfl rfl rfl (by decide) rfl h1 h2 d_law_433 ?_
  refine n_aload_n X d_law_436 rfl 3 rfl ?_
  refine l_arg X (j := j) (k := 1) 1 0 rfl rfl (by omega) hL (by decide) d_law_437 d_law_438 d_law_439 d_law_440 d_law_441 ?_
  refine l_arg X (j := j) (k := 2) 1 0 rfl rfl (by omega) hL (by decide) d_law_442 d_law_443 d_law_444 d_law_445 d_law_446 ?_
  refine l_arg X (j := j) (k := 3) 1 0 rfl rfl (by omega) hL (by decide) d_law_447 d_law_448 d_law_449 d_law_450 d_law_451 ?_
  refine l_callM X (As := [.int (xs (j + 1)), .int (xs (j + 2)), .int (xs (j + 3))]) (st := [.int xr]) kcL6_change kvL6_change klL6_change ⟨rfl, rfl, by decide, by decide⟩ (mX6_change e2) rfl rfl rfl (Nat.le_of_ble_eq_true rfl) rfl h1 h2 d_law_452 ?_
  refine n_icmp_eq X 1270 d_law_455 (by decide) (fun _ => ?_) (fun c => absurd rfl c)
  exact hk v1 u1 hR1
set_option maxRecDepth 20000 in
theorem lc_told : LC 460 := by
  intro l D cA G b L xs rS kc ns r r' j v u X hr h1 h2 hL hj hR hk
  obtain ⟨xr, v1, u1, e1, e2, hR1⟩ := op_told hR (xs (j + 1)) (xs (j + 2))
  refine n_aload_n X d_law_460 rfl 2 rfl ?_
  refine l_arg X (j := j) (k := 1) 1 0 rfl rfl (by omega) hL (by decide) d_law_461 d_law_462 d_law_463 d_law_464 d_law_465 ?_
  refine l_arg X (j := j) (k := 2) 1 0 rfl rfl (by omega) hL (by decide) d_law_466 d_law_467 d_law_468 d_law_469 d_law_470 ?_
  refine l_callC X (As := [.int (xs (j + 1)), .int (xs (j + 2))]) (st := []) hr kcL5_told kvL5_told klL5_told ⟨rfl, rfl, by decide, by decide⟩ (mX5_told e1) rfl rfl rfl (by decide) rfl h1 h2 d_law_471 ?_
  refine n_aload_n X d_law_474 rfl 3 rfl ?_
  refine l_arg X (j := j) (k := 1) 1 0 rfl rfl (by omega) hL (by decide) d_law_475 d_law_476 d_law_477 d_law_478 d_law_479 ?_
  refine l_arg X (j := j) (k := 2) 1 0 rfl rfl (by omega) hL (by decide) d_law_480 d_law_481 d_law_482 d_law_483 d_law_484 ?_
  refine l_callM X (As := [.int (xs (j + 1)), .int (xs (j + 2))]) (st := [.int xr]) kcL6_told kvL6_told klL6_told ⟨rfl, rfl, by decide, by decide⟩ (mX6_told e2) rfl rfl rfl (Nat.le_of_ble_eq_true rfl) rfl h1 h2 d_law_485 ?_
  refine n_icmp_eq X 1270 d_law_488 (by decide) (fun _ => ?_) (fun c => absurd rfl c)
  exact hk v1 u1 hR1
set_option maxRecDepth 20000 in
theorem lc_can : LC 493 := by
  intro l D cA G b L xs rS kc ns r r' j v u X hr h1 h2 hL hj hR hk
  obtain ⟨xr, v1, u1, e1, e2, hR1⟩ := op_can hR (xs (j + 1))
  refine n_aload_n X d_law_493 rfl 2 rfl ?_
  refine l_arg X (j := j) (k := 1) 1 0 rfl rfl (by omega) hL (by decide) d_law_494 d_law_495 d_law_496 d_law_497 d_law_498 ?_
  refine l_callC X (As := [.int (xs (j + 1))]) (st := []) hr kcL5_can kvL5_can klL5_can ⟨rfl, rfl, by decide, by decide⟩ (mX5_can e1) rfl rfl rfl (by decide) rfl h1 h2 d_law_499 ?_
  refine n_aload_n X d_law_502 rfl 3 rfl ?_
  refine l_arg X (j := j) (k := 1) 1 0 rfl rfl (by omega) hL (by decide) d_law_503 d_law_504 d_law_505 d_law_506 d_law_507 ?_
  refine l_callM X (As := [.int (xs (j + 1))]) (st := [.int xr]) kcL6_can kvL6_can klL6_can ⟨rfl, rfl, by decide, by decide⟩ (mX6_can e2) rfl rfl rfl (Nat.le_of_ble_eq_true rfl) rfl h1 h2 d_law_508 ?_
  refine n_icmp_eq X 1270 d_law_511 (by decide) (fun _ => ?_) (fun c => absurd rfl c)
  exact hk v1 u1 hR1
set_option maxRecDepth 20000 in
theorem lc_move : LC 516 := by
  intro l D cA G b L xs rS kc ns r r' j v u X hr h1 h2 hL hj hR hk
  obtain ⟨xr, v1, u1, e1, e2, hR1⟩ := op_move hR (xs (j + 1))
  refine n_aload_n X d_law_516 rfl 2 rfl ?_
  refine l_arg X (j := j) (k := 1) 1 0 rfl rfl (by omega) hL (by decide) d_law_517 d_law_518 d_law_519 d_law_520 d_law_521 ?_
  refine l_callC X (As := [.int (xs (j + 1))]) (st := []) hr kcL5_move kvL5_move klL5_move ⟨rfl, rfl, by decide, by decide⟩ (mX5_move e1) rfl rfl rfl (by decide) rfl h1 h2 d_law_522 ?_
  refine n_aload_n X d_law_525 rfl 3 rfl ?_
  refine l_arg X (j := j) (k := 1) 1 0 rfl rfl (by omega) hL (by decide) d_law_526 d_law_527 d_law_528 d_law_529 d_law_530 ?_
  refine l_callM X (As := [.int (xs (j + 1))]) (st := [.int xr]) kcL6_move kvL6_move klL6_move ⟨rfl, rfl, by decide, by decide⟩ (mX6_move e2) rfl rfl rfl (Nat.le_of_ble_eq_true rfl) rfl h1 h2 d_law_531 ?_
  refine n_icmp_eq X 1270 d_law_534 (by decide) (fun _ => ?_) (fun c => absurd rfl c)
  exact hk v1 u1 hR1
set_option maxRecDepth 20000 in
theorem lc_all : LC 539 := by
  intro l D cA G b L xs rS kc ns r r' j v u X hr h1 h2 hL hj hR hk
  obtain ⟨xr, v1, u1, e1, e2, hR1⟩ := op_all hR (xs (j + 1))
  refine n_aload_n X d_law_539 rfl 2 rfl ?_
  refine l_arg X (j := j) (k := 1) 1 0 rfl rfl (by omega) hL (by decide) d_law_540 d_law_541 d_law_542 d_law_543 d_law_544 ?_
  refine l_callC X (As := [.int (xs (j + 1))]) (st := []) hr kcL5_all kvL5_all klL5_all ⟨rfl, rfl, by decide, by decide⟩ (mX5_all e1) rfl rfl rfl (by decide) rfl h1 h2 d_law_545 ?_
  refine n_aload_n X d_law_548 rfl 3 rfl ?_
  refine l_arg X (j := j) (k := 1) 1 0 rfl rfl (by omega) hL (by decide) d_law_549 d_law_550 d_law_551 d_law_552 d_law_553 ?_
  refine l_callM X (As := [.int (xs (j + 1))]) (st := [.int xr]) kcL6_all kvL6_all klL6_all ⟨rfl, rfl, by decide, by decide⟩ (mX6_all e2) rfl rfl rfl (Nat.le_of_ble_eq_true rfl) rfl h1 h2 d_law_554 ?_
  refine n_icmp_eq X 1270 d_law_557 (by decide) (fun _ => ?_) (fun c => absurd rfl c)
  exact hk v1 u1 hR1
set_option maxRecDepth 20000 in
theorem lc_go : LC 562 := by
  intro l D cA G b L xs rS kc ns r r' j v u X hr h1 h2 hL hj hR hk
  obtain ⟨xr, v1, u1, e1, e2, hR1⟩ := op_go hR (xs (j + 1))
  refine n_aload_n X d_law_562 rfl 2 rfl ?_
  refine l_arg X (j := j) (k := 1) 1 0 rfl rfl (by omega) hL (by decide) d_law_563 d_law_564 d_law_565 d_law_566 d_law_567 ?_
  refine l_callC X (As := [.int (xs (j + 1))]) (st := []) hr kcL5_go kvL5_go klL5_go ⟨rfl, rfl, by decide, by decide⟩ (mX5_go e1) rfl rfl rfl (by decide) rfl h1 h2 d_law_568 ?_
  refine n_aload_n X d_law_571 rfl 3 rfl ?_
  refine l_arg X (j := j) (k := 1) 1 0 rfl rfl (by omega) hL (by decide) d_law_572 d_law_573 d_law_574 d_law_575 d_law_576 ?_
  refine l_callM X (As := [.int (xs (j + 1))]) (st := [.int xr]) kcL6_go kvL6_go klL6_go ⟨rfl, rfl, by decide, by decide⟩ (mX6_go e2) rfl rfl rfl (Nat.le_of_ble_eq_true rfl) rfl h1 h2 d_law_577 ?_
  refine n_icmp_eq X 1270 d_law_580 (by decide) (fun _ => ?_) (fun c => absurd rfl c)
  exact hk v1 u1 hR1
set_option maxRecDepth 20000 in
theorem lc_next : LC 585 := by
  intro l D cA G b L xs rS kc ns r r' j v u X hr h1 h2 hL hj hR hk
  obtain ⟨xr, v1, u1, e1, e2, hR1⟩ := op_next hR (xs (j + 1))
  refine n_aload_n X d_law_585 rfl 2 rfl ?_
  refine l_arg X (j := j) (k := 1) 1 0 rfl rfl (by omega) hL (by decide) d_law_586 d_law_587 d_law_588 d_law_589 d_law_590 ?_
  refine l_callC X (As := [.int (xs (j + 1))]) (st := []) hr kcL5_next kvL5_next klL5_next ⟨rfl, rfl, by decide, by decide⟩ (mX5_next e1) rfl rfl rfl (by decide) rfl h1 h2 d_law_591 ?_
  refine n_aload_n X d_law_594 rfl 3 rfl ?_
  refine l_arg X (j := j) (k := 1) 1 0 rfl rfl (by omega) hL (by decide) d_law_595 d_law_596 d_law_597 d_law_598 d_law_599 ?_
  refine l_callM X (As := [.int (xs (j + 1))]) (st := [.int xr]) kcL6_next kvL6_next klL6_next ⟨rfl, rfl, by decide, by decide⟩ (mX6_next_ e2) rfl rfl rfl (Nat.le_of_ble_eq_true rfl) rfl h1 h2 d_law_600 ?_
  refine n_icmp_eq X 1270 d_law_603 (by decide) (fun _ => ?_) (fun c => absurd rfl c)
  exact hk v1 u1 hR1
set_option maxRecDepth 20000 in
theorem lc_best : LC 608 := by
  intro l D cA G b L xs rS kc ns r r' j v u X hr h1 h2 hL hj hR hk
  obtain ⟨xr, v1, u1, e1, e2, hR1⟩ := op_best hR (xs (j + 1)) (xs (j + 2))
  refine n_aload_n X d_law_608 rfl 2 rfl ?_
  refine l_arg X (j := j) (k := 1) 1 0 rfl rfl (by omega) hL (by decide) d_law_609 d_law_610 d_law_611 d_law_612 d_law_613 ?_
  refine l_arg X (j := j) (k := 2) 1 0 rfl rfl (by omega) hL (by decide) d_law_614 d_law_615 d_law_616 d_law_617 d_law_618 ?_
  refine l_callC X (As := [.int (xs (j + 1)), .int (xs (j + 2))]) (st := []) hr kcL5_best kvL5_best klL5_best ⟨rfl, rfl, by decide, by decide⟩ (mX5_best e1) rfl rfl rfl (by decide) rfl h1 h2 d_law_619 ?_
  refine n_aload_n X d_law_622 rfl 3 rfl ?_
  refine l_arg X (j := j) (k := 1) 1 0 rfl rfl (by omega) hL (by decide) d_law_623 d_law_624 d_law_625 d_law_626 d_law_627 ?_
  refine l_arg X (j := j) (k := 2) 1 0 rfl rfl (by omega) hL (by decide) d_law_628 d_law_629 d_law_630 d_law_631 d_law_632 ?_
  refine l_callM X (As := [.int (xs (j + 1)), .int (xs (j + 2))]) (st := [.int xr]) kcL6_best kvL6_best klL6_best ⟨rfl, rfl, by decide, by decide⟩ (mX6_best e2) rfl rfl rfl (Nat.le_of_ble_eq_true rfl) rfl h1 h2 d_law_633 ?_
  refine n_icmp_eq X 1270 d_law_636 (by decide) (fun _ => ?_) (fun c => absurd rfl c)
  exact hk v1 u1 hR1
set_option maxRecDepth 20000 in
theorem lc_least : LC 641 := by
  intro l D cA G b L xs rS kc ns r r' j v u X hr h1 h2 hL hj hR hk
  obtain ⟨xr, v1, u1, e1, e2, hR1⟩ := op_least hR (xs (j + 1)) (xs (j + 2))
  refine n_aload_n X d_law_641 rfl 2 rfl ?_
  refine l_arg X (j := j) (k := 1) 1 0 rfl rfl (by omega) hL (by decide) d_law_642 d_law_643 d_law_644 d_law_645 d_law_646 ?_
  refine l_arg X (j := j) (k := 2) 1 0 rfl rfl (by omega) hL (by decide) d_law_647 d_law_648 d_law_649 d_law_650 d_law_651 ?_
  refine l_callC X (As := [.int (xs (j + 1)), .int (xs (j + 2))]) (st := []) hr kcL5_least kvL5_least klL5_least ⟨rfl, rfl, by decide, by decide⟩ (mX5_least e1) rfl rfl rfl (by decide) rfl h1 h2 d_law_652 ?_
  refine n_aload_n X d_law_655 rfl 3 rfl ?_
  refine l_arg X (j := j) (k := 1) 1 0 rfl rfl (by omega) hL (by decide) d_law_656 d_law_657 d_law_658 d_law_659 d_law_660 ?_
  refine l_arg X (j := j) (k := 2) 1 0 rfl rfl (by omega) hL (by decide) d_law_661 d_law_662 d_law_663 d_law_664 d_law_665 ?_
  refine l_callM X (As := [.int (xs (j + 1)), .int (xs (j + 2))]) (st := [.int xr]) kcL6_least kvL6_least klL6_least ⟨rfl, rfl, by decide, by decide⟩ (mX6_least e2) rfl rfl rfl (Nat.le_of_ble_eq_true rfl) rfl h1 h2 d_law_666 ?_
  refine n_icmp_eq X 1270 d_law_669 (by decide) (fun _ => ?_) (fun c => absurd rfl c)
  exact hk v1 u1 hR1
set_option maxRecDepth 20000 in
theorem lc_bought : LC 674 := by
  intro l D cA G b L xs rS kc ns r r' j v u X hr h1 h2 hL hj hR hk
  obtain ⟨xr, v1, u1, e1, e2, hR1⟩ := op_bought hR (xs (j + 1)) (xs (j + 2))
  refine n_aload_n X d_law_674 rfl 2 rfl ?_
  refine l_arg X (j := j) (k := 1) 1 0 rfl rfl (by omega) hL (by decide) d_law_675 d_law_676 d_law_677 d_law_678 d_law_679 ?_
  refine l_arg X (j := j) (k := 2) 1 0 rfl rfl (by omega) hL (by decide) d_law_680 d_law_681 d_law_682 d_law_683 d_law_684 ?_
  refine l_callC X (As := [.int (xs (j + 1)), .int (xs (j + 2))]) (st := []) hr kcL5_bought kvL5_bought klL5_bought ⟨rfl, rfl, by decide, by decide⟩ (mX5_bought e1) rfl rfl rfl (by decide) rfl h1 h2 d_law_685 ?_
  refine n_aload_n X d_law_688 rfl 3 rfl ?_
  refine l_arg X (j := j) (k := 1) 1 0 rfl rfl (by omega) hL (by decide) d_law_689 d_law_690 d_law_691 d_law_692 d_law_693 ?_
  refine l_arg X (j := j) (k := 2) 1 0 rfl rfl (by omega) hL (by decide) d_law_694 d_law_695 d_law_696 d_law_697 d_law_698 ?_
  refine l_callM X (As := [.int (xs (j + 1)), .int (xs (j + 2))]) (st := [.long xr]) kcL6_bought kvL6_bought klL6_bought ⟨rfl, rfl, by decide, by decide⟩ (mX6_bought e2) rfl rfl rfl (Nat.le_of_ble_eq_true rfl) rfl h1 h2 d_law_699 ?_
  refine l_lcmp X d_law_702 ?_
  refine l_if_eq X 1270 d_law_703 (by decide) (fun _ => ?_) (fun c => absurd ((lg_cmp_eq xr xr).mpr rfl) c)
  exact hk v1 u1 hR1
set_option maxRecDepth 20000 in
theorem lc_friends : LC 708 := by
  intro l D cA G b L xs rS kc ns r r' j v u X hr h1 h2 hL hj hR hk
  obtain ⟨xr, v1, u1, e1, e2, hR1⟩ := op_friends hR (xs (j + 1)) (xs (j + 2))
  refine n_aload_n X d_law_708 rfl 2 rfl ?_
  refine l_arg X (j := j) (k := 1) 1 0 rfl rfl (by omega) hL (by decide) d_law_709 d_law_710 d_law_711 d_law_712 d_law_713 ?_
  refine l_arg X (j := j) (k := 2) 1 0 rfl rfl (by omega) hL (by decide) d_law_714 d_law_715 d_law_716 d_law_717 d_law_718 ?_
  refine l_callC X (As := [.int (xs (j + 1)), .int (xs (j + 2))]) (st := []) hr kcL5_friends kvL5_friends klL5_friends ⟨rfl, rfl, by decide, by decide⟩ (mX5_friends e1) rfl rfl rfl (by decide) rfl h1 h2 d_law_719 ?_
  refine n_aload_n X d_law_722 rfl 3 rfl ?_
  refine l_arg X (j := j) (k := 1) 1 0 rfl rfl (by omega) hL (by decide) d_law_723 d_law_724 d_law_725 d_law_726 d_law_727 ?_
  refine l_arg X (j := j) (k := 2) 1 0 rfl rfl (by omega) hL (by decide) d_law_728 d_law_729 d_law_730 d_law_731 d_law_732 ?_
  refine l_callM X (As := [.int (xs (j + 1)), .int (xs (j + 2))]) (st := [.int xr]) kcL6_friends kvL6_friends klL6_friends ⟨rfl, rfl, by decide, by decide⟩ (mX6_friends e2) rfl rfl rfl (Nat.le_of_ble_eq_true rfl) rfl h1 h2 d_law_733 ?_
  refine n_icmp_eq X 1270 d_law_736 (by decide) (fun _ => ?_) (fun c => absurd rfl c)
  exact hk v1 u1 hR1
set_option maxRecDepth 20000 in
theorem lc_worth : LC 741 := by
  intro l D cA G b L xs rS kc ns r r' j v u X hr h1 h2 hL hj hR hk
  obtain ⟨xr, v1, u1, e1, e2, hR1⟩ := op_worth hR (xs (j + 1))
  refine n_aload_n X d_law_741 rfl 2 rfl ?_
  refine l_arg X (j := j) (k := 1) 1 0 rfl rfl (by omega) hL (by decide) d_law_742 d_law_743 d_law_744 d_law_745 d_law_746 ?_
  refine l_callC X (As := [.int (xs (j + 1))]) (st := []) hr kcL5_worth kvL5_worth klL5_worth ⟨rfl, rfl, by decide, by decide⟩ (mX5_worth e1) rfl rfl rfl (by decide) rfl h1 h2 d_law_747 ?_
  refine n_aload_n X d_law_750 rfl 3 rfl ?_
  refine l_arg X (j := j) (k := 1) 1 0 rfl rfl (by omega) hL (by decide) d_law_751 d_law_752 d_law_753 d_law_754 d_law_755 ?_
  refine l_callM X (As := [.int (xs (j + 1))]) (st := [.int xr]) kcL6_worth kvL6_worth klL6_worth ⟨rfl, rfl, by decide, by decide⟩ (mX6_worth e2) rfl rfl rfl (Nat.le_of_ble_eq_true rfl) rfl h1 h2 d_law_756 ?_
  refine n_icmp_eq X 1270 d_law_759 (by decide) (fun _ => ?_) (fun c => absurd rfl c)
  exact hk v1 u1 hR1
set_option maxRecDepth 20000 in
theorem lc_never : LC 764 := by
  intro l D cA G b L xs rS kc ns r r' j v u X hr h1 h2 hL hj hR hk
  obtain ⟨xr, v1, u1, e1, e2, hR1⟩ := op_never hR (xs (j + 1))
  refine n_aload_n X d_law_764 rfl 2 rfl ?_
  refine l_arg X (j := j) (k := 1) 1 0 rfl rfl (by omega) hL (by decide) d_law_765 d_law_766 d_law_767 d_law_768 d_law_769 ?_
  refine l_callC X (As := [.int (xs (j + 1))]) (st := []) hr kcL5_never kvL5_never klL5_never ⟨rfl, rfl, by decide, by decide⟩ (mX5_never e1) rfl rfl rfl (by decide) rfl h1 h2 d_law_770 ?_
  refine n_aload_n X d_law_773 rfl 3 rfl ?_
  refine l_arg X (j := j) (k := 1) 1 0 rfl rfl (by omega) hL (by decide) d_law_774 d_law_775 d_law_776 d_law_777 d_law_778 ?_
  refine l_callM X (As := [.int (xs (j + 1))]) (st := [.int xr]) kcL6_never kvL6_never klL6_never ⟨rfl, rfl, by decide, by decide⟩ (mX6_never e2) rfl rfl rfl (Nat.le_of_ble_eq_true rfl) rfl h1 h2 d_law_779 ?_
  refine n_icmp_eq X 1270 d_law_782 (by decide) (fun _ => ?_) (fun c => absurd rfl c)
  exact hk v1 u1 hR1
set_option maxRecDepth 20000 in
theorem lc_when : LC 787 := by
  intro l D cA G b L xs rS kc ns r r' j v u X hr h1 h2 hL hj hR hk
  obtain ⟨xr, v1, u1, e1, e2, hR1⟩ := op_when hR (xs (j + 1))
  refine n_aload_n X d_law_787 rfl 2 rfl ?_
  refine l_arg X (j := j) (k := 1) 1 0 rfl rfl (by omega) hL (by decide) d_law_788 d_law_789 d_law_790 d_law_791 d_law_792 ?_
  refine l_callC X (As := [.int (xs (j + 1))]) (st := []) hr kcL5_when kvL5_when klL5_when ⟨rfl, rfl, by decide, by decide⟩ (mX5_when e1) rfl rfl rfl (by decide) rfl h1 h2 d_law_793 ?_
  refine n_aload_n X d_law_796 rfl 3 rfl ?_
  refine l_arg X (j := j) (k := 1) 1 0 rfl rfl (by omega) hL (by decide) d_law_797 d_law_798 d_law_799 d_law_800 d_law_801 ?_
  refine l_callM X (As := [.int (xs (j + 1))]) (st := [.int xr]) kcL6_when kvL6_when klL6_when ⟨rfl, rfl, by decide, by decide⟩ (mX6_when e2) rfl rfl rfl (Nat.le_of_ble_eq_true rfl) rfl h1 h2 d_law_802 ?_
  refine n_icmp_eq X 1270 d_law_805 (by decide) (fun _ => ?_) (fun c => absurd rfl c)
  exact hk v1 u1 hR1
set_option maxRecDepth 20000 in
theorem lc_judge : LC 810 := by
  intro l D cA G b L xs rS kc ns r r' j v u X hr h1 h2 hL hj hR hk
  obtain ⟨xr, v1, u1, e1, e2, hR1⟩ := op_judge hR (xs (j + 1))
  refine n_aload_n X d_law_810 rfl 2 rfl ?_
  refine l_arg X (j := j) (k := 1) 1 0 rfl rfl (by omega) hL (by decide) d_law_811 d_law_812 d_law_813 d_law_814 d_law_815 ?_
  refine l_callC X (As := [.int (xs (j + 1))]) (st := []) hr kcL5_judge kvL5_judge klL5_judge ⟨rfl, rfl, by decide, by decide⟩ (mX5_judge e1) rfl rfl rfl (by decide) rfl h1 h2 d_law_816 ?_
  refine n_aload_n X d_law_819 rfl 3 rfl ?_
  refine l_arg X (j := j) (k := 1) 1 0 rfl rfl (by omega) hL (by decide) d_law_820 d_law_821 d_law_822 d_law_823 d_law_824 ?_
  refine l_callM X (As := [.int (xs (j + 1))]) (st := [.int xr]) kcL6_judge kvL6_judge klL6_judge ⟨rfl, rfl, by decide, by decide⟩ (mX6_judge e2) rfl rfl rfl (Nat.le_of_ble_eq_true rfl) rfl h1 h2 d_law_825 ?_
  refine n_icmp_eq X 1270 d_law_828 (by decide) (fun _ => ?_) (fun c => absurd rfl c)
  exact hk v1 u1 hR1
set_option maxRecDepth 20000 in
theorem lc_behind : LC 833 := by
  intro l D cA G b L xs rS kc ns r r' j v u X hr h1 h2 hL hj hR hk
  obtain ⟨xr, v1, u1, e1, e2, hR1⟩ := op_behind hR (xs (j + 1)) (xs (j + 2))
  refine n_aload_n X d_law_833 rfl 2 rfl ?_
  refine l_arg X (j := j) (k := 1) 1 0 rfl rfl (by omega) hL (by decide) d_law_834 d_law_835 d_law_836 d_law_837 d_law_838 ?_
  refine l_arg X (j := j) (k := 2) 1 0 rfl rfl (by omega) hL (by decide) d_law_839 d_law_840 d_law_841 d_law_842 d_law_843 ?_
  refine l_callC X (As := [.int (xs (j + 1)), .int (xs (j + 2))]) (st := []) hr kcL5_behind kvL5_behind klL5_behind ⟨rfl, rfl, by decide, by decide⟩ (mX5_behind e1) rfl rfl rfl (by decide) rfl h1 h2 d_law_844 ?_
  refine n_aload_n X d_law_847 rfl 3 rfl ?_
  refine l_arg X (j := j) (k := 1) 1 0 rfl rfl (by omega) hL (by decide) d_law_848 d_law_849 d_law_850 d_law_851 d_law_852 ?_
  refine l_arg X (j := j) (k := 2) 1 0 rfl rfl (by omega) hL (by decide) d_law_853 d_law_854 d_law_855 d_law_856 d_law_857 ?_
  refine l_callM X (As := [.int (xs (j + 1)), .int (xs (j + 2))]) (st := [.int xr]) kcL6_behind kvL6_behind klL6_behind ⟨rfl, rfl, by decide, by decide⟩ (mX6_behind e2) rfl rfl rfl (Nat.le_of_ble_eq_true rfl) rfl h1 h2 d_law_858 ?_
  refine n_icmp_eq X 1270 d_law_861 (by decide) (fun _ => ?_) (fun c => absurd rfl c)
  exact hk v1 u1 hR1
set_option maxRecDepth 20000 in
theorem lc_film : LC 866 := by
  intro l D cA G b L xs rS kc ns r r' j v u X hr h1 h2 hL hj hR hk
  obtain ⟨xr, v1, u1, e1, e2, hR1⟩ := op_film hR (xs (j + 1)) (xs (j + 2))
  refine n_aload_n X d_law_866 rfl 2 rfl ?_
  refine l_arg X (j := j) (k := 1) 1 0 rfl rfl (by omega) hL (by decide) d_law_867 d_law_868 d_law_869 d_law_870 d_law_871 ?_
  refine l_arg X (j := j) (k := 2) 1 0 rfl rfl (by omega) hL (by decide) d_law_872 d_law_873 d_law_874 d_law_875 d_law_876 ?_
  refine l_callC X (As := [.int (xs (j + 1)), .int (xs (j + 2))]) (st := []) hr kcL5_film kvL5_film klL5_film ⟨rfl, rfl, by decide, by decide⟩ (mX5_film e1) rfl rfl rfl (by decide) rfl h1 h2 d_law_877 ?_
  refine n_aload_n X d_law_880 rfl 3 rfl ?_
  refine l_arg X (j := j) (k := 1) 1 0 rfl rfl (by omega) hL (by decide) d_law_881 d_law_882 d_law_883 d_law_884 d_law_885 ?_
  refine l_arg X (j := j) (k := 2) 1 0 rfl rfl (by omega) hL (by decide) d_law_886 d_law_887 d_law_888 d_law_889 d_law_890 ?_
  refine l_callM X (As := [.int (xs (j + 1)), .int (xs (j + 2))]) (st := [.int xr]) kcL6_film kvL6_film klL6_film ⟨rfl, rfl, by decide, by decide⟩ (mX6_film e2) rfl rfl rfl (Nat.le_of_ble_eq_true rfl) rfl h1 h2 d_law_891 ?_
  refine n_icmp_eq X 1270 d_law_894 (by decide) (fun _ => ?_) (fun c => absurd rfl c)
  exact hk v1 u1 hR1
set_option maxRecDepth 20000 in
theorem lc_laws : LC 899 := by
  intro l D cA G b L xs rS kc ns r r' j v u X hr h1 h2 hL hj hR hk
  obtain ⟨xr, v1, u1, e1, e2, hR1⟩ := op_laws hR (xs (j + 1))
  refine n_aload_n X d_law_899 rfl 2 rfl ?_
  refine l_arg X (j := j) (k := 1) 1 0 rfl rfl (by omega) hL (by decide) d_law_900 d_law_901 d_law_902 d_law_903 d_law_904 ?_
  refine l_callC X (As := [.int (xs (j + 1))]) (st := []) hr kcL5_laws kvL5_laws klL5_laws ⟨rfl, rfl, by decide, by decide⟩ (mX5_laws e1) rfl rfl rfl (by decide) rfl h1 h2 d_law_905 ?_
  refine n_aload_n X d_law_908 rfl 3 rfl ?_
  refine l_arg X (j := j) (k := 1) 1 0 rfl rfl (by omega) hL (by decide) d_law_909 d_law_910 d_law_911 d_law_912 d_law_913 ?_
  refine l_callM X (As := [.int (xs (j + 1))]) (st := [.int xr]) kcL6_laws kvL6_laws klL6_laws ⟨rfl, rfl, by decide, by decide⟩ (mX6_laws e2) rfl rfl rfl (Nat.le_of_ble_eq_true rfl) rfl h1 h2 d_law_914 ?_
  refine n_icmp_eq X 1270 d_law_917 (by decide) (fun _ => ?_) (fun c => absurd rfl c)
  exact hk v1 u1 hR1
set_option maxRecDepth 20000 in
theorem lc_drawn : LC 922 := by
  intro l D cA G b L xs rS kc ns r r' j v u X hr h1 h2 hL hj hR hk
  obtain ⟨xr, v1, u1, e1, e2, hR1⟩ := op_drawn hR (xs (j + 1)) (xs (j + 2))
  refine n_aload_n X d_law_922 rfl 2 rfl ?_
  refine l_arg X (j := j) (k := 1) 1 0 rfl rfl (by omega) hL (by decide) d_law_923 d_law_924 d_law_925 d_law_926 d_law_927 ?_
  refine l_arg X (j := j) (k := 2) 1 0 rfl rfl (by omega) hL (by decide) d_law_928 d_law_929 d_law_930 d_law_931 d_law_932 ?_
  refine l_callC X (As := [.int (xs (j + 1)), .int (xs (j + 2))]) (st := []) hr kcL5_drawn kvL5_drawn klL5_drawn ⟨rfl, rfl, by decide, by decide⟩ (mX5_drawn e1) rfl rfl rfl (by decide) rfl h1 h2 d_law_933 ?_
  refine n_aload_n X d_law_936 rfl 3 rfl ?_
  refine l_arg X (j := j) (k := 1) 1 0 rfl rfl (by omega) hL (by decide) d_law_937 d_law_938 d_law_939 d_law_940 d_law_941 ?_
  refine l_arg X (j := j) (k := 2) 1 0 rfl rfl (by omega) hL (by decide) d_law_942 d_law_943 d_law_944 d_law_945 d_law_946 ?_
  refine l_callM X (As := [.int (xs (j + 1)), .int (xs (j + 2))]) (st := [.int xr]) kcL6_drawn kvL6_drawn klL6_drawn ⟨rfl, rfl, by decide, by decide⟩ (mX6_drawn e2) rfl rfl rfl (Nat.le_of_ble_eq_true rfl) rfl h1 h2 d_law_947 ?_
  refine n_icmp_eq X 1270 d_law_950 (by decide) (fun _ => ?_) (fun c => absurd rfl c)
  exact hk v1 u1 hR1
set_option maxRecDepth 20000 in
theorem lc_mean : LC 955 := by
  intro l D cA G b L xs rS kc ns r r' j v u X hr h1 h2 hL hj hR hk
  obtain ⟨xr, v1, u1, e1, e2, hR1⟩ := op_mean hR (xs (j + 1)) (xs (j + 2)) (xs (j + 3)) (xs (j + 4))
  refine n_aload_n X d_law_955 rfl 2 rfl ?_
  refine l_arg X (j := j) (k := 1) 1 0 rfl rfl (by omega) hL (by decide) d_law_956 d_law_957 d_law_958 d_law_959 d_law_960 ?_
  refine l_arg X (j := j) (k := 2) 1 0 rfl rfl (by omega) hL (by decide) d_law_961 d_law_962 d_law_963 d_law_964 d_law_965 ?_
  refine l_arg X (j := j) (k := 3) 1 0 rfl rfl (by omega) hL (by decide) d_law_966 d_law_967 d_law_968 d_law_969 d_law_970 ?_
  refine l_arg X (j := j) (k := 4) 1 0 rfl rfl (by omega) hL (by decide) d_law_971 d_law_972 d_law_973 d_law_974 d_law_975 ?_
  refine l_callC X (As := [.int (xs (j + 1)), .int (xs (j + 2)), .int (xs (j + 3)), .int (xs (j + 4))]) (st := []) hr kcL5_mean kvL5_mean klL5_mean ⟨rfl, rfl, by decide, by decide⟩ (mX5_mean e1) rfl rfl rfl (by decide) rfl h1 h2 d_law_976 ?_
  refine n_aload_n X d_law_979 rfl 3 rfl ?_
  refine l_arg X (j := j) (k := 1) 1 0 rfl rfl (by omega) hL (by decide) d_law_980 d_law_981 d_law_982 d_law_983 d_law_984 ?_
  refine l_arg X (j := j) (k := 2) 1 0 rfl rfl (by omega) hL (by decide) d_law_985 d_law_986 d_law_987 d_law_988 d_law_989 ?_
  refine l_arg X (j := j) (k := 3) 1 0 rfl rfl (by omega) hL (by decide) d_law_990 d_law_991 d_law_992 d_law_993 d_law_994 ?_
  refine l_arg X (j := j) (k := 4) 1 0 rfl rfl (by omega) hL (by decide) d_law_995 d_law_996 d_law_997 d_law_998 d_law_999 ?_
  refine l_callM X (As := [.int (xs (j + 1)), .int (xs (j + 2)), .int (xs (j + 3)), .int (xs (j + 4))]) (st := [.long xr]) kcL6_mean kvL6_mean klL6_mean ⟨rfl, rfl, by decide, by decide⟩ (mX6_mean e2) rfl rfl rfl (Nat.le_of_ble_eq_true rfl) rfl h1 h2 d_law_1000 ?_
  refine l_lcmp X d_law_1003 ?_
  refine l_if_eq X 1270 d_law_1004 (by decide) (fun _ => ?_) (fun c => absurd ((lg_cmp_eq xr xr).mpr rfl) c)
  exact hk v1 u1 hR1
set_option maxRecDepth 20000 in
theorem lc_image : LC 1009 := by
  intro l D cA G b L xs rS kc ns r r' j v u X hr h1 h2 hL hj hR hk
  obtain ⟨xr, v1, u1, e1, e2, hR1⟩ := op_image hR
  refine n_aload_n X d_law_1009 rfl 2 rfl ?_
  refine l_callC X (As := []) (st := []) hr kcL5_image kvL5_image klL5_image ⟨rfl, rfl, by decide, by decide⟩ (mX5_image e1) rfl rfl rfl (by decide) rfl h1 h2 d_law_1010 ?_
  refine n_aload_n X d_law_1013 rfl 3 rfl ?_
  refine l_callM X (As := []) (st := [.int xr]) kcL6_image kvL6_image klL6_image ⟨rfl, rfl, by decide, by decide⟩ (mX6_image e2) rfl rfl rfl (Nat.le_of_ble_eq_true rfl) rfl h1 h2 d_law_1014 ?_
  refine n_icmp_eq X 1270 d_law_1017 (by decide) (fun _ => ?_) (fun c => absurd rfl c)
  exact hk v1 u1 hR1
set_option maxRecDepth 20000 in
theorem lc_back : LC 1022 := by
  intro l D cA G b L xs rS kc ns r r' j v u X hr h1 h2 hL hj hR hk
  obtain ⟨xr, v1, u1, e1, e2, hR1⟩ := op_back hR
  refine n_aload_n X d_law_1022 rfl 2 rfl ?_
  refine l_callC X (As := []) (st := []) hr kcL5_back kvL5_back klL5_back ⟨rfl, rfl, by decide, by decide⟩ (mX5_back e1) rfl rfl rfl (by decide) rfl h1 h2 d_law_1023 ?_
  refine n_aload_n X d_law_1026 rfl 3 rfl ?_
  refine l_callM X (As := []) (st := [.int xr]) kcL6_back kvL6_back klL6_back ⟨rfl, rfl, by decide, by decide⟩ (mX6_back e2) rfl rfl rfl (Nat.le_of_ble_eq_true rfl) rfl h1 h2 d_law_1027 ?_
  refine n_icmp_eq X 1270 d_law_1030 (by decide) (fun _ => ?_) (fun c => absurd rfl c)
  exact hk v1 u1 hR1
set_option maxRecDepth 20000 in
theorem lc_sheet : LC 1035 := by
  intro l D cA G b L xs rS kc ns r r' j v u X hr h1 h2 hL hj hR hk
  obtain ⟨xr, v1, u1, e1, e2, hR1⟩ := op_sheet hR (xs (j + 1)) (xs (j + 2)) (xs (j + 3))
  refine n_aload_n X d_law_1035 rfl 2 rfl ?_
  refine l_arg X (j := j) (k := 1) 1 0 rfl rfl (by omega) hL (by decide) d_law_1036 d_law_1037 d_law_1038 d_law_1039 d_law_1040 ?_
  refine l_arg X (j := j) (k := 2) 1 0 rfl rfl (by omega) hL (by decide) d_law_1041 d_law_1042 d_law_1043 d_law_1044 d_law_1045 ?_
  refine l_arg X (j := j) (k := 3) 1 0 rfl rfl (by omega) hL (by decide) d_law_1046 d_law_1047 d_law_1048 d_law_1049 d_law_1050 ?_
  refine l_callC X (As := [.int (xs (j + 1)), .int (xs (j + 2)), .int (xs (j + 3))]) (st := []) hr kcL5_sheet kvL5_sheet klL5_sheet ⟨rfl, rfl, by decide, by decide⟩ (mX5_sheet e1) rfl rfl rfl (by decide) rfl h1 h2 d_law_1051 ?_
  refine n_aload_n X d_law_1054 rfl 3 rfl ?_
  refine l_arg X (j := j) (k := 1) 1 0 rfl rfl (by omega) hL (by decide) d_law_1055 d_law_1056 d_law_1057 d_law_1058 d_law_1059 ?_
  refine l_arg X (j := j) (k := 2) 1 0 rfl rfl (by omega) hL (by decide) d_law_1060 d_law_1061 d_law_1062 d_law_1063 d_law_1064 ?_
  refine l_arg X (j := j) (k := 3) 1 0 rfl rfl (by omega) hL (by decide) d_law_1065 d_law_1066 d_law_1067 d_law_1068 d_law_1069 ?_
  refine l_callM X (As := [.int (xs (j + 1)), .int (xs (j + 2)), .int (xs (j + 3))]) (st := [.int xr]) kcL6_sheet kvL6_sheet klL6_sheet ⟨rfl, rfl, by decide, by decide⟩ (mX6_sheet e2) rfl rfl rfl (Nat.le_of_ble_eq_true rfl) rfl h1 h2 d_law_1070 ?_
  refine n_icmp_eq X 1270 d_law_1073 (by decide) (fun _ => ?_) (fun c => absurd rfl c)
  exact hk v1 u1 hR1
set_option maxRecDepth 20000 in
theorem lc_cell : LC 1078 := by
  intro l D cA G b L xs rS kc ns r r' j v u X hr h1 h2 hL hj hR hk
  obtain ⟨xr, v1, u1, e1, e2, hR1⟩ := op_cell hR (xs (j + 1)) (xs (j + 2)) (xs (j + 3))
  refine n_aload_n X d_law_1078 rfl 2 rfl ?_
  refine l_arg X (j := j) (k := 1) 1 0 rfl rfl (by omega) hL (by decide) d_law_1079 d_law_1080 d_law_1081 d_law_1082 d_law_1083 ?_
  refine l_arg X (j := j) (k := 2) 1 0 rfl rfl (by omega) hL (by decide) d_law_1084 d_law_1085 d_law_1086 d_law_1087 d_law_1088 ?_
  refine l_arg X (j := j) (k := 3) 1 0 rfl rfl (by omega) hL (by decide) d_law_1089 d_law_1090 d_law_1091 d_law_1092 d_law_1093 ?_
  refine l_callC X (As := [.int (xs (j + 1)), .int (xs (j + 2)), .int (xs (j + 3))]) (st := []) hr kcL5_cell kvL5_cell klL5_cell ⟨rfl, rfl, by decide, by decide⟩ (mX5_cell e1) rfl rfl rfl (by decide) rfl h1 h2 d_law_1094 ?_
  refine n_aload_n X d_law_1097 rfl 3 rfl ?_
  refine l_arg X (j := j) (k := 1) 1 0 rfl rfl (by omega) hL (by decide) d_law_1098 d_law_1099 d_law_1100 d_law_1101 d_law_1102 ?_
  refine l_arg X (j := j) (k := 2) 1 0 rfl rfl (by omega) hL (by decide) d_law_1103 d_law_1104 d_law_1105 d_law_1106 d_law_1107 ?_
  refine l_arg X (j := j) (k := 3) 1 0 rfl rfl (by omega) hL (by decide) d_law_1108 d_law_1109 d_law_1110 d_law_1111 d_law_1112 ?_
  refine l_callM X (As := [.int (xs (j + 1)), .int (xs (j + 2)), .int (xs (j + 3))]) (st := [.int xr]) kcL6_cell kvL6_cell klL6_cell ⟨rfl, rfl, by decide, by decide⟩ (mX6_cell e2) rfl rfl rfl (Nat.le_of_ble_eq_true rfl) rfl h1 h2 d_law_1113 ?_
  refine n_icmp_eq X 1270 d_law_1116 (by decide) (fun _ => ?_) (fun c => absurd rfl c)
  exact hk v1 u1 hR1
set_option maxRecDepth 20000 in
theorem lc_copy : LC 1121 := by
  intro l D cA G b L xs rS kc ns r r' j v u X hr h1 h2 hL hj hR hk
  obtain ⟨xr, v1, u1, e1, e2, hR1⟩ := op_copy hR (xs (j + 1)) (xs (j + 2)) (xs (j + 3)) (xs (j + 4)) (xs (j + 5))
  refine n_aload_n X d_law_1121 rfl 2 rfl ?_
  refine l_arg X (j := j) (k := 1) 1 0 rfl rfl (by omega) hL (by decide) d_law_1122 d_law_1123 d_law_1124 d_law_1125 d_law_1126 ?_
  refine l_arg X (j := j) (k := 2) 1 0 rfl rfl (by omega) hL (by decide) d_law_1127 d_law_1128 d_law_1129 d_law_1130 d_law_1131 ?_
  refine l_arg X (j := j) (k := 3) 1 0 rfl rfl (by omega) hL (by decide) d_law_1132 d_law_1133 d_law_1134 d_law_1135 d_law_1136 ?_
  refine l_arg X (j := j) (k := 4) 1 0 rfl rfl (by omega) hL (by decide) d_law_1137 d_law_1138 d_law_1139 d_law_1140 d_law_1141 ?_
  refine l_arg X (j := j) (k := 5) 1 0 rfl rfl (by omega) hL (by decide) d_law_1142 d_law_1143 d_law_1144 d_law_1145 d_law_1146 ?_
  refine l_callC X (As := [.int (xs (j + 1)), .int (xs (j + 2)), .int (xs (j + 3)), .int (xs (j + 4)), .int (xs (j + 5))]) (st := []) hr kcL5_copy kvL5_copy klL5_copy ⟨rfl, rfl, by decide, by decide⟩ (mX5_copy e1) rfl rfl rfl (by decide) rfl h1 h2 d_law_1147 ?_
  refine n_aload_n X d_law_1150 rfl 3 rfl ?_
  refine l_arg X (j := j) (k := 1) 1 0 rfl rfl (by omega) hL (by decide) d_law_1151 d_law_1152 d_law_1153 d_law_1154 d_law_1155 ?_
  refine l_arg X (j := j) (k := 2) 1 0 rfl rfl (by omega) hL (by decide) d_law_1156 d_law_1157 d_law_1158 d_law_1159 d_law_1160 ?_
  refine l_arg X (j := j) (k := 3) 1 0 rfl rfl (by omega) hL (by decide) d_law_1161 d_law_1162 d_law_1163 d_law_1164 d_law_1165 ?_
  refine l_arg X (j := j) (k := 4) 1 0 rfl rfl (by omega) hL (by decide) d_law_1166 d_law_1167 d_law_1168 d_law_1169 d_law_1170 ?_
  refine l_arg X (j := j) (k := 5) 1 0 rfl rfl (by omega) hL (by decide) d_law_1171 d_law_1172 d_law_1173 d_law_1174 d_law_1175 ?_
  refine l_callM X (As := [.int (xs (j + 1)), .int (xs (j + 2)), .int (xs (j + 3)), .int (xs (j + 4)), .int (xs (j + 5))]) (st := [.int xr]) kcL6_copy kvL6_copy klL6_copy ⟨rfl, rfl, by decide, by decide⟩ (mX6_copy e2) rfl rfl rfl (Nat.le_of_ble_eq_true rfl) rfl h1 h2 d_law_1176 ?_
  refine n_icmp_eq X 1270 d_law_1179 (by decide) (fun _ => ?_) (fun c => absurd rfl c)
  exact hk v1 u1 hR1
set_option maxRecDepth 20000 in
theorem lc_ratesBy : LC 1184 := by
  intro l D cA G b L xs rS kc ns r r' j v u X hr h1 h2 hL hj hR hk
  obtain ⟨xr, v1, u1, e1, e2, hR1⟩ := op_ratesBy hR (xs (j + 1)) (xs (j + 2)) (xs (j + 3)) (xs (j + 4))
  refine n_aload_n X d_law_1184 rfl 2 rfl ?_
  refine l_arg X (j := j) (k := 1) 1 0 rfl rfl (by omega) hL (by decide) d_law_1185 d_law_1186 d_law_1187 d_law_1188 d_law_1189 ?_
  refine l_arg X (j := j) (k := 2) 1 0 rfl rfl (by omega) hL (by decide) d_law_1190 d_law_1191 d_law_1192 d_law_1193 d_law_1194 ?_
  refine l_arg X (j := j) (k := 3) 1 0 rfl rfl (by omega) hL (by decide) d_law_1195 d_law_1196 d_law_1197 d_law_1198 d_law_1199 ?_
  refine l_arg X (j := j) (k := 4) 1 0 rfl rfl (by omega) hL (by decide) d_law_1200 d_law_1201 d_law_1202 d_law_1203 d_law_1204 ?_
  refine l_callC X (As := [.int (xs (j + 1)), .int (xs (j + 2)), .int (xs (j + 3)), .int (xs (j + 4))]) (st := []) hr kcL5_ratesBy kvL5_ratesBy klL5_ratesBy ⟨rfl, rfl, by decide, by decide⟩ (mX5_ratesBy e1) rfl rfl rfl (by decide) rfl h1 h2 d_law_1205 ?_
  refine n_aload_n X d_law_1208 rfl 3 rfl ?_
  refine l_arg X (j := j) (k := 1) 1 0 rfl rfl (by omega) hL (by decide) d_law_1209 d_law_1210 d_law_1211 d_law_1212 d_law_1213 ?_
  refine l_arg X (j := j) (k := 2) 1 0 rfl rfl (by omega) hL (by decide) d_law_1214 d_law_1215 d_law_1216 d_law_1217 d_law_1218 ?_
  refine l_arg X (j := j) (k := 3) 1 0 rfl rfl (by omega) hL (by decide) d_law_1219 d_law_1220 d_law_1221 d_law_1222 d_law_1223 ?_
  refine l_arg X (j := j) (k := 4) 1 0 rfl rfl (by omega) hL (by decide) d_law_1224 d_law_1225 d_law_1226 d_law_1227 d_law_1228 ?_
  refine l_callM X (As := [.int (xs (j + 1)), .int (xs (j + 2)), .int (xs (j + 3)), .int (xs (j + 4))]) (st := [.int xr]) kcL6_ratesBy kvL6_ratesBy klL6_ratesBy ⟨rfl, rfl, by decide, by decide⟩ (mX6_ratesBy e2) rfl rfl rfl (Nat.le_of_ble_eq_true rfl) rfl h1 h2 d_law_1229 ?_
  refine n_icmp_eq X 1270 d_law_1232 (by decide) (fun _ => ?_) (fun c => absurd rfl c)
  exact hk v1 u1 hR1
set_option maxRecDepth 20000 in
theorem lc_taken : LC 1237 := by
  intro l D cA G b L xs rS kc ns r r' j v u X hr h1 h2 hL hj hR hk
  obtain ⟨xr, v1, u1, e1, e2, hR1⟩ := op_taken hR (xs (j + 1)) (xs (j + 2))
  refine n_aload_n X d_law_1237 rfl 2 rfl ?_
  refine l_arg X (j := j) (k := 1) 1 0 rfl rfl (by omega) hL (by decide) d_law_1238 d_law_1239 d_law_1240 d_law_1241 d_law_1242 ?_
  refine l_arg X (j := j) (k := 2) 1 0 rfl rfl (by omega) hL (by decide) d_law_1243 d_law_1244 d_law_1245 d_law_1246 d_law_1247 ?_
  refine l_callC X (As := [.int (xs (j + 1)), .int (xs (j + 2))]) (st := []) hr kcL5_taken kvL5_taken klL5_taken ⟨rfl, rfl, by decide, by decide⟩ (mX5_taken e1) rfl rfl rfl (by decide) rfl h1 h2 d_law_1248 ?_
  refine n_aload_n X d_law_1251 rfl 3 rfl ?_
  refine l_arg X (j := j) (k := 1) 1 0 rfl rfl (by omega) hL (by decide) d_law_1252 d_law_1253 d_law_1254 d_law_1255 d_law_1256 ?_
  refine l_arg X (j := j) (k := 2) 1 0 rfl rfl (by omega) hL (by decide) d_law_1257 d_law_1258 d_law_1259 d_law_1260 d_law_1261 ?_
  refine l_callM X (As := [.int (xs (j + 1)), .int (xs (j + 2))]) (st := [.int xr]) kcL6_taken kvL6_taken klL6_taken ⟨rfl, rfl, by decide, by decide⟩ (mX6_taken e2) rfl rfl rfl (Nat.le_of_ble_eq_true rfl) rfl h1 h2 d_law_1262 ?_
  refine n_icmp_eq X 1270 d_law_1265 (by decide) (fun _ => ?_) (fun c => absurd rfl c)
  exact hk v1 u1 hR1
