/-! # the law's cases -/
abbrev lsL (G : Gm) (b i : Nat) : List (Option Value) := [some (.ref b), some (.ref (gA G idB)), some (.ref (gA G idM)), some (.int (nI i))]
set_option maxRecDepth 100000 in
set_option maxHeartbeats 4000000 in
theorem lc_span {l : Launch} {G : Gm} {C : Cx} {Z : State → Prop} {b L i : Nat} {xs : Nat → Int32} {α ρ : Af} (K : OkL G C b L xs) (hi : i + 6 ≤ L) (hR : R α ρ) (hg : ∀ α1 ρ1, R α1 ρ1 → LX l G C Z 1407 (lsL G b i) [] α1 ρ1) : LX l G C Z 196 (lsL G b i) [] α ρ := by
  refine l_aload (pc := 196) (i := 1) K dL_law_196 rfl rfl ?_
  refine l_arg (pc := 197) (j := 1) K (by omega) rfl rfl dL_law_197 dL_law_198 dL_law_199 (by decide) dL_law_200 dL_law_201 ?_
  refine l_arg (pc := 202) (j := 2) K (by omega) rfl rfl dL_law_202 dL_law_203 dL_law_204 (by decide) dL_law_205 dL_law_206 ?_
  refine l_arg (pc := 207) (j := 3) K (by omega) rfl rfl dL_law_207 dL_law_208 dL_law_209 (by decide) dL_law_210 dL_law_211 ?_
  refine l_call (pc := 212) K (c_yX6_span hR.IC) mw_yX6_span ⟨im_yX6_span, se_yX6_span⟩ mk_L_13 rc_B rfl rfl ⟨by decide, Nat.le_of_ble_eq_true rfl⟩ dL_law_212 rfl ?_
  refine l_aload (pc := 215) (i := 2) K dL_law_215 rfl rfl ?_
  refine l_arg (pc := 216) (j := 1) K (by omega) rfl rfl dL_law_216 dL_law_217 dL_law_218 (by decide) dL_law_219 dL_law_220 ?_
  refine l_arg (pc := 221) (j := 2) K (by omega) rfl rfl dL_law_221 dL_law_222 dL_law_223 (by decide) dL_law_224 dL_law_225 ?_
  refine l_arg (pc := 226) (j := 3) K (by omega) rfl rfl dL_law_226 dL_law_227 dL_law_228 (by decide) dL_law_229 dL_law_230 ?_
  refine l_call (pc := 231) K (c_yX7_span hR.IM) mw_yX7_span ⟨im_yX7_span, se_yX7_span⟩ mk_L_17 rc_M rfl rfl ⟨by decide, Nat.le_of_ble_eq_true rfl⟩ dL_law_231 rfl ?_
  exact l_same (pc := 234) (tgt := 1407) K dL_law_234 (by decide) (e_span hR).1 (hg _ _ (e_span hR).2)
set_option maxRecDepth 100000 in
set_option maxHeartbeats 4000000 in
theorem lc_spanIs {l : Launch} {G : Gm} {C : Cx} {Z : State → Prop} {b L i : Nat} {xs : Nat → Int32} {α ρ : Af} (K : OkL G C b L xs) (hi : i + 6 ≤ L) (hR : R α ρ) (hg : ∀ α1 ρ1, R α1 ρ1 → LX l G C Z 1407 (lsL G b i) [] α1 ρ1) : LX l G C Z 239 (lsL G b i) [] α ρ := by
  refine l_aload (pc := 239) (i := 1) K dL_law_239 rfl rfl ?_
  refine l_arg (pc := 240) (j := 1) K (by omega) rfl rfl dL_law_240 dL_law_241 dL_law_242 (by decide) dL_law_243 dL_law_244 ?_
  refine l_arg (pc := 245) (j := 2) K (by omega) rfl rfl dL_law_245 dL_law_246 dL_law_247 (by decide) dL_law_248 dL_law_249 ?_
  refine l_call (pc := 250) K (c_yX6_spanIs hR.IC) mw_yX6_spanIs ⟨im_yX6_spanIs, se_yX6_spanIs⟩ mk_L_18 rc_B rfl rfl ⟨by decide, Nat.le_of_ble_eq_true rfl⟩ dL_law_250 rfl ?_
  refine l_aload (pc := 253) (i := 2) K dL_law_253 rfl rfl ?_
  refine l_arg (pc := 254) (j := 1) K (by omega) rfl rfl dL_law_254 dL_law_255 dL_law_256 (by decide) dL_law_257 dL_law_258 ?_
  refine l_arg (pc := 259) (j := 2) K (by omega) rfl rfl dL_law_259 dL_law_260 dL_law_261 (by decide) dL_law_262 dL_law_263 ?_
  refine l_call (pc := 264) K (c_yX7_spanIs hR.IM) mw_yX7_spanIs ⟨im_yX7_spanIs, se_yX7_spanIs⟩ mk_L_22 rc_M rfl rfl ⟨by decide, Nat.le_of_ble_eq_true rfl⟩ dL_law_264 rfl ?_
  exact l_same (pc := 267) (tgt := 1407) K dL_law_267 (by decide) (e_spanIs hR).1 (hg _ _ (e_spanIs hR).2)
set_option maxRecDepth 100000 in
set_option maxHeartbeats 4000000 in
theorem lc_become {l : Launch} {G : Gm} {C : Cx} {Z : State → Prop} {b L i : Nat} {xs : Nat → Int32} {α ρ : Af} (K : OkL G C b L xs) (hi : i + 6 ≤ L) (hR : R α ρ) (hg : ∀ α1 ρ1, R α1 ρ1 → LX l G C Z 1407 (lsL G b i) [] α1 ρ1) : LX l G C Z 272 (lsL G b i) [] α ρ := by
  refine l_aload (pc := 272) (i := 1) K dL_law_272 rfl rfl ?_
  refine l_arg (pc := 273) (j := 1) K (by omega) rfl rfl dL_law_273 dL_law_274 dL_law_275 (by decide) dL_law_276 dL_law_277 ?_
  refine l_arg (pc := 278) (j := 2) K (by omega) rfl rfl dL_law_278 dL_law_279 dL_law_280 (by decide) dL_law_281 dL_law_282 ?_
  refine l_call (pc := 283) K (c_yX6_become hR.IC) mw_yX6_become ⟨im_yX6_become, se_yX6_become⟩ mk_L_23 rc_B rfl rfl ⟨by decide, Nat.le_of_ble_eq_true rfl⟩ dL_law_283 rfl ?_
  refine l_aload (pc := 286) (i := 2) K dL_law_286 rfl rfl ?_
  refine l_arg (pc := 287) (j := 1) K (by omega) rfl rfl dL_law_287 dL_law_288 dL_law_289 (by decide) dL_law_290 dL_law_291 ?_
  refine l_arg (pc := 292) (j := 2) K (by omega) rfl rfl dL_law_292 dL_law_293 dL_law_294 (by decide) dL_law_295 dL_law_296 ?_
  refine l_call (pc := 297) K (c_yX7_become hR.IM) mw_yX7_become ⟨im_yX7_become, se_yX7_become⟩ mk_L_26 rc_M rfl rfl ⟨by decide, Nat.le_of_ble_eq_true rfl⟩ dL_law_297 rfl ?_
  exact l_same (pc := 300) (tgt := 1407) K dL_law_300 (by decide) (e_become hR).1 (hg _ _ (e_become hR).2)
set_option maxRecDepth 100000 in
set_option maxHeartbeats 4000000 in
theorem lc_as {l : Launch} {G : Gm} {C : Cx} {Z : State → Prop} {b L i : Nat} {xs : Nat → Int32} {α ρ : Af} (K : OkL G C b L xs) (hi : i + 6 ≤ L) (hR : R α ρ) (hg : ∀ α1 ρ1, R α1 ρ1 → LX l G C Z 1407 (lsL G b i) [] α1 ρ1) : LX l G C Z 305 (lsL G b i) [] α ρ := by
  refine l_aload (pc := 305) (i := 1) K dL_law_305 rfl rfl ?_
  refine l_arg (pc := 306) (j := 1) K (by omega) rfl rfl dL_law_306 dL_law_307 dL_law_308 (by decide) dL_law_309 dL_law_310 ?_
  refine l_arg (pc := 311) (j := 2) K (by omega) rfl rfl dL_law_311 dL_law_312 dL_law_313 (by decide) dL_law_314 dL_law_315 ?_
  refine l_call (pc := 316) K (c_yX6_as hR.IC) mw_yX6_as ⟨im_yX6_as, se_yX6_as⟩ mk_L_27 rc_B rfl rfl ⟨by decide, Nat.le_of_ble_eq_true rfl⟩ dL_law_316 rfl ?_
  refine l_aload (pc := 319) (i := 2) K dL_law_319 rfl rfl ?_
  refine l_arg (pc := 320) (j := 1) K (by omega) rfl rfl dL_law_320 dL_law_321 dL_law_322 (by decide) dL_law_323 dL_law_324 ?_
  refine l_arg (pc := 325) (j := 2) K (by omega) rfl rfl dL_law_325 dL_law_326 dL_law_327 (by decide) dL_law_328 dL_law_329 ?_
  refine l_call (pc := 330) K (c_yX7_as hR.IM) mw_yX7_as ⟨im_yX7_as, se_yX7_as⟩ mk_L_30 rc_M rfl rfl ⟨by decide, Nat.le_of_ble_eq_true rfl⟩ dL_law_330 rfl ?_
  exact l_same (pc := 333) (tgt := 1407) K dL_law_333 (by decide) (e_as hR).1 (hg _ _ (e_as hR).2)
set_option maxRecDepth 100000 in
set_option maxHeartbeats 4000000 in
theorem lc_soak {l : Launch} {G : Gm} {C : Cx} {Z : State → Prop} {b L i : Nat} {xs : Nat → Int32} {α ρ : Af} (K : OkL G C b L xs) (hi : i + 6 ≤ L) (hR : R α ρ) (hg : ∀ α1 ρ1, R α1 ρ1 → LX l G C Z 1407 (lsL G b i) [] α1 ρ1) : LX l G C Z 338 (lsL G b i) [] α ρ := by
  refine l_aload (pc := 338) (i := 1) K dL_law_338 rfl rfl ?_
  refine l_arg (pc := 339) (j := 1) K (by omega) rfl rfl dL_law_339 dL_law_340 dL_law_341 (by decide) dL_law_342 dL_law_343 ?_
  refine l_arg (pc := 344) (j := 2) K (by omega) rfl rfl dL_law_344 dL_law_345 dL_law_346 (by decide) dL_law_347 dL_law_348 ?_
  refine l_call (pc := 349) K (c_yX6_soak hR.IC) mw_yX6_soak ⟨im_yX6_soak, se_yX6_soak⟩ mk_L_31 rc_B rfl rfl ⟨by decide, Nat.le_of_ble_eq_true rfl⟩ dL_law_349 rfl ?_
  refine l_aload (pc := 352) (i := 2) K dL_law_352 rfl rfl ?_
  refine l_arg (pc := 353) (j := 1) K (by omega) rfl rfl dL_law_353 dL_law_354 dL_law_355 (by decide) dL_law_356 dL_law_357 ?_
  refine l_arg (pc := 358) (j := 2) K (by omega) rfl rfl dL_law_358 dL_law_359 dL_law_360 (by decide) dL_law_361 dL_law_362 ?_
  refine l_call (pc := 363) K (c_yX7_soak hR.IM) mw_yX7_soak ⟨im_yX7_soak, se_yX7_soak⟩ mk_L_34 rc_M rfl rfl ⟨by decide, Nat.le_of_ble_eq_true rfl⟩ dL_law_363 rfl ?_
  exact l_same (pc := 366) (tgt := 1407) K dL_law_366 (by decide) (e_soak hR).1 (hg _ _ (e_soak hR).2)
set_option maxRecDepth 100000 in
set_option maxHeartbeats 4000000 in
theorem lc_bakes {l : Launch} {G : Gm} {C : Cx} {Z : State → Prop} {b L i : Nat} {xs : Nat → Int32} {α ρ : Af} (K : OkL G C b L xs) (hi : i + 6 ≤ L) (hR : R α ρ) (hg : ∀ α1 ρ1, R α1 ρ1 → LX l G C Z 1407 (lsL G b i) [] α1 ρ1) : LX l G C Z 371 (lsL G b i) [] α ρ := by
  refine l_aload (pc := 371) (i := 1) K dL_law_371 rfl rfl ?_
  refine l_arg (pc := 372) (j := 1) K (by omega) rfl rfl dL_law_372 dL_law_373 dL_law_374 (by decide) dL_law_375 dL_law_376 ?_
  refine l_call (pc := 377) K (c_yX6_bakes hR.IC) mw_yX6_bakes ⟨im_yX6_bakes, se_yX6_bakes⟩ mk_L_35 rc_B rfl rfl ⟨by decide, Nat.le_of_ble_eq_true rfl⟩ dL_law_377 rfl ?_
  refine l_aload (pc := 380) (i := 2) K dL_law_380 rfl rfl ?_
  refine l_arg (pc := 381) (j := 1) K (by omega) rfl rfl dL_law_381 dL_law_382 dL_law_383 (by decide) dL_law_384 dL_law_385 ?_
  refine l_call (pc := 386) K (c_yX7_bakes hR.IM) mw_yX7_bakes ⟨im_yX7_bakes, se_yX7_bakes⟩ mk_L_39 rc_M rfl rfl ⟨by decide, Nat.le_of_ble_eq_true rfl⟩ dL_law_386 rfl ?_
  exact l_same (pc := 389) (tgt := 1407) K dL_law_389 (by decide) (e_bakes hR).1 (hg _ _ (e_bakes hR).2)
set_option maxRecDepth 100000 in
set_option maxHeartbeats 4000000 in
theorem lc_eat {l : Launch} {G : Gm} {C : Cx} {Z : State → Prop} {b L i : Nat} {xs : Nat → Int32} {α ρ : Af} (K : OkL G C b L xs) (hi : i + 6 ≤ L) (hR : R α ρ) (hg : ∀ α1 ρ1, R α1 ρ1 → LX l G C Z 1407 (lsL G b i) [] α1 ρ1) : LX l G C Z 394 (lsL G b i) [] α ρ := by
  refine l_aload (pc := 394) (i := 1) K dL_law_394 rfl rfl ?_
  refine l_arg (pc := 395) (j := 1) K (by omega) rfl rfl dL_law_395 dL_law_396 dL_law_397 (by decide) dL_law_398 dL_law_399 ?_
  refine l_call (pc := 400) K (c_yX6_eat hR.IC) mw_yX6_eat ⟨im_yX6_eat, se_yX6_eat⟩ mk_L_40 rc_B rfl rfl ⟨by decide, Nat.le_of_ble_eq_true rfl⟩ dL_law_400 rfl ?_
  refine l_aload (pc := 403) (i := 2) K dL_law_403 rfl rfl ?_
  refine l_arg (pc := 404) (j := 1) K (by omega) rfl rfl dL_law_404 dL_law_405 dL_law_406 (by decide) dL_law_407 dL_law_408 ?_
  refine l_call (pc := 409) K (c_yX7_eat hR.IM) mw_yX7_eat ⟨im_yX7_eat, se_yX7_eat⟩ mk_L_43 rc_M rfl rfl ⟨by decide, Nat.le_of_ble_eq_true rfl⟩ dL_law_409 rfl ?_
  exact l_same (pc := 412) (tgt := 1407) K dL_law_412 (by decide) (e_eat hR).1 (hg _ _ (e_eat hR).2)
set_option maxRecDepth 100000 in
set_option maxHeartbeats 4000000 in
theorem lc_store {l : Launch} {G : Gm} {C : Cx} {Z : State → Prop} {b L i : Nat} {xs : Nat → Int32} {α ρ : Af} (K : OkL G C b L xs) (hi : i + 6 ≤ L) (hR : R α ρ) (hg : ∀ α1 ρ1, R α1 ρ1 → LX l G C Z 1407 (lsL G b i) [] α1 ρ1) : LX l G C Z 417 (lsL G b i) [] α ρ := by
  refine l_aload (pc := 417) (i := 1) K dL_law_417 rfl rfl ?_
  refine l_arg (pc := 418) (j := 1) K (by omega) rfl rfl dL_law_418 dL_law_419 dL_law_420 (by decide) dL_law_421 dL_law_422 ?_
  refine l_arg (pc := 423) (j := 2) K (by omega) rfl rfl dL_law_423 dL_law_424 dL_law_425 (by decide) dL_law_426 dL_law_427 ?_
  refine l_call (pc := 428) K (c_yX6_store hR.IC) mw_yX6_store ⟨im_yX6_store, se_yX6_store⟩ mk_L_44 rc_B rfl rfl ⟨by decide, Nat.le_of_ble_eq_true rfl⟩ dL_law_428 rfl ?_
  refine l_aload (pc := 431) (i := 2) K dL_law_431 rfl rfl ?_
  refine l_arg (pc := 432) (j := 1) K (by omega) rfl rfl dL_law_432 dL_law_433 dL_law_434 (by decide) dL_law_435 dL_law_436 ?_
  refine l_arg (pc := 437) (j := 2) K (by omega) rfl rfl dL_law_437 dL_law_438 dL_law_439 (by decide) dL_law_440 dL_law_441 ?_
  refine l_call (pc := 442) K (c_yX7_store hR.IM) mw_yX7_store ⟨im_yX7_store, se_yX7_store⟩ mk_L_47 rc_M rfl rfl ⟨by decide, Nat.le_of_ble_eq_true rfl⟩ dL_law_442 rfl ?_
  exact l_same (pc := 445) (tgt := 1407) K dL_law_445 (by decide) (e_store hR).1 (hg _ _ (e_store hR).2)
set_option maxRecDepth 100000 in
set_option maxHeartbeats 4000000 in
theorem lc_cross {l : Launch} {G : Gm} {C : Cx} {Z : State → Prop} {b L i : Nat} {xs : Nat → Int32} {α ρ : Af} (K : OkL G C b L xs) (hi : i + 6 ≤ L) (hR : R α ρ) (hg : ∀ α1 ρ1, R α1 ρ1 → LX l G C Z 1407 (lsL G b i) [] α1 ρ1) : LX l G C Z 450 (lsL G b i) [] α ρ := by
  refine l_aload (pc := 450) (i := 1) K dL_law_450 rfl rfl ?_
  refine l_arg (pc := 451) (j := 1) K (by omega) rfl rfl dL_law_451 dL_law_452 dL_law_453 (by decide) dL_law_454 dL_law_455 ?_
  refine l_arg (pc := 456) (j := 2) K (by omega) rfl rfl dL_law_456 dL_law_457 dL_law_458 (by decide) dL_law_459 dL_law_460 ?_
  refine l_call (pc := 461) K (c_yX6_cross hR.IC) mw_yX6_cross ⟨im_yX6_cross, se_yX6_cross⟩ mk_L_48 rc_B rfl rfl ⟨by decide, Nat.le_of_ble_eq_true rfl⟩ dL_law_461 rfl ?_
  refine l_aload (pc := 464) (i := 2) K dL_law_464 rfl rfl ?_
  refine l_arg (pc := 465) (j := 1) K (by omega) rfl rfl dL_law_465 dL_law_466 dL_law_467 (by decide) dL_law_468 dL_law_469 ?_
  refine l_arg (pc := 470) (j := 2) K (by omega) rfl rfl dL_law_470 dL_law_471 dL_law_472 (by decide) dL_law_473 dL_law_474 ?_
  refine l_call (pc := 475) K (c_yX7_cross hR.IM) mw_yX7_cross ⟨im_yX7_cross, se_yX7_cross⟩ mk_L_51 rc_M rfl rfl ⟨by decide, Nat.le_of_ble_eq_true rfl⟩ dL_law_475 rfl ?_
  exact l_same (pc := 478) (tgt := 1407) K dL_law_478 (by decide) (e_cross hR).1 (hg _ _ (e_cross hR).2)
set_option maxRecDepth 100000 in
set_option maxHeartbeats 4000000 in
theorem lc_feed {l : Launch} {G : Gm} {C : Cx} {Z : State → Prop} {b L i : Nat} {xs : Nat → Int32} {α ρ : Af} (K : OkL G C b L xs) (hi : i + 6 ≤ L) (hR : R α ρ) (hg : ∀ α1 ρ1, R α1 ρ1 → LX l G C Z 1407 (lsL G b i) [] α1 ρ1) : LX l G C Z 483 (lsL G b i) [] α ρ := by
  refine l_aload (pc := 483) (i := 1) K dL_law_483 rfl rfl ?_
  refine l_arg (pc := 484) (j := 1) K (by omega) rfl rfl dL_law_484 dL_law_485 dL_law_486 (by decide) dL_law_487 dL_law_488 ?_
  refine l_i2l (pc := 489) K dL_law_489 ?_
  refine l_bipush (pc := 490) (v := 32) K dL_law_490 (by decide) ?_
  refine l_lshl (pc := 492) K dL_law_492 ?_
  refine l_arg (pc := 493) (j := 2) K (by omega) rfl rfl dL_law_493 dL_law_494 dL_law_495 (by decide) dL_law_496 dL_law_497 ?_
  refine l_i2l (pc := 498) K dL_law_498 ?_
  refine l_ldc2 (pc := 499) K kn_L_52 dL_law_499 ?_
  refine l_land (pc := 502) K dL_law_502 ?_
  refine l_lor (pc := 503) K dL_law_503 ?_
  refine l_arg (pc := 504) (j := 3) K (by omega) rfl rfl dL_law_504 dL_law_505 dL_law_506 (by decide) dL_law_507 dL_law_508 ?_
  refine l_call (pc := 509) K (c_yX6_feed hR.IC) mw_yX6_feed ⟨im_yX6_feed, se_yX6_feed⟩ mk_L_54 rc_B rfl rfl ⟨by decide, Nat.le_of_ble_eq_true rfl⟩ dL_law_509 rfl ?_
  refine l_aload (pc := 512) (i := 2) K dL_law_512 rfl rfl ?_
  refine l_arg (pc := 513) (j := 1) K (by omega) rfl rfl dL_law_513 dL_law_514 dL_law_515 (by decide) dL_law_516 dL_law_517 ?_
  refine l_i2l (pc := 518) K dL_law_518 ?_
  refine l_bipush (pc := 519) (v := 32) K dL_law_519 (by decide) ?_
  refine l_lshl (pc := 521) K dL_law_521 ?_
  refine l_arg (pc := 522) (j := 2) K (by omega) rfl rfl dL_law_522 dL_law_523 dL_law_524 (by decide) dL_law_525 dL_law_526 ?_
  refine l_i2l (pc := 527) K dL_law_527 ?_
  refine l_ldc2 (pc := 528) K kn_L_52 dL_law_528 ?_
  refine l_land (pc := 531) K dL_law_531 ?_
  refine l_lor (pc := 532) K dL_law_532 ?_
  refine l_arg (pc := 533) (j := 3) K (by omega) rfl rfl dL_law_533 dL_law_534 dL_law_535 (by decide) dL_law_536 dL_law_537 ?_
  refine l_call (pc := 538) K (c_yX7_feed hR.IM) mw_yX7_feed ⟨im_yX7_feed, se_yX7_feed⟩ mk_L_58 rc_M rfl rfl ⟨by decide, Nat.le_of_ble_eq_true rfl⟩ dL_law_538 rfl ?_
  exact l_same (pc := 541) (tgt := 1407) K dL_law_541 (by decide) (e_feed hR).1 (hg _ _ (e_feed hR).2)
set_option maxRecDepth 100000 in
set_option maxHeartbeats 4000000 in
theorem lc_text {l : Launch} {G : Gm} {C : Cx} {Z : State → Prop} {b L i : Nat} {xs : Nat → Int32} {α ρ : Af} (K : OkL G C b L xs) (hi : i + 6 ≤ L) (hR : R α ρ) (hg : ∀ α1 ρ1, R α1 ρ1 → LX l G C Z 1407 (lsL G b i) [] α1 ρ1) : LX l G C Z 546 (lsL G b i) [] α ρ := by
  refine l_aload (pc := 546) (i := 1) K dL_law_546 rfl rfl ?_
  refine l_arg (pc := 547) (j := 1) K (by omega) rfl rfl dL_law_547 dL_law_548 dL_law_549 (by decide) dL_law_550 dL_law_551 ?_
  refine l_call (pc := 552) K (c_yX6_text hR.IC) mw_yX6_text ⟨im_yX6_text, se_yX6_text⟩ mk_L_59 rc_B rfl rfl ⟨by decide, Nat.le_of_ble_eq_true rfl⟩ dL_law_552 rfl ?_
  refine l_aload (pc := 555) (i := 2) K dL_law_555 rfl rfl ?_
  refine l_arg (pc := 556) (j := 1) K (by omega) rfl rfl dL_law_556 dL_law_557 dL_law_558 (by decide) dL_law_559 dL_law_560 ?_
  refine l_call (pc := 561) K (c_yX7_text hR.IM.2.2.2.1) mw_yX7_text ⟨im_yX7_text, se_yX7_text⟩ mk_L_62 rc_M rfl rfl ⟨by decide, Nat.le_of_ble_eq_true rfl⟩ dL_law_561 rfl ?_
  exact l_same (pc := 564) (tgt := 1407) K dL_law_564 (by decide) (congrArg Prod.fst (e_text hR).1) (hg _ _ (e_text hR).2)
set_option maxRecDepth 100000 in
set_option maxHeartbeats 4000000 in
theorem lc_untell {l : Launch} {G : Gm} {C : Cx} {Z : State → Prop} {b L i : Nat} {xs : Nat → Int32} {α ρ : Af} (K : OkL G C b L xs) (hi : i + 6 ≤ L) (hR : R α ρ) (hg : ∀ α1 ρ1, R α1 ρ1 → LX l G C Z 1407 (lsL G b i) [] α1 ρ1) : LX l G C Z 569 (lsL G b i) [] α ρ := by
  refine l_aload (pc := 569) (i := 1) K dL_law_569 rfl rfl ?_
  refine l_arg (pc := 570) (j := 1) K (by omega) rfl rfl dL_law_570 dL_law_571 dL_law_572 (by decide) dL_law_573 dL_law_574 ?_
  refine l_call (pc := 575) K (c_yX6_untell hR.IC) mw_yX6_untell ⟨im_yX6_untell, se_yX6_untell⟩ mk_L_63 rc_B rfl rfl ⟨by decide, Nat.le_of_ble_eq_true rfl⟩ dL_law_575 rfl ?_
  refine l_aload (pc := 578) (i := 2) K dL_law_578 rfl rfl ?_
  refine l_arg (pc := 579) (j := 1) K (by omega) rfl rfl dL_law_579 dL_law_580 dL_law_581 (by decide) dL_law_582 dL_law_583 ?_
  refine l_call (pc := 584) K (c_yX7_untell hR.IM) mw_yX7_untell ⟨im_yX7_untell, se_yX7_untell⟩ mk_L_66 rc_M rfl rfl ⟨by decide, Nat.le_of_ble_eq_true rfl⟩ dL_law_584 rfl ?_
  exact l_same (pc := 587) (tgt := 1407) K dL_law_587 (by decide) (e_untell hR).1 (hg _ _ (e_untell hR).2)
set_option maxRecDepth 100000 in
set_option maxHeartbeats 4000000 in
theorem lc_law {l : Launch} {G : Gm} {C : Cx} {Z : State → Prop} {b L i : Nat} {xs : Nat → Int32} {α ρ : Af} (K : OkL G C b L xs) (hi : i + 6 ≤ L) (hR : R α ρ) (hg : ∀ α1 ρ1, R α1 ρ1 → LX l G C Z 1407 (lsL G b i) [] α1 ρ1) : LX l G C Z 592 (lsL G b i) [] α ρ := by
  refine l_aload (pc := 592) (i := 1) K dL_law_592 rfl rfl ?_
  refine l_arg (pc := 593) (j := 1) K (by omega) rfl rfl dL_law_593 dL_law_594 dL_law_595 (by decide) dL_law_596 dL_law_597 ?_
  refine l_arg (pc := 598) (j := 2) K (by omega) rfl rfl dL_law_598 dL_law_599 dL_law_600 (by decide) dL_law_601 dL_law_602 ?_
  refine l_arg (pc := 603) (j := 3) K (by omega) rfl rfl dL_law_603 dL_law_604 dL_law_605 (by decide) dL_law_606 dL_law_607 ?_
  refine l_arg (pc := 608) (j := 4) K (by omega) rfl rfl dL_law_608 dL_law_609 dL_law_610 (by decide) dL_law_611 dL_law_612 ?_
  refine l_call (pc := 613) K (c_yX6_law hR.IC) mw_yX6_law ⟨im_yX6_law, se_yX6_law⟩ mk_L_67 rc_B rfl rfl ⟨by decide, Nat.le_of_ble_eq_true rfl⟩ dL_law_613 rfl ?_
  refine l_aload (pc := 616) (i := 2) K dL_law_616 rfl rfl ?_
  refine l_arg (pc := 617) (j := 1) K (by omega) rfl rfl dL_law_617 dL_law_618 dL_law_619 (by decide) dL_law_620 dL_law_621 ?_
  refine l_arg (pc := 622) (j := 2) K (by omega) rfl rfl dL_law_622 dL_law_623 dL_law_624 (by decide) dL_law_625 dL_law_626 ?_
  refine l_arg (pc := 627) (j := 3) K (by omega) rfl rfl dL_law_627 dL_law_628 dL_law_629 (by decide) dL_law_630 dL_law_631 ?_
  refine l_arg (pc := 632) (j := 4) K (by omega) rfl rfl dL_law_632 dL_law_633 dL_law_634 (by decide) dL_law_635 dL_law_636 ?_
  refine l_call (pc := 637) K (c_yX7_law hR.IM) mw_yX7_law ⟨im_yX7_law, se_yX7_law⟩ mk_L_71 rc_M rfl rfl ⟨by decide, Nat.le_of_ble_eq_true rfl⟩ dL_law_637 rfl ?_
  exact l_same (pc := 640) (tgt := 1407) K dL_law_640 (by decide) (e_law hR).1 (hg _ _ (e_law hR).2)
set_option maxRecDepth 100000 in
set_option maxHeartbeats 4000000 in
theorem lc_days {l : Launch} {G : Gm} {C : Cx} {Z : State → Prop} {b L i : Nat} {xs : Nat → Int32} {α ρ : Af} (K : OkL G C b L xs) (hi : i + 6 ≤ L) (hR : R α ρ) (hg : ∀ α1 ρ1, R α1 ρ1 → LX l G C Z 1407 (lsL G b i) [] α1 ρ1) : LX l G C Z 645 (lsL G b i) [] α ρ := by
  refine l_aload (pc := 645) (i := 1) K dL_law_645 rfl rfl ?_
  refine l_arg (pc := 646) (j := 1) K (by omega) rfl rfl dL_law_646 dL_law_647 dL_law_648 (by decide) dL_law_649 dL_law_650 ?_
  refine l_call (pc := 651) K (c_yX6_days hR.IC) mw_yX6_days ⟨im_yX6_days, se_yX6_days⟩ mk_L_72 rc_B rfl rfl ⟨by decide, Nat.le_of_ble_eq_true rfl⟩ dL_law_651 rfl ?_
  refine l_aload (pc := 654) (i := 2) K dL_law_654 rfl rfl ?_
  refine l_arg (pc := 655) (j := 1) K (by omega) rfl rfl dL_law_655 dL_law_656 dL_law_657 (by decide) dL_law_658 dL_law_659 ?_
  refine l_call (pc := 660) K (c_yX7_days hR.IM) mw_yX7_days ⟨im_yX7_days, se_yX7_days⟩ mk_L_75 rc_M rfl rfl ⟨by decide, Nat.le_of_ble_eq_true rfl⟩ dL_law_660 rfl ?_
  exact l_same (pc := 663) (tgt := 1407) K dL_law_663 (by decide) (e_days hR).1 (hg _ _ (e_days hR).2)
set_option maxRecDepth 100000 in
set_option maxHeartbeats 4000000 in
theorem lc_loose {l : Launch} {G : Gm} {C : Cx} {Z : State → Prop} {b L i : Nat} {xs : Nat → Int32} {α ρ : Af} (K : OkL G C b L xs) (hi : i + 6 ≤ L) (hR : R α ρ) (hg : ∀ α1 ρ1, R α1 ρ1 → LX l G C Z 1407 (lsL G b i) [] α1 ρ1) : LX l G C Z 668 (lsL G b i) [] α ρ := by
  refine l_aload (pc := 668) (i := 1) K dL_law_668 rfl rfl ?_
  refine l_arg (pc := 669) (j := 1) K (by omega) rfl rfl dL_law_669 dL_law_670 dL_law_671 (by decide) dL_law_672 dL_law_673 ?_
  refine l_call (pc := 674) K (c_yX6_loose hR.IC) mw_yX6_loose ⟨im_yX6_loose, se_yX6_loose⟩ mk_L_76 rc_B rfl rfl ⟨by decide, Nat.le_of_ble_eq_true rfl⟩ dL_law_674 rfl ?_
  refine l_aload (pc := 677) (i := 2) K dL_law_677 rfl rfl ?_
  refine l_arg (pc := 678) (j := 1) K (by omega) rfl rfl dL_law_678 dL_law_679 dL_law_680 (by decide) dL_law_681 dL_law_682 ?_
  refine l_call (pc := 683) K (c_yX7_loose hR.IM) mw_yX7_loose ⟨im_yX7_loose, se_yX7_loose⟩ mk_L_79 rc_M rfl rfl ⟨by decide, Nat.le_of_ble_eq_true rfl⟩ dL_law_683 rfl ?_
  exact l_same (pc := 686) (tgt := 1407) K dL_law_686 (by decide) (e_loose hR).1 (hg _ _ (e_loose hR).2)
set_option maxRecDepth 100000 in
set_option maxHeartbeats 4000000 in
theorem lc_seed {l : Launch} {G : Gm} {C : Cx} {Z : State → Prop} {b L i : Nat} {xs : Nat → Int32} {α ρ : Af} (K : OkL G C b L xs) (hi : i + 6 ≤ L) (hR : R α ρ) (hg : ∀ α1 ρ1, R α1 ρ1 → LX l G C Z 1407 (lsL G b i) [] α1 ρ1) : LX l G C Z 691 (lsL G b i) [] α ρ := by
  refine l_aload (pc := 691) (i := 1) K dL_law_691 rfl rfl ?_
  refine l_arg (pc := 692) (j := 1) K (by omega) rfl rfl dL_law_692 dL_law_693 dL_law_694 (by decide) dL_law_695 dL_law_696 ?_
  refine l_call (pc := 697) K (c_yX6_seed hR.IC) mw_yX6_seed ⟨im_yX6_seed, se_yX6_seed⟩ mk_L_80 rc_B rfl rfl ⟨by decide, Nat.le_of_ble_eq_true rfl⟩ dL_law_697 rfl ?_
  refine l_aload (pc := 700) (i := 2) K dL_law_700 rfl rfl ?_
  refine l_arg (pc := 701) (j := 1) K (by omega) rfl rfl dL_law_701 dL_law_702 dL_law_703 (by decide) dL_law_704 dL_law_705 ?_
  refine l_call (pc := 706) K (c_yX7_seed hR.IM) mw_yX7_seed ⟨im_yX7_seed, se_yX7_seed⟩ mk_L_83 rc_M rfl rfl ⟨by decide, Nat.le_of_ble_eq_true rfl⟩ dL_law_706 rfl ?_
  exact l_same (pc := 709) (tgt := 1407) K dL_law_709 (by decide) (e_seed hR).1 (hg _ _ (e_seed hR).2)
set_option maxRecDepth 100000 in
set_option maxHeartbeats 4000000 in
theorem lc_joined {l : Launch} {G : Gm} {C : Cx} {Z : State → Prop} {b L i : Nat} {xs : Nat → Int32} {α ρ : Af} (K : OkL G C b L xs) (hi : i + 6 ≤ L) (hR : R α ρ) (hg : ∀ α1 ρ1, R α1 ρ1 → LX l G C Z 1407 (lsL G b i) [] α1 ρ1) : LX l G C Z 714 (lsL G b i) [] α ρ := by
  refine l_aload (pc := 714) (i := 1) K dL_law_714 rfl rfl ?_
  refine l_arg (pc := 715) (j := 1) K (by omega) rfl rfl dL_law_715 dL_law_716 dL_law_717 (by decide) dL_law_718 dL_law_719 ?_
  refine l_arg (pc := 720) (j := 2) K (by omega) rfl rfl dL_law_720 dL_law_721 dL_law_722 (by decide) dL_law_723 dL_law_724 ?_
  refine l_call (pc := 725) K (c_yX6_joined hR.IC) mw_yX6_joined ⟨im_yX6_joined, se_yX6_joined⟩ mk_L_84 rc_B rfl rfl ⟨by decide, Nat.le_of_ble_eq_true rfl⟩ dL_law_725 rfl ?_
  refine l_aload (pc := 728) (i := 2) K dL_law_728 rfl rfl ?_
  refine l_arg (pc := 729) (j := 1) K (by omega) rfl rfl dL_law_729 dL_law_730 dL_law_731 (by decide) dL_law_732 dL_law_733 ?_
  refine l_arg (pc := 734) (j := 2) K (by omega) rfl rfl dL_law_734 dL_law_735 dL_law_736 (by decide) dL_law_737 dL_law_738 ?_
  refine l_call (pc := 739) K (c_yX7_joined hR.IM) mw_yX7_joined ⟨im_yX7_joined, se_yX7_joined⟩ mk_L_87 rc_M rfl rfl ⟨by decide, Nat.le_of_ble_eq_true rfl⟩ dL_law_739 rfl ?_
  exact l_same (pc := 742) (tgt := 1407) K dL_law_742 (by decide) (e_joined hR).1 (hg _ _ (e_joined hR).2)
set_option maxRecDepth 100000 in
set_option maxHeartbeats 4000000 in
theorem lc_load {l : Launch} {G : Gm} {C : Cx} {Z : State → Prop} {b L i : Nat} {xs : Nat → Int32} {α ρ : Af} (K : OkL G C b L xs) (hi : i + 6 ≤ L) (hR : R α ρ) (hg : ∀ α1 ρ1, R α1 ρ1 → LX l G C Z 1407 (lsL G b i) [] α1 ρ1) : LX l G C Z 747 (lsL G b i) [] α ρ := by
  refine l_aload (pc := 747) (i := 1) K dL_law_747 rfl rfl ?_
  refine l_arg (pc := 748) (j := 1) K (by omega) rfl rfl dL_law_748 dL_law_749 dL_law_750 (by decide) dL_law_751 dL_law_752 ?_
  refine l_arg (pc := 753) (j := 2) K (by omega) rfl rfl dL_law_753 dL_law_754 dL_law_755 (by decide) dL_law_756 dL_law_757 ?_
  refine l_call (pc := 758) K (c_yX6_load hR.IC) mw_yX6_load ⟨im_yX6_load, se_yX6_load⟩ mk_L_88 rc_B rfl rfl ⟨by decide, Nat.le_of_ble_eq_true rfl⟩ dL_law_758 rfl ?_
  refine l_aload (pc := 761) (i := 2) K dL_law_761 rfl rfl ?_
  refine l_arg (pc := 762) (j := 1) K (by omega) rfl rfl dL_law_762 dL_law_763 dL_law_764 (by decide) dL_law_765 dL_law_766 ?_
  refine l_arg (pc := 767) (j := 2) K (by omega) rfl rfl dL_law_767 dL_law_768 dL_law_769 (by decide) dL_law_770 dL_law_771 ?_
  refine l_call (pc := 772) K (c_yX7_load hR.IM) mw_yX7_load ⟨im_yX7_load, se_yX7_load⟩ mk_L_91 rc_M rfl rfl ⟨by decide, Nat.le_of_ble_eq_true rfl⟩ dL_law_772 rfl ?_
  exact l_same (pc := 775) (tgt := 1407) K dL_law_775 (by decide) (e_load hR).1 (hg _ _ (e_load hR).2)
set_option maxRecDepth 100000 in
set_option maxHeartbeats 4000000 in
theorem lc_baking {l : Launch} {G : Gm} {C : Cx} {Z : State → Prop} {b L i : Nat} {xs : Nat → Int32} {α ρ : Af} (K : OkL G C b L xs) (hi : i + 6 ≤ L) (hR : R α ρ) (hg : ∀ α1 ρ1, R α1 ρ1 → LX l G C Z 1407 (lsL G b i) [] α1 ρ1) : LX l G C Z 780 (lsL G b i) [] α ρ := by
  refine l_aload (pc := 780) (i := 1) K dL_law_780 rfl rfl ?_
  refine l_arg (pc := 781) (j := 1) K (by omega) rfl rfl dL_law_781 dL_law_782 dL_law_783 (by decide) dL_law_784 dL_law_785 ?_
  refine l_arg (pc := 786) (j := 2) K (by omega) rfl rfl dL_law_786 dL_law_787 dL_law_788 (by decide) dL_law_789 dL_law_790 ?_
  refine l_arg (pc := 791) (j := 3) K (by omega) rfl rfl dL_law_791 dL_law_792 dL_law_793 (by decide) dL_law_794 dL_law_795 ?_
  refine l_arg (pc := 796) (j := 4) K (by omega) rfl rfl dL_law_796 dL_law_797 dL_law_798 (by decide) dL_law_799 dL_law_800 ?_
  refine l_call (pc := 801) K (c_yX6_baking hR.IC) mw_yX6_baking ⟨im_yX6_baking, se_yX6_baking⟩ mk_L_92 rc_B rfl rfl ⟨by decide, Nat.le_of_ble_eq_true rfl⟩ dL_law_801 rfl ?_
  refine l_aload (pc := 804) (i := 2) K dL_law_804 rfl rfl ?_
  refine l_arg (pc := 805) (j := 1) K (by omega) rfl rfl dL_law_805 dL_law_806 dL_law_807 (by decide) dL_law_808 dL_law_809 ?_
  refine l_arg (pc := 810) (j := 2) K (by omega) rfl rfl dL_law_810 dL_law_811 dL_law_812 (by decide) dL_law_813 dL_law_814 ?_
  refine l_arg (pc := 815) (j := 3) K (by omega) rfl rfl dL_law_815 dL_law_816 dL_law_817 (by decide) dL_law_818 dL_law_819 ?_
  refine l_arg (pc := 820) (j := 4) K (by omega) rfl rfl dL_law_820 dL_law_821 dL_law_822 (by decide) dL_law_823 dL_law_824 ?_
  refine l_call (pc := 825) K (c_yX7_baking hR.IM) mw_yX7_baking ⟨im_yX7_baking, se_yX7_baking⟩ mk_L_95 rc_M rfl rfl ⟨by decide, Nat.le_of_ble_eq_true rfl⟩ dL_law_825 rfl ?_
  exact l_same (pc := 828) (tgt := 1407) K dL_law_828 (by decide) (e_baking hR).1 (hg _ _ (e_baking hR).2)
set_option maxRecDepth 100000 in
set_option maxHeartbeats 4000000 in
theorem lc_eating {l : Launch} {G : Gm} {C : Cx} {Z : State → Prop} {b L i : Nat} {xs : Nat → Int32} {α ρ : Af} (K : OkL G C b L xs) (hi : i + 6 ≤ L) (hR : R α ρ) (hg : ∀ α1 ρ1, R α1 ρ1 → LX l G C Z 1407 (lsL G b i) [] α1 ρ1) : LX l G C Z 833 (lsL G b i) [] α ρ := by
  refine l_aload (pc := 833) (i := 1) K dL_law_833 rfl rfl ?_
  refine l_arg (pc := 834) (j := 1) K (by omega) rfl rfl dL_law_834 dL_law_835 dL_law_836 (by decide) dL_law_837 dL_law_838 ?_
  refine l_arg (pc := 839) (j := 2) K (by omega) rfl rfl dL_law_839 dL_law_840 dL_law_841 (by decide) dL_law_842 dL_law_843 ?_
  refine l_arg (pc := 844) (j := 3) K (by omega) rfl rfl dL_law_844 dL_law_845 dL_law_846 (by decide) dL_law_847 dL_law_848 ?_
  refine l_arg (pc := 849) (j := 4) K (by omega) rfl rfl dL_law_849 dL_law_850 dL_law_851 (by decide) dL_law_852 dL_law_853 ?_
  refine l_call (pc := 854) K (c_yX6_eating hR.IC) mw_yX6_eating ⟨im_yX6_eating, se_yX6_eating⟩ mk_L_96 rc_B rfl rfl ⟨by decide, Nat.le_of_ble_eq_true rfl⟩ dL_law_854 rfl ?_
  refine l_aload (pc := 857) (i := 2) K dL_law_857 rfl rfl ?_
  refine l_arg (pc := 858) (j := 1) K (by omega) rfl rfl dL_law_858 dL_law_859 dL_law_860 (by decide) dL_law_861 dL_law_862 ?_
  refine l_arg (pc := 863) (j := 2) K (by omega) rfl rfl dL_law_863 dL_law_864 dL_law_865 (by decide) dL_law_866 dL_law_867 ?_
  refine l_arg (pc := 868) (j := 3) K (by omega) rfl rfl dL_law_868 dL_law_869 dL_law_870 (by decide) dL_law_871 dL_law_872 ?_
  refine l_arg (pc := 873) (j := 4) K (by omega) rfl rfl dL_law_873 dL_law_874 dL_law_875 (by decide) dL_law_876 dL_law_877 ?_
  refine l_call (pc := 878) K (c_yX7_eating hR.IM) mw_yX7_eating ⟨im_yX7_eating, se_yX7_eating⟩ mk_L_99 rc_M rfl rfl ⟨by decide, Nat.le_of_ble_eq_true rfl⟩ dL_law_878 rfl ?_
  exact l_same (pc := 881) (tgt := 1407) K dL_law_881 (by decide) (e_eating hR).1 (hg _ _ (e_eating hR).2)
set_option maxRecDepth 100000 in
set_option maxHeartbeats 4000000 in
theorem lc_lasts {l : Launch} {G : Gm} {C : Cx} {Z : State → Prop} {b L i : Nat} {xs : Nat → Int32} {α ρ : Af} (K : OkL G C b L xs) (hi : i + 6 ≤ L) (hR : R α ρ) (hg : ∀ α1 ρ1, R α1 ρ1 → LX l G C Z 1407 (lsL G b i) [] α1 ρ1) : LX l G C Z 886 (lsL G b i) [] α ρ := by
  refine l_aload (pc := 886) (i := 1) K dL_law_886 rfl rfl ?_
  refine l_arg (pc := 887) (j := 1) K (by omega) rfl rfl dL_law_887 dL_law_888 dL_law_889 (by decide) dL_law_890 dL_law_891 ?_
  refine l_arg (pc := 892) (j := 2) K (by omega) rfl rfl dL_law_892 dL_law_893 dL_law_894 (by decide) dL_law_895 dL_law_896 ?_
  refine l_arg (pc := 897) (j := 3) K (by omega) rfl rfl dL_law_897 dL_law_898 dL_law_899 (by decide) dL_law_900 dL_law_901 ?_
  refine l_call (pc := 902) K (c_yX6_lasts hR.IC) mw_yX6_lasts ⟨im_yX6_lasts, se_yX6_lasts⟩ mk_L_100 rc_B rfl rfl ⟨by decide, Nat.le_of_ble_eq_true rfl⟩ dL_law_902 rfl ?_
  refine l_aload (pc := 905) (i := 2) K dL_law_905 rfl rfl ?_
  refine l_arg (pc := 906) (j := 1) K (by omega) rfl rfl dL_law_906 dL_law_907 dL_law_908 (by decide) dL_law_909 dL_law_910 ?_
  refine l_arg (pc := 911) (j := 2) K (by omega) rfl rfl dL_law_911 dL_law_912 dL_law_913 (by decide) dL_law_914 dL_law_915 ?_
  refine l_arg (pc := 916) (j := 3) K (by omega) rfl rfl dL_law_916 dL_law_917 dL_law_918 (by decide) dL_law_919 dL_law_920 ?_
  refine l_call (pc := 921) K (c_yX7_lasts hR.IM) mw_yX7_lasts ⟨im_yX7_lasts, se_yX7_lasts⟩ mk_L_103 rc_M rfl rfl ⟨by decide, Nat.le_of_ble_eq_true rfl⟩ dL_law_921 rfl ?_
  exact l_same (pc := 924) (tgt := 1407) K dL_law_924 (by decide) (e_lasts hR).1 (hg _ _ (e_lasts hR).2)
set_option maxRecDepth 100000 in
set_option maxHeartbeats 4000000 in
theorem lc_then {l : Launch} {G : Gm} {C : Cx} {Z : State → Prop} {b L i : Nat} {xs : Nat → Int32} {α ρ : Af} (K : OkL G C b L xs) (hi : i + 6 ≤ L) (hR : R α ρ) (hg : ∀ α1 ρ1, R α1 ρ1 → LX l G C Z 1407 (lsL G b i) [] α1 ρ1) : LX l G C Z 929 (lsL G b i) [] α ρ := by
  refine l_aload (pc := 929) (i := 1) K dL_law_929 rfl rfl ?_
  refine l_arg (pc := 930) (j := 1) K (by omega) rfl rfl dL_law_930 dL_law_931 dL_law_932 (by decide) dL_law_933 dL_law_934 ?_
  refine l_arg (pc := 935) (j := 2) K (by omega) rfl rfl dL_law_935 dL_law_936 dL_law_937 (by decide) dL_law_938 dL_law_939 ?_
  refine l_call (pc := 940) K (c_yX6_then hR.IC) mw_yX6_then ⟨im_yX6_then, se_yX6_then⟩ mk_L_104 rc_B rfl rfl ⟨by decide, Nat.le_of_ble_eq_true rfl⟩ dL_law_940 rfl ?_
  refine l_aload (pc := 943) (i := 2) K dL_law_943 rfl rfl ?_
  refine l_arg (pc := 944) (j := 1) K (by omega) rfl rfl dL_law_944 dL_law_945 dL_law_946 (by decide) dL_law_947 dL_law_948 ?_
  refine l_arg (pc := 949) (j := 2) K (by omega) rfl rfl dL_law_949 dL_law_950 dL_law_951 (by decide) dL_law_952 dL_law_953 ?_
  refine l_call (pc := 954) K (c_yX7_then hR.IM) mw_yX7_then ⟨im_yX7_then, se_yX7_then⟩ mk_L_107 rc_M rfl rfl ⟨by decide, Nat.le_of_ble_eq_true rfl⟩ dL_law_954 rfl ?_
  exact l_same (pc := 957) (tgt := 1407) K dL_law_957 (by decide) (e_then hR).1 (hg _ _ (e_then hR).2)
set_option maxRecDepth 100000 in
set_option maxHeartbeats 4000000 in
theorem lc_odds {l : Launch} {G : Gm} {C : Cx} {Z : State → Prop} {b L i : Nat} {xs : Nat → Int32} {α ρ : Af} (K : OkL G C b L xs) (hi : i + 6 ≤ L) (hR : R α ρ) (hg : ∀ α1 ρ1, R α1 ρ1 → LX l G C Z 1407 (lsL G b i) [] α1 ρ1) : LX l G C Z 962 (lsL G b i) [] α ρ := by
  refine l_aload (pc := 962) (i := 1) K dL_law_962 rfl rfl ?_
  refine l_arg (pc := 963) (j := 1) K (by omega) rfl rfl dL_law_963 dL_law_964 dL_law_965 (by decide) dL_law_966 dL_law_967 ?_
  refine l_arg (pc := 968) (j := 2) K (by omega) rfl rfl dL_law_968 dL_law_969 dL_law_970 (by decide) dL_law_971 dL_law_972 ?_
  refine l_arg (pc := 973) (j := 3) K (by omega) rfl rfl dL_law_973 dL_law_974 dL_law_975 (by decide) dL_law_976 dL_law_977 ?_
  refine l_arg (pc := 978) (j := 4) K (by omega) rfl rfl dL_law_978 dL_law_979 dL_law_980 (by decide) dL_law_981 dL_law_982 ?_
  refine l_call (pc := 983) K (c_yX6_odds hR.IC) mw_yX6_odds ⟨im_yX6_odds, se_yX6_odds⟩ mk_L_108 rc_B rfl rfl ⟨by decide, Nat.le_of_ble_eq_true rfl⟩ dL_law_983 rfl ?_
  refine l_aload (pc := 986) (i := 2) K dL_law_986 rfl rfl ?_
  refine l_arg (pc := 987) (j := 1) K (by omega) rfl rfl dL_law_987 dL_law_988 dL_law_989 (by decide) dL_law_990 dL_law_991 ?_
  refine l_arg (pc := 992) (j := 2) K (by omega) rfl rfl dL_law_992 dL_law_993 dL_law_994 (by decide) dL_law_995 dL_law_996 ?_
  refine l_arg (pc := 997) (j := 3) K (by omega) rfl rfl dL_law_997 dL_law_998 dL_law_999 (by decide) dL_law_1000 dL_law_1001 ?_
  refine l_arg (pc := 1002) (j := 4) K (by omega) rfl rfl dL_law_1002 dL_law_1003 dL_law_1004 (by decide) dL_law_1005 dL_law_1006 ?_
  refine l_call (pc := 1007) K (c_yX7_odds hR.IM) mw_yX7_odds ⟨im_yX7_odds, se_yX7_odds⟩ mk_L_111 rc_M rfl rfl ⟨by decide, Nat.le_of_ble_eq_true rfl⟩ dL_law_1007 rfl ?_
  exact l_same (pc := 1010) (tgt := 1407) K dL_law_1010 (by decide) (e_odds hR).1 (hg _ _ (e_odds hR).2)
set_option maxRecDepth 100000 in
set_option maxHeartbeats 4000000 in
theorem lc_fits {l : Launch} {G : Gm} {C : Cx} {Z : State → Prop} {b L i : Nat} {xs : Nat → Int32} {α ρ : Af} (K : OkL G C b L xs) (hi : i + 6 ≤ L) (hR : R α ρ) (hg : ∀ α1 ρ1, R α1 ρ1 → LX l G C Z 1407 (lsL G b i) [] α1 ρ1) : LX l G C Z 1015 (lsL G b i) [] α ρ := by
  refine l_aload (pc := 1015) (i := 1) K dL_law_1015 rfl rfl ?_
  refine l_arg (pc := 1016) (j := 1) K (by omega) rfl rfl dL_law_1016 dL_law_1017 dL_law_1018 (by decide) dL_law_1019 dL_law_1020 ?_
  refine l_call (pc := 1021) K (c_yX6_fits hR.IC) mw_yX6_fits ⟨im_yX6_fits, se_yX6_fits⟩ mk_L_112 rc_B rfl rfl ⟨by decide, Nat.le_of_ble_eq_true rfl⟩ dL_law_1021 rfl ?_
  refine l_aload (pc := 1024) (i := 2) K dL_law_1024 rfl rfl ?_
  refine l_arg (pc := 1025) (j := 1) K (by omega) rfl rfl dL_law_1025 dL_law_1026 dL_law_1027 (by decide) dL_law_1028 dL_law_1029 ?_
  refine l_call (pc := 1030) K (c_yX7_fits hR.IM) mw_yX7_fits ⟨im_yX7_fits, se_yX7_fits⟩ mk_L_115 rc_M rfl rfl ⟨by decide, Nat.le_of_ble_eq_true rfl⟩ dL_law_1030 rfl ?_
  exact l_same (pc := 1033) (tgt := 1407) K dL_law_1033 (by decide) (e_fits hR).1 (hg _ _ (e_fits hR).2)
set_option maxRecDepth 100000 in
set_option maxHeartbeats 4000000 in
theorem lc_voice {l : Launch} {G : Gm} {C : Cx} {Z : State → Prop} {b L i : Nat} {xs : Nat → Int32} {α ρ : Af} (K : OkL G C b L xs) (hi : i + 6 ≤ L) (hR : R α ρ) (hg : ∀ α1 ρ1, R α1 ρ1 → LX l G C Z 1407 (lsL G b i) [] α1 ρ1) : LX l G C Z 1038 (lsL G b i) [] α ρ := by
  refine l_aload (pc := 1038) (i := 1) K dL_law_1038 rfl rfl ?_
  refine l_arg (pc := 1039) (j := 1) K (by omega) rfl rfl dL_law_1039 dL_law_1040 dL_law_1041 (by decide) dL_law_1042 dL_law_1043 ?_
  refine l_arg (pc := 1044) (j := 2) K (by omega) rfl rfl dL_law_1044 dL_law_1045 dL_law_1046 (by decide) dL_law_1047 dL_law_1048 ?_
  refine l_arg (pc := 1049) (j := 3) K (by omega) rfl rfl dL_law_1049 dL_law_1050 dL_law_1051 (by decide) dL_law_1052 dL_law_1053 ?_
  refine l_call (pc := 1054) K (c_yX6_voice hR.IC) mw_yX6_voice ⟨im_yX6_voice, se_yX6_voice⟩ mk_L_116 rc_B rfl rfl ⟨by decide, Nat.le_of_ble_eq_true rfl⟩ dL_law_1054 rfl ?_
  refine l_aload (pc := 1057) (i := 2) K dL_law_1057 rfl rfl ?_
  refine l_arg (pc := 1058) (j := 1) K (by omega) rfl rfl dL_law_1058 dL_law_1059 dL_law_1060 (by decide) dL_law_1061 dL_law_1062 ?_
  refine l_arg (pc := 1063) (j := 2) K (by omega) rfl rfl dL_law_1063 dL_law_1064 dL_law_1065 (by decide) dL_law_1066 dL_law_1067 ?_
  refine l_arg (pc := 1068) (j := 3) K (by omega) rfl rfl dL_law_1068 dL_law_1069 dL_law_1070 (by decide) dL_law_1071 dL_law_1072 ?_
  refine l_call (pc := 1073) K (c_yX7_voice hR.IM) mw_yX7_voice ⟨im_yX7_voice, se_yX7_voice⟩ mk_L_119 rc_M rfl rfl ⟨by decide, Nat.le_of_ble_eq_true rfl⟩ dL_law_1073 rfl ?_
  exact l_same (pc := 1076) (tgt := 1407) K dL_law_1076 (by decide) (e_voice hR).1 (hg _ _ (e_voice hR).2)
set_option maxRecDepth 100000 in
set_option maxHeartbeats 4000000 in
theorem lc_body {l : Launch} {G : Gm} {C : Cx} {Z : State → Prop} {b L i : Nat} {xs : Nat → Int32} {α ρ : Af} (K : OkL G C b L xs) (hi : i + 6 ≤ L) (hR : R α ρ) (hg : ∀ α1 ρ1, R α1 ρ1 → LX l G C Z 1407 (lsL G b i) [] α1 ρ1) : LX l G C Z 1081 (lsL G b i) [] α ρ := by
  refine l_aload (pc := 1081) (i := 1) K dL_law_1081 rfl rfl ?_
  refine l_arg (pc := 1082) (j := 1) K (by omega) rfl rfl dL_law_1082 dL_law_1083 dL_law_1084 (by decide) dL_law_1085 dL_law_1086 ?_
  refine l_call (pc := 1087) K (c_yX6_body hR.IC) mw_yX6_body ⟨im_yX6_body, se_yX6_body⟩ mk_L_120 rc_B rfl rfl ⟨by decide, Nat.le_of_ble_eq_true rfl⟩ dL_law_1087 rfl ?_
  refine l_aload (pc := 1090) (i := 2) K dL_law_1090 rfl rfl ?_
  refine l_arg (pc := 1091) (j := 1) K (by omega) rfl rfl dL_law_1091 dL_law_1092 dL_law_1093 (by decide) dL_law_1094 dL_law_1095 ?_
  refine l_call (pc := 1096) K (c_yX7_body hR.IM) mw_yX7_body ⟨im_yX7_body, se_yX7_body⟩ mk_L_123 rc_M rfl rfl ⟨by decide, Nat.le_of_ble_eq_true rfl⟩ dL_law_1096 rfl ?_
  exact l_same (pc := 1099) (tgt := 1407) K dL_law_1099 (by decide) (e_body hR).1 (hg _ _ (e_body hR).2)
set_option maxRecDepth 100000 in
set_option maxHeartbeats 4000000 in
theorem lc_sheet {l : Launch} {G : Gm} {C : Cx} {Z : State → Prop} {b L i : Nat} {xs : Nat → Int32} {α ρ : Af} (K : OkL G C b L xs) (hi : i + 6 ≤ L) (hR : R α ρ) (hg : ∀ α1 ρ1, R α1 ρ1 → LX l G C Z 1407 (lsL G b i) [] α1 ρ1) : LX l G C Z 1104 (lsL G b i) [] α ρ := by
  refine l_aload (pc := 1104) (i := 1) K dL_law_1104 rfl rfl ?_
  refine l_arg (pc := 1105) (j := 1) K (by omega) rfl rfl dL_law_1105 dL_law_1106 dL_law_1107 (by decide) dL_law_1108 dL_law_1109 ?_
  refine l_arg (pc := 1110) (j := 2) K (by omega) rfl rfl dL_law_1110 dL_law_1111 dL_law_1112 (by decide) dL_law_1113 dL_law_1114 ?_
  refine l_arg (pc := 1115) (j := 3) K (by omega) rfl rfl dL_law_1115 dL_law_1116 dL_law_1117 (by decide) dL_law_1118 dL_law_1119 ?_
  refine l_call (pc := 1120) K (c_yX6_sheet hR.IC) mw_yX6_sheet ⟨im_yX6_sheet, se_yX6_sheet⟩ mk_L_124 rc_B rfl rfl ⟨by decide, Nat.le_of_ble_eq_true rfl⟩ dL_law_1120 rfl ?_
  refine l_aload (pc := 1123) (i := 2) K dL_law_1123 rfl rfl ?_
  refine l_arg (pc := 1124) (j := 1) K (by omega) rfl rfl dL_law_1124 dL_law_1125 dL_law_1126 (by decide) dL_law_1127 dL_law_1128 ?_
  refine l_arg (pc := 1129) (j := 2) K (by omega) rfl rfl dL_law_1129 dL_law_1130 dL_law_1131 (by decide) dL_law_1132 dL_law_1133 ?_
  refine l_arg (pc := 1134) (j := 3) K (by omega) rfl rfl dL_law_1134 dL_law_1135 dL_law_1136 (by decide) dL_law_1137 dL_law_1138 ?_
  refine l_call (pc := 1139) K (c_yX7_sheet hR.IM) mw_yX7_sheet ⟨im_yX7_sheet, se_yX7_sheet⟩ mk_L_127 rc_M rfl rfl ⟨by decide, Nat.le_of_ble_eq_true rfl⟩ dL_law_1139 rfl ?_
  exact l_same (pc := 1142) (tgt := 1407) K dL_law_1142 (by decide) (e_sheet hR).1 (hg _ _ (e_sheet hR).2)
set_option maxRecDepth 100000 in
set_option maxHeartbeats 4000000 in
theorem lc_put {l : Launch} {G : Gm} {C : Cx} {Z : State → Prop} {b L i : Nat} {xs : Nat → Int32} {α ρ : Af} (K : OkL G C b L xs) (hi : i + 6 ≤ L) (hR : R α ρ) (hg : ∀ α1 ρ1, R α1 ρ1 → LX l G C Z 1407 (lsL G b i) [] α1 ρ1) : LX l G C Z 1147 (lsL G b i) [] α ρ := by
  refine l_aload (pc := 1147) (i := 1) K dL_law_1147 rfl rfl ?_
  refine l_arg (pc := 1148) (j := 1) K (by omega) rfl rfl dL_law_1148 dL_law_1149 dL_law_1150 (by decide) dL_law_1151 dL_law_1152 ?_
  refine l_arg (pc := 1153) (j := 2) K (by omega) rfl rfl dL_law_1153 dL_law_1154 dL_law_1155 (by decide) dL_law_1156 dL_law_1157 ?_
  refine l_arg (pc := 1158) (j := 3) K (by omega) rfl rfl dL_law_1158 dL_law_1159 dL_law_1160 (by decide) dL_law_1161 dL_law_1162 ?_
  refine l_call (pc := 1163) K (c_yX6_put hR.IC) mw_yX6_put ⟨im_yX6_put, se_yX6_put⟩ mk_L_128 rc_B rfl rfl ⟨by decide, Nat.le_of_ble_eq_true rfl⟩ dL_law_1163 rfl ?_
  refine l_aload (pc := 1166) (i := 2) K dL_law_1166 rfl rfl ?_
  refine l_arg (pc := 1167) (j := 1) K (by omega) rfl rfl dL_law_1167 dL_law_1168 dL_law_1169 (by decide) dL_law_1170 dL_law_1171 ?_
  refine l_arg (pc := 1172) (j := 2) K (by omega) rfl rfl dL_law_1172 dL_law_1173 dL_law_1174 (by decide) dL_law_1175 dL_law_1176 ?_
  refine l_arg (pc := 1177) (j := 3) K (by omega) rfl rfl dL_law_1177 dL_law_1178 dL_law_1179 (by decide) dL_law_1180 dL_law_1181 ?_
  refine l_call (pc := 1182) K (c_yX7_put hR.IM) mw_yX7_put ⟨im_yX7_put, se_yX7_put⟩ mk_L_131 rc_M rfl rfl ⟨by decide, Nat.le_of_ble_eq_true rfl⟩ dL_law_1182 rfl ?_
  exact l_same (pc := 1185) (tgt := 1407) K dL_law_1185 (by decide) (e_put hR).1 (hg _ _ (e_put hR).2)
set_option maxRecDepth 100000 in
set_option maxHeartbeats 4000000 in
theorem lc_move {l : Launch} {G : Gm} {C : Cx} {Z : State → Prop} {b L i : Nat} {xs : Nat → Int32} {α ρ : Af} (K : OkL G C b L xs) (hi : i + 6 ≤ L) (hR : R α ρ) (hg : ∀ α1 ρ1, R α1 ρ1 → LX l G C Z 1407 (lsL G b i) [] α1 ρ1) : LX l G C Z 1190 (lsL G b i) [] α ρ := by
  refine l_aload (pc := 1190) (i := 1) K dL_law_1190 rfl rfl ?_
  refine l_arg (pc := 1191) (j := 1) K (by omega) rfl rfl dL_law_1191 dL_law_1192 dL_law_1193 (by decide) dL_law_1194 dL_law_1195 ?_
  refine l_arg (pc := 1196) (j := 2) K (by omega) rfl rfl dL_law_1196 dL_law_1197 dL_law_1198 (by decide) dL_law_1199 dL_law_1200 ?_
  refine l_arg (pc := 1201) (j := 3) K (by omega) rfl rfl dL_law_1201 dL_law_1202 dL_law_1203 (by decide) dL_law_1204 dL_law_1205 ?_
  refine l_arg (pc := 1206) (j := 4) K (by omega) rfl rfl dL_law_1206 dL_law_1207 dL_law_1208 (by decide) dL_law_1209 dL_law_1210 ?_
  refine l_arg (pc := 1211) (j := 5) K (by omega) rfl rfl dL_law_1211 dL_law_1212 dL_law_1213 (by decide) dL_law_1214 dL_law_1215 ?_
  refine l_call (pc := 1216) K (c_yX6_move hR.IC) mw_yX6_move ⟨im_yX6_move, se_yX6_move⟩ mk_L_132 rc_B rfl rfl ⟨by decide, Nat.le_of_ble_eq_true rfl⟩ dL_law_1216 rfl ?_
  refine l_aload (pc := 1219) (i := 2) K dL_law_1219 rfl rfl ?_
  refine l_arg (pc := 1220) (j := 1) K (by omega) rfl rfl dL_law_1220 dL_law_1221 dL_law_1222 (by decide) dL_law_1223 dL_law_1224 ?_
  refine l_arg (pc := 1225) (j := 2) K (by omega) rfl rfl dL_law_1225 dL_law_1226 dL_law_1227 (by decide) dL_law_1228 dL_law_1229 ?_
  refine l_arg (pc := 1230) (j := 3) K (by omega) rfl rfl dL_law_1230 dL_law_1231 dL_law_1232 (by decide) dL_law_1233 dL_law_1234 ?_
  refine l_arg (pc := 1235) (j := 4) K (by omega) rfl rfl dL_law_1235 dL_law_1236 dL_law_1237 (by decide) dL_law_1238 dL_law_1239 ?_
  refine l_arg (pc := 1240) (j := 5) K (by omega) rfl rfl dL_law_1240 dL_law_1241 dL_law_1242 (by decide) dL_law_1243 dL_law_1244 ?_
  refine l_call (pc := 1245) K (c_yX7_move hR.IM) mw_yX7_move ⟨im_yX7_move, se_yX7_move⟩ mk_L_136 rc_M rfl rfl ⟨by decide, Nat.le_of_ble_eq_true rfl⟩ dL_law_1245 rfl ?_
  exact l_same (pc := 1248) (tgt := 1407) K dL_law_1248 (by decide) (e_move hR).1 (hg _ _ (e_move hR).2)
set_option maxRecDepth 100000 in
set_option maxHeartbeats 4000000 in
theorem lc_soaks {l : Launch} {G : Gm} {C : Cx} {Z : State → Prop} {b L i : Nat} {xs : Nat → Int32} {α ρ : Af} (K : OkL G C b L xs) (hi : i + 6 ≤ L) (hR : R α ρ) (hg : ∀ α1 ρ1, R α1 ρ1 → LX l G C Z 1407 (lsL G b i) [] α1 ρ1) : LX l G C Z 1253 (lsL G b i) [] α ρ := by
  refine l_aload (pc := 1253) (i := 1) K dL_law_1253 rfl rfl ?_
  refine l_arg (pc := 1254) (j := 1) K (by omega) rfl rfl dL_law_1254 dL_law_1255 dL_law_1256 (by decide) dL_law_1257 dL_law_1258 ?_
  refine l_call (pc := 1259) K (c_yX6_soaks hR.IC) mw_yX6_soaks ⟨im_yX6_soaks, se_yX6_soaks⟩ mk_L_137 rc_B rfl rfl ⟨by decide, Nat.le_of_ble_eq_true rfl⟩ dL_law_1259 rfl ?_
  refine l_aload (pc := 1262) (i := 2) K dL_law_1262 rfl rfl ?_
  refine l_arg (pc := 1263) (j := 1) K (by omega) rfl rfl dL_law_1263 dL_law_1264 dL_law_1265 (by decide) dL_law_1266 dL_law_1267 ?_
  refine l_call (pc := 1268) K (c_yX7_soaks hR.IM) mw_yX7_soaks ⟨im_yX7_soaks, se_yX7_soaks⟩ mk_L_140 rc_M rfl rfl ⟨by decide, Nat.le_of_ble_eq_true rfl⟩ dL_law_1268 rfl ?_
  exact l_same (pc := 1271) (tgt := 1407) K dL_law_1271 (by decide) (e_soaks hR).1 (hg _ _ (e_soaks hR).2)
set_option maxRecDepth 100000 in
set_option maxHeartbeats 4000000 in
theorem lc_judge {l : Launch} {G : Gm} {C : Cx} {Z : State → Prop} {b L i : Nat} {xs : Nat → Int32} {α ρ : Af} (K : OkL G C b L xs) (hi : i + 6 ≤ L) (hR : R α ρ) (hg : ∀ α1 ρ1, R α1 ρ1 → LX l G C Z 1407 (lsL G b i) [] α1 ρ1) : LX l G C Z 1276 (lsL G b i) [] α ρ := by
  refine l_aload (pc := 1276) (i := 1) K dL_law_1276 rfl rfl ?_
  refine l_arg (pc := 1277) (j := 1) K (by omega) rfl rfl dL_law_1277 dL_law_1278 dL_law_1279 (by decide) dL_law_1280 dL_law_1281 ?_
  refine l_call (pc := 1282) K (c_yX6_judge hR.IC) mw_yX6_judge ⟨im_yX6_judge, se_yX6_judge⟩ mk_L_141 rc_B rfl rfl ⟨by decide, Nat.le_of_ble_eq_true rfl⟩ dL_law_1282 rfl ?_
  refine l_aload (pc := 1285) (i := 2) K dL_law_1285 rfl rfl ?_
  refine l_arg (pc := 1286) (j := 1) K (by omega) rfl rfl dL_law_1286 dL_law_1287 dL_law_1288 (by decide) dL_law_1289 dL_law_1290 ?_
  refine l_call (pc := 1291) K (c_yX7_judge hR.IM) mw_yX7_judge ⟨im_yX7_judge, se_yX7_judge⟩ mk_L_144 rc_M rfl rfl ⟨by decide, Nat.le_of_ble_eq_true rfl⟩ dL_law_1291 rfl ?_
  exact l_same (pc := 1294) (tgt := 1407) K dL_law_1294 (by decide) (e_judge hR).1 (hg _ _ (e_judge hR).2)
set_option maxRecDepth 100000 in
set_option maxHeartbeats 4000000 in
theorem lc_image {l : Launch} {G : Gm} {C : Cx} {Z : State → Prop} {b L i : Nat} {xs : Nat → Int32} {α ρ : Af} (K : OkL G C b L xs) (hi : i + 6 ≤ L) (hR : R α ρ) (hg : ∀ α1 ρ1, R α1 ρ1 → LX l G C Z 1407 (lsL G b i) [] α1 ρ1) : LX l G C Z 1299 (lsL G b i) [] α ρ := by
  refine l_aload (pc := 1299) (i := 1) K dL_law_1299 rfl rfl ?_
  refine l_call (pc := 1300) K (c_yX6_image hR.IC) mw_yX6_image ⟨im_yX6_image, se_yX6_image⟩ mk_L_145 rc_B rfl rfl ⟨by decide, Nat.le_of_ble_eq_true rfl⟩ dL_law_1300 rfl ?_
  refine l_aload (pc := 1303) (i := 2) K dL_law_1303 rfl rfl ?_
  refine l_call (pc := 1304) K (c_yX7_image hR.IM) mw_yX7_image ⟨im_yX7_image, se_yX7_image⟩ mk_L_149 rc_M rfl rfl ⟨by decide, Nat.le_of_ble_eq_true rfl⟩ dL_law_1304 rfl ?_
  exact l_same (pc := 1307) (tgt := 1407) K dL_law_1307 (by decide) (e_image hR).1 (hg _ _ (e_image hR).2)
set_option maxRecDepth 100000 in
set_option maxHeartbeats 4000000 in
theorem lc_restore {l : Launch} {G : Gm} {C : Cx} {Z : State → Prop} {b L i : Nat} {xs : Nat → Int32} {α ρ : Af} (K : OkL G C b L xs) (hi : i + 6 ≤ L) (hR : R α ρ) (hg : ∀ α1 ρ1, R α1 ρ1 → LX l G C Z 1407 (lsL G b i) [] α1 ρ1) : LX l G C Z 1312 (lsL G b i) [] α ρ := by
  refine l_aload (pc := 1312) (i := 1) K dL_law_1312 rfl rfl ?_
  refine l_call (pc := 1313) K (c_yX6_restore hR.IC) mw_yX6_restore ⟨im_yX6_restore, se_yX6_restore⟩ mk_L_150 rc_B rfl rfl ⟨by decide, Nat.le_of_ble_eq_true rfl⟩ dL_law_1313 rfl ?_
  refine l_aload (pc := 1316) (i := 2) K dL_law_1316 rfl rfl ?_
  refine l_call (pc := 1317) K (c_yX7_restore hR.IM) mw_yX7_restore ⟨im_yX7_restore, se_yX7_restore⟩ mk_L_153 rc_M rfl rfl ⟨by decide, Nat.le_of_ble_eq_true rfl⟩ dL_law_1317 rfl ?_
  exact l_same (pc := 1320) (tgt := 1407) K dL_law_1320 (by decide) (e_restore hR).1 (hg _ _ (e_restore hR).2)
set_option maxRecDepth 100000 in
set_option maxHeartbeats 4000000 in
theorem lc_tell {l : Launch} {G : Gm} {C : Cx} {Z : State → Prop} {b L i : Nat} {xs : Nat → Int32} {α ρ : Af} (K : OkL G C b L xs) (hi : i + 6 ≤ L) (hR : R α ρ) (hg : ∀ α1 ρ1, R α1 ρ1 → LX l G C Z 1407 (lsL G b i) [] α1 ρ1) : LX l G C Z 1325 (lsL G b i) [] α ρ := by
  refine l_aload (pc := 1325) (i := 1) K dL_law_1325 rfl rfl ?_
  refine l_arg (pc := 1326) (j := 1) K (by omega) rfl rfl dL_law_1326 dL_law_1327 dL_law_1328 (by decide) dL_law_1329 dL_law_1330 ?_
  refine l_call (pc := 1331) K (c_yX6_tell hR.IC) mw_yX6_tell ⟨im_yX6_tell, se_yX6_tell⟩ mk_L_154 rc_B rfl rfl ⟨by decide, Nat.le_of_ble_eq_true rfl⟩ dL_law_1331 rfl ?_
  refine l_aload (pc := 1334) (i := 2) K dL_law_1334 rfl rfl ?_
  refine l_arg (pc := 1335) (j := 1) K (by omega) rfl rfl dL_law_1335 dL_law_1336 dL_law_1337 (by decide) dL_law_1338 dL_law_1339 ?_
  refine l_call (pc := 1340) K (c_yX7_tell hR.IM) mw_yX7_tell ⟨im_yX7_tell, se_yX7_tell⟩ mk_L_157 rc_M rfl rfl ⟨by decide, Nat.le_of_ble_eq_true rfl⟩ dL_law_1340 rfl ?_
  exact l_same (pc := 1343) (tgt := 1407) K dL_law_1343 (by decide) (e_tell hR).1 (hg _ _ (e_tell hR).2)
set_option maxRecDepth 100000 in
set_option maxHeartbeats 4000000 in
theorem lc_check {l : Launch} {G : Gm} {C : Cx} {Z : State → Prop} {b L i : Nat} {xs : Nat → Int32} {α ρ : Af} (K : OkL G C b L xs) (hi : i + 6 ≤ L) (hR : R α ρ) (hg : ∀ α1 ρ1, R α1 ρ1 → LX l G C Z 1407 (lsL G b i) [] α1 ρ1) : LX l G C Z 1348 (lsL G b i) [] α ρ := by
  refine l_aload (pc := 1348) (i := 1) K dL_law_1348 rfl rfl ?_
  refine l_call (pc := 1349) K (c_yX6_check hR.IC) mw_yX6_check ⟨im_yX6_check, se_yX6_check⟩ mk_L_158 rc_B rfl rfl ⟨by decide, Nat.le_of_ble_eq_true rfl⟩ dL_law_1349 rfl ?_
  refine l_aload (pc := 1352) (i := 2) K dL_law_1352 rfl rfl ?_
  refine l_call (pc := 1353) K (c_yX7_check hR.IM) mw_yX7_check ⟨im_yX7_check, se_yX7_check⟩ mk_L_161 rc_M rfl rfl ⟨by decide, Nat.le_of_ble_eq_true rfl⟩ dL_law_1353 rfl ?_
  exact l_same (pc := 1356) (tgt := 1407) K dL_law_1356 (by decide) (e_check hR).1 (hg _ _ (e_check hR).2)
set_option maxRecDepth 100000 in
set_option maxHeartbeats 4000000 in
theorem lc_count {l : Launch} {G : Gm} {C : Cx} {Z : State → Prop} {b L i : Nat} {xs : Nat → Int32} {α ρ : Af} (K : OkL G C b L xs) (hi : i + 6 ≤ L) (hR : R α ρ) (hg : ∀ α1 ρ1, R α1 ρ1 → LX l G C Z 1407 (lsL G b i) [] α1 ρ1) : LX l G C Z 1361 (lsL G b i) [] α ρ := by
  refine l_aload (pc := 1361) (i := 1) K dL_law_1361 rfl rfl ?_
  refine l_arg (pc := 1362) (j := 1) K (by omega) rfl rfl dL_law_1362 dL_law_1363 dL_law_1364 (by decide) dL_law_1365 dL_law_1366 ?_
  refine l_call (pc := 1367) K (c_yX6_count hR.IC) mw_yX6_count ⟨im_yX6_count, se_yX6_count⟩ mk_L_162 rc_B rfl rfl ⟨by decide, Nat.le_of_ble_eq_true rfl⟩ dL_law_1367 rfl ?_
  refine l_aload (pc := 1370) (i := 2) K dL_law_1370 rfl rfl ?_
  refine l_arg (pc := 1371) (j := 1) K (by omega) rfl rfl dL_law_1371 dL_law_1372 dL_law_1373 (by decide) dL_law_1374 dL_law_1375 ?_
  refine l_call (pc := 1376) K (c_yX7_count hR.IM) mw_yX7_count ⟨im_yX7_count, se_yX7_count⟩ mk_L_165 rc_M rfl rfl ⟨by decide, Nat.le_of_ble_eq_true rfl⟩ dL_law_1376 rfl ?_
  exact l_same (pc := 1379) (tgt := 1407) K dL_law_1379 (by decide) (e_count hR).1 (hg _ _ (e_count hR).2)
set_option maxRecDepth 100000 in
set_option maxHeartbeats 4000000 in
theorem lc_told {l : Launch} {G : Gm} {C : Cx} {Z : State → Prop} {b L i : Nat} {xs : Nat → Int32} {α ρ : Af} (K : OkL G C b L xs) (hi : i + 6 ≤ L) (hR : R α ρ) (hg : ∀ α1 ρ1, R α1 ρ1 → LX l G C Z 1407 (lsL G b i) [] α1 ρ1) : LX l G C Z 1384 (lsL G b i) [] α ρ := by
  refine l_aload (pc := 1384) (i := 1) K dL_law_1384 rfl rfl ?_
  refine l_arg (pc := 1385) (j := 1) K (by omega) rfl rfl dL_law_1385 dL_law_1386 dL_law_1387 (by decide) dL_law_1388 dL_law_1389 ?_
  refine l_call (pc := 1390) K (c_yX6_told hR.IC) mw_yX6_told ⟨im_yX6_told, se_yX6_told⟩ mk_L_166 rc_B rfl rfl ⟨by decide, Nat.le_of_ble_eq_true rfl⟩ dL_law_1390 rfl ?_
  refine l_aload (pc := 1393) (i := 2) K dL_law_1393 rfl rfl ?_
  refine l_arg (pc := 1394) (j := 1) K (by omega) rfl rfl dL_law_1394 dL_law_1395 dL_law_1396 (by decide) dL_law_1397 dL_law_1398 ?_
  refine l_call (pc := 1399) K (c_yX7_told hR.IM) mw_yX7_told ⟨im_yX7_told, se_yX7_told⟩ mk_L_169 rc_M rfl rfl ⟨by decide, Nat.le_of_ble_eq_true rfl⟩ dL_law_1399 rfl ?_
  exact l_same (pc := 1402) (tgt := 1407) K dL_law_1402 (by decide) (e_told hR).1 (hg _ _ (e_told hR).2)
