/-! the law, case by case: printed by program (wip/gen/lawgen.py) -/
set_option maxRecDepth 20000 in
theorem lcase_0 {X : Cz} {b L : Nat} {xs : Nat → Int32} {i : Int32} (hi : 0 ≤ i.toInt ∧ i.toInt + 9 ≤ (L : Int)) (hL : L ≤ 4608) {h h2 h3 : Hp} {r : Int32} (hC : gC h ≤ 600000 ∧ gS h ≤ 7302249) (e1 : fX11_pulpit (xs (ix i + 1)) (xs (ix i + 2)) (xs (ix i + 3)) h = some (r, h2)) (hC2 : gC h2 ≤ 600000 ∧ gS h2 ≤ 7302249) (e2 : fX12_pulpit (xs (ix i + 1)) (xs (ix i + 2)) (xs (ix i + 3)) h2 = some (r, h3)) (hC3 : gC h3 ≤ 600000 ∧ gS h3 ≤ 7302249) (k : LV X b L xs true 1624 (lsd i) [] h3) : LV X b L xs true 192 (lsd i) [] h := by
  refine l_aload_n (j := 2) (q := (11, 0)) dL_law_192 rfl ?_
  refine l_sc (v := 1) (w := 1) hi hL dL_law_193 dL_law_194 dL_law_195 (by decide) (by decide) (by decide) dL_law_196 dL_law_197 ?_
  refine l_sc (v := 2) (w := 2) hi hL dL_law_198 dL_law_199 dL_law_200 (by decide) (by decide) (by decide) dL_law_201 dL_law_202 ?_
  refine l_sc (v := 3) (w := 3) hi hL dL_law_203 dL_law_204 dL_law_205 (by decide) (by decide) (by decide) dL_law_206 dL_law_207 ?_
  refine l_cV (hm := h2) (rc := some (zi r)) (av := [zi (xs (ix i + 1)), zi (xs (ix i + 2)), zi (xs (ix i + 3))]) (st := []) (stn := [zi r]) (tX11_pulpit e1) lcX11_pulpit mlL_13 imX11_pulpit seX11_pulpit rfl rfl rfl rfl ⟨by decide, by decide⟩ (Nat.le_of_ble_eq_true rfl) dL_law_208 rfl rfl (by decide) rfl (fun v z => by cases z; rfl) hC2 ?_
  refine l_aload_n (j := 1) (q := (12, 0)) dL_law_211 rfl ?_
  refine l_sc (v := 1) (w := 1) hi hL dL_law_212 dL_law_213 dL_law_214 (by decide) (by decide) (by decide) dL_law_215 dL_law_216 ?_
  refine l_sc (v := 2) (w := 2) hi hL dL_law_217 dL_law_218 dL_law_219 (by decide) (by decide) (by decide) dL_law_220 dL_law_221 ?_
  refine l_sc (v := 3) (w := 3) hi hL dL_law_222 dL_law_223 dL_law_224 (by decide) (by decide) (by decide) dL_law_225 dL_law_226 ?_
  refine l_cV (hm := h3) (rc := some (zi r)) (av := [zi (xs (ix i + 1)), zi (xs (ix i + 2)), zi (xs (ix i + 3))]) (st := [zi r]) (stn := [zi r, zi r]) (tX12_pulpit e2) lcX12_pulpit mlL_17 imX12_pulpit seX12_pulpit rfl rfl rfl rfl ⟨by decide, by decide⟩ (Nat.le_of_ble_eq_true rfl) dL_law_227 rfl rfl (by decide) rfl (fun v z => by cases z; rfl) hC3 ?_
  refine l_same dL_law_230 (by decide : _ = ((1624 : Nat) : Int)) ?_
  exact k
set_option maxRecDepth 20000 in
theorem lcase_1 {X : Cz} {b L : Nat} {xs : Nat → Int32} {i : Int32} (hi : 0 ≤ i.toInt ∧ i.toInt + 9 ≤ (L : Int)) (hL : L ≤ 4608) {h h2 h3 : Hp} {r : Int32} (hC : gC h ≤ 600000 ∧ gS h ≤ 7302249) (e1 : fX11_terms (xs (ix i + 1)) (xs (ix i + 2)) h = some (r, h2)) (hC2 : gC h2 ≤ 600000 ∧ gS h2 ≤ 7302249) (e2 : fX12_terms (xs (ix i + 1)) (xs (ix i + 2)) h2 = some (r, h3)) (hC3 : gC h3 ≤ 600000 ∧ gS h3 ≤ 7302249) (k : LV X b L xs true 1624 (lsd i) [] h3) : LV X b L xs true 235 (lsd i) [] h := by
  refine l_aload_n (j := 2) (q := (11, 0)) dL_law_235 rfl ?_
  refine l_sc (v := 1) (w := 1) hi hL dL_law_236 dL_law_237 dL_law_238 (by decide) (by decide) (by decide) dL_law_239 dL_law_240 ?_
  refine l_sc (v := 2) (w := 2) hi hL dL_law_241 dL_law_242 dL_law_243 (by decide) (by decide) (by decide) dL_law_244 dL_law_245 ?_
  refine l_cV (hm := h2) (rc := some (zi r)) (av := [zi (xs (ix i + 1)), zi (xs (ix i + 2))]) (st := []) (stn := [zi r]) (tX11_terms e1) lcX11_terms mlL_18 imX11_terms seX11_terms rfl rfl rfl rfl ⟨by decide, by decide⟩ (Nat.le_of_ble_eq_true rfl) dL_law_246 rfl rfl (by decide) rfl (fun v z => by cases z; rfl) hC2 ?_
  refine l_aload_n (j := 1) (q := (12, 0)) dL_law_249 rfl ?_
  refine l_sc (v := 1) (w := 1) hi hL dL_law_250 dL_law_251 dL_law_252 (by decide) (by decide) (by decide) dL_law_253 dL_law_254 ?_
  refine l_sc (v := 2) (w := 2) hi hL dL_law_255 dL_law_256 dL_law_257 (by decide) (by decide) (by decide) dL_law_258 dL_law_259 ?_
  refine l_cV (hm := h3) (rc := some (zi r)) (av := [zi (xs (ix i + 1)), zi (xs (ix i + 2))]) (st := [zi r]) (stn := [zi r, zi r]) (tX12_terms e2) lcX12_terms mlL_22 imX12_terms seX12_terms rfl rfl rfl rfl ⟨by decide, by decide⟩ (Nat.le_of_ble_eq_true rfl) dL_law_260 rfl rfl (by decide) rfl (fun v z => by cases z; rfl) hC3 ?_
  refine l_same dL_law_263 (by decide : _ = ((1624 : Nat) : Int)) ?_
  exact k
set_option maxRecDepth 20000 in
theorem lcase_2 {X : Cz} {b L : Nat} {xs : Nat → Int32} {i : Int32} (hi : 0 ≤ i.toInt ∧ i.toInt + 9 ≤ (L : Int)) (hL : L ≤ 4608) {h h2 h3 : Hp} {r : Int32} (hC : gC h ≤ 600000 ∧ gS h ≤ 7302249) (e1 : fX11_pillar (xs (ix i + 1)) (xs (ix i + 2)) (xs (ix i + 3)) h = some (r, h2)) (hC2 : gC h2 ≤ 600000 ∧ gS h2 ≤ 7302249) (e2 : fX12_pillar (xs (ix i + 1)) (xs (ix i + 2)) (xs (ix i + 3)) h2 = some (r, h3)) (hC3 : gC h3 ≤ 600000 ∧ gS h3 ≤ 7302249) (k : LV X b L xs true 1624 (lsd i) [] h3) : LV X b L xs true 268 (lsd i) [] h := by
  refine l_aload_n (j := 2) (q := (11, 0)) dL_law_268 rfl ?_
  refine l_sc (v := 1) (w := 1) hi hL dL_law_269 dL_law_270 dL_law_271 (by decide) (by decide) (by decide) dL_law_272 dL_law_273 ?_
  refine l_sc (v := 2) (w := 2) hi hL dL_law_274 dL_law_275 dL_law_276 (by decide) (by decide) (by decide) dL_law_277 dL_law_278 ?_
  refine l_sc (v := 3) (w := 3) hi hL dL_law_279 dL_law_280 dL_law_281 (by decide) (by decide) (by decide) dL_law_282 dL_law_283 ?_
  refine l_cV (hm := h2) (rc := some (zi r)) (av := [zi (xs (ix i + 1)), zi (xs (ix i + 2)), zi (xs (ix i + 3))]) (st := []) (stn := [zi r]) (tX11_pillar e1) lcX11_pillar mlL_23 imX11_pillar seX11_pillar rfl rfl rfl rfl ⟨by decide, by decide⟩ (Nat.le_of_ble_eq_true rfl) dL_law_284 rfl rfl (by decide) rfl (fun v z => by cases z; rfl) hC2 ?_
  refine l_aload_n (j := 1) (q := (12, 0)) dL_law_287 rfl ?_
  refine l_sc (v := 1) (w := 1) hi hL dL_law_288 dL_law_289 dL_law_290 (by decide) (by decide) (by decide) dL_law_291 dL_law_292 ?_
  refine l_sc (v := 2) (w := 2) hi hL dL_law_293 dL_law_294 dL_law_295 (by decide) (by decide) (by decide) dL_law_296 dL_law_297 ?_
  refine l_sc (v := 3) (w := 3) hi hL dL_law_298 dL_law_299 dL_law_300 (by decide) (by decide) (by decide) dL_law_301 dL_law_302 ?_
  refine l_cV (hm := h3) (rc := some (zi r)) (av := [zi (xs (ix i + 1)), zi (xs (ix i + 2)), zi (xs (ix i + 3))]) (st := [zi r]) (stn := [zi r, zi r]) (tX12_pillar e2) lcX12_pillar mlL_26 imX12_pillar seX12_pillar rfl rfl rfl rfl ⟨by decide, by decide⟩ (Nat.le_of_ble_eq_true rfl) dL_law_303 rfl rfl (by decide) rfl (fun v z => by cases z; rfl) hC3 ?_
  refine l_same dL_law_306 (by decide : _ = ((1624 : Nat) : Int)) ?_
  exact k
set_option maxRecDepth 20000 in
theorem lcase_3 {X : Cz} {b L : Nat} {xs : Nat → Int32} {i : Int32} (hi : 0 ≤ i.toInt ∧ i.toInt + 9 ≤ (L : Int)) (hL : L ≤ 4608) {h h2 h3 : Hp} {r : Int32} (hC : gC h ≤ 600000 ∧ gS h ≤ 7302249) (e1 : fX11_bench (xs (ix i + 1)) (xs (ix i + 2)) (xs (ix i + 3)) (bz (xs (ix i + 4))) h = some (r, h2)) (hC2 : gC h2 ≤ 600000 ∧ gS h2 ≤ 7302249) (e2 : fX12_bench (xs (ix i + 1)) (xs (ix i + 2)) (xs (ix i + 3)) (bz (xs (ix i + 4))) h2 = some (r, h3)) (hC3 : gC h3 ≤ 600000 ∧ gS h3 ≤ 7302249) (k : LV X b L xs true 1624 (lsd i) [] h3) : LV X b L xs true 311 (lsd i) [] h := by
  refine l_aload_n (j := 2) (q := (11, 0)) dL_law_311 rfl ?_
  refine l_sc (v := 1) (w := 1) hi hL dL_law_312 dL_law_313 dL_law_314 (by decide) (by decide) (by decide) dL_law_315 dL_law_316 ?_
  refine l_sc (v := 2) (w := 2) hi hL dL_law_317 dL_law_318 dL_law_319 (by decide) (by decide) (by decide) dL_law_320 dL_law_321 ?_
  refine l_sc (v := 3) (w := 3) hi hL dL_law_322 dL_law_323 dL_law_324 (by decide) (by decide) (by decide) dL_law_325 dL_law_326 ?_
  refine l_sc (v := 4) (w := 4) hi hL dL_law_327 dL_law_328 dL_law_329 (by decide) (by decide) (by decide) dL_law_330 dL_law_331 ?_
  refine l_bool (o1 := 0) (o2 := 0) dL_law_332 dL_law_335 dL_law_336 dL_law_339 ?_
  refine l_cV (hm := h2) (rc := some (zi r)) (av := [zi (xs (ix i + 1)), zi (xs (ix i + 2)), zi (xs (ix i + 3)), zi (bz (xs (ix i + 4)))]) (st := []) (stn := [zi r]) (tX11_bench e1) lcX11_bench mlL_27 imX11_bench seX11_bench rfl rfl rfl rfl ⟨by decide, by decide⟩ (Nat.le_of_ble_eq_true rfl) dL_law_340 rfl rfl (by decide) rfl (fun v z => by cases z; rfl) hC2 ?_
  refine l_aload_n (j := 1) (q := (12, 0)) dL_law_343 rfl ?_
  refine l_sc (v := 1) (w := 1) hi hL dL_law_344 dL_law_345 dL_law_346 (by decide) (by decide) (by decide) dL_law_347 dL_law_348 ?_
  refine l_sc (v := 2) (w := 2) hi hL dL_law_349 dL_law_350 dL_law_351 (by decide) (by decide) (by decide) dL_law_352 dL_law_353 ?_
  refine l_sc (v := 3) (w := 3) hi hL dL_law_354 dL_law_355 dL_law_356 (by decide) (by decide) (by decide) dL_law_357 dL_law_358 ?_
  refine l_sc (v := 4) (w := 4) hi hL dL_law_359 dL_law_360 dL_law_361 (by decide) (by decide) (by decide) dL_law_362 dL_law_363 ?_
  refine l_bool (o1 := 0) (o2 := 0) dL_law_364 dL_law_367 dL_law_368 dL_law_371 ?_
  refine l_cV (hm := h3) (rc := some (zi r)) (av := [zi (xs (ix i + 1)), zi (xs (ix i + 2)), zi (xs (ix i + 3)), zi (bz (xs (ix i + 4)))]) (st := [zi r]) (stn := [zi r, zi r]) (tX12_bench e2) lcX12_bench mlL_31 imX12_bench seX12_bench rfl rfl rfl rfl ⟨by decide, by decide⟩ (Nat.le_of_ble_eq_true rfl) dL_law_372 rfl rfl (by decide) rfl (fun v z => by cases z; rfl) hC3 ?_
  refine l_same dL_law_375 (by decide : _ = ((1624 : Nat) : Int)) ?_
  exact k
set_option maxRecDepth 20000 in
theorem lcase_4 {X : Cz} {b L : Nat} {xs : Nat → Int32} {i : Int32} (hi : 0 ≤ i.toInt ∧ i.toInt + 9 ≤ (L : Int)) (hL : L ≤ 4608) {h h2 h3 : Hp} {r : Int32} (hC : gC h ≤ 600000 ∧ gS h ≤ 7302249) (e1 : fX11_household (xs (ix i + 1)) (xs (ix i + 2)) (xs (ix i + 3)) h = some (r, h2)) (hC2 : gC h2 ≤ 600000 ∧ gS h2 ≤ 7302249) (e2 : fX12_household (xs (ix i + 1)) (xs (ix i + 2)) (xs (ix i + 3)) h2 = some (r, h3)) (hC3 : gC h3 ≤ 600000 ∧ gS h3 ≤ 7302249) (k : LV X b L xs true 1624 (lsd i) [] h3) : LV X b L xs true 380 (lsd i) [] h := by
  refine l_aload_n (j := 2) (q := (11, 0)) dL_law_380 rfl ?_
  refine l_sc (v := 1) (w := 1) hi hL dL_law_381 dL_law_382 dL_law_383 (by decide) (by decide) (by decide) dL_law_384 dL_law_385 ?_
  refine l_sc (v := 2) (w := 2) hi hL dL_law_386 dL_law_387 dL_law_388 (by decide) (by decide) (by decide) dL_law_389 dL_law_390 ?_
  refine l_sc (v := 3) (w := 3) hi hL dL_law_391 dL_law_392 dL_law_393 (by decide) (by decide) (by decide) dL_law_394 dL_law_395 ?_
  refine l_cV (hm := h2) (rc := some (zi r)) (av := [zi (xs (ix i + 1)), zi (xs (ix i + 2)), zi (xs (ix i + 3))]) (st := []) (stn := [zi r]) (tX11_household e1) lcX11_household mlL_32 imX11_household seX11_household rfl rfl rfl rfl ⟨by decide, by decide⟩ (Nat.le_of_ble_eq_true rfl) dL_law_396 rfl rfl (by decide) rfl (fun v z => by cases z; rfl) hC2 ?_
  refine l_aload_n (j := 1) (q := (12, 0)) dL_law_399 rfl ?_
  refine l_sc (v := 1) (w := 1) hi hL dL_law_400 dL_law_401 dL_law_402 (by decide) (by decide) (by decide) dL_law_403 dL_law_404 ?_
  refine l_sc (v := 2) (w := 2) hi hL dL_law_405 dL_law_406 dL_law_407 (by decide) (by decide) (by decide) dL_law_408 dL_law_409 ?_
  refine l_sc (v := 3) (w := 3) hi hL dL_law_410 dL_law_411 dL_law_412 (by decide) (by decide) (by decide) dL_law_413 dL_law_414 ?_
  refine l_cV (hm := h3) (rc := some (zi r)) (av := [zi (xs (ix i + 1)), zi (xs (ix i + 2)), zi (xs (ix i + 3))]) (st := [zi r]) (stn := [zi r, zi r]) (tX12_household e2) lcX12_household mlL_35 imX12_household seX12_household rfl rfl rfl rfl ⟨by decide, by decide⟩ (Nat.le_of_ble_eq_true rfl) dL_law_415 rfl rfl (by decide) rfl (fun v z => by cases z; rfl) hC3 ?_
  refine l_same dL_law_418 (by decide : _ = ((1624 : Nat) : Int)) ?_
  exact k
set_option maxRecDepth 20000 in
theorem lcase_5 {X : Cz} {b L : Nat} {xs : Nat → Int32} {i : Int32} (hi : 0 ≤ i.toInt ∧ i.toInt + 9 ≤ (L : Int)) (hL : L ≤ 4608) {h h2 h3 : Hp} {r : Int32} (hC : gC h ≤ 600000 ∧ gS h ≤ 7302249) (e1 : fX11_changed (xs (ix i + 1)) (xs (ix i + 2)) (xs (ix i + 3)) (xs (ix i + 4)) h = some (r, h2)) (hC2 : gC h2 ≤ 600000 ∧ gS h2 ≤ 7302249) (e2 : fX12_changed (xs (ix i + 1)) (xs (ix i + 2)) (xs (ix i + 3)) (xs (ix i + 4)) h2 = some (r, h3)) (hC3 : gC h3 ≤ 600000 ∧ gS h3 ≤ 7302249) (k : LV X b L xs true 1624 (lsd i) [] h3) : LV X b L xs true 423 (lsd i) [] h := by
  refine l_aload_n (j := 2) (q := (11, 0)) dL_law_423 rfl ?_
  refine l_sc (v := 1) (w := 1) hi hL dL_law_424 dL_law_425 dL_law_426 (by decide) (by decide) (by decide) dL_law_427 dL_law_428 ?_
  refine l_sc (v := 2) (w := 2) hi hL dL_law_429 dL_law_430 dL_law_431 (by decide) (by decide) (by decide) dL_law_432 dL_law_433 ?_
  refine l_sc (v := 3) (w := 3) hi hL dL_law_434 dL_law_435 dL_law_436 (by decide) (by decide) (by decide) dL_law_437 dL_law_438 ?_
  refine l_sc (v := 4) (w := 4) hi hL dL_law_439 dL_law_440 dL_law_441 (by decide) (by decide) (by decide) dL_law_442 dL_law_443 ?_
  refine l_cV (hm := h2) (rc := some (zi r)) (av := [zi (xs (ix i + 1)), zi (xs (ix i + 2)), zi (xs (ix i + 3)), zi (xs (ix i + 4))]) (st := []) (stn := [zi r]) (tX11_changed e1) lcX11_changed mlL_36 imX11_changed seX11_changed rfl rfl rfl rfl ⟨by decide, by decide⟩ (Nat.le_of_ble_eq_true rfl) dL_law_444 rfl rfl (by decide) rfl (fun v z => by cases z; rfl) hC2 ?_
  refine l_aload_n (j := 1) (q := (12, 0)) dL_law_447 rfl ?_
  refine l_sc (v := 1) (w := 1) hi hL dL_law_448 dL_law_449 dL_law_450 (by decide) (by decide) (by decide) dL_law_451 dL_law_452 ?_
  refine l_sc (v := 2) (w := 2) hi hL dL_law_453 dL_law_454 dL_law_455 (by decide) (by decide) (by decide) dL_law_456 dL_law_457 ?_
  refine l_sc (v := 3) (w := 3) hi hL dL_law_458 dL_law_459 dL_law_460 (by decide) (by decide) (by decide) dL_law_461 dL_law_462 ?_
  refine l_sc (v := 4) (w := 4) hi hL dL_law_463 dL_law_464 dL_law_465 (by decide) (by decide) (by decide) dL_law_466 dL_law_467 ?_
  refine l_cV (hm := h3) (rc := some (zi r)) (av := [zi (xs (ix i + 1)), zi (xs (ix i + 2)), zi (xs (ix i + 3)), zi (xs (ix i + 4))]) (st := [zi r]) (stn := [zi r, zi r]) (tX12_changed e2) lcX12_changed mlL_40 imX12_changed seX12_changed rfl rfl rfl rfl ⟨by decide, by decide⟩ (Nat.le_of_ble_eq_true rfl) dL_law_468 rfl rfl (by decide) rfl (fun v z => by cases z; rfl) hC3 ?_
  refine l_same dL_law_471 (by decide : _ = ((1624 : Nat) : Int)) ?_
  exact k
set_option maxRecDepth 20000 in
theorem lcase_6 {X : Cz} {b L : Nat} {xs : Nat → Int32} {i : Int32} (hi : 0 ≤ i.toInt ∧ i.toInt + 9 ≤ (L : Int)) (hL : L ≤ 4608) {h h2 h3 : Hp} {r : Int32} (hC : gC h ≤ 600000 ∧ gS h ≤ 7302249) (e1 : fX11_gone (xs (ix i + 1)) (xs (ix i + 2)) h = some (r, h2)) (hC2 : gC h2 ≤ 600000 ∧ gS h2 ≤ 7302249) (e2 : fX12_gone (xs (ix i + 1)) (xs (ix i + 2)) h2 = some (r, h3)) (hC3 : gC h3 ≤ 600000 ∧ gS h3 ≤ 7302249) (k : LV X b L xs true 1624 (lsd i) [] h3) : LV X b L xs true 476 (lsd i) [] h := by
  refine l_aload_n (j := 2) (q := (11, 0)) dL_law_476 rfl ?_
  refine l_sc (v := 1) (w := 1) hi hL dL_law_477 dL_law_478 dL_law_479 (by decide) (by decide) (by decide) dL_law_480 dL_law_481 ?_
  refine l_sc (v := 2) (w := 2) hi hL dL_law_482 dL_law_483 dL_law_484 (by decide) (by decide) (by decide) dL_law_485 dL_law_486 ?_
  refine l_cV (hm := h2) (rc := some (zi r)) (av := [zi (xs (ix i + 1)), zi (xs (ix i + 2))]) (st := []) (stn := [zi r]) (tX11_gone e1) lcX11_gone mlL_41 imX11_gone seX11_gone rfl rfl rfl rfl ⟨by decide, by decide⟩ (Nat.le_of_ble_eq_true rfl) dL_law_487 rfl rfl (by decide) rfl (fun v z => by cases z; rfl) hC2 ?_
  refine l_aload_n (j := 1) (q := (12, 0)) dL_law_490 rfl ?_
  refine l_sc (v := 1) (w := 1) hi hL dL_law_491 dL_law_492 dL_law_493 (by decide) (by decide) (by decide) dL_law_494 dL_law_495 ?_
  refine l_sc (v := 2) (w := 2) hi hL dL_law_496 dL_law_497 dL_law_498 (by decide) (by decide) (by decide) dL_law_499 dL_law_500 ?_
  refine l_cV (hm := h3) (rc := some (zi r)) (av := [zi (xs (ix i + 1)), zi (xs (ix i + 2))]) (st := [zi r]) (stn := [zi r, zi r]) (tX12_gone e2) lcX12_gone mlL_44 imX12_gone seX12_gone rfl rfl rfl rfl ⟨by decide, by decide⟩ (Nat.le_of_ble_eq_true rfl) dL_law_501 rfl rfl (by decide) rfl (fun v z => by cases z; rfl) hC3 ?_
  refine l_same dL_law_504 (by decide : _ = ((1624 : Nat) : Int)) ?_
  exact k
set_option maxRecDepth 20000 in
theorem lcase_7 {X : Cz} {b L : Nat} {xs : Nat → Int32} {i : Int32} (hi : 0 ≤ i.toInt ∧ i.toInt + 9 ≤ (L : Int)) (hL : L ≤ 4608) {h h2 h3 : Hp} {r : Int32} (hC : gC h ≤ 600000 ∧ gS h ≤ 7302249) (e1 : fX11_sell (xs (ix i + 1)) (xs (ix i + 2)) h = some (r, h2)) (hC2 : gC h2 ≤ 600000 ∧ gS h2 ≤ 7302249) (e2 : fX12_sell (xs (ix i + 1)) (xs (ix i + 2)) h2 = some (r, h3)) (hC3 : gC h3 ≤ 600000 ∧ gS h3 ≤ 7302249) (k : LV X b L xs true 1624 (lsd i) [] h3) : LV X b L xs true 509 (lsd i) [] h := by
  refine l_aload_n (j := 2) (q := (11, 0)) dL_law_509 rfl ?_
  refine l_sc (v := 1) (w := 1) hi hL dL_law_510 dL_law_511 dL_law_512 (by decide) (by decide) (by decide) dL_law_513 dL_law_514 ?_
  refine l_sc (v := 2) (w := 2) hi hL dL_law_515 dL_law_516 dL_law_517 (by decide) (by decide) (by decide) dL_law_518 dL_law_519 ?_
  refine l_cV (hm := h2) (rc := some (zi r)) (av := [zi (xs (ix i + 1)), zi (xs (ix i + 2))]) (st := []) (stn := [zi r]) (tX11_sell e1) lcX11_sell mlL_45 imX11_sell seX11_sell rfl rfl rfl rfl ⟨by decide, by decide⟩ (Nat.le_of_ble_eq_true rfl) dL_law_520 rfl rfl (by decide) rfl (fun v z => by cases z; rfl) hC2 ?_
  refine l_aload_n (j := 1) (q := (12, 0)) dL_law_523 rfl ?_
  refine l_sc (v := 1) (w := 1) hi hL dL_law_524 dL_law_525 dL_law_526 (by decide) (by decide) (by decide) dL_law_527 dL_law_528 ?_
  refine l_sc (v := 2) (w := 2) hi hL dL_law_529 dL_law_530 dL_law_531 (by decide) (by decide) (by decide) dL_law_532 dL_law_533 ?_
  refine l_cV (hm := h3) (rc := some (zi r)) (av := [zi (xs (ix i + 1)), zi (xs (ix i + 2))]) (st := [zi r]) (stn := [zi r, zi r]) (tX12_sell e2) lcX12_sell mlL_48 imX12_sell seX12_sell rfl rfl rfl rfl ⟨by decide, by decide⟩ (Nat.le_of_ble_eq_true rfl) dL_law_534 rfl rfl (by decide) rfl (fun v z => by cases z; rfl) hC3 ?_
  refine l_same dL_law_537 (by decide : _ = ((1624 : Nat) : Int)) ?_
  exact k
set_option maxRecDepth 20000 in
theorem lcase_8 {X : Cz} {b L : Nat} {xs : Nat → Int32} {i : Int32} (hi : 0 ≤ i.toInt ∧ i.toInt + 9 ≤ (L : Int)) (hL : L ≤ 4608) {h h2 h3 : Hp} {r : Int32} (hC : gC h ≤ 600000 ∧ gS h ≤ 7302249) (e1 : fX11_plotOf (xs (ix i + 1)) (xs (ix i + 2)) h = some (r, h2)) (hC2 : gC h2 ≤ 600000 ∧ gS h2 ≤ 7302249) (e2 : fX12_plotOf (xs (ix i + 1)) (xs (ix i + 2)) h2 = some (r, h3)) (hC3 : gC h3 ≤ 600000 ∧ gS h3 ≤ 7302249) (k : LV X b L xs true 1624 (lsd i) [] h3) : LV X b L xs true 542 (lsd i) [] h := by
  refine l_aload_n (j := 2) (q := (11, 0)) dL_law_542 rfl ?_
  refine l_sc (v := 1) (w := 1) hi hL dL_law_543 dL_law_544 dL_law_545 (by decide) (by decide) (by decide) dL_law_546 dL_law_547 ?_
  refine l_sc (v := 2) (w := 2) hi hL dL_law_548 dL_law_549 dL_law_550 (by decide) (by decide) (by decide) dL_law_551 dL_law_552 ?_
  refine l_cV (hm := h2) (rc := some (zi r)) (av := [zi (xs (ix i + 1)), zi (xs (ix i + 2))]) (st := []) (stn := [zi r]) (tX11_plotOf e1) lcX11_plotOf mlL_49 imX11_plotOf seX11_plotOf rfl rfl rfl rfl ⟨by decide, by decide⟩ (Nat.le_of_ble_eq_true rfl) dL_law_553 rfl rfl (by decide) rfl (fun v z => by cases z; rfl) hC2 ?_
  refine l_aload_n (j := 1) (q := (12, 0)) dL_law_556 rfl ?_
  refine l_sc (v := 1) (w := 1) hi hL dL_law_557 dL_law_558 dL_law_559 (by decide) (by decide) (by decide) dL_law_560 dL_law_561 ?_
  refine l_sc (v := 2) (w := 2) hi hL dL_law_562 dL_law_563 dL_law_564 (by decide) (by decide) (by decide) dL_law_565 dL_law_566 ?_
  refine l_cV (hm := h3) (rc := some (zi r)) (av := [zi (xs (ix i + 1)), zi (xs (ix i + 2))]) (st := [zi r]) (stn := [zi r, zi r]) (tX12_plotOf e2) lcX12_plotOf mlL_52 imX12_plotOf seX12_plotOf rfl rfl rfl rfl ⟨by decide, by decide⟩ (Nat.le_of_ble_eq_true rfl) dL_law_567 rfl rfl (by decide) rfl (fun v z => by cases z; rfl) hC3 ?_
  refine l_same dL_law_570 (by decide : _ = ((1624 : Nat) : Int)) ?_
  exact k
set_option maxRecDepth 20000 in
theorem lcase_9 {X : Cz} {b L : Nat} {xs : Nat → Int32} {i : Int32} (hi : 0 ≤ i.toInt ∧ i.toInt + 9 ≤ (L : Int)) (hL : L ≤ 4608) {h h2 h3 : Hp} {r : Int32} (hC : gC h ≤ 600000 ∧ gS h ≤ 7302249) (e1 : fX11_right (xs (ix i + 1)) (xs (ix i + 2)) (xs (ix i + 3)) (xs (ix i + 4)) (xs (ix i + 5)) (xs (ix i + 6)) (xs (ix i + 7)) (bz (xs (ix i + 8))) h = some (r, h2)) (hC2 : gC h2 ≤ 600000 ∧ gS h2 ≤ 7302249) (e2 : fX12_right (xs (ix i + 1)) (xs (ix i + 2)) (xs (ix i + 3)) (xs (ix i + 4)) (xs (ix i + 5)) (xs (ix i + 6)) (xs (ix i + 7)) (bz (xs (ix i + 8))) h2 = some (r, h3)) (hC3 : gC h3 ≤ 600000 ∧ gS h3 ≤ 7302249) (k : LV X b L xs true 1624 (lsd i) [] h3) : LV X b L xs true 575 (lsd i) [] h := by
  refine l_aload_n (j := 2) (q := (11, 0)) dL_law_575 rfl ?_
  refine l_sc (v := 1) (w := 1) hi hL dL_law_576 dL_law_577 dL_law_578 (by decide) (by decide) (by decide) dL_law_579 dL_law_580 ?_
  refine l_sc (v := 2) (w := 2) hi hL dL_law_581 dL_law_582 dL_law_583 (by decide) (by decide) (by decide) dL_law_584 dL_law_585 ?_
  refine l_sc (v := 3) (w := 3) hi hL dL_law_586 dL_law_587 dL_law_588 (by decide) (by decide) (by decide) dL_law_589 dL_law_590 ?_
  refine l_sc (v := 4) (w := 4) hi hL dL_law_591 dL_law_592 dL_law_593 (by decide) (by decide) (by decide) dL_law_594 dL_law_595 ?_
  refine l_sc (v := 5) (w := 5) hi hL dL_law_596 dL_law_597 dL_law_598 (by decide) (by decide) (by decide) dL_law_599 dL_law_600 ?_
  refine l_sb (v := 6) (w := 6) hi hL dL_law_601 dL_law_602 dL_law_603 (by decide) (by decide) (by decide) dL_law_605 dL_law_606 ?_
  refine l_sb (v := 7) (w := 7) hi hL dL_law_607 dL_law_608 dL_law_609 (by decide) (by decide) (by decide) dL_law_611 dL_law_612 ?_
  refine l_sb (v := 8) (w := 8) hi hL dL_law_613 dL_law_614 dL_law_615 (by decide) (by decide) (by decide) dL_law_617 dL_law_618 ?_
  refine l_bool (o1 := 0) (o2 := 0) dL_law_619 dL_law_622 dL_law_623 dL_law_626 ?_
  refine l_cV (hm := h2) (rc := some (zi r)) (av := [zi (xs (ix i + 1)), zi (xs (ix i + 2)), zi (xs (ix i + 3)), zi (xs (ix i + 4)), zi (xs (ix i + 5)), zi (xs (ix i + 6)), zi (xs (ix i + 7)), zi (bz (xs (ix i + 8)))]) (st := []) (stn := [zi r]) (tX11_right e1) lcX11_right mlL_53 imX11_right seX11_right rfl rfl rfl rfl ⟨by decide, by decide⟩ (Nat.le_of_ble_eq_true rfl) dL_law_627 rfl rfl (by decide) rfl (fun v z => by cases z; rfl) hC2 ?_
  refine l_aload_n (j := 1) (q := (12, 0)) dL_law_630 rfl ?_
  refine l_sc (v := 1) (w := 1) hi hL dL_law_631 dL_law_632 dL_law_633 (by decide) (by decide) (by decide) dL_law_634 dL_law_635 ?_
  refine l_sc (v := 2) (w := 2) hi hL dL_law_636 dL_law_637 dL_law_638 (by decide) (by decide) (by decide) dL_law_639 dL_law_640 ?_
  refine l_sc (v := 3) (w := 3) hi hL dL_law_641 dL_law_642 dL_law_643 (by decide) (by decide) (by decide) dL_law_644 dL_law_645 ?_
  refine l_sc (v := 4) (w := 4) hi hL dL_law_646 dL_law_647 dL_law_648 (by decide) (by decide) (by decide) dL_law_649 dL_law_650 ?_
  refine l_sc (v := 5) (w := 5) hi hL dL_law_651 dL_law_652 dL_law_653 (by decide) (by decide) (by decide) dL_law_654 dL_law_655 ?_
  refine l_sb (v := 6) (w := 6) hi hL dL_law_656 dL_law_657 dL_law_658 (by decide) (by decide) (by decide) dL_law_660 dL_law_661 ?_
  refine l_sb (v := 7) (w := 7) hi hL dL_law_662 dL_law_663 dL_law_664 (by decide) (by decide) (by decide) dL_law_666 dL_law_667 ?_
  refine l_sb (v := 8) (w := 8) hi hL dL_law_668 dL_law_669 dL_law_670 (by decide) (by decide) (by decide) dL_law_672 dL_law_673 ?_
  refine l_bool (o1 := 0) (o2 := 0) dL_law_674 dL_law_677 dL_law_678 dL_law_681 ?_
  refine l_cV (hm := h3) (rc := some (zi r)) (av := [zi (xs (ix i + 1)), zi (xs (ix i + 2)), zi (xs (ix i + 3)), zi (xs (ix i + 4)), zi (xs (ix i + 5)), zi (xs (ix i + 6)), zi (xs (ix i + 7)), zi (bz (xs (ix i + 8)))]) (st := [zi r]) (stn := [zi r, zi r]) (tX12_right e2) lcX12_right mlL_57 imX12_right seX12_right rfl rfl rfl rfl ⟨by decide, by decide⟩ (Nat.le_of_ble_eq_true rfl) dL_law_682 rfl rfl (by decide) rfl (fun v z => by cases z; rfl) hC3 ?_
  refine l_same dL_law_685 (by decide : _ = ((1624 : Nat) : Int)) ?_
  exact k
set_option maxRecDepth 20000 in
theorem lcase_10 {X : Cz} {b L : Nat} {xs : Nat → Int32} {i : Int32} (hi : 0 ≤ i.toInt ∧ i.toInt + 9 ≤ (L : Int)) (hL : L ≤ 4608) {h h2 h3 : Hp} {r : Int32} (hC : gC h ≤ 600000 ∧ gS h ≤ 7302249) (e1 : fX11_ends (xs (ix i + 1)) h = some (r, h2)) (hC2 : gC h2 ≤ 600000 ∧ gS h2 ≤ 7302249) (e2 : fX12_ends (xs (ix i + 1)) h2 = some (r, h3)) (hC3 : gC h3 ≤ 600000 ∧ gS h3 ≤ 7302249) (k : LV X b L xs true 1624 (lsd i) [] h3) : LV X b L xs true 690 (lsd i) [] h := by
  refine l_aload_n (j := 2) (q := (11, 0)) dL_law_690 rfl ?_
  refine l_sc (v := 1) (w := 1) hi hL dL_law_691 dL_law_692 dL_law_693 (by decide) (by decide) (by decide) dL_law_694 dL_law_695 ?_
  refine l_cV (hm := h2) (rc := some (zi r)) (av := [zi (xs (ix i + 1))]) (st := []) (stn := [zi r]) (tX11_ends e1) lcX11_ends mlL_58 imX11_ends seX11_ends rfl rfl rfl rfl ⟨by decide, by decide⟩ (Nat.le_of_ble_eq_true rfl) dL_law_696 rfl rfl (by decide) rfl (fun v z => by cases z; rfl) hC2 ?_
  refine l_aload_n (j := 1) (q := (12, 0)) dL_law_699 rfl ?_
  refine l_sc (v := 1) (w := 1) hi hL dL_law_700 dL_law_701 dL_law_702 (by decide) (by decide) (by decide) dL_law_703 dL_law_704 ?_
  refine l_cV (hm := h3) (rc := some (zi r)) (av := [zi (xs (ix i + 1))]) (st := [zi r]) (stn := [zi r, zi r]) (tX12_ends e2) lcX12_ends mlL_62 imX12_ends seX12_ends rfl rfl rfl rfl ⟨by decide, by decide⟩ (Nat.le_of_ble_eq_true rfl) dL_law_705 rfl rfl (by decide) rfl (fun v z => by cases z; rfl) hC3 ?_
  refine l_same dL_law_708 (by decide : _ = ((1624 : Nat) : Int)) ?_
  exact k
set_option maxRecDepth 20000 in
theorem lcase_11 {X : Cz} {b L : Nat} {xs : Nat → Int32} {i : Int32} (hi : 0 ≤ i.toInt ∧ i.toInt + 9 ≤ (L : Int)) (hL : L ≤ 4608) {h h2 h3 : Hp} {r : Int32} (hC : gC h ≤ 600000 ∧ gS h ≤ 7302249) (e1 : fX11_rightOf (xs (ix i + 1)) (xs (ix i + 2)) h = some (r, h2)) (hC2 : gC h2 ≤ 600000 ∧ gS h2 ≤ 7302249) (e2 : fX12_rightOf (xs (ix i + 1)) (xs (ix i + 2)) h2 = some (r, h3)) (hC3 : gC h3 ≤ 600000 ∧ gS h3 ≤ 7302249) (k : LV X b L xs true 1624 (lsd i) [] h3) : LV X b L xs true 713 (lsd i) [] h := by
  refine l_aload_n (j := 2) (q := (11, 0)) dL_law_713 rfl ?_
  refine l_sc (v := 1) (w := 1) hi hL dL_law_714 dL_law_715 dL_law_716 (by decide) (by decide) (by decide) dL_law_717 dL_law_718 ?_
  refine l_sc (v := 2) (w := 2) hi hL dL_law_719 dL_law_720 dL_law_721 (by decide) (by decide) (by decide) dL_law_722 dL_law_723 ?_
  refine l_cV (hm := h2) (rc := some (zi r)) (av := [zi (xs (ix i + 1)), zi (xs (ix i + 2))]) (st := []) (stn := [zi r]) (tX11_rightOf e1) lcX11_rightOf mlL_63 imX11_rightOf seX11_rightOf rfl rfl rfl rfl ⟨by decide, by decide⟩ (Nat.le_of_ble_eq_true rfl) dL_law_724 rfl rfl (by decide) rfl (fun v z => by cases z; rfl) hC2 ?_
  refine l_aload_n (j := 1) (q := (12, 0)) dL_law_727 rfl ?_
  refine l_sc (v := 1) (w := 1) hi hL dL_law_728 dL_law_729 dL_law_730 (by decide) (by decide) (by decide) dL_law_731 dL_law_732 ?_
  refine l_sc (v := 2) (w := 2) hi hL dL_law_733 dL_law_734 dL_law_735 (by decide) (by decide) (by decide) dL_law_736 dL_law_737 ?_
  refine l_cV (hm := h3) (rc := some (zi r)) (av := [zi (xs (ix i + 1)), zi (xs (ix i + 2))]) (st := [zi r]) (stn := [zi r, zi r]) (tX12_rightOf e2) lcX12_rightOf mlL_66 imX12_rightOf seX12_rightOf rfl rfl rfl rfl ⟨by decide, by decide⟩ (Nat.le_of_ble_eq_true rfl) dL_law_738 rfl rfl (by decide) rfl (fun v z => by cases z; rfl) hC3 ?_
  refine l_same dL_law_741 (by decide : _ = ((1624 : Nat) : Int)) ?_
  exact k
set_option maxRecDepth 20000 in
theorem lcase_12 {X : Cz} {b L : Nat} {xs : Nat → Int32} {i : Int32} (hi : 0 ≤ i.toInt ∧ i.toInt + 9 ≤ (L : Int)) (hL : L ≤ 4608) {h h2 h3 : Hp} {r : Int32} (hC : gC h ≤ 600000 ∧ gS h ≤ 7302249) (e1 : fX11_unit (xs (ix i + 1)) (xs (ix i + 2)) (xs (ix i + 3)) h = some (r, h2)) (hC2 : gC h2 ≤ 600000 ∧ gS h2 ≤ 7302249) (e2 : fX12_unit (xs (ix i + 1)) (xs (ix i + 2)) (xs (ix i + 3)) h2 = some (r, h3)) (hC3 : gC h3 ≤ 600000 ∧ gS h3 ≤ 7302249) (k : LV X b L xs true 1624 (lsd i) [] h3) : LV X b L xs true 746 (lsd i) [] h := by
  refine l_aload_n (j := 2) (q := (11, 0)) dL_law_746 rfl ?_
  refine l_sc (v := 1) (w := 1) hi hL dL_law_747 dL_law_748 dL_law_749 (by decide) (by decide) (by decide) dL_law_750 dL_law_751 ?_
  refine l_sc (v := 2) (w := 2) hi hL dL_law_752 dL_law_753 dL_law_754 (by decide) (by decide) (by decide) dL_law_755 dL_law_756 ?_
  refine l_sc (v := 3) (w := 3) hi hL dL_law_757 dL_law_758 dL_law_759 (by decide) (by decide) (by decide) dL_law_760 dL_law_761 ?_
  refine l_cV (hm := h2) (rc := some (zi r)) (av := [zi (xs (ix i + 1)), zi (xs (ix i + 2)), zi (xs (ix i + 3))]) (st := []) (stn := [zi r]) (tX11_unit e1) lcX11_unit mlL_67 imX11_unit seX11_unit rfl rfl rfl rfl ⟨by decide, by decide⟩ (Nat.le_of_ble_eq_true rfl) dL_law_762 rfl rfl (by decide) rfl (fun v z => by cases z; rfl) hC2 ?_
  refine l_aload_n (j := 1) (q := (12, 0)) dL_law_765 rfl ?_
  refine l_sc (v := 1) (w := 1) hi hL dL_law_766 dL_law_767 dL_law_768 (by decide) (by decide) (by decide) dL_law_769 dL_law_770 ?_
  refine l_sc (v := 2) (w := 2) hi hL dL_law_771 dL_law_772 dL_law_773 (by decide) (by decide) (by decide) dL_law_774 dL_law_775 ?_
  refine l_sc (v := 3) (w := 3) hi hL dL_law_776 dL_law_777 dL_law_778 (by decide) (by decide) (by decide) dL_law_779 dL_law_780 ?_
  refine l_cV (hm := h3) (rc := some (zi r)) (av := [zi (xs (ix i + 1)), zi (xs (ix i + 2)), zi (xs (ix i + 3))]) (st := [zi r]) (stn := [zi r, zi r]) (tX12_unit e2) lcX12_unit mlL_70 imX12_unit seX12_unit rfl rfl rfl rfl ⟨by decide, by decide⟩ (Nat.le_of_ble_eq_true rfl) dL_law_781 rfl rfl (by decide) rfl (fun v z => by cases z; rfl) hC3 ?_
  refine l_same dL_law_784 (by decide : _ = ((1624 : Nat) : Int)) ?_
  exact k
set_option maxRecDepth 20000 in
theorem lcase_13 {X : Cz} {b L : Nat} {xs : Nat → Int32} {i : Int32} (hi : 0 ≤ i.toInt ∧ i.toInt + 9 ≤ (L : Int)) (hL : L ≤ 4608) {h h2 h3 : Hp} {r : Int32} (hC : gC h ≤ 600000 ∧ gS h ≤ 7302249) (e1 : fX11_worth (xs (ix i + 1)) (xs (ix i + 2)) (xs (ix i + 3)) h = some (r, h2)) (hC2 : gC h2 ≤ 600000 ∧ gS h2 ≤ 7302249) (e2 : fX12_worth (xs (ix i + 1)) (xs (ix i + 2)) (xs (ix i + 3)) h2 = some (r, h3)) (hC3 : gC h3 ≤ 600000 ∧ gS h3 ≤ 7302249) (k : LV X b L xs true 1624 (lsd i) [] h3) : LV X b L xs true 789 (lsd i) [] h := by
  refine l_aload_n (j := 2) (q := (11, 0)) dL_law_789 rfl ?_
  refine l_sc (v := 1) (w := 1) hi hL dL_law_790 dL_law_791 dL_law_792 (by decide) (by decide) (by decide) dL_law_793 dL_law_794 ?_
  refine l_sc (v := 2) (w := 2) hi hL dL_law_795 dL_law_796 dL_law_797 (by decide) (by decide) (by decide) dL_law_798 dL_law_799 ?_
  refine l_sc (v := 3) (w := 3) hi hL dL_law_800 dL_law_801 dL_law_802 (by decide) (by decide) (by decide) dL_law_803 dL_law_804 ?_
  refine l_cV (hm := h2) (rc := some (zi r)) (av := [zi (xs (ix i + 1)), zi (xs (ix i + 2)), zi (xs (ix i + 3))]) (st := []) (stn := [zi r]) (tX11_worth e1) lcX11_worth mlL_71 imX11_worth seX11_worth rfl rfl rfl rfl ⟨by decide, by decide⟩ (Nat.le_of_ble_eq_true rfl) dL_law_805 rfl rfl (by decide) rfl (fun v z => by cases z; rfl) hC2 ?_
  refine l_aload_n (j := 1) (q := (12, 0)) dL_law_808 rfl ?_
  refine l_sc (v := 1) (w := 1) hi hL dL_law_809 dL_law_810 dL_law_811 (by decide) (by decide) (by decide) dL_law_812 dL_law_813 ?_
  refine l_sc (v := 2) (w := 2) hi hL dL_law_814 dL_law_815 dL_law_816 (by decide) (by decide) (by decide) dL_law_817 dL_law_818 ?_
  refine l_sc (v := 3) (w := 3) hi hL dL_law_819 dL_law_820 dL_law_821 (by decide) (by decide) (by decide) dL_law_822 dL_law_823 ?_
  refine l_cV (hm := h3) (rc := some (zi r)) (av := [zi (xs (ix i + 1)), zi (xs (ix i + 2)), zi (xs (ix i + 3))]) (st := [zi r]) (stn := [zi r, zi r]) (tX12_worth e2) lcX12_worth mlL_74 imX12_worth seX12_worth rfl rfl rfl rfl ⟨by decide, by decide⟩ (Nat.le_of_ble_eq_true rfl) dL_law_824 rfl rfl (by decide) rfl (fun v z => by cases z; rfl) hC3 ?_
  refine l_same dL_law_827 (by decide : _ = ((1624 : Nat) : Int)) ?_
  exact k
set_option maxRecDepth 20000 in
theorem lcase_14 {X : Cz} {b L : Nat} {xs : Nat → Int32} {i : Int32} (hi : 0 ≤ i.toInt ∧ i.toInt + 9 ≤ (L : Int)) (hL : L ≤ 4608) {h h2 h3 : Hp} {r : Int32} (hC : gC h ≤ 600000 ∧ gS h ≤ 7302249) (e1 : fX11_belongs (xs (ix i + 1)) (xs (ix i + 2)) (xs (ix i + 3)) (xs (ix i + 4)) (xs (ix i + 5)) h = some (r, h2)) (hC2 : gC h2 ≤ 600000 ∧ gS h2 ≤ 7302249) (e2 : fX12_belongs (xs (ix i + 1)) (xs (ix i + 2)) (xs (ix i + 3)) (xs (ix i + 4)) (xs (ix i + 5)) h2 = some (r, h3)) (hC3 : gC h3 ≤ 600000 ∧ gS h3 ≤ 7302249) (k : LV X b L xs true 1624 (lsd i) [] h3) : LV X b L xs true 832 (lsd i) [] h := by
  refine l_aload_n (j := 2) (q := (11, 0)) dL_law_832 rfl ?_
  refine l_sc (v := 1) (w := 1) hi hL dL_law_833 dL_law_834 dL_law_835 (by decide) (by decide) (by decide) dL_law_836 dL_law_837 ?_
  refine l_sc (v := 2) (w := 2) hi hL dL_law_838 dL_law_839 dL_law_840 (by decide) (by decide) (by decide) dL_law_841 dL_law_842 ?_
  refine l_sc (v := 3) (w := 3) hi hL dL_law_843 dL_law_844 dL_law_845 (by decide) (by decide) (by decide) dL_law_846 dL_law_847 ?_
  refine l_sc (v := 4) (w := 4) hi hL dL_law_848 dL_law_849 dL_law_850 (by decide) (by decide) (by decide) dL_law_851 dL_law_852 ?_
  refine l_sc (v := 5) (w := 5) hi hL dL_law_853 dL_law_854 dL_law_855 (by decide) (by decide) (by decide) dL_law_856 dL_law_857 ?_
  refine l_cV (hm := h2) (rc := some (zi r)) (av := [zi (xs (ix i + 1)), zi (xs (ix i + 2)), zi (xs (ix i + 3)), zi (xs (ix i + 4)), zi (xs (ix i + 5))]) (st := []) (stn := [zi r]) (tX11_belongs e1) lcX11_belongs mlL_75 imX11_belongs seX11_belongs rfl rfl rfl rfl ⟨by decide, by decide⟩ (Nat.le_of_ble_eq_true rfl) dL_law_858 rfl rfl (by decide) rfl (fun v z => by cases z; rfl) hC2 ?_
  refine l_aload_n (j := 1) (q := (12, 0)) dL_law_861 rfl ?_
  refine l_sc (v := 1) (w := 1) hi hL dL_law_862 dL_law_863 dL_law_864 (by decide) (by decide) (by decide) dL_law_865 dL_law_866 ?_
  refine l_sc (v := 2) (w := 2) hi hL dL_law_867 dL_law_868 dL_law_869 (by decide) (by decide) (by decide) dL_law_870 dL_law_871 ?_
  refine l_sc (v := 3) (w := 3) hi hL dL_law_872 dL_law_873 dL_law_874 (by decide) (by decide) (by decide) dL_law_875 dL_law_876 ?_
  refine l_sc (v := 4) (w := 4) hi hL dL_law_877 dL_law_878 dL_law_879 (by decide) (by decide) (by decide) dL_law_880 dL_law_881 ?_
  refine l_sc (v := 5) (w := 5) hi hL dL_law_882 dL_law_883 dL_law_884 (by decide) (by decide) (by decide) dL_law_885 dL_law_886 ?_
  refine l_cV (hm := h3) (rc := some (zi r)) (av := [zi (xs (ix i + 1)), zi (xs (ix i + 2)), zi (xs (ix i + 3)), zi (xs (ix i + 4)), zi (xs (ix i + 5))]) (st := [zi r]) (stn := [zi r, zi r]) (tX12_belongs e2) lcX12_belongs mlL_79 imX12_belongs seX12_belongs rfl rfl rfl rfl ⟨by decide, by decide⟩ (Nat.le_of_ble_eq_true rfl) dL_law_887 rfl rfl (by decide) rfl (fun v z => by cases z; rfl) hC3 ?_
  refine l_same dL_law_890 (by decide : _ = ((1624 : Nat) : Int)) ?_
  exact k
set_option maxRecDepth 20000 in
theorem lcase_15 {X : Cz} {b L : Nat} {xs : Nat → Int32} {i : Int32} (hi : 0 ≤ i.toInt ∧ i.toInt + 9 ≤ (L : Int)) (hL : L ≤ 4608) {h h2 h3 : Hp} {r : Int32} (hC : gC h ≤ 600000 ∧ gS h ≤ 7302249) (e1 : fX11_judge (xs (ix i + 1)) (xs (ix i + 2)) (xs (ix i + 3)) (xs (ix i + 4)) (xs (ix i + 5)) (xs (ix i + 6)) h = some (r, h2)) (hC2 : gC h2 ≤ 600000 ∧ gS h2 ≤ 7302249) (e2 : fX12_judge (xs (ix i + 1)) (xs (ix i + 2)) (xs (ix i + 3)) (xs (ix i + 4)) (xs (ix i + 5)) (xs (ix i + 6)) h2 = some (r, h3)) (hC3 : gC h3 ≤ 600000 ∧ gS h3 ≤ 7302249) (k : LV X b L xs true 1624 (lsd i) [] h3) : LV X b L xs true 895 (lsd i) [] h := by
  refine l_aload_n (j := 2) (q := (11, 0)) dL_law_895 rfl ?_
  refine l_sc (v := 1) (w := 1) hi hL dL_law_896 dL_law_897 dL_law_898 (by decide) (by decide) (by decide) dL_law_899 dL_law_900 ?_
  refine l_sc (v := 2) (w := 2) hi hL dL_law_901 dL_law_902 dL_law_903 (by decide) (by decide) (by decide) dL_law_904 dL_law_905 ?_
  refine l_sc (v := 3) (w := 3) hi hL dL_law_906 dL_law_907 dL_law_908 (by decide) (by decide) (by decide) dL_law_909 dL_law_910 ?_
  refine l_sc (v := 4) (w := 4) hi hL dL_law_911 dL_law_912 dL_law_913 (by decide) (by decide) (by decide) dL_law_914 dL_law_915 ?_
  refine l_sc (v := 5) (w := 5) hi hL dL_law_916 dL_law_917 dL_law_918 (by decide) (by decide) (by decide) dL_law_919 dL_law_920 ?_
  refine l_sb (v := 6) (w := 6) hi hL dL_law_921 dL_law_922 dL_law_923 (by decide) (by decide) (by decide) dL_law_925 dL_law_926 ?_
  refine l_cV (hm := h2) (rc := some (zi r)) (av := [zi (xs (ix i + 1)), zi (xs (ix i + 2)), zi (xs (ix i + 3)), zi (xs (ix i + 4)), zi (xs (ix i + 5)), zi (xs (ix i + 6))]) (st := []) (stn := [zi r]) (tX11_judge e1) lcX11_judge mlL_80 imX11_judge seX11_judge rfl rfl rfl rfl ⟨by decide, by decide⟩ (Nat.le_of_ble_eq_true rfl) dL_law_927 rfl rfl (by decide) rfl (fun v z => by cases z; rfl) hC2 ?_
  refine l_aload_n (j := 1) (q := (12, 0)) dL_law_930 rfl ?_
  refine l_sc (v := 1) (w := 1) hi hL dL_law_931 dL_law_932 dL_law_933 (by decide) (by decide) (by decide) dL_law_934 dL_law_935 ?_
  refine l_sc (v := 2) (w := 2) hi hL dL_law_936 dL_law_937 dL_law_938 (by decide) (by decide) (by decide) dL_law_939 dL_law_940 ?_
  refine l_sc (v := 3) (w := 3) hi hL dL_law_941 dL_law_942 dL_law_943 (by decide) (by decide) (by decide) dL_law_944 dL_law_945 ?_
  refine l_sc (v := 4) (w := 4) hi hL dL_law_946 dL_law_947 dL_law_948 (by decide) (by decide) (by decide) dL_law_949 dL_law_950 ?_
  refine l_sc (v := 5) (w := 5) hi hL dL_law_951 dL_law_952 dL_law_953 (by decide) (by decide) (by decide) dL_law_954 dL_law_955 ?_
  refine l_sb (v := 6) (w := 6) hi hL dL_law_956 dL_law_957 dL_law_958 (by decide) (by decide) (by decide) dL_law_960 dL_law_961 ?_
  refine l_cV (hm := h3) (rc := some (zi r)) (av := [zi (xs (ix i + 1)), zi (xs (ix i + 2)), zi (xs (ix i + 3)), zi (xs (ix i + 4)), zi (xs (ix i + 5)), zi (xs (ix i + 6))]) (st := [zi r]) (stn := [zi r, zi r]) (tX12_judge e2) lcX12_judge mlL_84 imX12_judge seX12_judge rfl rfl rfl rfl ⟨by decide, by decide⟩ (Nat.le_of_ble_eq_true rfl) dL_law_962 rfl rfl (by decide) rfl (fun v z => by cases z; rfl) hC3 ?_
  refine l_same dL_law_965 (by decide : _ = ((1624 : Nat) : Int)) ?_
  exact k
set_option maxRecDepth 20000 in
theorem lcase_16 {X : Cz} {b L : Nat} {xs : Nat → Int32} {i : Int32} (hi : 0 ≤ i.toInt ∧ i.toInt + 9 ≤ (L : Int)) (hL : L ≤ 4608) {h h2 h3 : Hp} {r : Int32} (hC : gC h ≤ 600000 ∧ gS h ≤ 7302249) (e1 : fX11_lot (xs (ix i + 1)) (xs (ix i + 2)) (xs (ix i + 3)) (xs (ix i + 4)) h = some (r, h2)) (hC2 : gC h2 ≤ 600000 ∧ gS h2 ≤ 7302249) (e2 : fX12_lot (xs (ix i + 1)) (xs (ix i + 2)) (xs (ix i + 3)) (xs (ix i + 4)) h2 = some (r, h3)) (hC3 : gC h3 ≤ 600000 ∧ gS h3 ≤ 7302249) (k : LV X b L xs true 1624 (lsd i) [] h3) : LV X b L xs true 970 (lsd i) [] h := by
  refine l_aload_n (j := 2) (q := (11, 0)) dL_law_970 rfl ?_
  refine l_sc (v := 1) (w := 1) hi hL dL_law_971 dL_law_972 dL_law_973 (by decide) (by decide) (by decide) dL_law_974 dL_law_975 ?_
  refine l_sc (v := 2) (w := 2) hi hL dL_law_976 dL_law_977 dL_law_978 (by decide) (by decide) (by decide) dL_law_979 dL_law_980 ?_
  refine l_sc (v := 3) (w := 3) hi hL dL_law_981 dL_law_982 dL_law_983 (by decide) (by decide) (by decide) dL_law_984 dL_law_985 ?_
  refine l_sc (v := 4) (w := 4) hi hL dL_law_986 dL_law_987 dL_law_988 (by decide) (by decide) (by decide) dL_law_989 dL_law_990 ?_
  refine l_cV (hm := h2) (rc := some (zi r)) (av := [zi (xs (ix i + 1)), zi (xs (ix i + 2)), zi (xs (ix i + 3)), zi (xs (ix i + 4))]) (st := []) (stn := [zi r]) (tX11_lot e1) lcX11_lot mlL_85 imX11_lot seX11_lot rfl rfl rfl rfl ⟨by decide, by decide⟩ (Nat.le_of_ble_eq_true rfl) dL_law_991 rfl rfl (by decide) rfl (fun v z => by cases z; rfl) hC2 ?_
  refine l_aload_n (j := 1) (q := (12, 0)) dL_law_994 rfl ?_
  refine l_sc (v := 1) (w := 1) hi hL dL_law_995 dL_law_996 dL_law_997 (by decide) (by decide) (by decide) dL_law_998 dL_law_999 ?_
  refine l_sc (v := 2) (w := 2) hi hL dL_law_1000 dL_law_1001 dL_law_1002 (by decide) (by decide) (by decide) dL_law_1003 dL_law_1004 ?_
  refine l_sc (v := 3) (w := 3) hi hL dL_law_1005 dL_law_1006 dL_law_1007 (by decide) (by decide) (by decide) dL_law_1008 dL_law_1009 ?_
  refine l_sc (v := 4) (w := 4) hi hL dL_law_1010 dL_law_1011 dL_law_1012 (by decide) (by decide) (by decide) dL_law_1013 dL_law_1014 ?_
  refine l_cV (hm := h3) (rc := some (zi r)) (av := [zi (xs (ix i + 1)), zi (xs (ix i + 2)), zi (xs (ix i + 3)), zi (xs (ix i + 4))]) (st := [zi r]) (stn := [zi r, zi r]) (tX12_lot e2) lcX12_lot mlL_88 imX12_lot seX12_lot rfl rfl rfl rfl ⟨by decide, by decide⟩ (Nat.le_of_ble_eq_true rfl) dL_law_1015 rfl rfl (by decide) rfl (fun v z => by cases z; rfl) hC3 ?_
  refine l_same dL_law_1018 (by decide : _ = ((1624 : Nat) : Int)) ?_
  exact k
set_option maxRecDepth 20000 in
theorem lcase_17 {X : Cz} {b L : Nat} {xs : Nat → Int32} {i : Int32} (hi : 0 ≤ i.toInt ∧ i.toInt + 9 ≤ (L : Int)) (hL : L ≤ 4608) {h h2 h3 : Hp} {r : Int32} (hC : gC h ≤ 600000 ∧ gS h ≤ 7302249) (e1 : fX11_offers (xs (ix i + 1)) (xs (ix i + 2)) h = some (r, h2)) (hC2 : gC h2 ≤ 600000 ∧ gS h2 ≤ 7302249) (e2 : fX12_offers (xs (ix i + 1)) (xs (ix i + 2)) h2 = some (r, h3)) (hC3 : gC h3 ≤ 600000 ∧ gS h3 ≤ 7302249) (k : LV X b L xs true 1624 (lsd i) [] h3) : LV X b L xs true 1023 (lsd i) [] h := by
  refine l_aload_n (j := 2) (q := (11, 0)) dL_law_1023 rfl ?_
  refine l_sc (v := 1) (w := 1) hi hL dL_law_1024 dL_law_1025 dL_law_1026 (by decide) (by decide) (by decide) dL_law_1027 dL_law_1028 ?_
  refine l_sc (v := 2) (w := 2) hi hL dL_law_1029 dL_law_1030 dL_law_1031 (by decide) (by decide) (by decide) dL_law_1032 dL_law_1033 ?_
  refine l_cV (hm := h2) (rc := some (zi r)) (av := [zi (xs (ix i + 1)), zi (xs (ix i + 2))]) (st := []) (stn := [zi r]) (tX11_offers e1) lcX11_offers mlL_89 imX11_offers seX11_offers rfl rfl rfl rfl ⟨by decide, by decide⟩ (Nat.le_of_ble_eq_true rfl) dL_law_1034 rfl rfl (by decide) rfl (fun v z => by cases z; rfl) hC2 ?_
  refine l_aload_n (j := 1) (q := (12, 0)) dL_law_1037 rfl ?_
  refine l_sc (v := 1) (w := 1) hi hL dL_law_1038 dL_law_1039 dL_law_1040 (by decide) (by decide) (by decide) dL_law_1041 dL_law_1042 ?_
  refine l_sc (v := 2) (w := 2) hi hL dL_law_1043 dL_law_1044 dL_law_1045 (by decide) (by decide) (by decide) dL_law_1046 dL_law_1047 ?_
  refine l_cV (hm := h3) (rc := some (zi r)) (av := [zi (xs (ix i + 1)), zi (xs (ix i + 2))]) (st := [zi r]) (stn := [zi r, zi r]) (tX12_offers e2) lcX12_offers mlL_92 imX12_offers seX12_offers rfl rfl rfl rfl ⟨by decide, by decide⟩ (Nat.le_of_ble_eq_true rfl) dL_law_1048 rfl rfl (by decide) rfl (fun v z => by cases z; rfl) hC3 ?_
  refine l_same dL_law_1051 (by decide : _ = ((1624 : Nat) : Int)) ?_
  exact k
set_option maxRecDepth 20000 in
theorem lcase_18 {X : Cz} {b L : Nat} {xs : Nat → Int32} {i : Int32} (hi : 0 ≤ i.toInt ∧ i.toInt + 9 ≤ (L : Int)) (hL : L ≤ 4608) {h h2 h3 : Hp} {r : Int64} (hC : gC h ≤ 600000 ∧ gS h ≤ 7302249) (e1 : fX11_knock h = some (r, h2)) (hC2 : gC h2 ≤ 600000 ∧ gS h2 ≤ 7302249) (e2 : fX12_knock h2 = some (r, h3)) (hC3 : gC h3 ≤ 600000 ∧ gS h3 ≤ 7302249) (k : LV X b L xs true 1624 (lsd i) [] h3) : LV X b L xs true 1056 (lsd i) [] h := by
  refine l_aload_n (j := 2) (q := (11, 0)) dL_law_1056 rfl ?_
  refine l_cV (hm := h2) (rc := some (zj r)) (av := []) (st := []) (stn := [zj r]) (tX11_knock e1) lcX11_knock mlL_93 imX11_knock seX11_knock rfl rfl rfl rfl ⟨by decide, by decide⟩ (Nat.le_of_ble_eq_true rfl) dL_law_1057 rfl rfl (by decide) rfl (fun v z => by cases z; rfl) hC2 ?_
  refine l_aload_n (j := 1) (q := (12, 0)) dL_law_1060 rfl ?_
  refine l_cV (hm := h3) (rc := some (zj r)) (av := []) (st := [zj r]) (stn := [zj r, zj r]) (tX12_knock e2) lcX12_knock mlL_97 imX12_knock seX12_knock rfl rfl rfl rfl ⟨by decide, by decide⟩ (Nat.le_of_ble_eq_true rfl) dL_law_1061 rfl rfl (by decide) rfl (fun v z => by cases z; rfl) hC3 ?_
  refine l_sameJ dL_law_1064 dL_law_1065 (by decide : _ = ((1624 : Nat) : Int)) ?_
  exact k
set_option maxRecDepth 20000 in
theorem lcase_19 {X : Cz} {b L : Nat} {xs : Nat → Int32} {i : Int32} (hi : 0 ≤ i.toInt ∧ i.toInt + 9 ≤ (L : Int)) (hL : L ≤ 4608) {h h2 h3 : Hp} {r : Int64} (hC : gC h ≤ 600000 ∧ gS h ≤ 7302249) (e1 : fX11_knocked (xs (ix i + 1)) (xs (ix i + 2)) h = some (r, h2)) (hC2 : gC h2 ≤ 600000 ∧ gS h2 ≤ 7302249) (e2 : fX12_knocked (xs (ix i + 1)) (xs (ix i + 2)) h2 = some (r, h3)) (hC3 : gC h3 ≤ 600000 ∧ gS h3 ≤ 7302249) (k : LV X b L xs true 1624 (lsd i) [] h3) : LV X b L xs true 1070 (lsd i) [] h := by
  refine l_aload_n (j := 2) (q := (11, 0)) dL_law_1070 rfl ?_
  refine l_sc (v := 1) (w := 1) hi hL dL_law_1071 dL_law_1072 dL_law_1073 (by decide) (by decide) (by decide) dL_law_1074 dL_law_1075 ?_
  refine l_sc (v := 2) (w := 2) hi hL dL_law_1076 dL_law_1077 dL_law_1078 (by decide) (by decide) (by decide) dL_law_1079 dL_law_1080 ?_
  refine l_cV (hm := h2) (rc := some (zj r)) (av := [zi (xs (ix i + 1)), zi (xs (ix i + 2))]) (st := []) (stn := [zj r]) (tX11_knocked e1) lcX11_knocked mlL_98 imX11_knocked seX11_knocked rfl rfl rfl rfl ⟨by decide, by decide⟩ (Nat.le_of_ble_eq_true rfl) dL_law_1081 rfl rfl (by decide) rfl (fun v z => by cases z; rfl) hC2 ?_
  refine l_aload_n (j := 1) (q := (12, 0)) dL_law_1084 rfl ?_
  refine l_sc (v := 1) (w := 1) hi hL dL_law_1085 dL_law_1086 dL_law_1087 (by decide) (by decide) (by decide) dL_law_1088 dL_law_1089 ?_
  refine l_sc (v := 2) (w := 2) hi hL dL_law_1090 dL_law_1091 dL_law_1092 (by decide) (by decide) (by decide) dL_law_1093 dL_law_1094 ?_
  refine l_cV (hm := h3) (rc := some (zj r)) (av := [zi (xs (ix i + 1)), zi (xs (ix i + 2))]) (st := [zj r]) (stn := [zj r, zj r]) (tX12_knocked e2) lcX12_knocked mlL_102 imX12_knocked seX12_knocked rfl rfl rfl rfl ⟨by decide, by decide⟩ (Nat.le_of_ble_eq_true rfl) dL_law_1095 rfl rfl (by decide) rfl (fun v z => by cases z; rfl) hC3 ?_
  refine l_sameJ dL_law_1098 dL_law_1099 (by decide : _ = ((1624 : Nat) : Int)) ?_
  exact k
set_option maxRecDepth 20000 in
theorem lcase_20 {X : Cz} {b L : Nat} {xs : Nat → Int32} {i : Int32} (hi : 0 ≤ i.toInt ∧ i.toInt + 9 ≤ (L : Int)) (hL : L ≤ 4608) {h h2 h3 : Hp} {r : Int32} (hC : gC h ≤ 600000 ∧ gS h ≤ 7302249) (e1 : fX11_change (xs (ix i + 1)) h = some (r, h2)) (hC2 : gC h2 ≤ 600000 ∧ gS h2 ≤ 7302249) (e2 : fX12_change (xs (ix i + 1)) h2 = some (r, h3)) (hC3 : gC h3 ≤ 600000 ∧ gS h3 ≤ 7302249) (k : LV X b L xs true 1624 (lsd i) [] h3) : LV X b L xs true 1104 (lsd i) [] h := by
  refine l_aload_n (j := 2) (q := (11, 0)) dL_law_1104 rfl ?_
  refine l_sc (v := 1) (w := 1) hi hL dL_law_1105 dL_law_1106 dL_law_1107 (by decide) (by decide) (by decide) dL_law_1108 dL_law_1109 ?_
  refine l_cV (hm := h2) (rc := some (zi r)) (av := [zi (xs (ix i + 1))]) (st := []) (stn := [zi r]) (tX11_change e1) lcX11_change mlL_103 imX11_change seX11_change rfl rfl rfl rfl ⟨by decide, by decide⟩ (Nat.le_of_ble_eq_true rfl) dL_law_1110 rfl rfl (by decide) rfl (fun v z => by cases z; rfl) hC2 ?_
  refine l_aload_n (j := 1) (q := (12, 0)) dL_law_1113 rfl ?_
  refine l_sc (v := 1) (w := 1) hi hL dL_law_1114 dL_law_1115 dL_law_1116 (by decide) (by decide) (by decide) dL_law_1117 dL_law_1118 ?_
  refine l_cV (hm := h3) (rc := some (zi r)) (av := [zi (xs (ix i + 1))]) (st := [zi r]) (stn := [zi r, zi r]) (tX12_change e2) lcX12_change mlL_107 imX12_change seX12_change rfl rfl rfl rfl ⟨by decide, by decide⟩ (Nat.le_of_ble_eq_true rfl) dL_law_1119 rfl rfl (by decide) rfl (fun v z => by cases z; rfl) hC3 ?_
  refine l_same dL_law_1122 (by decide : _ = ((1624 : Nat) : Int)) ?_
  exact k
set_option maxRecDepth 20000 in
theorem lcase_21 {X : Cz} {b L : Nat} {xs : Nat → Int32} {i : Int32} (hi : 0 ≤ i.toInt ∧ i.toInt + 9 ≤ (L : Int)) (hL : L ≤ 4608) {h h2 h3 : Hp} {r : Int32} (hC : gC h ≤ 600000 ∧ gS h ≤ 7302249) (e1 : fX11_changedTo (xs (ix i + 1)) h = some (r, h2)) (hC2 : gC h2 ≤ 600000 ∧ gS h2 ≤ 7302249) (e2 : fX12_changedTo (xs (ix i + 1)) h2 = some (r, h3)) (hC3 : gC h3 ≤ 600000 ∧ gS h3 ≤ 7302249) (k : LV X b L xs true 1624 (lsd i) [] h3) : LV X b L xs true 1127 (lsd i) [] h := by
  refine l_aload_n (j := 2) (q := (11, 0)) dL_law_1127 rfl ?_
  refine l_sc (v := 1) (w := 1) hi hL dL_law_1128 dL_law_1129 dL_law_1130 (by decide) (by decide) (by decide) dL_law_1131 dL_law_1132 ?_
  refine l_cV (hm := h2) (rc := some (zi r)) (av := [zi (xs (ix i + 1))]) (st := []) (stn := [zi r]) (tX11_changedTo e1) lcX11_changedTo mlL_108 imX11_changedTo seX11_changedTo rfl rfl rfl rfl ⟨by decide, by decide⟩ (Nat.le_of_ble_eq_true rfl) dL_law_1133 rfl rfl (by decide) rfl (fun v z => by cases z; rfl) hC2 ?_
  refine l_aload_n (j := 1) (q := (12, 0)) dL_law_1136 rfl ?_
  refine l_sc (v := 1) (w := 1) hi hL dL_law_1137 dL_law_1138 dL_law_1139 (by decide) (by decide) (by decide) dL_law_1140 dL_law_1141 ?_
  refine l_cV (hm := h3) (rc := some (zi r)) (av := [zi (xs (ix i + 1))]) (st := [zi r]) (stn := [zi r, zi r]) (tX12_changedTo e2) lcX12_changedTo mlL_111 imX12_changedTo seX12_changedTo rfl rfl rfl rfl ⟨by decide, by decide⟩ (Nat.le_of_ble_eq_true rfl) dL_law_1142 rfl rfl (by decide) rfl (fun v z => by cases z; rfl) hC3 ?_
  refine l_same dL_law_1145 (by decide : _ = ((1624 : Nat) : Int)) ?_
  exact k
set_option maxRecDepth 20000 in
theorem lcase_22 {X : Cz} {b L : Nat} {xs : Nat → Int32} {i : Int32} (hi : 0 ≤ i.toInt ∧ i.toInt + 9 ≤ (L : Int)) (hL : L ≤ 4608) {h h2 h3 : Hp} {r : Int32} (hC : gC h ≤ 600000 ∧ gS h ≤ 7302249) (e1 : fX11_sunday (xs (ix i + 1)) (xs (ix i + 2)) h = some (r, h2)) (hC2 : gC h2 ≤ 600000 ∧ gS h2 ≤ 7302249) (e2 : fX12_sunday (xs (ix i + 1)) (xs (ix i + 2)) h2 = some (r, h3)) (hC3 : gC h3 ≤ 600000 ∧ gS h3 ≤ 7302249) (k : LV X b L xs true 1624 (lsd i) [] h3) : LV X b L xs true 1150 (lsd i) [] h := by
  refine l_aload_n (j := 2) (q := (11, 0)) dL_law_1150 rfl ?_
  refine l_sc (v := 1) (w := 1) hi hL dL_law_1151 dL_law_1152 dL_law_1153 (by decide) (by decide) (by decide) dL_law_1154 dL_law_1155 ?_
  refine l_sc (v := 2) (w := 2) hi hL dL_law_1156 dL_law_1157 dL_law_1158 (by decide) (by decide) (by decide) dL_law_1159 dL_law_1160 ?_
  refine l_cV (hm := h2) (rc := some (zi r)) (av := [zi (xs (ix i + 1)), zi (xs (ix i + 2))]) (st := []) (stn := [zi r]) (tX11_sunday e1) lcX11_sunday mlL_112 imX11_sunday seX11_sunday rfl rfl rfl rfl ⟨by decide, by decide⟩ (Nat.le_of_ble_eq_true rfl) dL_law_1161 rfl rfl (by decide) rfl (fun v z => by cases z; rfl) hC2 ?_
  refine l_aload_n (j := 1) (q := (12, 0)) dL_law_1164 rfl ?_
  refine l_sc (v := 1) (w := 1) hi hL dL_law_1165 dL_law_1166 dL_law_1167 (by decide) (by decide) (by decide) dL_law_1168 dL_law_1169 ?_
  refine l_sc (v := 2) (w := 2) hi hL dL_law_1170 dL_law_1171 dL_law_1172 (by decide) (by decide) (by decide) dL_law_1173 dL_law_1174 ?_
  refine l_cV (hm := h3) (rc := some (zi r)) (av := [zi (xs (ix i + 1)), zi (xs (ix i + 2))]) (st := [zi r]) (stn := [zi r, zi r]) (tX12_sunday e2) lcX12_sunday mlL_115 imX12_sunday seX12_sunday rfl rfl rfl rfl ⟨by decide, by decide⟩ (Nat.le_of_ble_eq_true rfl) dL_law_1175 rfl rfl (by decide) rfl (fun v z => by cases z; rfl) hC3 ?_
  refine l_same dL_law_1178 (by decide : _ = ((1624 : Nat) : Int)) ?_
  exact k
set_option maxRecDepth 20000 in
theorem lcase_23 {X : Cz} {b L : Nat} {xs : Nat → Int32} {i : Int32} (hi : 0 ≤ i.toInt ∧ i.toInt + 9 ≤ (L : Int)) (hL : L ≤ 4608) {h h2 h3 : Hp} {r : Int32} (hC : gC h ≤ 600000 ∧ gS h ≤ 7302249) (e1 : fX11_sat (xs (ix i + 1)) h = some (r, h2)) (hC2 : gC h2 ≤ 600000 ∧ gS h2 ≤ 7302249) (e2 : fX12_sat (xs (ix i + 1)) h2 = some (r, h3)) (hC3 : gC h3 ≤ 600000 ∧ gS h3 ≤ 7302249) (k : LV X b L xs true 1624 (lsd i) [] h3) : LV X b L xs true 1183 (lsd i) [] h := by
  refine l_aload_n (j := 2) (q := (11, 0)) dL_law_1183 rfl ?_
  refine l_sc (v := 1) (w := 1) hi hL dL_law_1184 dL_law_1185 dL_law_1186 (by decide) (by decide) (by decide) dL_law_1187 dL_law_1188 ?_
  refine l_cV (hm := h2) (rc := some (zi r)) (av := [zi (xs (ix i + 1))]) (st := []) (stn := [zi r]) (tX11_sat e1) lcX11_sat mlL_116 imX11_sat seX11_sat rfl rfl rfl rfl ⟨by decide, by decide⟩ (Nat.le_of_ble_eq_true rfl) dL_law_1189 rfl rfl (by decide) rfl (fun v z => by cases z; rfl) hC2 ?_
  refine l_aload_n (j := 1) (q := (12, 0)) dL_law_1192 rfl ?_
  refine l_sc (v := 1) (w := 1) hi hL dL_law_1193 dL_law_1194 dL_law_1195 (by decide) (by decide) (by decide) dL_law_1196 dL_law_1197 ?_
  refine l_cV (hm := h3) (rc := some (zi r)) (av := [zi (xs (ix i + 1))]) (st := [zi r]) (stn := [zi r, zi r]) (tX12_sat e2) lcX12_sat mlL_119 imX12_sat seX12_sat rfl rfl rfl rfl ⟨by decide, by decide⟩ (Nat.le_of_ble_eq_true rfl) dL_law_1198 rfl rfl (by decide) rfl (fun v z => by cases z; rfl) hC3 ?_
  refine l_same dL_law_1201 (by decide : _ = ((1624 : Nat) : Int)) ?_
  exact k
set_option maxRecDepth 20000 in
theorem lcase_24 {X : Cz} {b L : Nat} {xs : Nat → Int32} {i : Int32} (hi : 0 ≤ i.toInt ∧ i.toInt + 9 ≤ (L : Int)) (hL : L ≤ 4608) {h h2 h3 : Hp} {r : Int32} (hC : gC h ≤ 600000 ∧ gS h ≤ 7302249) (e1 : fX11_go h = some (r, h2)) (hC2 : gC h2 ≤ 600000 ∧ gS h2 ≤ 7302249) (e2 : fX12_go h2 = some (r, h3)) (hC3 : gC h3 ≤ 600000 ∧ gS h3 ≤ 7302249) (k : LV X b L xs true 1624 (lsd i) [] h3) : LV X b L xs true 1206 (lsd i) [] h := by
  refine l_aload_n (j := 2) (q := (11, 0)) dL_law_1206 rfl ?_
  refine l_cV (hm := h2) (rc := some (zi r)) (av := []) (st := []) (stn := [zi r]) (tX11_go e1) lcX11_go mlL_120 imX11_go seX11_go rfl rfl rfl rfl ⟨by decide, by decide⟩ (Nat.le_of_ble_eq_true rfl) dL_law_1207 rfl rfl (by decide) rfl (fun v z => by cases z; rfl) hC2 ?_
  refine l_aload_n (j := 1) (q := (12, 0)) dL_law_1210 rfl ?_
  refine l_cV (hm := h3) (rc := some (zi r)) (av := []) (st := [zi r]) (stn := [zi r, zi r]) (tX12_go e2) lcX12_go mlL_124 imX12_go seX12_go rfl rfl rfl rfl ⟨by decide, by decide⟩ (Nat.le_of_ble_eq_true rfl) dL_law_1211 rfl rfl (by decide) rfl (fun v z => by cases z; rfl) hC3 ?_
  refine l_same dL_law_1214 (by decide : _ = ((1624 : Nat) : Int)) ?_
  exact k
set_option maxRecDepth 20000 in
theorem lcase_25 {X : Cz} {b L : Nat} {xs : Nat → Int32} {i : Int32} (hi : 0 ≤ i.toInt ∧ i.toInt + 9 ≤ (L : Int)) (hL : L ≤ 4608) {h h2 h3 : Hp} {r : Int32} (hC : gC h ≤ 600000 ∧ gS h ≤ 7302249) (e1 : fX11_seat (xs (ix i + 1)) (xs (ix i + 2)) (xs (ix i + 3)) h = some (r, h2)) (hC2 : gC h2 ≤ 600000 ∧ gS h2 ≤ 7302249) (e2 : fX12_seat (xs (ix i + 1)) (xs (ix i + 2)) (xs (ix i + 3)) h2 = some (r, h3)) (hC3 : gC h3 ≤ 600000 ∧ gS h3 ≤ 7302249) (k : LV X b L xs true 1624 (lsd i) [] h3) : LV X b L xs true 1219 (lsd i) [] h := by
  refine l_aload_n (j := 2) (q := (11, 0)) dL_law_1219 rfl ?_
  refine l_sc (v := 1) (w := 1) hi hL dL_law_1220 dL_law_1221 dL_law_1222 (by decide) (by decide) (by decide) dL_law_1223 dL_law_1224 ?_
  refine l_sc (v := 2) (w := 2) hi hL dL_law_1225 dL_law_1226 dL_law_1227 (by decide) (by decide) (by decide) dL_law_1228 dL_law_1229 ?_
  refine l_sc (v := 3) (w := 3) hi hL dL_law_1230 dL_law_1231 dL_law_1232 (by decide) (by decide) (by decide) dL_law_1233 dL_law_1234 ?_
  refine l_cV (hm := h2) (rc := some (zi r)) (av := [zi (xs (ix i + 1)), zi (xs (ix i + 2)), zi (xs (ix i + 3))]) (st := []) (stn := [zi r]) (tX11_seat e1) lcX11_seat mlL_125 imX11_seat seX11_seat rfl rfl rfl rfl ⟨by decide, by decide⟩ (Nat.le_of_ble_eq_true rfl) dL_law_1235 rfl rfl (by decide) rfl (fun v z => by cases z; rfl) hC2 ?_
  refine l_aload_n (j := 1) (q := (12, 0)) dL_law_1238 rfl ?_
  refine l_sc (v := 1) (w := 1) hi hL dL_law_1239 dL_law_1240 dL_law_1241 (by decide) (by decide) (by decide) dL_law_1242 dL_law_1243 ?_
  refine l_sc (v := 2) (w := 2) hi hL dL_law_1244 dL_law_1245 dL_law_1246 (by decide) (by decide) (by decide) dL_law_1247 dL_law_1248 ?_
  refine l_sc (v := 3) (w := 3) hi hL dL_law_1249 dL_law_1250 dL_law_1251 (by decide) (by decide) (by decide) dL_law_1252 dL_law_1253 ?_
  refine l_cV (hm := h3) (rc := some (zi r)) (av := [zi (xs (ix i + 1)), zi (xs (ix i + 2)), zi (xs (ix i + 3))]) (st := [zi r]) (stn := [zi r, zi r]) (tX12_seat e2) lcX12_seat mlL_128 imX12_seat seX12_seat rfl rfl rfl rfl ⟨by decide, by decide⟩ (Nat.le_of_ble_eq_true rfl) dL_law_1254 rfl rfl (by decide) rfl (fun v z => by cases z; rfl) hC3 ?_
  refine l_same dL_law_1257 (by decide : _ = ((1624 : Nat) : Int)) ?_
  exact k
set_option maxRecDepth 20000 in
theorem lcase_26 {X : Cz} {b L : Nat} {xs : Nat → Int32} {i : Int32} (hi : 0 ≤ i.toInt ∧ i.toInt + 9 ≤ (L : Int)) (hL : L ≤ 4608) {h h2 h3 : Hp} {r : Int32} (hC : gC h ≤ 600000 ∧ gS h ≤ 7302249) (e1 : fX11_moved (xs (ix i + 1)) (xs (ix i + 2)) h = some (r, h2)) (hC2 : gC h2 ≤ 600000 ∧ gS h2 ≤ 7302249) (e2 : fX12_moved (xs (ix i + 1)) (xs (ix i + 2)) h2 = some (r, h3)) (hC3 : gC h3 ≤ 600000 ∧ gS h3 ≤ 7302249) (k : LV X b L xs true 1624 (lsd i) [] h3) : LV X b L xs true 1262 (lsd i) [] h := by
  refine l_aload_n (j := 2) (q := (11, 0)) dL_law_1262 rfl ?_
  refine l_sc (v := 1) (w := 1) hi hL dL_law_1263 dL_law_1264 dL_law_1265 (by decide) (by decide) (by decide) dL_law_1266 dL_law_1267 ?_
  refine l_sc (v := 2) (w := 2) hi hL dL_law_1268 dL_law_1269 dL_law_1270 (by decide) (by decide) (by decide) dL_law_1271 dL_law_1272 ?_
  refine l_cV (hm := h2) (rc := some (zi r)) (av := [zi (xs (ix i + 1)), zi (xs (ix i + 2))]) (st := []) (stn := [zi r]) (tX11_moved e1) lcX11_moved mlL_129 imX11_moved seX11_moved rfl rfl rfl rfl ⟨by decide, by decide⟩ (Nat.le_of_ble_eq_true rfl) dL_law_1273 rfl rfl (by decide) rfl (fun v z => by cases z; rfl) hC2 ?_
  refine l_aload_n (j := 1) (q := (12, 0)) dL_law_1276 rfl ?_
  refine l_sc (v := 1) (w := 1) hi hL dL_law_1277 dL_law_1278 dL_law_1279 (by decide) (by decide) (by decide) dL_law_1280 dL_law_1281 ?_
  refine l_sc (v := 2) (w := 2) hi hL dL_law_1282 dL_law_1283 dL_law_1284 (by decide) (by decide) (by decide) dL_law_1285 dL_law_1286 ?_
  refine l_cV (hm := h3) (rc := some (zi r)) (av := [zi (xs (ix i + 1)), zi (xs (ix i + 2))]) (st := [zi r]) (stn := [zi r, zi r]) (tX12_moved e2) lcX12_moved mlL_132 imX12_moved seX12_moved rfl rfl rfl rfl ⟨by decide, by decide⟩ (Nat.le_of_ble_eq_true rfl) dL_law_1287 rfl rfl (by decide) rfl (fun v z => by cases z; rfl) hC3 ?_
  refine l_same dL_law_1290 (by decide : _ = ((1624 : Nat) : Int)) ?_
  exact k
set_option maxRecDepth 20000 in
theorem lcase_27 {X : Cz} {b L : Nat} {xs : Nat → Int32} {i : Int32} (hi : 0 ≤ i.toInt ∧ i.toInt + 9 ≤ (L : Int)) (hL : L ≤ 4608) {h h2 h3 : Hp} {r : Int64} (hC : gC h ≤ 600000 ∧ gS h ≤ 7302249) (e1 : fX11_beside (xs (ix i + 1)) h = some (r, h2)) (hC2 : gC h2 ≤ 600000 ∧ gS h2 ≤ 7302249) (e2 : fX12_beside (xs (ix i + 1)) h2 = some (r, h3)) (hC3 : gC h3 ≤ 600000 ∧ gS h3 ≤ 7302249) (k : LV X b L xs true 1624 (lsd i) [] h3) : LV X b L xs true 1295 (lsd i) [] h := by
  refine l_aload_n (j := 2) (q := (11, 0)) dL_law_1295 rfl ?_
  refine l_sc (v := 1) (w := 1) hi hL dL_law_1296 dL_law_1297 dL_law_1298 (by decide) (by decide) (by decide) dL_law_1299 dL_law_1300 ?_
  refine l_cV (hm := h2) (rc := some (zj r)) (av := [zi (xs (ix i + 1))]) (st := []) (stn := [zj r]) (tX11_beside e1) lcX11_beside mlL_133 imX11_beside seX11_beside rfl rfl rfl rfl ⟨by decide, by decide⟩ (Nat.le_of_ble_eq_true rfl) dL_law_1301 rfl rfl (by decide) rfl (fun v z => by cases z; rfl) hC2 ?_
  refine l_aload_n (j := 1) (q := (12, 0)) dL_law_1304 rfl ?_
  refine l_sc (v := 1) (w := 1) hi hL dL_law_1305 dL_law_1306 dL_law_1307 (by decide) (by decide) (by decide) dL_law_1308 dL_law_1309 ?_
  refine l_cV (hm := h3) (rc := some (zj r)) (av := [zi (xs (ix i + 1))]) (st := [zj r]) (stn := [zj r, zj r]) (tX12_beside e2) lcX12_beside mlL_137 imX12_beside seX12_beside rfl rfl rfl rfl ⟨by decide, by decide⟩ (Nat.le_of_ble_eq_true rfl) dL_law_1310 rfl rfl (by decide) rfl (fun v z => by cases z; rfl) hC3 ?_
  refine l_sameJ dL_law_1313 dL_law_1314 (by decide : _ = ((1624 : Nat) : Int)) ?_
  exact k
set_option maxRecDepth 20000 in
theorem lcase_28 {X : Cz} {b L : Nat} {xs : Nat → Int32} {i : Int32} (hi : 0 ≤ i.toInt ∧ i.toInt + 9 ≤ (L : Int)) (hL : L ≤ 4608) {h h2 h3 : Hp} {r : Int32} (hC : gC h ≤ 600000 ∧ gS h ≤ 7302249) (e1 : fX11_householdOf (xs (ix i + 1)) (xs (ix i + 2)) h = some (r, h2)) (hC2 : gC h2 ≤ 600000 ∧ gS h2 ≤ 7302249) (e2 : fX12_householdOf (xs (ix i + 1)) (xs (ix i + 2)) h2 = some (r, h3)) (hC3 : gC h3 ≤ 600000 ∧ gS h3 ≤ 7302249) (k : LV X b L xs true 1624 (lsd i) [] h3) : LV X b L xs true 1319 (lsd i) [] h := by
  refine l_aload_n (j := 2) (q := (11, 0)) dL_law_1319 rfl ?_
  refine l_sc (v := 1) (w := 1) hi hL dL_law_1320 dL_law_1321 dL_law_1322 (by decide) (by decide) (by decide) dL_law_1323 dL_law_1324 ?_
  refine l_sc (v := 2) (w := 2) hi hL dL_law_1325 dL_law_1326 dL_law_1327 (by decide) (by decide) (by decide) dL_law_1328 dL_law_1329 ?_
  refine l_cV (hm := h2) (rc := some (zi r)) (av := [zi (xs (ix i + 1)), zi (xs (ix i + 2))]) (st := []) (stn := [zi r]) (tX11_householdOf e1) lcX11_householdOf mlL_138 imX11_householdOf seX11_householdOf rfl rfl rfl rfl ⟨by decide, by decide⟩ (Nat.le_of_ble_eq_true rfl) dL_law_1330 rfl rfl (by decide) rfl (fun v z => by cases z; rfl) hC2 ?_
  refine l_aload_n (j := 1) (q := (12, 0)) dL_law_1333 rfl ?_
  refine l_sc (v := 1) (w := 1) hi hL dL_law_1334 dL_law_1335 dL_law_1336 (by decide) (by decide) (by decide) dL_law_1337 dL_law_1338 ?_
  refine l_sc (v := 2) (w := 2) hi hL dL_law_1339 dL_law_1340 dL_law_1341 (by decide) (by decide) (by decide) dL_law_1342 dL_law_1343 ?_
  refine l_cV (hm := h3) (rc := some (zi r)) (av := [zi (xs (ix i + 1)), zi (xs (ix i + 2))]) (st := [zi r]) (stn := [zi r, zi r]) (tX12_householdOf e2) lcX12_householdOf mlL_141 imX12_householdOf seX12_householdOf rfl rfl rfl rfl ⟨by decide, by decide⟩ (Nat.le_of_ble_eq_true rfl) dL_law_1344 rfl rfl (by decide) rfl (fun v z => by cases z; rfl) hC3 ?_
  refine l_same dL_law_1347 (by decide : _ = ((1624 : Nat) : Int)) ?_
  exact k
set_option maxRecDepth 20000 in
theorem lcase_29 {X : Cz} {b L : Nat} {xs : Nat → Int32} {i : Int32} (hi : 0 ≤ i.toInt ∧ i.toInt + 9 ≤ (L : Int)) (hL : L ≤ 4608) {h h2 h3 : Hp} {r : Int32} (hC : gC h ≤ 600000 ∧ gS h ≤ 7302249) (e1 : fX11_benchOf (xs (ix i + 1)) (xs (ix i + 2)) h = some (r, h2)) (hC2 : gC h2 ≤ 600000 ∧ gS h2 ≤ 7302249) (e2 : fX12_benchOf (xs (ix i + 1)) (xs (ix i + 2)) h2 = some (r, h3)) (hC3 : gC h3 ≤ 600000 ∧ gS h3 ≤ 7302249) (k : LV X b L xs true 1624 (lsd i) [] h3) : LV X b L xs true 1352 (lsd i) [] h := by
  refine l_aload_n (j := 2) (q := (11, 0)) dL_law_1352 rfl ?_
  refine l_sc (v := 1) (w := 1) hi hL dL_law_1353 dL_law_1354 dL_law_1355 (by decide) (by decide) (by decide) dL_law_1356 dL_law_1357 ?_
  refine l_sc (v := 2) (w := 2) hi hL dL_law_1358 dL_law_1359 dL_law_1360 (by decide) (by decide) (by decide) dL_law_1361 dL_law_1362 ?_
  refine l_cV (hm := h2) (rc := some (zi r)) (av := [zi (xs (ix i + 1)), zi (xs (ix i + 2))]) (st := []) (stn := [zi r]) (tX11_benchOf e1) lcX11_benchOf mlL_142 imX11_benchOf seX11_benchOf rfl rfl rfl rfl ⟨by decide, by decide⟩ (Nat.le_of_ble_eq_true rfl) dL_law_1363 rfl rfl (by decide) rfl (fun v z => by cases z; rfl) hC2 ?_
  refine l_aload_n (j := 1) (q := (12, 0)) dL_law_1366 rfl ?_
  refine l_sc (v := 1) (w := 1) hi hL dL_law_1367 dL_law_1368 dL_law_1369 (by decide) (by decide) (by decide) dL_law_1370 dL_law_1371 ?_
  refine l_sc (v := 2) (w := 2) hi hL dL_law_1372 dL_law_1373 dL_law_1374 (by decide) (by decide) (by decide) dL_law_1375 dL_law_1376 ?_
  refine l_cV (hm := h3) (rc := some (zi r)) (av := [zi (xs (ix i + 1)), zi (xs (ix i + 2))]) (st := [zi r]) (stn := [zi r, zi r]) (tX12_benchOf e2) lcX12_benchOf mlL_145 imX12_benchOf seX12_benchOf rfl rfl rfl rfl ⟨by decide, by decide⟩ (Nat.le_of_ble_eq_true rfl) dL_law_1377 rfl rfl (by decide) rfl (fun v z => by cases z; rfl) hC3 ?_
  refine l_same dL_law_1380 (by decide : _ = ((1624 : Nat) : Int)) ?_
  exact k
set_option maxRecDepth 20000 in
theorem lcase_30 {X : Cz} {b L : Nat} {xs : Nat → Int32} {i : Int32} (hi : 0 ≤ i.toInt ∧ i.toInt + 9 ≤ (L : Int)) (hL : L ≤ 4608) {h h2 h3 : Hp} {r : Int32} (hC : gC h ≤ 600000 ∧ gS h ≤ 7302249) (e1 : fX11_count (xs (ix i + 1)) h = some (r, h2)) (hC2 : gC h2 ≤ 600000 ∧ gS h2 ≤ 7302249) (e2 : fX12_count (xs (ix i + 1)) h2 = some (r, h3)) (hC3 : gC h3 ≤ 600000 ∧ gS h3 ≤ 7302249) (k : LV X b L xs true 1624 (lsd i) [] h3) : LV X b L xs true 1385 (lsd i) [] h := by
  refine l_aload_n (j := 2) (q := (11, 0)) dL_law_1385 rfl ?_
  refine l_sc (v := 1) (w := 1) hi hL dL_law_1386 dL_law_1387 dL_law_1388 (by decide) (by decide) (by decide) dL_law_1389 dL_law_1390 ?_
  refine l_cV (hm := h2) (rc := some (zi r)) (av := [zi (xs (ix i + 1))]) (st := []) (stn := [zi r]) (tX11_count e1) lcX11_count mlL_146 imX11_count seX11_count rfl rfl rfl rfl ⟨by decide, by decide⟩ (Nat.le_of_ble_eq_true rfl) dL_law_1391 rfl rfl (by decide) rfl (fun v z => by cases z; rfl) hC2 ?_
  refine l_aload_n (j := 1) (q := (12, 0)) dL_law_1394 rfl ?_
  refine l_sc (v := 1) (w := 1) hi hL dL_law_1395 dL_law_1396 dL_law_1397 (by decide) (by decide) (by decide) dL_law_1398 dL_law_1399 ?_
  refine l_cV (hm := h3) (rc := some (zi r)) (av := [zi (xs (ix i + 1))]) (st := [zi r]) (stn := [zi r, zi r]) (tX12_count e2) lcX12_count mlL_149 imX12_count seX12_count rfl rfl rfl rfl ⟨by decide, by decide⟩ (Nat.le_of_ble_eq_true rfl) dL_law_1400 rfl rfl (by decide) rfl (fun v z => by cases z; rfl) hC3 ?_
  refine l_same dL_law_1403 (by decide : _ = ((1624 : Nat) : Int)) ?_
  exact k
set_option maxRecDepth 20000 in
theorem lcase_31 {X : Cz} {b L : Nat} {xs : Nat → Int32} {i : Int32} (hi : 0 ≤ i.toInt ∧ i.toInt + 9 ≤ (L : Int)) (hL : L ≤ 4608) {h h3 : Hp} {r : Int64} (hC : gC h ≤ 600000 ∧ gS h ≤ 7302249) (e1 : fX11_fund h = r) (e2 : fX12_fund h = some (r, h3)) (hC3 : gC h3 ≤ 600000 ∧ gS h3 ≤ 7302249) (k : LV X b L xs true 1624 (lsd i) [] h3) : LV X b L xs true 1408 (lsd i) [] h := by
  refine l_aload_n (j := 2) (q := (11, 0)) dL_law_1408 rfl ?_
  refine l_cV (hm := h) (rc := some (zj r)) (av := []) (st := []) (stn := [zj r]) (e1 ▸ tX11_fund h) lcX11_fund mlL_150 imX11_fund seX11_fund rfl rfl rfl rfl ⟨by decide, by decide⟩ (Nat.le_of_ble_eq_true rfl) dL_law_1409 rfl rfl (by decide) rfl (fun v z => by cases z; rfl) hC ?_
  refine l_aload_n (j := 1) (q := (12, 0)) dL_law_1412 rfl ?_
  refine l_cV (hm := h3) (rc := some (zj r)) (av := []) (st := [zj r]) (stn := [zj r, zj r]) (tX12_fund e2) lcX12_fund mlL_153 imX12_fund seX12_fund rfl rfl rfl rfl ⟨by decide, by decide⟩ (Nat.le_of_ble_eq_true rfl) dL_law_1413 rfl rfl (by decide) rfl (fun v z => by cases z; rfl) hC3 ?_
  refine l_sameJ dL_law_1416 dL_law_1417 (by decide : _ = ((1624 : Nat) : Int)) ?_
  exact k
set_option maxRecDepth 20000 in
theorem lcase_32 {X : Cz} {b L : Nat} {xs : Nat → Int32} {i : Int32} (hi : 0 ≤ i.toInt ∧ i.toInt + 9 ≤ (L : Int)) (hL : L ≤ 4608) {h h2 h3 : Hp} {r : Int32} (hC : gC h ≤ 600000 ∧ gS h ≤ 7302249) (e1 : fX11_row (xs (ix i + 1)) (xs (ix i + 2)) (xs (ix i + 3)) h = some (r, h2)) (hC2 : gC h2 ≤ 600000 ∧ gS h2 ≤ 7302249) (e2 : fX12_row (xs (ix i + 1)) (xs (ix i + 2)) (xs (ix i + 3)) h2 = some (r, h3)) (hC3 : gC h3 ≤ 600000 ∧ gS h3 ≤ 7302249) (k : LV X b L xs true 1624 (lsd i) [] h3) : LV X b L xs true 1422 (lsd i) [] h := by
  refine l_aload_n (j := 2) (q := (11, 0)) dL_law_1422 rfl ?_
  refine l_sc (v := 1) (w := 1) hi hL dL_law_1423 dL_law_1424 dL_law_1425 (by decide) (by decide) (by decide) dL_law_1426 dL_law_1427 ?_
  refine l_sc (v := 2) (w := 2) hi hL dL_law_1428 dL_law_1429 dL_law_1430 (by decide) (by decide) (by decide) dL_law_1431 dL_law_1432 ?_
  refine l_sc (v := 3) (w := 3) hi hL dL_law_1433 dL_law_1434 dL_law_1435 (by decide) (by decide) (by decide) dL_law_1436 dL_law_1437 ?_
  refine l_cV (hm := h2) (rc := some (zi r)) (av := [zi (xs (ix i + 1)), zi (xs (ix i + 2)), zi (xs (ix i + 3))]) (st := []) (stn := [zi r]) (tX11_row e1) lcX11_row mlL_154 imX11_row seX11_row rfl rfl rfl rfl ⟨by decide, by decide⟩ (Nat.le_of_ble_eq_true rfl) dL_law_1438 rfl rfl (by decide) rfl (fun v z => by cases z; rfl) hC2 ?_
  refine l_aload_n (j := 1) (q := (12, 0)) dL_law_1441 rfl ?_
  refine l_sc (v := 1) (w := 1) hi hL dL_law_1442 dL_law_1443 dL_law_1444 (by decide) (by decide) (by decide) dL_law_1445 dL_law_1446 ?_
  refine l_sc (v := 2) (w := 2) hi hL dL_law_1447 dL_law_1448 dL_law_1449 (by decide) (by decide) (by decide) dL_law_1450 dL_law_1451 ?_
  refine l_sc (v := 3) (w := 3) hi hL dL_law_1452 dL_law_1453 dL_law_1454 (by decide) (by decide) (by decide) dL_law_1455 dL_law_1456 ?_
  refine l_cV (hm := h3) (rc := some (zi r)) (av := [zi (xs (ix i + 1)), zi (xs (ix i + 2)), zi (xs (ix i + 3))]) (st := [zi r]) (stn := [zi r, zi r]) (tX12_row e2) lcX12_row mlL_157 imX12_row seX12_row rfl rfl rfl rfl ⟨by decide, by decide⟩ (Nat.le_of_ble_eq_true rfl) dL_law_1457 rfl rfl (by decide) rfl (fun v z => by cases z; rfl) hC3 ?_
  refine l_same dL_law_1460 (by decide : _ = ((1624 : Nat) : Int)) ?_
  exact k
set_option maxRecDepth 20000 in
theorem lcase_33 {X : Cz} {b L : Nat} {xs : Nat → Int32} {i : Int32} (hi : 0 ≤ i.toInt ∧ i.toInt + 9 ≤ (L : Int)) (hL : L ≤ 4608) {h h2 h3 : Hp} {r : Int32} (hC : gC h ≤ 600000 ∧ gS h ≤ 7302249) (e1 : fX11_tear (xs (ix i + 1)) h = some (r, h2)) (hC2 : gC h2 ≤ 600000 ∧ gS h2 ≤ 7302249) (e2 : fX12_tear (xs (ix i + 1)) h2 = some (r, h3)) (hC3 : gC h3 ≤ 600000 ∧ gS h3 ≤ 7302249) (k : LV X b L xs true 1624 (lsd i) [] h3) : LV X b L xs true 1465 (lsd i) [] h := by
  refine l_aload_n (j := 2) (q := (11, 0)) dL_law_1465 rfl ?_
  refine l_sc (v := 1) (w := 1) hi hL dL_law_1466 dL_law_1467 dL_law_1468 (by decide) (by decide) (by decide) dL_law_1469 dL_law_1470 ?_
  refine l_cV (hm := h2) (rc := some (zi r)) (av := [zi (xs (ix i + 1))]) (st := []) (stn := [zi r]) (tX11_tear e1) lcX11_tear mlL_158 imX11_tear seX11_tear rfl rfl rfl rfl ⟨by decide, by decide⟩ (Nat.le_of_ble_eq_true rfl) dL_law_1471 rfl rfl (by decide) rfl (fun v z => by cases z; rfl) hC2 ?_
  refine l_aload_n (j := 1) (q := (12, 0)) dL_law_1474 rfl ?_
  refine l_sc (v := 1) (w := 1) hi hL dL_law_1475 dL_law_1476 dL_law_1477 (by decide) (by decide) (by decide) dL_law_1478 dL_law_1479 ?_
  refine l_cV (hm := h3) (rc := some (zi r)) (av := [zi (xs (ix i + 1))]) (st := [zi r]) (stn := [zi r, zi r]) (tX12_tear e2) lcX12_tear mlL_161 imX12_tear seX12_tear rfl rfl rfl rfl ⟨by decide, by decide⟩ (Nat.le_of_ble_eq_true rfl) dL_law_1480 rfl rfl (by decide) rfl (fun v z => by cases z; rfl) hC3 ?_
  refine l_same dL_law_1483 (by decide : _ = ((1624 : Nat) : Int)) ?_
  exact k
set_option maxRecDepth 20000 in
theorem lcase_34 {X : Cz} {b L : Nat} {xs : Nat → Int32} {i : Int32} (hi : 0 ≤ i.toInt ∧ i.toInt + 9 ≤ (L : Int)) (hL : L ≤ 4608) {h h2 h3 : Hp} {r : Int32} (hC : gC h ≤ 600000 ∧ gS h ≤ 7302249) (e1 : fX11_write (xs (ix i + 1)) (xs (ix i + 2)) ((((xs (ix i + 3)).toInt64) <<< ((32 : Int32).toInt64 &&& 63)) ||| (((xs (ix i + 4)).toInt64) &&& 4294967295)) h = some (r, h2)) (hC2 : gC h2 ≤ 600000 ∧ gS h2 ≤ 7302249) (e2 : fX12_write (xs (ix i + 1)) (xs (ix i + 2)) ((((xs (ix i + 3)).toInt64) <<< ((32 : Int32).toInt64 &&& 63)) ||| (((xs (ix i + 4)).toInt64) &&& 4294967295)) h2 = some (r, h3)) (hC3 : gC h3 ≤ 600000 ∧ gS h3 ≤ 7302249) (k : LV X b L xs true 1624 (lsd i) [] h3) : LV X b L xs true 1488 (lsd i) [] h := by
  refine l_aload_n (j := 2) (q := (11, 0)) dL_law_1488 rfl ?_
  refine l_sc (v := 1) (w := 1) hi hL dL_law_1489 dL_law_1490 dL_law_1491 (by decide) (by decide) (by decide) dL_law_1492 dL_law_1493 ?_
  refine l_sc (v := 2) (w := 2) hi hL dL_law_1494 dL_law_1495 dL_law_1496 (by decide) (by decide) (by decide) dL_law_1497 dL_law_1498 ?_
  refine l_sc (v := 3) (w := 3) hi hL dL_law_1499 dL_law_1500 dL_law_1501 (by decide) (by decide) (by decide) dL_law_1502 dL_law_1503 ?_
  refine l_i2l dL_law_1504 ?_
  refine l_bipush (v := 32) dL_law_1505 (by decide) ?_
  refine l_lshl dL_law_1507 ?_
  refine l_sc (v := 4) (w := 4) hi hL dL_law_1508 dL_law_1509 dL_law_1510 (by decide) (by decide) (by decide) dL_law_1511 dL_law_1512 ?_
  refine l_i2l dL_law_1513 ?_
  refine l_ldc2 dL_law_1514 kcL_162 ?_
  refine l_land dL_law_1517 ?_
  refine l_lor dL_law_1518 ?_
  refine l_cV (hm := h2) (rc := some (zi r)) (av := [zi (xs (ix i + 1)), zi (xs (ix i + 2)), zj ((((xs (ix i + 3)).toInt64) <<< ((32 : Int32).toInt64 &&& 63)) ||| (((xs (ix i + 4)).toInt64) &&& 4294967295))]) (st := []) (stn := [zi r]) (tX11_write e1) lcX11_write mlL_164 imX11_write seX11_write rfl rfl rfl rfl ⟨by decide, by decide⟩ (Nat.le_of_ble_eq_true rfl) dL_law_1519 rfl rfl (by decide) rfl (fun v z => by cases z; rfl) hC2 ?_
  refine l_aload_n (j := 1) (q := (12, 0)) dL_law_1522 rfl ?_
  refine l_sc (v := 1) (w := 1) hi hL dL_law_1523 dL_law_1524 dL_law_1525 (by decide) (by decide) (by decide) dL_law_1526 dL_law_1527 ?_
  refine l_sc (v := 2) (w := 2) hi hL dL_law_1528 dL_law_1529 dL_law_1530 (by decide) (by decide) (by decide) dL_law_1531 dL_law_1532 ?_
  refine l_sc (v := 3) (w := 3) hi hL dL_law_1533 dL_law_1534 dL_law_1535 (by decide) (by decide) (by decide) dL_law_1536 dL_law_1537 ?_
  refine l_i2l dL_law_1538 ?_
  refine l_bipush (v := 32) dL_law_1539 (by decide) ?_
  refine l_lshl dL_law_1541 ?_
  refine l_sc (v := 4) (w := 4) hi hL dL_law_1542 dL_law_1543 dL_law_1544 (by decide) (by decide) (by decide) dL_law_1545 dL_law_1546 ?_
  refine l_i2l dL_law_1547 ?_
  refine l_ldc2 dL_law_1548 kcL_162 ?_
  refine l_land dL_law_1551 ?_
  refine l_lor dL_law_1552 ?_
  refine l_cV (hm := h3) (rc := some (zi r)) (av := [zi (xs (ix i + 1)), zi (xs (ix i + 2)), zj ((((xs (ix i + 3)).toInt64) <<< ((32 : Int32).toInt64 &&& 63)) ||| (((xs (ix i + 4)).toInt64) &&& 4294967295))]) (st := [zi r]) (stn := [zi r, zi r]) (tX12_write e2) lcX12_write mlL_168 imX12_write seX12_write rfl rfl rfl rfl ⟨by decide, by decide⟩ (Nat.le_of_ble_eq_true rfl) dL_law_1553 rfl rfl (by decide) rfl (fun v z => by cases z; rfl) hC3 ?_
  refine l_same dL_law_1556 (by decide : _ = ((1624 : Nat) : Int)) ?_
  exact k
set_option maxRecDepth 20000 in
theorem lcase_35 {X : Cz} {b L : Nat} {xs : Nat → Int32} {i : Int32} (hi : 0 ≤ i.toInt ∧ i.toInt + 9 ≤ (L : Int)) (hL : L ≤ 4608) {h h2 h3 : Hp} {r : Int32} (hC : gC h ≤ 600000 ∧ gS h ≤ 7302249) (e1 : fX11_paste (xs (ix i + 1)) (xs (ix i + 2)) (xs (ix i + 3)) (xs (ix i + 4)) (xs (ix i + 5)) h = some (r, h2)) (hC2 : gC h2 ≤ 600000 ∧ gS h2 ≤ 7302249) (e2 : fX12_paste (xs (ix i + 1)) (xs (ix i + 2)) (xs (ix i + 3)) (xs (ix i + 4)) (xs (ix i + 5)) h2 = some (r, h3)) (hC3 : gC h3 ≤ 600000 ∧ gS h3 ≤ 7302249) (k : LV X b L xs true 1624 (lsd i) [] h3) : LV X b L xs true 1561 (lsd i) [] h := by
  refine l_aload_n (j := 2) (q := (11, 0)) dL_law_1561 rfl ?_
  refine l_sc (v := 1) (w := 1) hi hL dL_law_1562 dL_law_1563 dL_law_1564 (by decide) (by decide) (by decide) dL_law_1565 dL_law_1566 ?_
  refine l_sc (v := 2) (w := 2) hi hL dL_law_1567 dL_law_1568 dL_law_1569 (by decide) (by decide) (by decide) dL_law_1570 dL_law_1571 ?_
  refine l_sc (v := 3) (w := 3) hi hL dL_law_1572 dL_law_1573 dL_law_1574 (by decide) (by decide) (by decide) dL_law_1575 dL_law_1576 ?_
  refine l_sc (v := 4) (w := 4) hi hL dL_law_1577 dL_law_1578 dL_law_1579 (by decide) (by decide) (by decide) dL_law_1580 dL_law_1581 ?_
  refine l_sc (v := 5) (w := 5) hi hL dL_law_1582 dL_law_1583 dL_law_1584 (by decide) (by decide) (by decide) dL_law_1585 dL_law_1586 ?_
  refine l_cV (hm := h2) (rc := some (zi r)) (av := [zi (xs (ix i + 1)), zi (xs (ix i + 2)), zi (xs (ix i + 3)), zi (xs (ix i + 4)), zi (xs (ix i + 5))]) (st := []) (stn := [zi r]) (tX11_paste e1) lcX11_paste mlL_169 imX11_paste seX11_paste rfl rfl rfl rfl ⟨by decide, by decide⟩ (Nat.le_of_ble_eq_true rfl) dL_law_1587 rfl rfl (by decide) rfl (fun v z => by cases z; rfl) hC2 ?_
  refine l_aload_n (j := 1) (q := (12, 0)) dL_law_1590 rfl ?_
  refine l_sc (v := 1) (w := 1) hi hL dL_law_1591 dL_law_1592 dL_law_1593 (by decide) (by decide) (by decide) dL_law_1594 dL_law_1595 ?_
  refine l_sc (v := 2) (w := 2) hi hL dL_law_1596 dL_law_1597 dL_law_1598 (by decide) (by decide) (by decide) dL_law_1599 dL_law_1600 ?_
  refine l_sc (v := 3) (w := 3) hi hL dL_law_1601 dL_law_1602 dL_law_1603 (by decide) (by decide) (by decide) dL_law_1604 dL_law_1605 ?_
  refine l_sc (v := 4) (w := 4) hi hL dL_law_1606 dL_law_1607 dL_law_1608 (by decide) (by decide) (by decide) dL_law_1609 dL_law_1610 ?_
  refine l_sc (v := 5) (w := 5) hi hL dL_law_1611 dL_law_1612 dL_law_1613 (by decide) (by decide) (by decide) dL_law_1614 dL_law_1615 ?_
  refine l_cV (hm := h3) (rc := some (zi r)) (av := [zi (xs (ix i + 1)), zi (xs (ix i + 2)), zi (xs (ix i + 3)), zi (xs (ix i + 4)), zi (xs (ix i + 5))]) (st := [zi r]) (stn := [zi r, zi r]) (tX12_paste e2) lcX12_paste mlL_172 imX12_paste seX12_paste rfl rfl rfl rfl ⟨by decide, by decide⟩ (Nat.le_of_ble_eq_true rfl) dL_law_1616 rfl rfl (by decide) rfl (fun v z => by cases z; rfl) hC3 ?_
  refine l_same dL_law_1619 (by decide : _ = ((1624 : Nat) : Int)) ?_
  exact k
/-- one call of the script: class and reference answer alike (what level 2 owes) -/
def StpZ (s : Nat → Int32) (h h3 : Hp) : Prop :=
  if s 0 &&& 63 = 0 then ∃ (r : Int32) (h2 : Hp), fX11_pulpit (s 1) (s 2) (s 3) h = some (r, h2) ∧ fX12_pulpit (s 1) (s 2) (s 3) h2 = some (r, h3) ∧ (gC h2 ≤ 600000 ∧ gS h2 ≤ 7302249) else
  if s 0 &&& 63 = 1 then ∃ (r : Int32) (h2 : Hp), fX11_terms (s 1) (s 2) h = some (r, h2) ∧ fX12_terms (s 1) (s 2) h2 = some (r, h3) ∧ (gC h2 ≤ 600000 ∧ gS h2 ≤ 7302249) else
  if s 0 &&& 63 = 2 then ∃ (r : Int32) (h2 : Hp), fX11_pillar (s 1) (s 2) (s 3) h = some (r, h2) ∧ fX12_pillar (s 1) (s 2) (s 3) h2 = some (r, h3) ∧ (gC h2 ≤ 600000 ∧ gS h2 ≤ 7302249) else
  if s 0 &&& 63 = 3 then ∃ (r : Int32) (h2 : Hp), fX11_bench (s 1) (s 2) (s 3) (bz (s 4)) h = some (r, h2) ∧ fX12_bench (s 1) (s 2) (s 3) (bz (s 4)) h2 = some (r, h3) ∧ (gC h2 ≤ 600000 ∧ gS h2 ≤ 7302249) else
  if s 0 &&& 63 = 4 then ∃ (r : Int32) (h2 : Hp), fX11_household (s 1) (s 2) (s 3) h = some (r, h2) ∧ fX12_household (s 1) (s 2) (s 3) h2 = some (r, h3) ∧ (gC h2 ≤ 600000 ∧ gS h2 ≤ 7302249) else
  if s 0 &&& 63 = 5 then ∃ (r : Int32) (h2 : Hp), fX11_changed (s 1) (s 2) (s 3) (s 4) h = some (r, h2) ∧ fX12_changed (s 1) (s 2) (s 3) (s 4) h2 = some (r, h3) ∧ (gC h2 ≤ 600000 ∧ gS h2 ≤ 7302249) else
  if s 0 &&& 63 = 6 then ∃ (r : Int32) (h2 : Hp), fX11_gone (s 1) (s 2) h = some (r, h2) ∧ fX12_gone (s 1) (s 2) h2 = some (r, h3) ∧ (gC h2 ≤ 600000 ∧ gS h2 ≤ 7302249) else
  if s 0 &&& 63 = 7 then ∃ (r : Int32) (h2 : Hp), fX11_sell (s 1) (s 2) h = some (r, h2) ∧ fX12_sell (s 1) (s 2) h2 = some (r, h3) ∧ (gC h2 ≤ 600000 ∧ gS h2 ≤ 7302249) else
  if s 0 &&& 63 = 8 then ∃ (r : Int32) (h2 : Hp), fX11_plotOf (s 1) (s 2) h = some (r, h2) ∧ fX12_plotOf (s 1) (s 2) h2 = some (r, h3) ∧ (gC h2 ≤ 600000 ∧ gS h2 ≤ 7302249) else
  if s 0 &&& 63 = 9 then ∃ (r : Int32) (h2 : Hp), fX11_right (s 1) (s 2) (s 3) (s 4) (s 5) (s 6) (s 7) (bz (s 8)) h = some (r, h2) ∧ fX12_right (s 1) (s 2) (s 3) (s 4) (s 5) (s 6) (s 7) (bz (s 8)) h2 = some (r, h3) ∧ (gC h2 ≤ 600000 ∧ gS h2 ≤ 7302249) else
  if s 0 &&& 63 = 10 then ∃ (r : Int32) (h2 : Hp), fX11_ends (s 1) h = some (r, h2) ∧ fX12_ends (s 1) h2 = some (r, h3) ∧ (gC h2 ≤ 600000 ∧ gS h2 ≤ 7302249) else
  if s 0 &&& 63 = 11 then ∃ (r : Int32) (h2 : Hp), fX11_rightOf (s 1) (s 2) h = some (r, h2) ∧ fX12_rightOf (s 1) (s 2) h2 = some (r, h3) ∧ (gC h2 ≤ 600000 ∧ gS h2 ≤ 7302249) else
  if s 0 &&& 63 = 12 then ∃ (r : Int32) (h2 : Hp), fX11_unit (s 1) (s 2) (s 3) h = some (r, h2) ∧ fX12_unit (s 1) (s 2) (s 3) h2 = some (r, h3) ∧ (gC h2 ≤ 600000 ∧ gS h2 ≤ 7302249) else
  if s 0 &&& 63 = 13 then ∃ (r : Int32) (h2 : Hp), fX11_worth (s 1) (s 2) (s 3) h = some (r, h2) ∧ fX12_worth (s 1) (s 2) (s 3) h2 = some (r, h3) ∧ (gC h2 ≤ 600000 ∧ gS h2 ≤ 7302249) else
  if s 0 &&& 63 = 14 then ∃ (r : Int32) (h2 : Hp), fX11_belongs (s 1) (s 2) (s 3) (s 4) (s 5) h = some (r, h2) ∧ fX12_belongs (s 1) (s 2) (s 3) (s 4) (s 5) h2 = some (r, h3) ∧ (gC h2 ≤ 600000 ∧ gS h2 ≤ 7302249) else
  if s 0 &&& 63 = 15 then ∃ (r : Int32) (h2 : Hp), fX11_judge (s 1) (s 2) (s 3) (s 4) (s 5) (s 6) h = some (r, h2) ∧ fX12_judge (s 1) (s 2) (s 3) (s 4) (s 5) (s 6) h2 = some (r, h3) ∧ (gC h2 ≤ 600000 ∧ gS h2 ≤ 7302249) else
  if s 0 &&& 63 = 16 then ∃ (r : Int32) (h2 : Hp), fX11_lot (s 1) (s 2) (s 3) (s 4) h = some (r, h2) ∧ fX12_lot (s 1) (s 2) (s 3) (s 4) h2 = some (r, h3) ∧ (gC h2 ≤ 600000 ∧ gS h2 ≤ 7302249) else
  if s 0 &&& 63 = 17 then ∃ (r : Int32) (h2 : Hp), fX11_offers (s 1) (s 2) h = some (r, h2) ∧ fX12_offers (s 1) (s 2) h2 = some (r, h3) ∧ (gC h2 ≤ 600000 ∧ gS h2 ≤ 7302249) else
  if s 0 &&& 63 = 18 then ∃ (r : Int64) (h2 : Hp), fX11_knock h = some (r, h2) ∧ fX12_knock h2 = some (r, h3) ∧ (gC h2 ≤ 600000 ∧ gS h2 ≤ 7302249) else
  if s 0 &&& 63 = 19 then ∃ (r : Int64) (h2 : Hp), fX11_knocked (s 1) (s 2) h = some (r, h2) ∧ fX12_knocked (s 1) (s 2) h2 = some (r, h3) ∧ (gC h2 ≤ 600000 ∧ gS h2 ≤ 7302249) else
  if s 0 &&& 63 = 20 then ∃ (r : Int32) (h2 : Hp), fX11_change (s 1) h = some (r, h2) ∧ fX12_change (s 1) h2 = some (r, h3) ∧ (gC h2 ≤ 600000 ∧ gS h2 ≤ 7302249) else
  if s 0 &&& 63 = 21 then ∃ (r : Int32) (h2 : Hp), fX11_changedTo (s 1) h = some (r, h2) ∧ fX12_changedTo (s 1) h2 = some (r, h3) ∧ (gC h2 ≤ 600000 ∧ gS h2 ≤ 7302249) else
  if s 0 &&& 63 = 22 then ∃ (r : Int32) (h2 : Hp), fX11_sunday (s 1) (s 2) h = some (r, h2) ∧ fX12_sunday (s 1) (s 2) h2 = some (r, h3) ∧ (gC h2 ≤ 600000 ∧ gS h2 ≤ 7302249) else
  if s 0 &&& 63 = 23 then ∃ (r : Int32) (h2 : Hp), fX11_sat (s 1) h = some (r, h2) ∧ fX12_sat (s 1) h2 = some (r, h3) ∧ (gC h2 ≤ 600000 ∧ gS h2 ≤ 7302249) else
  if s 0 &&& 63 = 24 then ∃ (r : Int32) (h2 : Hp), fX11_go h = some (r, h2) ∧ fX12_go h2 = some (r, h3) ∧ (gC h2 ≤ 600000 ∧ gS h2 ≤ 7302249) else
  if s 0 &&& 63 = 25 then ∃ (r : Int32) (h2 : Hp), fX11_seat (s 1) (s 2) (s 3) h = some (r, h2) ∧ fX12_seat (s 1) (s 2) (s 3) h2 = some (r, h3) ∧ (gC h2 ≤ 600000 ∧ gS h2 ≤ 7302249) else
  if s 0 &&& 63 = 26 then ∃ (r : Int32) (h2 : Hp), fX11_moved (s 1) (s 2) h = some (r, h2) ∧ fX12_moved (s 1) (s 2) h2 = some (r, h3) ∧ (gC h2 ≤ 600000 ∧ gS h2 ≤ 7302249) else
  if s 0 &&& 63 = 27 then ∃ (r : Int64) (h2 : Hp), fX11_beside (s 1) h = some (r, h2) ∧ fX12_beside (s 1) h2 = some (r, h3) ∧ (gC h2 ≤ 600000 ∧ gS h2 ≤ 7302249) else
  if s 0 &&& 63 = 28 then ∃ (r : Int32) (h2 : Hp), fX11_householdOf (s 1) (s 2) h = some (r, h2) ∧ fX12_householdOf (s 1) (s 2) h2 = some (r, h3) ∧ (gC h2 ≤ 600000 ∧ gS h2 ≤ 7302249) else
  if s 0 &&& 63 = 29 then ∃ (r : Int32) (h2 : Hp), fX11_benchOf (s 1) (s 2) h = some (r, h2) ∧ fX12_benchOf (s 1) (s 2) h2 = some (r, h3) ∧ (gC h2 ≤ 600000 ∧ gS h2 ≤ 7302249) else
  if s 0 &&& 63 = 30 then ∃ (r : Int32) (h2 : Hp), fX11_count (s 1) h = some (r, h2) ∧ fX12_count (s 1) h2 = some (r, h3) ∧ (gC h2 ≤ 600000 ∧ gS h2 ≤ 7302249) else
  if s 0 &&& 63 = 31 then fX12_fund h = some (fX11_fund h, h3) else
  if s 0 &&& 63 = 32 then ∃ (r : Int32) (h2 : Hp), fX11_row (s 1) (s 2) (s 3) h = some (r, h2) ∧ fX12_row (s 1) (s 2) (s 3) h2 = some (r, h3) ∧ (gC h2 ≤ 600000 ∧ gS h2 ≤ 7302249) else
  if s 0 &&& 63 = 33 then ∃ (r : Int32) (h2 : Hp), fX11_tear (s 1) h = some (r, h2) ∧ fX12_tear (s 1) h2 = some (r, h3) ∧ (gC h2 ≤ 600000 ∧ gS h2 ≤ 7302249) else
  if s 0 &&& 63 = 34 then ∃ (r : Int32) (h2 : Hp), fX11_write (s 1) (s 2) ((((s 3).toInt64) <<< ((32 : Int32).toInt64 &&& 63)) ||| (((s 4).toInt64) &&& 4294967295)) h = some (r, h2) ∧ fX12_write (s 1) (s 2) ((((s 3).toInt64) <<< ((32 : Int32).toInt64 &&& 63)) ||| (((s 4).toInt64) &&& 4294967295)) h2 = some (r, h3) ∧ (gC h2 ≤ 600000 ∧ gS h2 ≤ 7302249) else
  if s 0 &&& 63 = 35 then ∃ (r : Int32) (h2 : Hp), fX11_paste (s 1) (s 2) (s 3) (s 4) (s 5) h = some (r, h2) ∧ fX12_paste (s 1) (s 2) (s 3) (s 4) (s 5) h2 = some (r, h3) ∧ (gC h2 ≤ 600000 ∧ gS h2 ≤ 7302249) else
  h3 = h
theorem lcase {X : Cz} {b L : Nat} {xs : Nat → Int32} {i : Int32} (hi : 0 ≤ i.toInt ∧ i.toInt + 9 ≤ (L : Int)) (hL : L ≤ 4608) {h h3 : Hp} (hC : gC h ≤ 600000 ∧ gS h ≤ 7302249) (hC3 : gC h3 ≤ 600000 ∧ gS h3 ≤ 7302249) (hs : StpZ (fun k => xs (ix i + k)) h h3) (k : LV X b L xs true 1624 (lsd i) [] h3) : LV X b L xs true 33 (lsd i) [zi (xs (ix i + 0) &&& 63)] h := by
  unfold StpZ at hs
  generalize hw : xs (ix i + 0) &&& 63 = w at hs ⊢
  by_cases q0 : w = 0
  · rw [if_pos q0] at hs
    subst q0
    refine l_tblIn (tgt := 192) dL_law_33 (by decide) (by decide) rfl (by decide) ?_
    obtain ⟨r, h2, e1, e2, hC2⟩ := hs
    exact lcase_0 hi hL hC e1 hC2 e2 hC3 k
  rw [if_neg q0] at hs
  by_cases q1 : w = 1
  · rw [if_pos q1] at hs
    subst q1
    refine l_tblIn (tgt := 235) dL_law_33 (by decide) (by decide) rfl (by decide) ?_
    obtain ⟨r, h2, e1, e2, hC2⟩ := hs
    exact lcase_1 hi hL hC e1 hC2 e2 hC3 k
  rw [if_neg q1] at hs
  by_cases q2 : w = 2
  · rw [if_pos q2] at hs
    subst q2
    refine l_tblIn (tgt := 268) dL_law_33 (by decide) (by decide) rfl (by decide) ?_
    obtain ⟨r, h2, e1, e2, hC2⟩ := hs
    exact lcase_2 hi hL hC e1 hC2 e2 hC3 k
  rw [if_neg q2] at hs
  by_cases q3 : w = 3
  · rw [if_pos q3] at hs
    subst q3
    refine l_tblIn (tgt := 311) dL_law_33 (by decide) (by decide) rfl (by decide) ?_
    obtain ⟨r, h2, e1, e2, hC2⟩ := hs
    exact lcase_3 hi hL hC e1 hC2 e2 hC3 k
  rw [if_neg q3] at hs
  by_cases q4 : w = 4
  · rw [if_pos q4] at hs
    subst q4
    refine l_tblIn (tgt := 380) dL_law_33 (by decide) (by decide) rfl (by decide) ?_
    obtain ⟨r, h2, e1, e2, hC2⟩ := hs
    exact lcase_4 hi hL hC e1 hC2 e2 hC3 k
  rw [if_neg q4] at hs
  by_cases q5 : w = 5
  · rw [if_pos q5] at hs
    subst q5
    refine l_tblIn (tgt := 423) dL_law_33 (by decide) (by decide) rfl (by decide) ?_
    obtain ⟨r, h2, e1, e2, hC2⟩ := hs
    exact lcase_5 hi hL hC e1 hC2 e2 hC3 k
  rw [if_neg q5] at hs
  by_cases q6 : w = 6
  · rw [if_pos q6] at hs
    subst q6
    refine l_tblIn (tgt := 476) dL_law_33 (by decide) (by decide) rfl (by decide) ?_
    obtain ⟨r, h2, e1, e2, hC2⟩ := hs
    exact lcase_6 hi hL hC e1 hC2 e2 hC3 k
  rw [if_neg q6] at hs
  by_cases q7 : w = 7
  · rw [if_pos q7] at hs
    subst q7
    refine l_tblIn (tgt := 509) dL_law_33 (by decide) (by decide) rfl (by decide) ?_
    obtain ⟨r, h2, e1, e2, hC2⟩ := hs
    exact lcase_7 hi hL hC e1 hC2 e2 hC3 k
  rw [if_neg q7] at hs
  by_cases q8 : w = 8
  · rw [if_pos q8] at hs
    subst q8
    refine l_tblIn (tgt := 542) dL_law_33 (by decide) (by decide) rfl (by decide) ?_
    obtain ⟨r, h2, e1, e2, hC2⟩ := hs
    exact lcase_8 hi hL hC e1 hC2 e2 hC3 k
  rw [if_neg q8] at hs
  by_cases q9 : w = 9
  · rw [if_pos q9] at hs
    subst q9
    refine l_tblIn (tgt := 575) dL_law_33 (by decide) (by decide) rfl (by decide) ?_
    obtain ⟨r, h2, e1, e2, hC2⟩ := hs
    exact lcase_9 hi hL hC e1 hC2 e2 hC3 k
  rw [if_neg q9] at hs
  by_cases q10 : w = 10
  · rw [if_pos q10] at hs
    subst q10
    refine l_tblIn (tgt := 690) dL_law_33 (by decide) (by decide) rfl (by decide) ?_
    obtain ⟨r, h2, e1, e2, hC2⟩ := hs
    exact lcase_10 hi hL hC e1 hC2 e2 hC3 k
  rw [if_neg q10] at hs
  by_cases q11 : w = 11
  · rw [if_pos q11] at hs
    subst q11
    refine l_tblIn (tgt := 713) dL_law_33 (by decide) (by decide) rfl (by decide) ?_
    obtain ⟨r, h2, e1, e2, hC2⟩ := hs
    exact lcase_11 hi hL hC e1 hC2 e2 hC3 k
  rw [if_neg q11] at hs
  by_cases q12 : w = 12
  · rw [if_pos q12] at hs
    subst q12
    refine l_tblIn (tgt := 746) dL_law_33 (by decide) (by decide) rfl (by decide) ?_
    obtain ⟨r, h2, e1, e2, hC2⟩ := hs
    exact lcase_12 hi hL hC e1 hC2 e2 hC3 k
  rw [if_neg q12] at hs
  by_cases q13 : w = 13
  · rw [if_pos q13] at hs
    subst q13
    refine l_tblIn (tgt := 789) dL_law_33 (by decide) (by decide) rfl (by decide) ?_
    obtain ⟨r, h2, e1, e2, hC2⟩ := hs
    exact lcase_13 hi hL hC e1 hC2 e2 hC3 k
  rw [if_neg q13] at hs
  by_cases q14 : w = 14
  · rw [if_pos q14] at hs
    subst q14
    refine l_tblIn (tgt := 832) dL_law_33 (by decide) (by decide) rfl (by decide) ?_
    obtain ⟨r, h2, e1, e2, hC2⟩ := hs
    exact lcase_14 hi hL hC e1 hC2 e2 hC3 k
  rw [if_neg q14] at hs
  by_cases q15 : w = 15
  · rw [if_pos q15] at hs
    subst q15
    refine l_tblIn (tgt := 895) dL_law_33 (by decide) (by decide) rfl (by decide) ?_
    obtain ⟨r, h2, e1, e2, hC2⟩ := hs
    exact lcase_15 hi hL hC e1 hC2 e2 hC3 k
  rw [if_neg q15] at hs
  by_cases q16 : w = 16
  · rw [if_pos q16] at hs
    subst q16
    refine l_tblIn (tgt := 970) dL_law_33 (by decide) (by decide) rfl (by decide) ?_
    obtain ⟨r, h2, e1, e2, hC2⟩ := hs
    exact lcase_16 hi hL hC e1 hC2 e2 hC3 k
  rw [if_neg q16] at hs
  by_cases q17 : w = 17
  · rw [if_pos q17] at hs
    subst q17
    refine l_tblIn (tgt := 1023) dL_law_33 (by decide) (by decide) rfl (by decide) ?_
    obtain ⟨r, h2, e1, e2, hC2⟩ := hs
    exact lcase_17 hi hL hC e1 hC2 e2 hC3 k
  rw [if_neg q17] at hs
  by_cases q18 : w = 18
  · rw [if_pos q18] at hs
    subst q18
    refine l_tblIn (tgt := 1056) dL_law_33 (by decide) (by decide) rfl (by decide) ?_
    obtain ⟨r, h2, e1, e2, hC2⟩ := hs
    exact lcase_18 hi hL hC e1 hC2 e2 hC3 k
  rw [if_neg q18] at hs
  by_cases q19 : w = 19
  · rw [if_pos q19] at hs
    subst q19
    refine l_tblIn (tgt := 1070) dL_law_33 (by decide) (by decide) rfl (by decide) ?_
    obtain ⟨r, h2, e1, e2, hC2⟩ := hs
    exact lcase_19 hi hL hC e1 hC2 e2 hC3 k
  rw [if_neg q19] at hs
  by_cases q20 : w = 20
  · rw [if_pos q20] at hs
    subst q20
    refine l_tblIn (tgt := 1104) dL_law_33 (by decide) (by decide) rfl (by decide) ?_
    obtain ⟨r, h2, e1, e2, hC2⟩ := hs
    exact lcase_20 hi hL hC e1 hC2 e2 hC3 k
  rw [if_neg q20] at hs
  by_cases q21 : w = 21
  · rw [if_pos q21] at hs
    subst q21
    refine l_tblIn (tgt := 1127) dL_law_33 (by decide) (by decide) rfl (by decide) ?_
    obtain ⟨r, h2, e1, e2, hC2⟩ := hs
    exact lcase_21 hi hL hC e1 hC2 e2 hC3 k
  rw [if_neg q21] at hs
  by_cases q22 : w = 22
  · rw [if_pos q22] at hs
    subst q22
    refine l_tblIn (tgt := 1150) dL_law_33 (by decide) (by decide) rfl (by decide) ?_
    obtain ⟨r, h2, e1, e2, hC2⟩ := hs
    exact lcase_22 hi hL hC e1 hC2 e2 hC3 k
  rw [if_neg q22] at hs
  by_cases q23 : w = 23
  · rw [if_pos q23] at hs
    subst q23
    refine l_tblIn (tgt := 1183) dL_law_33 (by decide) (by decide) rfl (by decide) ?_
    obtain ⟨r, h2, e1, e2, hC2⟩ := hs
    exact lcase_23 hi hL hC e1 hC2 e2 hC3 k
  rw [if_neg q23] at hs
  by_cases q24 : w = 24
  · rw [if_pos q24] at hs
    subst q24
    refine l_tblIn (tgt := 1206) dL_law_33 (by decide) (by decide) rfl (by decide) ?_
    obtain ⟨r, h2, e1, e2, hC2⟩ := hs
    exact lcase_24 hi hL hC e1 hC2 e2 hC3 k
  rw [if_neg q24] at hs
  by_cases q25 : w = 25
  · rw [if_pos q25] at hs
    subst q25
    refine l_tblIn (tgt := 1219) dL_law_33 (by decide) (by decide) rfl (by decide) ?_
    obtain ⟨r, h2, e1, e2, hC2⟩ := hs
    exact lcase_25 hi hL hC e1 hC2 e2 hC3 k
  rw [if_neg q25] at hs
  by_cases q26 : w = 26
  · rw [if_pos q26] at hs
    subst q26
    refine l_tblIn (tgt := 1262) dL_law_33 (by decide) (by decide) rfl (by decide) ?_
    obtain ⟨r, h2, e1, e2, hC2⟩ := hs
    exact lcase_26 hi hL hC e1 hC2 e2 hC3 k
  rw [if_neg q26] at hs
  by_cases q27 : w = 27
  · rw [if_pos q27] at hs
    subst q27
    refine l_tblIn (tgt := 1295) dL_law_33 (by decide) (by decide) rfl (by decide) ?_
    obtain ⟨r, h2, e1, e2, hC2⟩ := hs
    exact lcase_27 hi hL hC e1 hC2 e2 hC3 k
  rw [if_neg q27] at hs
  by_cases q28 : w = 28
  · rw [if_pos q28] at hs
    subst q28
    refine l_tblIn (tgt := 1319) dL_law_33 (by decide) (by decide) rfl (by decide) ?_
    obtain ⟨r, h2, e1, e2, hC2⟩ := hs
    exact lcase_28 hi hL hC e1 hC2 e2 hC3 k
  rw [if_neg q28] at hs
  by_cases q29 : w = 29
  · rw [if_pos q29] at hs
    subst q29
    refine l_tblIn (tgt := 1352) dL_law_33 (by decide) (by decide) rfl (by decide) ?_
    obtain ⟨r, h2, e1, e2, hC2⟩ := hs
    exact lcase_29 hi hL hC e1 hC2 e2 hC3 k
  rw [if_neg q29] at hs
  by_cases q30 : w = 30
  · rw [if_pos q30] at hs
    subst q30
    refine l_tblIn (tgt := 1385) dL_law_33 (by decide) (by decide) rfl (by decide) ?_
    obtain ⟨r, h2, e1, e2, hC2⟩ := hs
    exact lcase_30 hi hL hC e1 hC2 e2 hC3 k
  rw [if_neg q30] at hs
  by_cases q31 : w = 31
  · rw [if_pos q31] at hs
    subst q31
    refine l_tblIn (tgt := 1408) dL_law_33 (by decide) (by decide) rfl (by decide) ?_
    exact lcase_31 hi hL hC rfl hs hC3 k
  rw [if_neg q31] at hs
  by_cases q32 : w = 32
  · rw [if_pos q32] at hs
    subst q32
    refine l_tblIn (tgt := 1422) dL_law_33 (by decide) (by decide) rfl (by decide) ?_
    obtain ⟨r, h2, e1, e2, hC2⟩ := hs
    exact lcase_32 hi hL hC e1 hC2 e2 hC3 k
  rw [if_neg q32] at hs
  by_cases q33 : w = 33
  · rw [if_pos q33] at hs
    subst q33
    refine l_tblIn (tgt := 1465) dL_law_33 (by decide) (by decide) rfl (by decide) ?_
    obtain ⟨r, h2, e1, e2, hC2⟩ := hs
    exact lcase_33 hi hL hC e1 hC2 e2 hC3 k
  rw [if_neg q33] at hs
  by_cases q34 : w = 34
  · rw [if_pos q34] at hs
    subst q34
    refine l_tblIn (tgt := 1488) dL_law_33 (by decide) (by decide) rfl (by decide) ?_
    obtain ⟨r, h2, e1, e2, hC2⟩ := hs
    exact lcase_34 hi hL hC e1 hC2 e2 hC3 k
  rw [if_neg q34] at hs
  by_cases q35 : w = 35
  · rw [if_pos q35] at hs
    subst q35
    refine l_tblIn (tgt := 1561) dL_law_33 (by decide) (by decide) rfl (by decide) ?_
    obtain ⟨r, h2, e1, e2, hC2⟩ := hs
    exact lcase_35 hi hL hC e1 hC2 e2 hC3 k
  rw [if_neg q35] at hs
  have n0 := lv_neT (a := 0) q0 rfl
  have n1 := lv_neT (a := 1) q1 rfl
  have n2 := lv_neT (a := 2) q2 rfl
  have n3 := lv_neT (a := 3) q3 rfl
  have n4 := lv_neT (a := 4) q4 rfl
  have n5 := lv_neT (a := 5) q5 rfl
  have n6 := lv_neT (a := 6) q6 rfl
  have n7 := lv_neT (a := 7) q7 rfl
  have n8 := lv_neT (a := 8) q8 rfl
  have n9 := lv_neT (a := 9) q9 rfl
  have n10 := lv_neT (a := 10) q10 rfl
  have n11 := lv_neT (a := 11) q11 rfl
  have n12 := lv_neT (a := 12) q12 rfl
  have n13 := lv_neT (a := 13) q13 rfl
  have n14 := lv_neT (a := 14) q14 rfl
  have n15 := lv_neT (a := 15) q15 rfl
  have n16 := lv_neT (a := 16) q16 rfl
  have n17 := lv_neT (a := 17) q17 rfl
  have n18 := lv_neT (a := 18) q18 rfl
  have n19 := lv_neT (a := 19) q19 rfl
  have n20 := lv_neT (a := 20) q20 rfl
  have n21 := lv_neT (a := 21) q21 rfl
  have n22 := lv_neT (a := 22) q22 rfl
  have n23 := lv_neT (a := 23) q23 rfl
  have n24 := lv_neT (a := 24) q24 rfl
  have n25 := lv_neT (a := 25) q25 rfl
  have n26 := lv_neT (a := 26) q26 rfl
  have n27 := lv_neT (a := 27) q27 rfl
  have n28 := lv_neT (a := 28) q28 rfl
  have n29 := lv_neT (a := 29) q29 rfl
  have n30 := lv_neT (a := 30) q30 rfl
  have n31 := lv_neT (a := 31) q31 rfl
  have n32 := lv_neT (a := 32) q32 rfl
  have n33 := lv_neT (a := 33) q33 rfl
  have n34 := lv_neT (a := 34) q34 rfl
  have n35 := lv_neT (a := 35) q35 rfl
  subst hs
  exact l_tblOut (tgt := 1624) dL_law_33 (by omega) (by decide) k
theorem lhead {X : Cz} {b L : Nat} {xs : Nat → Int32} (hL : L ≤ 4608) (R : Hp → Prop) (hR : ∀ h, R h → gC h ≤ 600000 ∧ gS h ≤ 7302249) (stp : ∀ (s : Nat → Int32) (h : Hp), R h → ∃ h3, StpZ s h h3 ∧ R h3) : ∀ (n : Nat) (i : Int32) (h : Hp), 0 ≤ i.toInt → i.toInt ≤ (L : Int) → (L : Int) - i.toInt < n → R h → LV X b L xs true 18 (lsd i) [] h := by
  intro n
  induction n with
  | zero => intro i h q1 q2 q3; omega
  | succ n ih =>
    intro i h q1 q2 q3 hh
    refine l_iload_n (j := 0) dL_law_18 rfl ?_
    refine l_aload_n (j := 3) (q := (9999, 0)) dL_law_19 rfl ?_
    refine l_slen dL_law_20 ?_
    refine l_bipush (v := 9) dL_law_21 (by decide) ?_
    refine l_isub dL_law_23 ?_
    have e9 : (Int32.ofNat L - 9).toInt = (L : Int) - 9 := by
      rw [Int32.toInt_sub, ofNat_i (by omega), show (9 : Int32).toInt = 9 by decide]
      exact Int.bmod_eq_of_le (by omega) (by omega)
    refine l_icmp_gt dL_law_24 (by decide : _ = ((1630 : Nat) : Int)) (fun q => ?_) (fun q => ?_)
    · refine l_iconst (v := 1) dL_law_1630 (by decide) ?_
      exact l_ret1 dL_law_1631
    · have hi : 0 ≤ i.toInt ∧ i.toInt + 9 ≤ (L : Int) := ⟨q1, Int.not_lt.mp fun z => q (i32_lt.mpr (by omega))⟩
      refine l_aload_n (j := 3) (q := (9999, 0)) dL_law_27 rfl ?_
      refine l_iload_n (j := 0) dL_law_28 rfl ?_
      refine l_sld ⟨q1, by omega⟩ dL_law_29 ?_
      refine l_bipush (v := 63) dL_law_30 (by decide) ?_
      refine l_iand dL_law_32 ?_
      obtain ⟨h3, hs, h3R⟩ := stp (fun k => xs (ix i + k)) h hh
      refine lcase hi hL (hR h hh) (hR h3 h3R) hs ?_
      obtain ⟨i2, e2⟩ : ∃ y : Int32, y = i + 9 := ⟨_, rfl⟩
      have e3 : i2.toInt = i.toInt + 9 := by
        rw [e2, Int32.toInt_add, show (9 : Int32).toInt = 9 by decide]
        exact Int.bmod_eq_of_le (by omega) (by omega)
      refine l_iinc (j := 0) (v := i2) (ls' := lsd i2) dL_law_1624 rfl (by rw [e2]; rfl) (by decide) rfl ?_
      refine l_goto (tgt := 18) dL_law_1627 (by decide) ?_
      exact ih i2 h3 (by omega) (by omega) (by omega) h3R
