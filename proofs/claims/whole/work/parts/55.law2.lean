def ob_0 (v : Nat → Int64) (vd : Nat → UInt64) (p1 p2 p3 : Int32) (q qm : aS) (K : aS → aS → Prop) : Prop := w_X9_room p1 q (fun r q2 => lPo (w_X10_room p1 qm) K 0 (vp_updL v 0 (r.toInt64), vd, q2)) (fun E q2 => (E = "java/lang/UnsupportedOperationException" ∧ lPo (w_X10_room p1 qm) K 1 (v, vd, q2)))
set_option maxRecDepth 20000 in
theorem lc_0 {f : aF} {z : lP} {sa N : Nat} {xs : Nat → Int32} (hO : lawOK f z sa N xs) {i : Int32} (hi1 : vp_in (i + 1) N) (hi2 : vp_in (i + 2) N) (hi3 : vp_in (i + 3) N) {dX dM : Nat → Nat → Int32} {t : List Nat} {v : Nat → Int64} {vd : Nat → UInt64} {k n : Nat} {K : aS → aS → Prop} (hk : k + 40 ≤ 603072) (hn : n + 5000 ≤ 7202922)
    (h : ob_0 v vd (xs (i + 1).toNatClampNeg) (xs (i + 2).toNatClampNeg) (xs (i + 3).toNatClampNeg) (dX, t) (dM, []) K) (kk : ∀ (v1 : Nat → Int64) (vd1 : Nat → UInt64) (q2 qm : aS), K q2 qm → AW f (lX z qm.1 v1 vd1) 2663 (lawL z sa i) [] q2 (k + 40) (n + 5000)) : AW f (lX z dM v vd) 232 (lawL z sa i) [] (dX, t) k n := by
  have hX : isX (lX z dM v vd) := lX_is hO.1 dM v vd
  have hl := (hO.C dM v vd).tr
  unfold ob_0 at h
  refine a_aload_n (pc := 232) (hO.C _ _ _) dL_law_232 rfl ?_
  refine a_scr (pc := 233) (j := 1) hO rfl rfl rfl hi1 dL_law_233 dL_law_234 dL_law_236 dL_law_237 dL_law_238 ?_
  refine a_aload_n (pc := 239) (hO.C _ _ _) dL_law_239 rfl ?_
  refine l_helper (pc := 240) hO sw_L_room tw_432 ⟨(Nat.le_of_ble_eq_true rfl), (Nat.le_of_ble_eq_true rfl), by omega, by omega⟩ dL_law_240 (t_L_room hO.1 hl dM v vd _ (dX, t) (lPo (w_X10_room (xs (i + 1).toNatClampNeg) (dM, [])) K) h) rfl rfl rfl (Nat.le_of_ble_eq_true rfl) (fun r u h => ?_)
  obtain ⟨v1, vd1, dX1, t1⟩ := u
  refine a_istore (pc := 243) (hO.C _ _ _) dL_law_243 (Nat.le_of_ble_eq_true rfl) ?_
  refine a_aload_n (pc := 245) (hO.C _ _ _) dL_law_245 rfl ?_
  refine a_scr (pc := 246) (j := 1) hO rfl rfl rfl hi1 dL_law_246 dL_law_247 dL_law_249 dL_law_250 dL_law_251 ?_
  refine l_model (pc := 252) hO vm_X10_room tw_1604 ⟨(Nat.le_of_ble_eq_true rfl), (Nat.le_of_ble_eq_true rfl), by omega, by omega⟩ dL_law_252 (t_X10_room (lM_is hO.1 _ _ _ _) hl _ _ _ h) rfl rfl rfl (Nat.le_of_ble_eq_true rfl) (fun b qm h => ?_)
  obtain ⟨dM1, tm⟩ := qm
  refine a_istore (pc := 255) (hO.C _ _ _) dL_law_255 (Nat.le_of_ble_eq_true rfl) ?_
  refine a_aload_n (pc := 257) (hO.C _ _ _) dL_law_257 rfl ?_
  refine l_model (pc := 258) hO vm_X10_thrown tw_1574 ⟨(Nat.le_of_ble_eq_true rfl), (Nat.le_of_ble_eq_true rfl), by omega, by omega⟩ dL_law_258 (t_X10_thrown (lM_is hO.1 _ _ _ _) hl _ _ h) rfl rfl rfl (Nat.le_of_ble_eq_true rfl) (fun th qm h => ?_)
  obtain ⟨dM2, tm2⟩ := qm
  obtain ⟨he, hv, h⟩ := h
  refine l_chk (pc := 261) (hO.C _ _ _) he rfl dL_law_261 dL_law_263 ?_
  exact l_fin (pc := 268) hO rfl rfl rfl hv dL_law_268 dL_law_270 dL_law_273 dL_law_274 dL_law_275 dL_law_276 dL_law_278 dL_law_279 dL_law_280 dL_law_285 (by decide) (((kk _ _ _ _ h).forget (lawL_sub _ _ _ _ _ _)).widen (by omega) (by omega))
def ob_1 (v : Nat → Int64) (vd : Nat → UInt64) (p1 p2 p3 : Int32) (q qm : aS) (K : aS → aS → Prop) : Prop := w_X9_echo p1 p2 q (fun r q2 => lPo (w_X10_echo p1 p2 qm) K 0 (vp_updL v 0 (r.toInt64), vd, q2)) (fun E q2 => (E = "java/lang/UnsupportedOperationException" ∧ lPo (w_X10_echo p1 p2 qm) K 1 (v, vd, q2)))
set_option maxRecDepth 20000 in
theorem lc_1 {f : aF} {z : lP} {sa N : Nat} {xs : Nat → Int32} (hO : lawOK f z sa N xs) {i : Int32} (hi1 : vp_in (i + 1) N) (hi2 : vp_in (i + 2) N) (hi3 : vp_in (i + 3) N) {dX dM : Nat → Nat → Int32} {t : List Nat} {v : Nat → Int64} {vd : Nat → UInt64} {k n : Nat} {K : aS → aS → Prop} (hk : k + 40 ≤ 603072) (hn : n + 5000 ≤ 7202922)
    (h : ob_1 v vd (xs (i + 1).toNatClampNeg) (xs (i + 2).toNatClampNeg) (xs (i + 3).toNatClampNeg) (dX, t) (dM, []) K) (kk : ∀ (v1 : Nat → Int64) (vd1 : Nat → UInt64) (q2 qm : aS), K q2 qm → AW f (lX z qm.1 v1 vd1) 2663 (lawL z sa i) [] q2 (k + 40) (n + 5000)) : AW f (lX z dM v vd) 288 (lawL z sa i) [] (dX, t) k n := by
  have hX : isX (lX z dM v vd) := lX_is hO.1 dM v vd
  have hl := (hO.C dM v vd).tr
  unfold ob_1 at h
  refine a_aload_n (pc := 288) (hO.C _ _ _) dL_law_288 rfl ?_
  refine a_scr (pc := 289) (j := 1) hO rfl rfl rfl hi1 dL_law_289 dL_law_290 dL_law_292 dL_law_293 dL_law_294 ?_
  refine a_scr (pc := 295) (j := 2) hO rfl rfl rfl hi2 dL_law_295 dL_law_296 dL_law_298 dL_law_299 dL_law_300 ?_
  refine a_aload_n (pc := 301) (hO.C _ _ _) dL_law_301 rfl ?_
  refine l_helper (pc := 302) hO sw_L_echo tw_659 ⟨(Nat.le_of_ble_eq_true rfl), (Nat.le_of_ble_eq_true rfl), by omega, by omega⟩ dL_law_302 (t_L_echo hO.1 hl dM v vd _ _ (dX, t) (lPo (w_X10_echo (xs (i + 1).toNatClampNeg) (xs (i + 2).toNatClampNeg) (dM, [])) K) h) rfl rfl rfl (Nat.le_of_ble_eq_true rfl) (fun r u h => ?_)
  obtain ⟨v1, vd1, dX1, t1⟩ := u
  refine a_istore (pc := 305) (hO.C _ _ _) dL_law_305 (Nat.le_of_ble_eq_true rfl) ?_
  refine a_aload_n (pc := 307) (hO.C _ _ _) dL_law_307 rfl ?_
  refine a_scr (pc := 308) (j := 1) hO rfl rfl rfl hi1 dL_law_308 dL_law_309 dL_law_311 dL_law_312 dL_law_313 ?_
  refine a_scr (pc := 314) (j := 2) hO rfl rfl rfl hi2 dL_law_314 dL_law_315 dL_law_317 dL_law_318 dL_law_319 ?_
  refine l_model (pc := 320) hO vm_X10_echo tw_1635 ⟨(Nat.le_of_ble_eq_true rfl), (Nat.le_of_ble_eq_true rfl), by omega, by omega⟩ dL_law_320 (t_X10_echo (lM_is hO.1 _ _ _ _) hl _ _ _ _ h) rfl rfl rfl (Nat.le_of_ble_eq_true rfl) (fun b qm h => ?_)
  obtain ⟨dM1, tm⟩ := qm
  refine a_istore (pc := 323) (hO.C _ _ _) dL_law_323 (Nat.le_of_ble_eq_true rfl) ?_
  refine a_aload_n (pc := 325) (hO.C _ _ _) dL_law_325 rfl ?_
  refine l_model (pc := 326) hO vm_X10_thrown tw_1574 ⟨(Nat.le_of_ble_eq_true rfl), (Nat.le_of_ble_eq_true rfl), by omega, by omega⟩ dL_law_326 (t_X10_thrown (lM_is hO.1 _ _ _ _) hl _ _ h) rfl rfl rfl (Nat.le_of_ble_eq_true rfl) (fun th qm h => ?_)
  obtain ⟨dM2, tm2⟩ := qm
  obtain ⟨he, hv, h⟩ := h
  refine l_chk (pc := 329) (hO.C _ _ _) he rfl dL_law_329 dL_law_331 ?_
  exact l_fin (pc := 336) hO rfl rfl rfl hv dL_law_336 dL_law_338 dL_law_341 dL_law_342 dL_law_343 dL_law_344 dL_law_346 dL_law_347 dL_law_348 dL_law_353 (by decide) (((kk _ _ _ _ h).forget (lawL_sub _ _ _ _ _ _)).widen (by omega) (by omega))
def ob_2 (v : Nat → Int64) (vd : Nat → UInt64) (p1 p2 p3 : Int32) (q qm : aS) (K : aS → aS → Prop) : Prop := w_X9_singer p1 p2 q (fun r q2 => lPo (w_X10_singer p1 p2 qm) K 0 (vp_updL v 0 (r.toInt64), vd, q2)) (fun E q2 => (E = "java/lang/UnsupportedOperationException" ∧ lPo (w_X10_singer p1 p2 qm) K 1 (v, vd, q2)))
set_option maxRecDepth 20000 in
theorem lc_2 {f : aF} {z : lP} {sa N : Nat} {xs : Nat → Int32} (hO : lawOK f z sa N xs) {i : Int32} (hi1 : vp_in (i + 1) N) (hi2 : vp_in (i + 2) N) (hi3 : vp_in (i + 3) N) {dX dM : Nat → Nat → Int32} {t : List Nat} {v : Nat → Int64} {vd : Nat → UInt64} {k n : Nat} {K : aS → aS → Prop} (hk : k + 40 ≤ 603072) (hn : n + 5000 ≤ 7202922)
    (h : ob_2 v vd (xs (i + 1).toNatClampNeg) (xs (i + 2).toNatClampNeg) (xs (i + 3).toNatClampNeg) (dX, t) (dM, []) K) (kk : ∀ (v1 : Nat → Int64) (vd1 : Nat → UInt64) (q2 qm : aS), K q2 qm → AW f (lX z qm.1 v1 vd1) 2663 (lawL z sa i) [] q2 (k + 40) (n + 5000)) : AW f (lX z dM v vd) 356 (lawL z sa i) [] (dX, t) k n := by
  have hX : isX (lX z dM v vd) := lX_is hO.1 dM v vd
  have hl := (hO.C dM v vd).tr
  unfold ob_2 at h
  refine a_aload_n (pc := 356) (hO.C _ _ _) dL_law_356 rfl ?_
  refine a_scr (pc := 357) (j := 1) hO rfl rfl rfl hi1 dL_law_357 dL_law_358 dL_law_360 dL_law_361 dL_law_362 ?_
  refine a_scr (pc := 363) (j := 2) hO rfl rfl rfl hi2 dL_law_363 dL_law_364 dL_law_366 dL_law_367 dL_law_368 ?_
  refine a_aload_n (pc := 369) (hO.C _ _ _) dL_law_369 rfl ?_
  refine l_helper (pc := 370) hO sw_L_singer tw_668 ⟨(Nat.le_of_ble_eq_true rfl), (Nat.le_of_ble_eq_true rfl), by omega, by omega⟩ dL_law_370 (t_L_singer hO.1 hl dM v vd _ _ (dX, t) (lPo (w_X10_singer (xs (i + 1).toNatClampNeg) (xs (i + 2).toNatClampNeg) (dM, [])) K) h) rfl rfl rfl (Nat.le_of_ble_eq_true rfl) (fun r u h => ?_)
  obtain ⟨v1, vd1, dX1, t1⟩ := u
  refine a_istore (pc := 373) (hO.C _ _ _) dL_law_373 (Nat.le_of_ble_eq_true rfl) ?_
  refine a_aload_n (pc := 375) (hO.C _ _ _) dL_law_375 rfl ?_
  refine a_scr (pc := 376) (j := 1) hO rfl rfl rfl hi1 dL_law_376 dL_law_377 dL_law_379 dL_law_380 dL_law_381 ?_
  refine a_scr (pc := 382) (j := 2) hO rfl rfl rfl hi2 dL_law_382 dL_law_383 dL_law_385 dL_law_386 dL_law_387 ?_
  refine l_model (pc := 388) hO vm_X10_singer tw_1650 ⟨(Nat.le_of_ble_eq_true rfl), (Nat.le_of_ble_eq_true rfl), by omega, by omega⟩ dL_law_388 (t_X10_singer (lM_is hO.1 _ _ _ _) hl _ _ _ _ h) rfl rfl rfl (Nat.le_of_ble_eq_true rfl) (fun b qm h => ?_)
  obtain ⟨dM1, tm⟩ := qm
  refine a_istore (pc := 391) (hO.C _ _ _) dL_law_391 (Nat.le_of_ble_eq_true rfl) ?_
  refine a_aload_n (pc := 393) (hO.C _ _ _) dL_law_393 rfl ?_
  refine l_model (pc := 394) hO vm_X10_thrown tw_1574 ⟨(Nat.le_of_ble_eq_true rfl), (Nat.le_of_ble_eq_true rfl), by omega, by omega⟩ dL_law_394 (t_X10_thrown (lM_is hO.1 _ _ _ _) hl _ _ h) rfl rfl rfl (Nat.le_of_ble_eq_true rfl) (fun th qm h => ?_)
  obtain ⟨dM2, tm2⟩ := qm
  obtain ⟨he, hv, h⟩ := h
  refine l_chk (pc := 397) (hO.C _ _ _) he rfl dL_law_397 dL_law_399 ?_
  exact l_fin (pc := 404) hO rfl rfl rfl hv dL_law_404 dL_law_406 dL_law_409 dL_law_410 dL_law_411 dL_law_412 dL_law_414 dL_law_415 dL_law_416 dL_law_421 (by decide) (((kk _ _ _ _ h).forget (lawL_sub _ _ _ _ _ _)).widen (by omega) (by omega))
def ob_3 (v : Nat → Int64) (vd : Nat → UInt64) (p1 p2 p3 : Int32) (q qm : aS) (K : aS → aS → Prop) : Prop := w_X9_enter p1 p2 q (fun r q2 => lPo (w_X10_enter p1 p2 qm) K 0 (vp_updL v 0 (r.toInt64), vd, q2)) (fun E q2 => (E = "java/lang/UnsupportedOperationException" ∧ lPo (w_X10_enter p1 p2 qm) K 1 (v, vd, q2)))
set_option maxRecDepth 20000 in
theorem lc_3 {f : aF} {z : lP} {sa N : Nat} {xs : Nat → Int32} (hO : lawOK f z sa N xs) {i : Int32} (hi1 : vp_in (i + 1) N) (hi2 : vp_in (i + 2) N) (hi3 : vp_in (i + 3) N) {dX dM : Nat → Nat → Int32} {t : List Nat} {v : Nat → Int64} {vd : Nat → UInt64} {k n : Nat} {K : aS → aS → Prop} (hk : k + 40 ≤ 603072) (hn : n + 5000 ≤ 7202922)
    (h : ob_3 v vd (xs (i + 1).toNatClampNeg) (xs (i + 2).toNatClampNeg) (xs (i + 3).toNatClampNeg) (dX, t) (dM, []) K) (kk : ∀ (v1 : Nat → Int64) (vd1 : Nat → UInt64) (q2 qm : aS), K q2 qm → AW f (lX z qm.1 v1 vd1) 2663 (lawL z sa i) [] q2 (k + 40) (n + 5000)) : AW f (lX z dM v vd) 424 (lawL z sa i) [] (dX, t) k n := by
  have hX : isX (lX z dM v vd) := lX_is hO.1 dM v vd
  have hl := (hO.C dM v vd).tr
  unfold ob_3 at h
  refine a_aload_n (pc := 424) (hO.C _ _ _) dL_law_424 rfl ?_
  refine a_scr (pc := 425) (j := 1) hO rfl rfl rfl hi1 dL_law_425 dL_law_426 dL_law_428 dL_law_429 dL_law_430 ?_
  refine a_scr (pc := 431) (j := 2) hO rfl rfl rfl hi2 dL_law_431 dL_law_432 dL_law_434 dL_law_435 dL_law_436 ?_
  refine a_aload_n (pc := 437) (hO.C _ _ _) dL_law_437 rfl ?_
  refine l_helper (pc := 438) hO sw_L_enter tw_677 ⟨(Nat.le_of_ble_eq_true rfl), (Nat.le_of_ble_eq_true rfl), by omega, by omega⟩ dL_law_438 (t_L_enter hO.1 hl dM v vd _ _ (dX, t) (lPo (w_X10_enter (xs (i + 1).toNatClampNeg) (xs (i + 2).toNatClampNeg) (dM, [])) K) h) rfl rfl rfl (Nat.le_of_ble_eq_true rfl) (fun r u h => ?_)
  obtain ⟨v1, vd1, dX1, t1⟩ := u
  refine a_istore (pc := 441) (hO.C _ _ _) dL_law_441 (Nat.le_of_ble_eq_true rfl) ?_
  refine a_aload_n (pc := 443) (hO.C _ _ _) dL_law_443 rfl ?_
  refine a_scr (pc := 444) (j := 1) hO rfl rfl rfl hi1 dL_law_444 dL_law_445 dL_law_447 dL_law_448 dL_law_449 ?_
  refine a_scr (pc := 450) (j := 2) hO rfl rfl rfl hi2 dL_law_450 dL_law_451 dL_law_453 dL_law_454 dL_law_455 ?_
  refine l_model (pc := 456) hO vm_X10_enter tw_1661 ⟨(Nat.le_of_ble_eq_true rfl), (Nat.le_of_ble_eq_true rfl), by omega, by omega⟩ dL_law_456 (t_X10_enter (lM_is hO.1 _ _ _ _) hl _ _ _ _ h) rfl rfl rfl (Nat.le_of_ble_eq_true rfl) (fun b qm h => ?_)
  obtain ⟨dM1, tm⟩ := qm
  refine a_istore (pc := 459) (hO.C _ _ _) dL_law_459 (Nat.le_of_ble_eq_true rfl) ?_
  refine a_aload_n (pc := 461) (hO.C _ _ _) dL_law_461 rfl ?_
  refine l_model (pc := 462) hO vm_X10_thrown tw_1574 ⟨(Nat.le_of_ble_eq_true rfl), (Nat.le_of_ble_eq_true rfl), by omega, by omega⟩ dL_law_462 (t_X10_thrown (lM_is hO.1 _ _ _ _) hl _ _ h) rfl rfl rfl (Nat.le_of_ble_eq_true rfl) (fun th qm h => ?_)
  obtain ⟨dM2, tm2⟩ := qm
  obtain ⟨he, hv, h⟩ := h
  refine l_chk (pc := 465) (hO.C _ _ _) he rfl dL_law_465 dL_law_467 ?_
  exact l_fin (pc := 472) hO rfl rfl rfl hv dL_law_472 dL_law_474 dL_law_477 dL_law_478 dL_law_479 dL_law_480 dL_law_482 dL_law_483 dL_law_484 dL_law_489 (by decide) (((kk _ _ _ _ h).forget (lawL_sub _ _ _ _ _ _)).widen (by omega) (by omega))
def ob_4 (v : Nat → Int64) (vd : Nat → UInt64) (p1 p2 p3 : Int32) (q qm : aS) (K : aS → aS → Prop) : Prop := w_X9_out p1 q (fun r q2 => lPo (w_X10_out p1 qm) K 0 (vp_updL v 0 (r.toInt64), vd, q2)) (fun E q2 => (E = "java/lang/UnsupportedOperationException" ∧ lPo (w_X10_out p1 qm) K 1 (v, vd, q2)))
set_option maxRecDepth 20000 in
theorem lc_4 {f : aF} {z : lP} {sa N : Nat} {xs : Nat → Int32} (hO : lawOK f z sa N xs) {i : Int32} (hi1 : vp_in (i + 1) N) (hi2 : vp_in (i + 2) N) (hi3 : vp_in (i + 3) N) {dX dM : Nat → Nat → Int32} {t : List Nat} {v : Nat → Int64} {vd : Nat → UInt64} {k n : Nat} {K : aS → aS → Prop} (hk : k + 40 ≤ 603072) (hn : n + 5000 ≤ 7202922)
    (h : ob_4 v vd (xs (i + 1).toNatClampNeg) (xs (i + 2).toNatClampNeg) (xs (i + 3).toNatClampNeg) (dX, t) (dM, []) K) (kk : ∀ (v1 : Nat → Int64) (vd1 : Nat → UInt64) (q2 qm : aS), K q2 qm → AW f (lX z qm.1 v1 vd1) 2663 (lawL z sa i) [] q2 (k + 40) (n + 5000)) : AW f (lX z dM v vd) 492 (lawL z sa i) [] (dX, t) k n := by
  have hX : isX (lX z dM v vd) := lX_is hO.1 dM v vd
  have hl := (hO.C dM v vd).tr
  unfold ob_4 at h
  refine a_aload_n (pc := 492) (hO.C _ _ _) dL_law_492 rfl ?_
  refine a_scr (pc := 493) (j := 1) hO rfl rfl rfl hi1 dL_law_493 dL_law_494 dL_law_496 dL_law_497 dL_law_498 ?_
  refine a_aload_n (pc := 499) (hO.C _ _ _) dL_law_499 rfl ?_
  refine l_helper (pc := 500) hO sw_L_out tw_686 ⟨(Nat.le_of_ble_eq_true rfl), (Nat.le_of_ble_eq_true rfl), by omega, by omega⟩ dL_law_500 (t_L_out hO.1 hl dM v vd _ (dX, t) (lPo (w_X10_out (xs (i + 1).toNatClampNeg) (dM, [])) K) h) rfl rfl rfl (Nat.le_of_ble_eq_true rfl) (fun r u h => ?_)
  obtain ⟨v1, vd1, dX1, t1⟩ := u
  refine a_istore (pc := 503) (hO.C _ _ _) dL_law_503 (Nat.le_of_ble_eq_true rfl) ?_
  refine a_aload_n (pc := 505) (hO.C _ _ _) dL_law_505 rfl ?_
  refine a_scr (pc := 506) (j := 1) hO rfl rfl rfl hi1 dL_law_506 dL_law_507 dL_law_509 dL_law_510 dL_law_511 ?_
  refine l_model (pc := 512) hO vm_X10_out tw_1686 ⟨(Nat.le_of_ble_eq_true rfl), (Nat.le_of_ble_eq_true rfl), by omega, by omega⟩ dL_law_512 (t_X10_out (lM_is hO.1 _ _ _ _) hl _ _ _ h) rfl rfl rfl (Nat.le_of_ble_eq_true rfl) (fun b qm h => ?_)
  obtain ⟨dM1, tm⟩ := qm
  refine a_istore (pc := 515) (hO.C _ _ _) dL_law_515 (Nat.le_of_ble_eq_true rfl) ?_
  refine a_aload_n (pc := 517) (hO.C _ _ _) dL_law_517 rfl ?_
  refine l_model (pc := 518) hO vm_X10_thrown tw_1574 ⟨(Nat.le_of_ble_eq_true rfl), (Nat.le_of_ble_eq_true rfl), by omega, by omega⟩ dL_law_518 (t_X10_thrown (lM_is hO.1 _ _ _ _) hl _ _ h) rfl rfl rfl (Nat.le_of_ble_eq_true rfl) (fun th qm h => ?_)
  obtain ⟨dM2, tm2⟩ := qm
  obtain ⟨he, hv, h⟩ := h
  refine l_chk (pc := 521) (hO.C _ _ _) he rfl dL_law_521 dL_law_523 ?_
  exact l_fin (pc := 528) hO rfl rfl rfl hv dL_law_528 dL_law_530 dL_law_533 dL_law_534 dL_law_535 dL_law_536 dL_law_538 dL_law_539 dL_law_540 dL_law_545 (by decide) (((kk _ _ _ _ h).forget (lawL_sub _ _ _ _ _ _)).widen (by omega) (by omega))
def ob_5 (v : Nat → Int64) (vd : Nat → UInt64) (p1 p2 p3 : Int32) (q qm : aS) (K : aS → aS → Prop) : Prop := w_X9_carry p1 p2 q (fun r q2 => lPo (w_X10_carry p1 p2 qm) K 0 (vp_updL v 0 (r.toInt64), vd, q2)) (fun E q2 => (E = "java/lang/UnsupportedOperationException" ∧ lPo (w_X10_carry p1 p2 qm) K 1 (v, vd, q2)))
set_option maxRecDepth 20000 in
theorem lc_5 {f : aF} {z : lP} {sa N : Nat} {xs : Nat → Int32} (hO : lawOK f z sa N xs) {i : Int32} (hi1 : vp_in (i + 1) N) (hi2 : vp_in (i + 2) N) (hi3 : vp_in (i + 3) N) {dX dM : Nat → Nat → Int32} {t : List Nat} {v : Nat → Int64} {vd : Nat → UInt64} {k n : Nat} {K : aS → aS → Prop} (hk : k + 40 ≤ 603072) (hn : n + 5000 ≤ 7202922)
    (h : ob_5 v vd (xs (i + 1).toNatClampNeg) (xs (i + 2).toNatClampNeg) (xs (i + 3).toNatClampNeg) (dX, t) (dM, []) K) (kk : ∀ (v1 : Nat → Int64) (vd1 : Nat → UInt64) (q2 qm : aS), K q2 qm → AW f (lX z qm.1 v1 vd1) 2663 (lawL z sa i) [] q2 (k + 40) (n + 5000)) : AW f (lX z dM v vd) 548 (lawL z sa i) [] (dX, t) k n := by
  have hX : isX (lX z dM v vd) := lX_is hO.1 dM v vd
  have hl := (hO.C dM v vd).tr
  unfold ob_5 at h
  refine a_aload_n (pc := 548) (hO.C _ _ _) dL_law_548 rfl ?_
  refine a_scr (pc := 549) (j := 1) hO rfl rfl rfl hi1 dL_law_549 dL_law_550 dL_law_552 dL_law_553 dL_law_554 ?_
  refine a_scr (pc := 555) (j := 2) hO rfl rfl rfl hi2 dL_law_555 dL_law_556 dL_law_558 dL_law_559 dL_law_560 ?_
  refine a_aload_n (pc := 561) (hO.C _ _ _) dL_law_561 rfl ?_
  refine l_helper (pc := 562) hO sw_L_carry tw_695 ⟨(Nat.le_of_ble_eq_true rfl), (Nat.le_of_ble_eq_true rfl), by omega, by omega⟩ dL_law_562 (t_L_carry hO.1 hl dM v vd _ _ (dX, t) (lPo (w_X10_carry (xs (i + 1).toNatClampNeg) (xs (i + 2).toNatClampNeg) (dM, [])) K) h) rfl rfl rfl (Nat.le_of_ble_eq_true rfl) (fun r u h => ?_)
  obtain ⟨v1, vd1, dX1, t1⟩ := u
  refine a_istore (pc := 565) (hO.C _ _ _) dL_law_565 (Nat.le_of_ble_eq_true rfl) ?_
  refine a_aload_n (pc := 567) (hO.C _ _ _) dL_law_567 rfl ?_
  refine a_scr (pc := 568) (j := 1) hO rfl rfl rfl hi1 dL_law_568 dL_law_569 dL_law_571 dL_law_572 dL_law_573 ?_
  refine a_scr (pc := 574) (j := 2) hO rfl rfl rfl hi2 dL_law_574 dL_law_575 dL_law_577 dL_law_578 dL_law_579 ?_
  refine l_model (pc := 580) hO vm_X10_carry tw_1694 ⟨(Nat.le_of_ble_eq_true rfl), (Nat.le_of_ble_eq_true rfl), by omega, by omega⟩ dL_law_580 (t_X10_carry (lM_is hO.1 _ _ _ _) hl _ _ _ _ h) rfl rfl rfl (Nat.le_of_ble_eq_true rfl) (fun b qm h => ?_)
  obtain ⟨dM1, tm⟩ := qm
  refine a_istore (pc := 583) (hO.C _ _ _) dL_law_583 (Nat.le_of_ble_eq_true rfl) ?_
  refine a_aload_n (pc := 585) (hO.C _ _ _) dL_law_585 rfl ?_
  refine l_model (pc := 586) hO vm_X10_thrown tw_1574 ⟨(Nat.le_of_ble_eq_true rfl), (Nat.le_of_ble_eq_true rfl), by omega, by omega⟩ dL_law_586 (t_X10_thrown (lM_is hO.1 _ _ _ _) hl _ _ h) rfl rfl rfl (Nat.le_of_ble_eq_true rfl) (fun th qm h => ?_)
  obtain ⟨dM2, tm2⟩ := qm
  obtain ⟨he, hv, h⟩ := h
  refine l_chk (pc := 589) (hO.C _ _ _) he rfl dL_law_589 dL_law_591 ?_
  exact l_fin (pc := 596) hO rfl rfl rfl hv dL_law_596 dL_law_598 dL_law_601 dL_law_602 dL_law_603 dL_law_604 dL_law_606 dL_law_607 dL_law_608 dL_law_613 (by decide) (((kk _ _ _ _ h).forget (lawL_sub _ _ _ _ _ _)).widen (by omega) (by omega))
def ob_6 (v : Nat → Int64) (vd : Nat → UInt64) (p1 p2 p3 : Int32) (q qm : aS) (K : aS → aS → Prop) : Prop := w_X9_rent p1 p2 p3 q (fun r q2 => lPo (w_X10_rent p1 p2 p3 qm) K 0 (vp_updL v 0 (r.toInt64), vd, q2)) (fun E q2 => (E = "java/lang/UnsupportedOperationException" ∧ lPo (w_X10_rent p1 p2 p3 qm) K 1 (v, vd, q2)))
set_option maxRecDepth 20000 in
theorem lc_6 {f : aF} {z : lP} {sa N : Nat} {xs : Nat → Int32} (hO : lawOK f z sa N xs) {i : Int32} (hi1 : vp_in (i + 1) N) (hi2 : vp_in (i + 2) N) (hi3 : vp_in (i + 3) N) {dX dM : Nat → Nat → Int32} {t : List Nat} {v : Nat → Int64} {vd : Nat → UInt64} {k n : Nat} {K : aS → aS → Prop} (hk : k + 40 ≤ 603072) (hn : n + 5000 ≤ 7202922)
    (h : ob_6 v vd (xs (i + 1).toNatClampNeg) (xs (i + 2).toNatClampNeg) (xs (i + 3).toNatClampNeg) (dX, t) (dM, []) K) (kk : ∀ (v1 : Nat → Int64) (vd1 : Nat → UInt64) (q2 qm : aS), K q2 qm → AW f (lX z qm.1 v1 vd1) 2663 (lawL z sa i) [] q2 (k + 40) (n + 5000)) : AW f (lX z dM v vd) 616 (lawL z sa i) [] (dX, t) k n := by
  have hX : isX (lX z dM v vd) := lX_is hO.1 dM v vd
  have hl := (hO.C dM v vd).tr
  unfold ob_6 at h
  refine a_aload_n (pc := 616) (hO.C _ _ _) dL_law_616 rfl ?_
  refine a_scr (pc := 617) (j := 1) hO rfl rfl rfl hi1 dL_law_617 dL_law_618 dL_law_620 dL_law_621 dL_law_622 ?_
  refine a_scr (pc := 623) (j := 2) hO rfl rfl rfl hi2 dL_law_623 dL_law_624 dL_law_626 dL_law_627 dL_law_628 ?_
  refine a_scr (pc := 629) (j := 3) hO rfl rfl rfl hi3 dL_law_629 dL_law_630 dL_law_632 dL_law_633 dL_law_634 ?_
  refine a_aload_n (pc := 635) (hO.C _ _ _) dL_law_635 rfl ?_
  refine l_helper (pc := 636) hO sw_L_rent tw_704 ⟨(Nat.le_of_ble_eq_true rfl), (Nat.le_of_ble_eq_true rfl), by omega, by omega⟩ dL_law_636 (t_L_rent hO.1 hl dM v vd _ _ _ (dX, t) (lPo (w_X10_rent (xs (i + 1).toNatClampNeg) (xs (i + 2).toNatClampNeg) (xs (i + 3).toNatClampNeg) (dM, [])) K) h) rfl rfl rfl (Nat.le_of_ble_eq_true rfl) (fun r u h => ?_)
  obtain ⟨v1, vd1, dX1, t1⟩ := u
  refine a_istore (pc := 639) (hO.C _ _ _) dL_law_639 (Nat.le_of_ble_eq_true rfl) ?_
  refine a_aload_n (pc := 641) (hO.C _ _ _) dL_law_641 rfl ?_
  refine a_scr (pc := 642) (j := 1) hO rfl rfl rfl hi1 dL_law_642 dL_law_643 dL_law_645 dL_law_646 dL_law_647 ?_
  refine a_scr (pc := 648) (j := 2) hO rfl rfl rfl hi2 dL_law_648 dL_law_649 dL_law_651 dL_law_652 dL_law_653 ?_
  refine a_scr (pc := 654) (j := 3) hO rfl rfl rfl hi3 dL_law_654 dL_law_655 dL_law_657 dL_law_658 dL_law_659 ?_
  refine l_model (pc := 660) hO vm_X10_rent tw_1706 ⟨(Nat.le_of_ble_eq_true rfl), (Nat.le_of_ble_eq_true rfl), by omega, by omega⟩ dL_law_660 (t_X10_rent (lM_is hO.1 _ _ _ _) hl _ _ _ _ _ h) rfl rfl rfl (Nat.le_of_ble_eq_true rfl) (fun b qm h => ?_)
  obtain ⟨dM1, tm⟩ := qm
  refine a_istore (pc := 663) (hO.C _ _ _) dL_law_663 (Nat.le_of_ble_eq_true rfl) ?_
  refine a_aload_n (pc := 665) (hO.C _ _ _) dL_law_665 rfl ?_
  refine l_model (pc := 666) hO vm_X10_thrown tw_1574 ⟨(Nat.le_of_ble_eq_true rfl), (Nat.le_of_ble_eq_true rfl), by omega, by omega⟩ dL_law_666 (t_X10_thrown (lM_is hO.1 _ _ _ _) hl _ _ h) rfl rfl rfl (Nat.le_of_ble_eq_true rfl) (fun th qm h => ?_)
  obtain ⟨dM2, tm2⟩ := qm
  obtain ⟨he, hv, h⟩ := h
  refine l_chk (pc := 669) (hO.C _ _ _) he rfl dL_law_669 dL_law_671 ?_
  exact l_fin (pc := 676) hO rfl rfl rfl hv dL_law_676 dL_law_678 dL_law_681 dL_law_682 dL_law_683 dL_law_684 dL_law_686 dL_law_687 dL_law_688 dL_law_693 (by decide) (((kk _ _ _ _ h).forget (lawL_sub _ _ _ _ _ _)).widen (by omega) (by omega))
def ob_7 (v : Nat → Int64) (vd : Nat → UInt64) (p1 p2 p3 : Int32) (q qm : aS) (K : aS → aS → Prop) : Prop := w_X9_back p1 p2 q (fun r q2 => lPo (w_X10_back p1 p2 qm) K 0 (vp_updL v 0 (r.toInt64), vd, q2)) (fun E q2 => (E = "java/lang/UnsupportedOperationException" ∧ lPo (w_X10_back p1 p2 qm) K 1 (v, vd, q2)))
set_option maxRecDepth 20000 in
theorem lc_7 {f : aF} {z : lP} {sa N : Nat} {xs : Nat → Int32} (hO : lawOK f z sa N xs) {i : Int32} (hi1 : vp_in (i + 1) N) (hi2 : vp_in (i + 2) N) (hi3 : vp_in (i + 3) N) {dX dM : Nat → Nat → Int32} {t : List Nat} {v : Nat → Int64} {vd : Nat → UInt64} {k n : Nat} {K : aS → aS → Prop} (hk : k + 40 ≤ 603072) (hn : n + 5000 ≤ 7202922)
    (h : ob_7 v vd (xs (i + 1).toNatClampNeg) (xs (i + 2).toNatClampNeg) (xs (i + 3).toNatClampNeg) (dX, t) (dM, []) K) (kk : ∀ (v1 : Nat → Int64) (vd1 : Nat → UInt64) (q2 qm : aS), K q2 qm → AW f (lX z qm.1 v1 vd1) 2663 (lawL z sa i) [] q2 (k + 40) (n + 5000)) : AW f (lX z dM v vd) 696 (lawL z sa i) [] (dX, t) k n := by
  have hX : isX (lX z dM v vd) := lX_is hO.1 dM v vd
  have hl := (hO.C dM v vd).tr
  unfold ob_7 at h
  refine a_aload_n (pc := 696) (hO.C _ _ _) dL_law_696 rfl ?_
  refine a_scr (pc := 697) (j := 1) hO rfl rfl rfl hi1 dL_law_697 dL_law_698 dL_law_700 dL_law_701 dL_law_702 ?_
  refine a_scr (pc := 703) (j := 2) hO rfl rfl rfl hi2 dL_law_703 dL_law_704 dL_law_706 dL_law_707 dL_law_708 ?_
  refine a_aload_n (pc := 709) (hO.C _ _ _) dL_law_709 rfl ?_
  refine l_helper (pc := 710) hO sw_L_back tw_713 ⟨(Nat.le_of_ble_eq_true rfl), (Nat.le_of_ble_eq_true rfl), by omega, by omega⟩ dL_law_710 (t_L_back hO.1 hl dM v vd _ _ (dX, t) (lPo (w_X10_back (xs (i + 1).toNatClampNeg) (xs (i + 2).toNatClampNeg) (dM, [])) K) h) rfl rfl rfl (Nat.le_of_ble_eq_true rfl) (fun r u h => ?_)
  obtain ⟨v1, vd1, dX1, t1⟩ := u
  refine a_istore (pc := 713) (hO.C _ _ _) dL_law_713 (Nat.le_of_ble_eq_true rfl) ?_
  refine a_aload_n (pc := 715) (hO.C _ _ _) dL_law_715 rfl ?_
  refine a_scr (pc := 716) (j := 1) hO rfl rfl rfl hi1 dL_law_716 dL_law_717 dL_law_719 dL_law_720 dL_law_721 ?_
  refine a_scr (pc := 722) (j := 2) hO rfl rfl rfl hi2 dL_law_722 dL_law_723 dL_law_725 dL_law_726 dL_law_727 ?_
  refine l_model (pc := 728) hO vm_X10_back tw_1718 ⟨(Nat.le_of_ble_eq_true rfl), (Nat.le_of_ble_eq_true rfl), by omega, by omega⟩ dL_law_728 (t_X10_back (lM_is hO.1 _ _ _ _) hl _ _ _ _ h) rfl rfl rfl (Nat.le_of_ble_eq_true rfl) (fun b qm h => ?_)
  obtain ⟨dM1, tm⟩ := qm
  refine a_istore (pc := 731) (hO.C _ _ _) dL_law_731 (Nat.le_of_ble_eq_true rfl) ?_
  refine a_aload_n (pc := 733) (hO.C _ _ _) dL_law_733 rfl ?_
  refine l_model (pc := 734) hO vm_X10_thrown tw_1574 ⟨(Nat.le_of_ble_eq_true rfl), (Nat.le_of_ble_eq_true rfl), by omega, by omega⟩ dL_law_734 (t_X10_thrown (lM_is hO.1 _ _ _ _) hl _ _ h) rfl rfl rfl (Nat.le_of_ble_eq_true rfl) (fun th qm h => ?_)
  obtain ⟨dM2, tm2⟩ := qm
  obtain ⟨he, hv, h⟩ := h
  refine l_chk (pc := 737) (hO.C _ _ _) he rfl dL_law_737 dL_law_739 ?_
  exact l_fin (pc := 744) hO rfl rfl rfl hv dL_law_744 dL_law_746 dL_law_749 dL_law_750 dL_law_751 dL_law_752 dL_law_754 dL_law_755 dL_law_756 dL_law_761 (by decide) (((kk _ _ _ _ h).forget (lawL_sub _ _ _ _ _ _)).widen (by omega) (by omega))
def ob_8 (v : Nat → Int64) (vd : Nat → UInt64) (p1 p2 p3 : Int32) (q qm : aS) (K : aS → aS → Prop) : Prop := w_X9_sing p1 q (fun r q2 => lPo (w_X10_sing p1 qm) K 0 (vp_updL v 0 (r.toInt64), vd, q2)) (fun E q2 => (E = "java/lang/UnsupportedOperationException" ∧ lPo (w_X10_sing p1 qm) K 1 (v, vd, q2)))
set_option maxRecDepth 20000 in
theorem lc_8 {f : aF} {z : lP} {sa N : Nat} {xs : Nat → Int32} (hO : lawOK f z sa N xs) {i : Int32} (hi1 : vp_in (i + 1) N) (hi2 : vp_in (i + 2) N) (hi3 : vp_in (i + 3) N) {dX dM : Nat → Nat → Int32} {t : List Nat} {v : Nat → Int64} {vd : Nat → UInt64} {k n : Nat} {K : aS → aS → Prop} (hk : k + 40 ≤ 603072) (hn : n + 5000 ≤ 7202922)
    (h : ob_8 v vd (xs (i + 1).toNatClampNeg) (xs (i + 2).toNatClampNeg) (xs (i + 3).toNatClampNeg) (dX, t) (dM, []) K) (kk : ∀ (v1 : Nat → Int64) (vd1 : Nat → UInt64) (q2 qm : aS), K q2 qm → AW f (lX z qm.1 v1 vd1) 2663 (lawL z sa i) [] q2 (k + 40) (n + 5000)) : AW f (lX z dM v vd) 764 (lawL z sa i) [] (dX, t) k n := by
  have hX : isX (lX z dM v vd) := lX_is hO.1 dM v vd
  have hl := (hO.C dM v vd).tr
  unfold ob_8 at h
  refine a_aload_n (pc := 764) (hO.C _ _ _) dL_law_764 rfl ?_
  refine a_scr (pc := 765) (j := 1) hO rfl rfl rfl hi1 dL_law_765 dL_law_766 dL_law_768 dL_law_769 dL_law_770 ?_
  refine a_aload_n (pc := 771) (hO.C _ _ _) dL_law_771 rfl ?_
  refine l_helper (pc := 772) hO sw_L_sing tw_722 ⟨(Nat.le_of_ble_eq_true rfl), (Nat.le_of_ble_eq_true rfl), by omega, by omega⟩ dL_law_772 (t_L_sing hO.1 hl dM v vd _ (dX, t) (lPo (w_X10_sing (xs (i + 1).toNatClampNeg) (dM, [])) K) h) rfl rfl rfl (Nat.le_of_ble_eq_true rfl) (fun r u h => ?_)
  obtain ⟨v1, vd1, dX1, t1⟩ := u
  refine a_istore (pc := 775) (hO.C _ _ _) dL_law_775 (Nat.le_of_ble_eq_true rfl) ?_
  refine a_aload_n (pc := 777) (hO.C _ _ _) dL_law_777 rfl ?_
  refine a_scr (pc := 778) (j := 1) hO rfl rfl rfl hi1 dL_law_778 dL_law_779 dL_law_781 dL_law_782 dL_law_783 ?_
  refine l_model (pc := 784) hO vm_X10_sing tw_1736 ⟨(Nat.le_of_ble_eq_true rfl), (Nat.le_of_ble_eq_true rfl), by omega, by omega⟩ dL_law_784 (t_X10_sing (lM_is hO.1 _ _ _ _) hl _ _ _ h) rfl rfl rfl (Nat.le_of_ble_eq_true rfl) (fun b qm h => ?_)
  obtain ⟨dM1, tm⟩ := qm
  refine a_istore (pc := 787) (hO.C _ _ _) dL_law_787 (Nat.le_of_ble_eq_true rfl) ?_
  refine a_aload_n (pc := 789) (hO.C _ _ _) dL_law_789 rfl ?_
  refine l_model (pc := 790) hO vm_X10_thrown tw_1574 ⟨(Nat.le_of_ble_eq_true rfl), (Nat.le_of_ble_eq_true rfl), by omega, by omega⟩ dL_law_790 (t_X10_thrown (lM_is hO.1 _ _ _ _) hl _ _ h) rfl rfl rfl (Nat.le_of_ble_eq_true rfl) (fun th qm h => ?_)
  obtain ⟨dM2, tm2⟩ := qm
  obtain ⟨he, hv, h⟩ := h
  refine l_chk (pc := 793) (hO.C _ _ _) he rfl dL_law_793 dL_law_795 ?_
  exact l_fin (pc := 800) hO rfl rfl rfl hv dL_law_800 dL_law_802 dL_law_805 dL_law_806 dL_law_807 dL_law_808 dL_law_810 dL_law_811 dL_law_812 dL_law_817 (by decide) (((kk _ _ _ _ h).forget (lawL_sub _ _ _ _ _ _)).widen (by omega) (by omega))
def ob_9 (v : Nat → Int64) (vd : Nat → UInt64) (p1 p2 p3 : Int32) (q qm : aS) (K : aS → aS → Prop) : Prop := w_X9_night q (fun r q2 => w_X10_night qm (fun b qm2 => r = b ∧ K q2 qm2))
set_option maxRecDepth 20000 in
theorem lc_9 {f : aF} {z : lP} {sa N : Nat} {xs : Nat → Int32} (hO : lawOK f z sa N xs) {i : Int32} (hi1 : vp_in (i + 1) N) (hi2 : vp_in (i + 2) N) (hi3 : vp_in (i + 3) N) {dX dM : Nat → Nat → Int32} {t : List Nat} {v : Nat → Int64} {vd : Nat → UInt64} {k n : Nat} {K : aS → aS → Prop} (hk : k + 40 ≤ 603072) (hn : n + 5000 ≤ 7202922)
    (h : ob_9 v vd (xs (i + 1).toNatClampNeg) (xs (i + 2).toNatClampNeg) (xs (i + 3).toNatClampNeg) (dX, t) (dM, []) K) (kk : ∀ (v1 : Nat → Int64) (vd1 : Nat → UInt64) (q2 qm : aS), K q2 qm → AW f (lX z qm.1 v1 vd1) 2663 (lawL z sa i) [] q2 (k + 40) (n + 5000)) : AW f (lX z dM v vd) 820 (lawL z sa i) [] (dX, t) k n := by
  have hX : isX (lX z dM v vd) := lX_is hO.1 dM v vd
  have hl := (hO.C dM v vd).tr
  unfold ob_9 at h
  refine a_aload_n (pc := 820) (hO.C _ _ _) dL_law_820 rfl ?_
  refine l_callV (pc := 821) (hO.C _ _ _) hO.2.2.1 vm_X9_night tw_331 cl_X9 (oX_0 hX) ⟨(Nat.le_of_ble_eq_true rfl), (Nat.le_of_ble_eq_true rfl), by omega, by omega⟩ dL_law_821 (t_X9_night hX hl _ _ h) rfl rfl rfl (Nat.le_of_ble_eq_true rfl) (fun r q1 h => ?_)
  obtain ⟨dX1, t1⟩ := q1
  refine a_aload_n (pc := 824) (hO.C _ _ _) dL_law_824 rfl ?_
  refine l_model (pc := 825) hO vm_X10_night tw_1744 ⟨(Nat.le_of_ble_eq_true rfl), (Nat.le_of_ble_eq_true rfl), by omega, by omega⟩ dL_law_825 (t_X10_night (lM_is hO.1 _ _ _ _) hl _ _ h) rfl rfl rfl (Nat.le_of_ble_eq_true rfl) (fun b qm h => ?_)
  obtain ⟨rfl, h⟩ := h
  exact a_icmp_eq (pc := 828) (tgt := 2663) (hO.C _ _ _) dL_law_828 (by decide) (fun _ => (kk _ _ _ _ h).widen (by omega) (by omega)) (fun e => (e rfl).elim)
def ob_10 (v : Nat → Int64) (vd : Nat → UInt64) (p1 p2 p3 : Int32) (q qm : aS) (K : aS → aS → Prop) : Prop := w_X9_roomOf p1 p2 q (fun r q2 => lPo (w_X10_roomOf p1 p2 qm) K 0 (vp_updL v 0 (r.toInt64), vd, q2)) (fun E q2 => (E = "java/lang/IndexOutOfBoundsException" ∧ lPo (w_X10_roomOf p1 p2 qm) K 1 (v, vd, q2)) ∨ (E = "java/lang/IllegalArgumentException" ∧ lPo (w_X10_roomOf p1 p2 qm) K 2 (v, vd, q2)))
set_option maxRecDepth 20000 in
theorem lc_10 {f : aF} {z : lP} {sa N : Nat} {xs : Nat → Int32} (hO : lawOK f z sa N xs) {i : Int32} (hi1 : vp_in (i + 1) N) (hi2 : vp_in (i + 2) N) (hi3 : vp_in (i + 3) N) {dX dM : Nat → Nat → Int32} {t : List Nat} {v : Nat → Int64} {vd : Nat → UInt64} {k n : Nat} {K : aS → aS → Prop} (hk : k + 40 ≤ 603072) (hn : n + 5000 ≤ 7202922)
    (h : ob_10 v vd (xs (i + 1).toNatClampNeg) (xs (i + 2).toNatClampNeg) (xs (i + 3).toNatClampNeg) (dX, t) (dM, []) K) (kk : ∀ (v1 : Nat → Int64) (vd1 : Nat → UInt64) (q2 qm : aS), K q2 qm → AW f (lX z qm.1 v1 vd1) 2663 (lawL z sa i) [] q2 (k + 40) (n + 5000)) : AW f (lX z dM v vd) 833 (lawL z sa i) [] (dX, t) k n := by
  have hX : isX (lX z dM v vd) := lX_is hO.1 dM v vd
  have hl := (hO.C dM v vd).tr
  unfold ob_10 at h
  refine a_aload_n (pc := 833) (hO.C _ _ _) dL_law_833 rfl ?_
  refine a_scr (pc := 834) (j := 1) hO rfl rfl rfl hi1 dL_law_834 dL_law_835 dL_law_837 dL_law_838 dL_law_839 ?_
  refine a_scr (pc := 840) (j := 2) hO rfl rfl rfl hi2 dL_law_840 dL_law_841 dL_law_843 dL_law_844 dL_law_845 ?_
  refine a_aload_n (pc := 846) (hO.C _ _ _) dL_law_846 rfl ?_
  refine l_helper (pc := 847) hO sw_L_roomOf tw_731 ⟨(Nat.le_of_ble_eq_true rfl), (Nat.le_of_ble_eq_true rfl), by omega, by omega⟩ dL_law_847 (t_L_roomOf hO.1 hl dM v vd _ _ (dX, t) (lPo (w_X10_roomOf (xs (i + 1).toNatClampNeg) (xs (i + 2).toNatClampNeg) (dM, [])) K) h) rfl rfl rfl (Nat.le_of_ble_eq_true rfl) (fun r u h => ?_)
  obtain ⟨v1, vd1, dX1, t1⟩ := u
  refine a_istore (pc := 850) (hO.C _ _ _) dL_law_850 (Nat.le_of_ble_eq_true rfl) ?_
  refine a_aload_n (pc := 852) (hO.C _ _ _) dL_law_852 rfl ?_
  refine a_scr (pc := 853) (j := 1) hO rfl rfl rfl hi1 dL_law_853 dL_law_854 dL_law_856 dL_law_857 dL_law_858 ?_
  refine a_scr (pc := 859) (j := 2) hO rfl rfl rfl hi2 dL_law_859 dL_law_860 dL_law_862 dL_law_863 dL_law_864 ?_
  refine l_model (pc := 865) hO vm_X10_roomOf tw_1752 ⟨(Nat.le_of_ble_eq_true rfl), (Nat.le_of_ble_eq_true rfl), by omega, by omega⟩ dL_law_865 (t_X10_roomOf (lM_is hO.1 _ _ _ _) hl _ _ _ _ h) rfl rfl rfl (Nat.le_of_ble_eq_true rfl) (fun b qm h => ?_)
  obtain ⟨dM1, tm⟩ := qm
  refine a_istore (pc := 868) (hO.C _ _ _) dL_law_868 (Nat.le_of_ble_eq_true rfl) ?_
  refine a_aload_n (pc := 870) (hO.C _ _ _) dL_law_870 rfl ?_
  refine l_model (pc := 871) hO vm_X10_thrown tw_1574 ⟨(Nat.le_of_ble_eq_true rfl), (Nat.le_of_ble_eq_true rfl), by omega, by omega⟩ dL_law_871 (t_X10_thrown (lM_is hO.1 _ _ _ _) hl _ _ h) rfl rfl rfl (Nat.le_of_ble_eq_true rfl) (fun th qm h => ?_)
  obtain ⟨dM2, tm2⟩ := qm
  obtain ⟨he, hv, h⟩ := h
  refine l_chk (pc := 874) (hO.C _ _ _) he rfl dL_law_874 dL_law_876 ?_
  exact l_fin (pc := 881) hO rfl rfl rfl hv dL_law_881 dL_law_883 dL_law_886 dL_law_887 dL_law_888 dL_law_889 dL_law_891 dL_law_892 dL_law_893 dL_law_898 (by decide) (((kk _ _ _ _ h).forget (lawL_sub _ _ _ _ _ _)).widen (by omega) (by omega))
def ob_11 (v : Nat → Int64) (vd : Nat → UInt64) (p1 p2 p3 : Int32) (q qm : aS) (K : aS → aS → Prop) : Prop := w_X9_echoOf p1 p2 q (fun r q2 => lPo (w_X10_echoOf p1 p2 qm) K 0 (vp_updL v 0 (r.toInt64), vd, q2)) (fun E q2 => (E = "java/lang/IndexOutOfBoundsException" ∧ lPo (w_X10_echoOf p1 p2 qm) K 1 (v, vd, q2)) ∨ (E = "java/lang/IllegalArgumentException" ∧ lPo (w_X10_echoOf p1 p2 qm) K 2 (v, vd, q2)))
set_option maxRecDepth 20000 in
theorem lc_11 {f : aF} {z : lP} {sa N : Nat} {xs : Nat → Int32} (hO : lawOK f z sa N xs) {i : Int32} (hi1 : vp_in (i + 1) N) (hi2 : vp_in (i + 2) N) (hi3 : vp_in (i + 3) N) {dX dM : Nat → Nat → Int32} {t : List Nat} {v : Nat → Int64} {vd : Nat → UInt64} {k n : Nat} {K : aS → aS → Prop} (hk : k + 40 ≤ 603072) (hn : n + 5000 ≤ 7202922)
    (h : ob_11 v vd (xs (i + 1).toNatClampNeg) (xs (i + 2).toNatClampNeg) (xs (i + 3).toNatClampNeg) (dX, t) (dM, []) K) (kk : ∀ (v1 : Nat → Int64) (vd1 : Nat → UInt64) (q2 qm : aS), K q2 qm → AW f (lX z qm.1 v1 vd1) 2663 (lawL z sa i) [] q2 (k + 40) (n + 5000)) : AW f (lX z dM v vd) 901 (lawL z sa i) [] (dX, t) k n := by
  have hX : isX (lX z dM v vd) := lX_is hO.1 dM v vd
  have hl := (hO.C dM v vd).tr
  unfold ob_11 at h
  refine a_aload_n (pc := 901) (hO.C _ _ _) dL_law_901 rfl ?_
  refine a_scr (pc := 902) (j := 1) hO rfl rfl rfl hi1 dL_law_902 dL_law_903 dL_law_905 dL_law_906 dL_law_907 ?_
  refine a_scr (pc := 908) (j := 2) hO rfl rfl rfl hi2 dL_law_908 dL_law_909 dL_law_911 dL_law_912 dL_law_913 ?_
  refine a_aload_n (pc := 914) (hO.C _ _ _) dL_law_914 rfl ?_
  refine l_helper (pc := 915) hO sw_L_echoOf tw_805 ⟨(Nat.le_of_ble_eq_true rfl), (Nat.le_of_ble_eq_true rfl), by omega, by omega⟩ dL_law_915 (t_L_echoOf hO.1 hl dM v vd _ _ (dX, t) (lPo (w_X10_echoOf (xs (i + 1).toNatClampNeg) (xs (i + 2).toNatClampNeg) (dM, [])) K) h) rfl rfl rfl (Nat.le_of_ble_eq_true rfl) (fun r u h => ?_)
  obtain ⟨v1, vd1, dX1, t1⟩ := u
  refine a_istore (pc := 918) (hO.C _ _ _) dL_law_918 (Nat.le_of_ble_eq_true rfl) ?_
  refine a_aload_n (pc := 920) (hO.C _ _ _) dL_law_920 rfl ?_
  refine a_scr (pc := 921) (j := 1) hO rfl rfl rfl hi1 dL_law_921 dL_law_922 dL_law_924 dL_law_925 dL_law_926 ?_
  refine a_scr (pc := 927) (j := 2) hO rfl rfl rfl hi2 dL_law_927 dL_law_928 dL_law_930 dL_law_931 dL_law_932 ?_
  refine l_model (pc := 933) hO vm_X10_echoOf tw_1760 ⟨(Nat.le_of_ble_eq_true rfl), (Nat.le_of_ble_eq_true rfl), by omega, by omega⟩ dL_law_933 (t_X10_echoOf (lM_is hO.1 _ _ _ _) hl _ _ _ _ h) rfl rfl rfl (Nat.le_of_ble_eq_true rfl) (fun b qm h => ?_)
  obtain ⟨dM1, tm⟩ := qm
  refine a_istore (pc := 936) (hO.C _ _ _) dL_law_936 (Nat.le_of_ble_eq_true rfl) ?_
  refine a_aload_n (pc := 938) (hO.C _ _ _) dL_law_938 rfl ?_
  refine l_model (pc := 939) hO vm_X10_thrown tw_1574 ⟨(Nat.le_of_ble_eq_true rfl), (Nat.le_of_ble_eq_true rfl), by omega, by omega⟩ dL_law_939 (t_X10_thrown (lM_is hO.1 _ _ _ _) hl _ _ h) rfl rfl rfl (Nat.le_of_ble_eq_true rfl) (fun th qm h => ?_)
  obtain ⟨dM2, tm2⟩ := qm
  obtain ⟨he, hv, h⟩ := h
  refine l_chk (pc := 942) (hO.C _ _ _) he rfl dL_law_942 dL_law_944 ?_
  exact l_fin (pc := 949) hO rfl rfl rfl hv dL_law_949 dL_law_951 dL_law_954 dL_law_955 dL_law_956 dL_law_957 dL_law_959 dL_law_960 dL_law_961 dL_law_966 (by decide) (((kk _ _ _ _ h).forget (lawL_sub _ _ _ _ _ _)).widen (by omega) (by omega))
def ob_12 (v : Nat → Int64) (vd : Nat → UInt64) (p1 p2 p3 : Int32) (q qm : aS) (K : aS → aS → Prop) : Prop := w_X9_singerOf p1 p2 q (fun r q2 => lPo (w_X10_singerOf p1 p2 qm) K 0 (vp_updL v 0 (r.toInt64), vd, q2)) (fun E q2 => (E = "java/lang/IndexOutOfBoundsException" ∧ lPo (w_X10_singerOf p1 p2 qm) K 1 (v, vd, q2)) ∨ (E = "java/lang/IllegalArgumentException" ∧ lPo (w_X10_singerOf p1 p2 qm) K 2 (v, vd, q2)))
set_option maxRecDepth 20000 in
theorem lc_12 {f : aF} {z : lP} {sa N : Nat} {xs : Nat → Int32} (hO : lawOK f z sa N xs) {i : Int32} (hi1 : vp_in (i + 1) N) (hi2 : vp_in (i + 2) N) (hi3 : vp_in (i + 3) N) {dX dM : Nat → Nat → Int32} {t : List Nat} {v : Nat → Int64} {vd : Nat → UInt64} {k n : Nat} {K : aS → aS → Prop} (hk : k + 40 ≤ 603072) (hn : n + 5000 ≤ 7202922)
    (h : ob_12 v vd (xs (i + 1).toNatClampNeg) (xs (i + 2).toNatClampNeg) (xs (i + 3).toNatClampNeg) (dX, t) (dM, []) K) (kk : ∀ (v1 : Nat → Int64) (vd1 : Nat → UInt64) (q2 qm : aS), K q2 qm → AW f (lX z qm.1 v1 vd1) 2663 (lawL z sa i) [] q2 (k + 40) (n + 5000)) : AW f (lX z dM v vd) 969 (lawL z sa i) [] (dX, t) k n := by
  have hX : isX (lX z dM v vd) := lX_is hO.1 dM v vd
  have hl := (hO.C dM v vd).tr
  unfold ob_12 at h
  refine a_aload_n (pc := 969) (hO.C _ _ _) dL_law_969 rfl ?_
  refine a_scr (pc := 970) (j := 1) hO rfl rfl rfl hi1 dL_law_970 dL_law_971 dL_law_973 dL_law_974 dL_law_975 ?_
  refine a_scr (pc := 976) (j := 2) hO rfl rfl rfl hi2 dL_law_976 dL_law_977 dL_law_979 dL_law_980 dL_law_981 ?_
  refine a_aload_n (pc := 982) (hO.C _ _ _) dL_law_982 rfl ?_
  refine l_helper (pc := 983) hO sw_L_singerOf tw_818 ⟨(Nat.le_of_ble_eq_true rfl), (Nat.le_of_ble_eq_true rfl), by omega, by omega⟩ dL_law_983 (t_L_singerOf hO.1 hl dM v vd _ _ (dX, t) (lPo (w_X10_singerOf (xs (i + 1).toNatClampNeg) (xs (i + 2).toNatClampNeg) (dM, [])) K) h) rfl rfl rfl (Nat.le_of_ble_eq_true rfl) (fun r u h => ?_)
  obtain ⟨v1, vd1, dX1, t1⟩ := u
  refine a_istore (pc := 986) (hO.C _ _ _) dL_law_986 (Nat.le_of_ble_eq_true rfl) ?_
  refine a_aload_n (pc := 988) (hO.C _ _ _) dL_law_988 rfl ?_
  refine a_scr (pc := 989) (j := 1) hO rfl rfl rfl hi1 dL_law_989 dL_law_990 dL_law_992 dL_law_993 dL_law_994 ?_
  refine a_scr (pc := 995) (j := 2) hO rfl rfl rfl hi2 dL_law_995 dL_law_996 dL_law_998 dL_law_999 dL_law_1000 ?_
  refine l_model (pc := 1001) hO vm_X10_singerOf tw_1764 ⟨(Nat.le_of_ble_eq_true rfl), (Nat.le_of_ble_eq_true rfl), by omega, by omega⟩ dL_law_1001 (t_X10_singerOf (lM_is hO.1 _ _ _ _) hl _ _ _ _ h) rfl rfl rfl (Nat.le_of_ble_eq_true rfl) (fun b qm h => ?_)
  obtain ⟨dM1, tm⟩ := qm
  refine a_istore (pc := 1004) (hO.C _ _ _) dL_law_1004 (Nat.le_of_ble_eq_true rfl) ?_
  refine a_aload_n (pc := 1006) (hO.C _ _ _) dL_law_1006 rfl ?_
  refine l_model (pc := 1007) hO vm_X10_thrown tw_1574 ⟨(Nat.le_of_ble_eq_true rfl), (Nat.le_of_ble_eq_true rfl), by omega, by omega⟩ dL_law_1007 (t_X10_thrown (lM_is hO.1 _ _ _ _) hl _ _ h) rfl rfl rfl (Nat.le_of_ble_eq_true rfl) (fun th qm h => ?_)
  obtain ⟨dM2, tm2⟩ := qm
  obtain ⟨he, hv, h⟩ := h
  refine l_chk (pc := 1010) (hO.C _ _ _) he rfl dL_law_1010 dL_law_1012 ?_
  exact l_fin (pc := 1017) hO rfl rfl rfl hv dL_law_1017 dL_law_1019 dL_law_1022 dL_law_1023 dL_law_1024 dL_law_1025 dL_law_1027 dL_law_1028 dL_law_1029 dL_law_1034 (by decide) (((kk _ _ _ _ h).forget (lawL_sub _ _ _ _ _ _)).widen (by omega) (by omega))
def ob_13 (v : Nat → Int64) (vd : Nat → UInt64) (p1 p2 p3 : Int32) (q qm : aS) (K : aS → aS → Prop) : Prop := w_X9_tones p1 q (fun r q2 => lPo (w_X10_tones p1 qm) K 0 (vp_updL v 0 (r.toInt64), vd, q2)) (fun E q2 => (E = "java/lang/IndexOutOfBoundsException" ∧ lPo (w_X10_tones p1 qm) K 1 (v, vd, q2)) ∨ (E = "java/util/NoSuchElementException" ∧ lPo (w_X10_tones p1 qm) K 2 (v, vd, q2)))
set_option maxRecDepth 20000 in
theorem lc_13 {f : aF} {z : lP} {sa N : Nat} {xs : Nat → Int32} (hO : lawOK f z sa N xs) {i : Int32} (hi1 : vp_in (i + 1) N) (hi2 : vp_in (i + 2) N) (hi3 : vp_in (i + 3) N) {dX dM : Nat → Nat → Int32} {t : List Nat} {v : Nat → Int64} {vd : Nat → UInt64} {k n : Nat} {K : aS → aS → Prop} (hk : k + 40 ≤ 603072) (hn : n + 5000 ≤ 7202922)
    (h : ob_13 v vd (xs (i + 1).toNatClampNeg) (xs (i + 2).toNatClampNeg) (xs (i + 3).toNatClampNeg) (dX, t) (dM, []) K) (kk : ∀ (v1 : Nat → Int64) (vd1 : Nat → UInt64) (q2 qm : aS), K q2 qm → AW f (lX z qm.1 v1 vd1) 2663 (lawL z sa i) [] q2 (k + 40) (n + 5000)) : AW f (lX z dM v vd) 1037 (lawL z sa i) [] (dX, t) k n := by
  have hX : isX (lX z dM v vd) := lX_is hO.1 dM v vd
  have hl := (hO.C dM v vd).tr
  unfold ob_13 at h
  refine a_aload_n (pc := 1037) (hO.C _ _ _) dL_law_1037 rfl ?_
  refine a_scr (pc := 1038) (j := 1) hO rfl rfl rfl hi1 dL_law_1038 dL_law_1039 dL_law_1041 dL_law_1042 dL_law_1043 ?_
  refine a_aload_n (pc := 1044) (hO.C _ _ _) dL_law_1044 rfl ?_
  refine l_helper (pc := 1045) hO sw_L_tones tw_836 ⟨(Nat.le_of_ble_eq_true rfl), (Nat.le_of_ble_eq_true rfl), by omega, by omega⟩ dL_law_1045 (t_L_tones hO.1 hl dM v vd _ (dX, t) (lPo (w_X10_tones (xs (i + 1).toNatClampNeg) (dM, [])) K) h) rfl rfl rfl (Nat.le_of_ble_eq_true rfl) (fun r u h => ?_)
  obtain ⟨v1, vd1, dX1, t1⟩ := u
  refine a_istore (pc := 1048) (hO.C _ _ _) dL_law_1048 (Nat.le_of_ble_eq_true rfl) ?_
  refine a_aload_n (pc := 1050) (hO.C _ _ _) dL_law_1050 rfl ?_
  refine a_scr (pc := 1051) (j := 1) hO rfl rfl rfl hi1 dL_law_1051 dL_law_1052 dL_law_1054 dL_law_1055 dL_law_1056 ?_
  refine l_model (pc := 1057) hO vm_X10_tones tw_1772 ⟨(Nat.le_of_ble_eq_true rfl), (Nat.le_of_ble_eq_true rfl), by omega, by omega⟩ dL_law_1057 (t_X10_tones (lM_is hO.1 _ _ _ _) hl _ _ _ h) rfl rfl rfl (Nat.le_of_ble_eq_true rfl) (fun b qm h => ?_)
  obtain ⟨dM1, tm⟩ := qm
  refine a_istore (pc := 1060) (hO.C _ _ _) dL_law_1060 (Nat.le_of_ble_eq_true rfl) ?_
  refine a_aload_n (pc := 1062) (hO.C _ _ _) dL_law_1062 rfl ?_
  refine l_model (pc := 1063) hO vm_X10_thrown tw_1574 ⟨(Nat.le_of_ble_eq_true rfl), (Nat.le_of_ble_eq_true rfl), by omega, by omega⟩ dL_law_1063 (t_X10_thrown (lM_is hO.1 _ _ _ _) hl _ _ h) rfl rfl rfl (Nat.le_of_ble_eq_true rfl) (fun th qm h => ?_)
  obtain ⟨dM2, tm2⟩ := qm
  obtain ⟨he, hv, h⟩ := h
  refine l_chk (pc := 1066) (hO.C _ _ _) he rfl dL_law_1066 dL_law_1068 ?_
  exact l_fin (pc := 1073) hO rfl rfl rfl hv dL_law_1073 dL_law_1075 dL_law_1078 dL_law_1079 dL_law_1080 dL_law_1081 dL_law_1083 dL_law_1084 dL_law_1085 dL_law_1090 (by decide) (((kk _ _ _ _ h).forget (lawL_sub _ _ _ _ _ _)).widen (by omega) (by omega))
def ob_14 (v : Nat → Int64) (vd : Nat → UInt64) (p1 p2 p3 : Int32) (q qm : aS) (K : aS → aS → Prop) : Prop := w_X9_tonesAgain p1 q (fun r q2 => lPo (w_X10_tonesAgain p1 qm) K 0 (vp_updL v 0 (r.toInt64), vd, q2)) (fun E q2 => (E = "java/lang/IndexOutOfBoundsException" ∧ lPo (w_X10_tonesAgain p1 qm) K 1 (v, vd, q2)) ∨ (E = "java/util/NoSuchElementException" ∧ lPo (w_X10_tonesAgain p1 qm) K 2 (v, vd, q2)))
set_option maxRecDepth 20000 in
theorem lc_14 {f : aF} {z : lP} {sa N : Nat} {xs : Nat → Int32} (hO : lawOK f z sa N xs) {i : Int32} (hi1 : vp_in (i + 1) N) (hi2 : vp_in (i + 2) N) (hi3 : vp_in (i + 3) N) {dX dM : Nat → Nat → Int32} {t : List Nat} {v : Nat → Int64} {vd : Nat → UInt64} {k n : Nat} {K : aS → aS → Prop} (hk : k + 40 ≤ 603072) (hn : n + 5000 ≤ 7202922)
    (h : ob_14 v vd (xs (i + 1).toNatClampNeg) (xs (i + 2).toNatClampNeg) (xs (i + 3).toNatClampNeg) (dX, t) (dM, []) K) (kk : ∀ (v1 : Nat → Int64) (vd1 : Nat → UInt64) (q2 qm : aS), K q2 qm → AW f (lX z qm.1 v1 vd1) 2663 (lawL z sa i) [] q2 (k + 40) (n + 5000)) : AW f (lX z dM v vd) 1093 (lawL z sa i) [] (dX, t) k n := by
  have hX : isX (lX z dM v vd) := lX_is hO.1 dM v vd
  have hl := (hO.C dM v vd).tr
  unfold ob_14 at h
  refine a_aload_n (pc := 1093) (hO.C _ _ _) dL_law_1093 rfl ?_
  refine a_scr (pc := 1094) (j := 1) hO rfl rfl rfl hi1 dL_law_1094 dL_law_1095 dL_law_1097 dL_law_1098 dL_law_1099 ?_
  refine a_aload_n (pc := 1100) (hO.C _ _ _) dL_law_1100 rfl ?_
  refine l_helper (pc := 1101) hO sw_L_tonesAgain tw_864 ⟨(Nat.le_of_ble_eq_true rfl), (Nat.le_of_ble_eq_true rfl), by omega, by omega⟩ dL_law_1101 (t_L_tonesAgain hO.1 hl dM v vd _ (dX, t) (lPo (w_X10_tonesAgain (xs (i + 1).toNatClampNeg) (dM, [])) K) h) rfl rfl rfl (Nat.le_of_ble_eq_true rfl) (fun r u h => ?_)
  obtain ⟨v1, vd1, dX1, t1⟩ := u
  refine a_istore (pc := 1104) (hO.C _ _ _) dL_law_1104 (Nat.le_of_ble_eq_true rfl) ?_
  refine a_aload_n (pc := 1106) (hO.C _ _ _) dL_law_1106 rfl ?_
  refine a_scr (pc := 1107) (j := 1) hO rfl rfl rfl hi1 dL_law_1107 dL_law_1108 dL_law_1110 dL_law_1111 dL_law_1112 ?_
  refine l_model (pc := 1113) hO vm_X10_tonesAgain tw_1788 ⟨(Nat.le_of_ble_eq_true rfl), (Nat.le_of_ble_eq_true rfl), by omega, by omega⟩ dL_law_1113 (t_X10_tonesAgain (lM_is hO.1 _ _ _ _) hl _ _ _ h) rfl rfl rfl (Nat.le_of_ble_eq_true rfl) (fun b qm h => ?_)
  obtain ⟨dM1, tm⟩ := qm
  refine a_istore (pc := 1116) (hO.C _ _ _) dL_law_1116 (Nat.le_of_ble_eq_true rfl) ?_
  refine a_aload_n (pc := 1118) (hO.C _ _ _) dL_law_1118 rfl ?_
  refine l_model (pc := 1119) hO vm_X10_thrown tw_1574 ⟨(Nat.le_of_ble_eq_true rfl), (Nat.le_of_ble_eq_true rfl), by omega, by omega⟩ dL_law_1119 (t_X10_thrown (lM_is hO.1 _ _ _ _) hl _ _ h) rfl rfl rfl (Nat.le_of_ble_eq_true rfl) (fun th qm h => ?_)
  obtain ⟨dM2, tm2⟩ := qm
  obtain ⟨he, hv, h⟩ := h
  refine l_chk (pc := 1122) (hO.C _ _ _) he rfl dL_law_1122 dL_law_1124 ?_
  exact l_fin (pc := 1129) hO rfl rfl rfl hv dL_law_1129 dL_law_1131 dL_law_1134 dL_law_1135 dL_law_1136 dL_law_1137 dL_law_1139 dL_law_1140 dL_law_1141 dL_law_1146 (by decide) (((kk _ _ _ _ h).forget (lawL_sub _ _ _ _ _ _)).widen (by omega) (by omega))
def ob_15 (v : Nat → Int64) (vd : Nat → UInt64) (p1 p2 p3 : Int32) (q qm : aS) (K : aS → aS → Prop) : Prop := w_X9_verses p1 q (fun r q2 => lPo (w_X10_verses p1 qm) K 0 (vp_updL v 0 (r.toInt64), vd, q2)) (fun E q2 => (E = "java/lang/IndexOutOfBoundsException" ∧ lPo (w_X10_verses p1 qm) K 1 (v, vd, q2)) ∨ (E = "java/util/NoSuchElementException" ∧ lPo (w_X10_verses p1 qm) K 2 (v, vd, q2)))
set_option maxRecDepth 20000 in
theorem lc_15 {f : aF} {z : lP} {sa N : Nat} {xs : Nat → Int32} (hO : lawOK f z sa N xs) {i : Int32} (hi1 : vp_in (i + 1) N) (hi2 : vp_in (i + 2) N) (hi3 : vp_in (i + 3) N) {dX dM : Nat → Nat → Int32} {t : List Nat} {v : Nat → Int64} {vd : Nat → UInt64} {k n : Nat} {K : aS → aS → Prop} (hk : k + 40 ≤ 603072) (hn : n + 5000 ≤ 7202922)
    (h : ob_15 v vd (xs (i + 1).toNatClampNeg) (xs (i + 2).toNatClampNeg) (xs (i + 3).toNatClampNeg) (dX, t) (dM, []) K) (kk : ∀ (v1 : Nat → Int64) (vd1 : Nat → UInt64) (q2 qm : aS), K q2 qm → AW f (lX z qm.1 v1 vd1) 2663 (lawL z sa i) [] q2 (k + 40) (n + 5000)) : AW f (lX z dM v vd) 1149 (lawL z sa i) [] (dX, t) k n := by
  have hX : isX (lX z dM v vd) := lX_is hO.1 dM v vd
  have hl := (hO.C dM v vd).tr
  unfold ob_15 at h
  refine a_aload_n (pc := 1149) (hO.C _ _ _) dL_law_1149 rfl ?_
  refine a_scr (pc := 1150) (j := 1) hO rfl rfl rfl hi1 dL_law_1150 dL_law_1151 dL_law_1153 dL_law_1154 dL_law_1155 ?_
  refine a_aload_n (pc := 1156) (hO.C _ _ _) dL_law_1156 rfl ?_
  refine l_helper (pc := 1157) hO sw_L_verses tw_871 ⟨(Nat.le_of_ble_eq_true rfl), (Nat.le_of_ble_eq_true rfl), by omega, by omega⟩ dL_law_1157 (t_L_verses hO.1 hl dM v vd _ (dX, t) (lPo (w_X10_verses (xs (i + 1).toNatClampNeg) (dM, [])) K) h) rfl rfl rfl (Nat.le_of_ble_eq_true rfl) (fun r u h => ?_)
  obtain ⟨v1, vd1, dX1, t1⟩ := u
  refine a_istore (pc := 1160) (hO.C _ _ _) dL_law_1160 (Nat.le_of_ble_eq_true rfl) ?_
  refine a_aload_n (pc := 1162) (hO.C _ _ _) dL_law_1162 rfl ?_
  refine a_scr (pc := 1163) (j := 1) hO rfl rfl rfl hi1 dL_law_1163 dL_law_1164 dL_law_1166 dL_law_1167 dL_law_1168 ?_
  refine l_model (pc := 1169) hO vm_X10_verses tw_1792 ⟨(Nat.le_of_ble_eq_true rfl), (Nat.le_of_ble_eq_true rfl), by omega, by omega⟩ dL_law_1169 (t_X10_verses (lM_is hO.1 _ _ _ _) hl _ _ _ h) rfl rfl rfl (Nat.le_of_ble_eq_true rfl) (fun b qm h => ?_)
  obtain ⟨dM1, tm⟩ := qm
  refine a_istore (pc := 1172) (hO.C _ _ _) dL_law_1172 (Nat.le_of_ble_eq_true rfl) ?_
  refine a_aload_n (pc := 1174) (hO.C _ _ _) dL_law_1174 rfl ?_
  refine l_model (pc := 1175) hO vm_X10_thrown tw_1574 ⟨(Nat.le_of_ble_eq_true rfl), (Nat.le_of_ble_eq_true rfl), by omega, by omega⟩ dL_law_1175 (t_X10_thrown (lM_is hO.1 _ _ _ _) hl _ _ h) rfl rfl rfl (Nat.le_of_ble_eq_true rfl) (fun th qm h => ?_)
  obtain ⟨dM2, tm2⟩ := qm
  obtain ⟨he, hv, h⟩ := h
  refine l_chk (pc := 1178) (hO.C _ _ _) he rfl dL_law_1178 dL_law_1180 ?_
  exact l_fin (pc := 1185) hO rfl rfl rfl hv dL_law_1185 dL_law_1187 dL_law_1190 dL_law_1191 dL_law_1192 dL_law_1193 dL_law_1195 dL_law_1196 dL_law_1197 dL_law_1202 (by decide) (((kk _ _ _ _ h).forget (lawL_sub _ _ _ _ _ _)).widen (by omega) (by omega))
def ob_16 (v : Nat → Int64) (vd : Nat → UInt64) (p1 p2 p3 : Int32) (q qm : aS) (K : aS → aS → Prop) : Prop := w_X9_versesAgain p1 q (fun r q2 => lPo (w_X10_versesAgain p1 qm) K 0 (vp_updL v 0 (r.toInt64), vd, q2)) (fun E q2 => (E = "java/lang/IndexOutOfBoundsException" ∧ lPo (w_X10_versesAgain p1 qm) K 1 (v, vd, q2)) ∨ (E = "java/util/NoSuchElementException" ∧ lPo (w_X10_versesAgain p1 qm) K 2 (v, vd, q2)))
set_option maxRecDepth 20000 in
theorem lc_16 {f : aF} {z : lP} {sa N : Nat} {xs : Nat → Int32} (hO : lawOK f z sa N xs) {i : Int32} (hi1 : vp_in (i + 1) N) (hi2 : vp_in (i + 2) N) (hi3 : vp_in (i + 3) N) {dX dM : Nat → Nat → Int32} {t : List Nat} {v : Nat → Int64} {vd : Nat → UInt64} {k n : Nat} {K : aS → aS → Prop} (hk : k + 40 ≤ 603072) (hn : n + 5000 ≤ 7202922)
    (h : ob_16 v vd (xs (i + 1).toNatClampNeg) (xs (i + 2).toNatClampNeg) (xs (i + 3).toNatClampNeg) (dX, t) (dM, []) K) (kk : ∀ (v1 : Nat → Int64) (vd1 : Nat → UInt64) (q2 qm : aS), K q2 qm → AW f (lX z qm.1 v1 vd1) 2663 (lawL z sa i) [] q2 (k + 40) (n + 5000)) : AW f (lX z dM v vd) 1205 (lawL z sa i) [] (dX, t) k n := by
  have hX : isX (lX z dM v vd) := lX_is hO.1 dM v vd
  have hl := (hO.C dM v vd).tr
  unfold ob_16 at h
  refine a_aload_n (pc := 1205) (hO.C _ _ _) dL_law_1205 rfl ?_
  refine a_scr (pc := 1206) (j := 1) hO rfl rfl rfl hi1 dL_law_1206 dL_law_1207 dL_law_1209 dL_law_1210 dL_law_1211 ?_
  refine a_aload_n (pc := 1212) (hO.C _ _ _) dL_law_1212 rfl ?_
  refine l_helper (pc := 1213) hO sw_L_versesAgain tw_878 ⟨(Nat.le_of_ble_eq_true rfl), (Nat.le_of_ble_eq_true rfl), by omega, by omega⟩ dL_law_1213 (t_L_versesAgain hO.1 hl dM v vd _ (dX, t) (lPo (w_X10_versesAgain (xs (i + 1).toNatClampNeg) (dM, [])) K) h) rfl rfl rfl (Nat.le_of_ble_eq_true rfl) (fun r u h => ?_)
  obtain ⟨v1, vd1, dX1, t1⟩ := u
  refine a_istore (pc := 1216) (hO.C _ _ _) dL_law_1216 (Nat.le_of_ble_eq_true rfl) ?_
  refine a_aload_n (pc := 1218) (hO.C _ _ _) dL_law_1218 rfl ?_
  refine a_scr (pc := 1219) (j := 1) hO rfl rfl rfl hi1 dL_law_1219 dL_law_1220 dL_law_1222 dL_law_1223 dL_law_1224 ?_
  refine l_model (pc := 1225) hO vm_X10_versesAgain tw_1800 ⟨(Nat.le_of_ble_eq_true rfl), (Nat.le_of_ble_eq_true rfl), by omega, by omega⟩ dL_law_1225 (t_X10_versesAgain (lM_is hO.1 _ _ _ _) hl _ _ _ h) rfl rfl rfl (Nat.le_of_ble_eq_true rfl) (fun b qm h => ?_)
  obtain ⟨dM1, tm⟩ := qm
  refine a_istore (pc := 1228) (hO.C _ _ _) dL_law_1228 (Nat.le_of_ble_eq_true rfl) ?_
  refine a_aload_n (pc := 1230) (hO.C _ _ _) dL_law_1230 rfl ?_
  refine l_model (pc := 1231) hO vm_X10_thrown tw_1574 ⟨(Nat.le_of_ble_eq_true rfl), (Nat.le_of_ble_eq_true rfl), by omega, by omega⟩ dL_law_1231 (t_X10_thrown (lM_is hO.1 _ _ _ _) hl _ _ h) rfl rfl rfl (Nat.le_of_ble_eq_true rfl) (fun th qm h => ?_)
  obtain ⟨dM2, tm2⟩ := qm
  obtain ⟨he, hv, h⟩ := h
  refine l_chk (pc := 1234) (hO.C _ _ _) he rfl dL_law_1234 dL_law_1236 ?_
  exact l_fin (pc := 1241) hO rfl rfl rfl hv dL_law_1241 dL_law_1243 dL_law_1246 dL_law_1247 dL_law_1248 dL_law_1249 dL_law_1251 dL_law_1252 dL_law_1253 dL_law_1258 (by decide) (((kk _ _ _ _ h).forget (lawL_sub _ _ _ _ _ _)).widen (by omega) (by omega))
def ob_17 (v : Nat → Int64) (vd : Nat → UInt64) (p1 p2 p3 : Int32) (q qm : aS) (K : aS → aS → Prop) : Prop := w_X9_would p1 p2 q (fun r q2 => lPo (w_X10_would p1 p2 qm) K 0 (vp_updL v 0 (r.toInt64), vd, q2)) (fun E q2 => (E = "java/lang/IndexOutOfBoundsException" ∧ lPo (w_X10_would p1 p2 qm) K 1 (v, vd, q2)))
set_option maxRecDepth 20000 in
theorem lc_17 {f : aF} {z : lP} {sa N : Nat} {xs : Nat → Int32} (hO : lawOK f z sa N xs) {i : Int32} (hi1 : vp_in (i + 1) N) (hi2 : vp_in (i + 2) N) (hi3 : vp_in (i + 3) N) {dX dM : Nat → Nat → Int32} {t : List Nat} {v : Nat → Int64} {vd : Nat → UInt64} {k n : Nat} {K : aS → aS → Prop} (hk : k + 40 ≤ 603072) (hn : n + 5000 ≤ 7202922)
    (h : ob_17 v vd (xs (i + 1).toNatClampNeg) (xs (i + 2).toNatClampNeg) (xs (i + 3).toNatClampNeg) (dX, t) (dM, []) K) (kk : ∀ (v1 : Nat → Int64) (vd1 : Nat → UInt64) (q2 qm : aS), K q2 qm → AW f (lX z qm.1 v1 vd1) 2663 (lawL z sa i) [] q2 (k + 40) (n + 5000)) : AW f (lX z dM v vd) 1261 (lawL z sa i) [] (dX, t) k n := by
  have hX : isX (lX z dM v vd) := lX_is hO.1 dM v vd
  have hl := (hO.C dM v vd).tr
  unfold ob_17 at h
  refine a_aload_n (pc := 1261) (hO.C _ _ _) dL_law_1261 rfl ?_
  refine a_scr (pc := 1262) (j := 1) hO rfl rfl rfl hi1 dL_law_1262 dL_law_1263 dL_law_1265 dL_law_1266 dL_law_1267 ?_
  refine a_scr (pc := 1268) (j := 2) hO rfl rfl rfl hi2 dL_law_1268 dL_law_1269 dL_law_1271 dL_law_1272 dL_law_1273 ?_
  refine a_aload_n (pc := 1274) (hO.C _ _ _) dL_law_1274 rfl ?_
  refine l_helper (pc := 1275) hO sw_L_would tw_885 ⟨(Nat.le_of_ble_eq_true rfl), (Nat.le_of_ble_eq_true rfl), by omega, by omega⟩ dL_law_1275 (t_L_would hO.1 hl dM v vd _ _ (dX, t) (lPo (w_X10_would (xs (i + 1).toNatClampNeg) (xs (i + 2).toNatClampNeg) (dM, [])) K) h) rfl rfl rfl (Nat.le_of_ble_eq_true rfl) (fun r u h => ?_)
  obtain ⟨v1, vd1, dX1, t1⟩ := u
  refine a_istore (pc := 1278) (hO.C _ _ _) dL_law_1278 (Nat.le_of_ble_eq_true rfl) ?_
  refine a_aload_n (pc := 1280) (hO.C _ _ _) dL_law_1280 rfl ?_
  refine a_scr (pc := 1281) (j := 1) hO rfl rfl rfl hi1 dL_law_1281 dL_law_1282 dL_law_1284 dL_law_1285 dL_law_1286 ?_
  refine a_scr (pc := 1287) (j := 2) hO rfl rfl rfl hi2 dL_law_1287 dL_law_1288 dL_law_1290 dL_law_1291 dL_law_1292 ?_
  refine l_model (pc := 1293) hO vm_X10_would tw_1804 ⟨(Nat.le_of_ble_eq_true rfl), (Nat.le_of_ble_eq_true rfl), by omega, by omega⟩ dL_law_1293 (t_X10_would (lM_is hO.1 _ _ _ _) hl _ _ _ _ h) rfl rfl rfl (Nat.le_of_ble_eq_true rfl) (fun b qm h => ?_)
  obtain ⟨dM1, tm⟩ := qm
  refine a_istore (pc := 1296) (hO.C _ _ _) dL_law_1296 (Nat.le_of_ble_eq_true rfl) ?_
  refine a_aload_n (pc := 1298) (hO.C _ _ _) dL_law_1298 rfl ?_
  refine l_model (pc := 1299) hO vm_X10_thrown tw_1574 ⟨(Nat.le_of_ble_eq_true rfl), (Nat.le_of_ble_eq_true rfl), by omega, by omega⟩ dL_law_1299 (t_X10_thrown (lM_is hO.1 _ _ _ _) hl _ _ h) rfl rfl rfl (Nat.le_of_ble_eq_true rfl) (fun th qm h => ?_)
  obtain ⟨dM2, tm2⟩ := qm
  obtain ⟨he, hv, h⟩ := h
  refine l_chk (pc := 1302) (hO.C _ _ _) he rfl dL_law_1302 dL_law_1304 ?_
  exact l_fin (pc := 1309) hO rfl rfl rfl hv dL_law_1309 dL_law_1311 dL_law_1314 dL_law_1315 dL_law_1316 dL_law_1317 dL_law_1319 dL_law_1320 dL_law_1321 dL_law_1326 (by decide) (((kk _ _ _ _ h).forget (lawL_sub _ _ _ _ _ _)).widen (by omega) (by omega))
def ob_18 (v : Nat → Int64) (vd : Nat → UInt64) (p1 p2 p3 : Int32) (q qm : aS) (K : aS → aS → Prop) : Prop := w_X9_bestRoom p1 q (fun r q2 => lPo (w_X10_bestRoom p1 qm) K 0 (vp_updL v 0 (r.toInt64), vd, q2)) (fun E q2 => (E = "java/lang/IndexOutOfBoundsException" ∧ lPo (w_X10_bestRoom p1 qm) K 1 (v, vd, q2)) ∨ (E = "java/util/NoSuchElementException" ∧ lPo (w_X10_bestRoom p1 qm) K 2 (v, vd, q2)))
set_option maxRecDepth 20000 in
theorem lc_18 {f : aF} {z : lP} {sa N : Nat} {xs : Nat → Int32} (hO : lawOK f z sa N xs) {i : Int32} (hi1 : vp_in (i + 1) N) (hi2 : vp_in (i + 2) N) (hi3 : vp_in (i + 3) N) {dX dM : Nat → Nat → Int32} {t : List Nat} {v : Nat → Int64} {vd : Nat → UInt64} {k n : Nat} {K : aS → aS → Prop} (hk : k + 40 ≤ 603072) (hn : n + 5000 ≤ 7202922)
    (h : ob_18 v vd (xs (i + 1).toNatClampNeg) (xs (i + 2).toNatClampNeg) (xs (i + 3).toNatClampNeg) (dX, t) (dM, []) K) (kk : ∀ (v1 : Nat → Int64) (vd1 : Nat → UInt64) (q2 qm : aS), K q2 qm → AW f (lX z qm.1 v1 vd1) 2663 (lawL z sa i) [] q2 (k + 40) (n + 5000)) : AW f (lX z dM v vd) 1329 (lawL z sa i) [] (dX, t) k n := by
  have hX : isX (lX z dM v vd) := lX_is hO.1 dM v vd
  have hl := (hO.C dM v vd).tr
  unfold ob_18 at h
  refine a_aload_n (pc := 1329) (hO.C _ _ _) dL_law_1329 rfl ?_
  refine a_scr (pc := 1330) (j := 1) hO rfl rfl rfl hi1 dL_law_1330 dL_law_1331 dL_law_1333 dL_law_1334 dL_law_1335 ?_
  refine a_aload_n (pc := 1336) (hO.C _ _ _) dL_law_1336 rfl ?_
  refine l_helper (pc := 1337) hO sw_L_bestRoom tw_892 ⟨(Nat.le_of_ble_eq_true rfl), (Nat.le_of_ble_eq_true rfl), by omega, by omega⟩ dL_law_1337 (t_L_bestRoom hO.1 hl dM v vd _ (dX, t) (lPo (w_X10_bestRoom (xs (i + 1).toNatClampNeg) (dM, [])) K) h) rfl rfl rfl (Nat.le_of_ble_eq_true rfl) (fun r u h => ?_)
  obtain ⟨v1, vd1, dX1, t1⟩ := u
  refine a_istore (pc := 1340) (hO.C _ _ _) dL_law_1340 (Nat.le_of_ble_eq_true rfl) ?_
  refine a_aload_n (pc := 1342) (hO.C _ _ _) dL_law_1342 rfl ?_
  refine a_scr (pc := 1343) (j := 1) hO rfl rfl rfl hi1 dL_law_1343 dL_law_1344 dL_law_1346 dL_law_1347 dL_law_1348 ?_
  refine l_model (pc := 1349) hO vm_X10_bestRoom tw_1808 ⟨(Nat.le_of_ble_eq_true rfl), (Nat.le_of_ble_eq_true rfl), by omega, by omega⟩ dL_law_1349 (t_X10_bestRoom (lM_is hO.1 _ _ _ _) hl _ _ _ h) rfl rfl rfl (Nat.le_of_ble_eq_true rfl) (fun b qm h => ?_)
  obtain ⟨dM1, tm⟩ := qm
  refine a_istore (pc := 1352) (hO.C _ _ _) dL_law_1352 (Nat.le_of_ble_eq_true rfl) ?_
  refine a_aload_n (pc := 1354) (hO.C _ _ _) dL_law_1354 rfl ?_
  refine l_model (pc := 1355) hO vm_X10_thrown tw_1574 ⟨(Nat.le_of_ble_eq_true rfl), (Nat.le_of_ble_eq_true rfl), by omega, by omega⟩ dL_law_1355 (t_X10_thrown (lM_is hO.1 _ _ _ _) hl _ _ h) rfl rfl rfl (Nat.le_of_ble_eq_true rfl) (fun th qm h => ?_)
  obtain ⟨dM2, tm2⟩ := qm
  obtain ⟨he, hv, h⟩ := h
  refine l_chk (pc := 1358) (hO.C _ _ _) he rfl dL_law_1358 dL_law_1360 ?_
  exact l_fin (pc := 1365) hO rfl rfl rfl hv dL_law_1365 dL_law_1367 dL_law_1370 dL_law_1371 dL_law_1372 dL_law_1373 dL_law_1375 dL_law_1376 dL_law_1377 dL_law_1382 (by decide) (((kk _ _ _ _ h).forget (lawL_sub _ _ _ _ _ _)).widen (by omega) (by omega))
def ob_19 (v : Nat → Int64) (vd : Nat → UInt64) (p1 p2 p3 : Int32) (q qm : aS) (K : aS → aS → Prop) : Prop := w_X9_canEnter p1 p2 q (fun r q2 => lPob (w_X10_canEnter p1 p2 qm) K 0 (vp_updL v 0 (bL r), vd, q2)) (fun E q2 => (E = "java/lang/IndexOutOfBoundsException" ∧ lPob (w_X10_canEnter p1 p2 qm) K 1 (v, vd, q2)))
set_option maxRecDepth 20000 in
theorem lc_19 {f : aF} {z : lP} {sa N : Nat} {xs : Nat → Int32} (hO : lawOK f z sa N xs) {i : Int32} (hi1 : vp_in (i + 1) N) (hi2 : vp_in (i + 2) N) (hi3 : vp_in (i + 3) N) {dX dM : Nat → Nat → Int32} {t : List Nat} {v : Nat → Int64} {vd : Nat → UInt64} {k n : Nat} {K : aS → aS → Prop} (hk : k + 40 ≤ 603072) (hn : n + 5000 ≤ 7202922)
    (h : ob_19 v vd (xs (i + 1).toNatClampNeg) (xs (i + 2).toNatClampNeg) (xs (i + 3).toNatClampNeg) (dX, t) (dM, []) K) (kk : ∀ (v1 : Nat → Int64) (vd1 : Nat → UInt64) (q2 qm : aS), K q2 qm → AW f (lX z qm.1 v1 vd1) 2663 (lawL z sa i) [] q2 (k + 40) (n + 5000)) : AW f (lX z dM v vd) 1385 (lawL z sa i) [] (dX, t) k n := by
  have hX : isX (lX z dM v vd) := lX_is hO.1 dM v vd
  have hl := (hO.C dM v vd).tr
  unfold ob_19 at h
  refine a_aload_n (pc := 1385) (hO.C _ _ _) dL_law_1385 rfl ?_
  refine a_scr (pc := 1386) (j := 1) hO rfl rfl rfl hi1 dL_law_1386 dL_law_1387 dL_law_1389 dL_law_1390 dL_law_1391 ?_
  refine a_scr (pc := 1392) (j := 2) hO rfl rfl rfl hi2 dL_law_1392 dL_law_1393 dL_law_1395 dL_law_1396 dL_law_1397 ?_
  refine a_aload_n (pc := 1398) (hO.C _ _ _) dL_law_1398 rfl ?_
  refine l_helper (pc := 1399) hO sw_L_canEnter tw_900 ⟨(Nat.le_of_ble_eq_true rfl), (Nat.le_of_ble_eq_true rfl), by omega, by omega⟩ dL_law_1399 (t_L_canEnter hO.1 hl dM v vd _ _ (dX, t) (lPob (w_X10_canEnter (xs (i + 1).toNatClampNeg) (xs (i + 2).toNatClampNeg) (dM, [])) K) h) rfl rfl rfl (Nat.le_of_ble_eq_true rfl) (fun r u h => ?_)
  obtain ⟨v1, vd1, dX1, t1⟩ := u
  refine a_istore (pc := 1402) (hO.C _ _ _) dL_law_1402 (Nat.le_of_ble_eq_true rfl) ?_
  refine a_aload_n (pc := 1404) (hO.C _ _ _) dL_law_1404 rfl ?_
  refine a_scr (pc := 1405) (j := 1) hO rfl rfl rfl hi1 dL_law_1405 dL_law_1406 dL_law_1408 dL_law_1409 dL_law_1410 ?_
  refine a_scr (pc := 1411) (j := 2) hO rfl rfl rfl hi2 dL_law_1411 dL_law_1412 dL_law_1414 dL_law_1415 dL_law_1416 ?_
  refine l_model (pc := 1417) hO vm_X10_canEnter tw_1812 ⟨(Nat.le_of_ble_eq_true rfl), (Nat.le_of_ble_eq_true rfl), by omega, by omega⟩ dL_law_1417 (t_X10_canEnter (lM_is hO.1 _ _ _ _) hl _ _ _ _ h) rfl rfl rfl (Nat.le_of_ble_eq_true rfl) (fun b qm h => ?_)
  replace h := h.2
  obtain ⟨dM1, tm⟩ := qm
  refine a_istore (pc := 1420) (hO.C _ _ _) dL_law_1420 (Nat.le_of_ble_eq_true rfl) ?_
  refine a_aload_n (pc := 1422) (hO.C _ _ _) dL_law_1422 rfl ?_
  refine l_model (pc := 1423) hO vm_X10_thrown tw_1574 ⟨(Nat.le_of_ble_eq_true rfl), (Nat.le_of_ble_eq_true rfl), by omega, by omega⟩ dL_law_1423 (t_X10_thrown (lM_is hO.1 _ _ _ _) hl _ _ h) rfl rfl rfl (Nat.le_of_ble_eq_true rfl) (fun th qm h => ?_)
  obtain ⟨dM2, tm2⟩ := qm
  obtain ⟨he, hv, h⟩ := h
  refine l_chk (pc := 1426) (hO.C _ _ _) he rfl dL_law_1426 dL_law_1428 ?_
  exact l_finb (pc := 1433) hO rfl rfl rfl hv dL_law_1433 dL_law_1435 dL_law_1438 dL_law_1439 dL_law_1440 dL_law_1441 dL_law_1443 dL_law_1446 dL_law_1447 dL_law_1450 dL_law_1451 dL_law_1452 dL_law_1457 (by decide) (((kk _ _ _ _ h).forget (lawL_sub _ _ _ _ _ _)).widen (by omega) (by omega))
def ob_20 (v : Nat → Int64) (vd : Nat → UInt64) (p1 p2 p3 : Int32) (q qm : aS) (K : aS → aS → Prop) : Prop := w_X9_canRent p1 p2 q (fun r q2 => lPob (w_X10_canRent p1 p2 qm) K 0 (vp_updL v 0 (bL r), vd, q2)) (fun E q2 => (E = "java/lang/IndexOutOfBoundsException" ∧ lPob (w_X10_canRent p1 p2 qm) K 1 (v, vd, q2)))
set_option maxRecDepth 20000 in
theorem lc_20 {f : aF} {z : lP} {sa N : Nat} {xs : Nat → Int32} (hO : lawOK f z sa N xs) {i : Int32} (hi1 : vp_in (i + 1) N) (hi2 : vp_in (i + 2) N) (hi3 : vp_in (i + 3) N) {dX dM : Nat → Nat → Int32} {t : List Nat} {v : Nat → Int64} {vd : Nat → UInt64} {k n : Nat} {K : aS → aS → Prop} (hk : k + 40 ≤ 603072) (hn : n + 5000 ≤ 7202922)
    (h : ob_20 v vd (xs (i + 1).toNatClampNeg) (xs (i + 2).toNatClampNeg) (xs (i + 3).toNatClampNeg) (dX, t) (dM, []) K) (kk : ∀ (v1 : Nat → Int64) (vd1 : Nat → UInt64) (q2 qm : aS), K q2 qm → AW f (lX z qm.1 v1 vd1) 2663 (lawL z sa i) [] q2 (k + 40) (n + 5000)) : AW f (lX z dM v vd) 1460 (lawL z sa i) [] (dX, t) k n := by
  have hX : isX (lX z dM v vd) := lX_is hO.1 dM v vd
  have hl := (hO.C dM v vd).tr
  unfold ob_20 at h
  refine a_aload_n (pc := 1460) (hO.C _ _ _) dL_law_1460 rfl ?_
  refine a_scr (pc := 1461) (j := 1) hO rfl rfl rfl hi1 dL_law_1461 dL_law_1462 dL_law_1464 dL_law_1465 dL_law_1466 ?_
  refine a_scr (pc := 1467) (j := 2) hO rfl rfl rfl hi2 dL_law_1467 dL_law_1468 dL_law_1470 dL_law_1471 dL_law_1472 ?_
  refine a_aload_n (pc := 1473) (hO.C _ _ _) dL_law_1473 rfl ?_
  refine l_helper (pc := 1474) hO sw_L_canRent tw_907 ⟨(Nat.le_of_ble_eq_true rfl), (Nat.le_of_ble_eq_true rfl), by omega, by omega⟩ dL_law_1474 (t_L_canRent hO.1 hl dM v vd _ _ (dX, t) (lPob (w_X10_canRent (xs (i + 1).toNatClampNeg) (xs (i + 2).toNatClampNeg) (dM, [])) K) h) rfl rfl rfl (Nat.le_of_ble_eq_true rfl) (fun r u h => ?_)
  obtain ⟨v1, vd1, dX1, t1⟩ := u
  refine a_istore (pc := 1477) (hO.C _ _ _) dL_law_1477 (Nat.le_of_ble_eq_true rfl) ?_
  refine a_aload_n (pc := 1479) (hO.C _ _ _) dL_law_1479 rfl ?_
  refine a_scr (pc := 1480) (j := 1) hO rfl rfl rfl hi1 dL_law_1480 dL_law_1481 dL_law_1483 dL_law_1484 dL_law_1485 ?_
  refine a_scr (pc := 1486) (j := 2) hO rfl rfl rfl hi2 dL_law_1486 dL_law_1487 dL_law_1489 dL_law_1490 dL_law_1491 ?_
  refine l_model (pc := 1492) hO vm_X10_canRent tw_1816 ⟨(Nat.le_of_ble_eq_true rfl), (Nat.le_of_ble_eq_true rfl), by omega, by omega⟩ dL_law_1492 (t_X10_canRent (lM_is hO.1 _ _ _ _) hl _ _ _ _ h) rfl rfl rfl (Nat.le_of_ble_eq_true rfl) (fun b qm h => ?_)
  replace h := h.2
  obtain ⟨dM1, tm⟩ := qm
  refine a_istore (pc := 1495) (hO.C _ _ _) dL_law_1495 (Nat.le_of_ble_eq_true rfl) ?_
  refine a_aload_n (pc := 1497) (hO.C _ _ _) dL_law_1497 rfl ?_
  refine l_model (pc := 1498) hO vm_X10_thrown tw_1574 ⟨(Nat.le_of_ble_eq_true rfl), (Nat.le_of_ble_eq_true rfl), by omega, by omega⟩ dL_law_1498 (t_X10_thrown (lM_is hO.1 _ _ _ _) hl _ _ h) rfl rfl rfl (Nat.le_of_ble_eq_true rfl) (fun th qm h => ?_)
  obtain ⟨dM2, tm2⟩ := qm
  obtain ⟨he, hv, h⟩ := h
  refine l_chk (pc := 1501) (hO.C _ _ _) he rfl dL_law_1501 dL_law_1503 ?_
  exact l_finb (pc := 1508) hO rfl rfl rfl hv dL_law_1508 dL_law_1510 dL_law_1513 dL_law_1514 dL_law_1515 dL_law_1516 dL_law_1518 dL_law_1521 dL_law_1522 dL_law_1525 dL_law_1526 dL_law_1527 dL_law_1532 (by decide) (((kk _ _ _ _ h).forget (lawL_sub _ _ _ _ _ _)).widen (by omega) (by omega))
def ob_21 (v : Nat → Int64) (vd : Nat → UInt64) (p1 p2 p3 : Int32) (q qm : aS) (K : aS → aS → Prop) : Prop := w_X9_backFor p1 q (fun r q2 => lPo (w_X10_backFor p1 qm) K 0 (vp_updL v 0 (r.toInt64), vd, q2)) (fun E q2 => (E = "java/lang/IndexOutOfBoundsException" ∧ lPo (w_X10_backFor p1 qm) K 1 (v, vd, q2)) ∨ (E = "java/util/NoSuchElementException" ∧ lPo (w_X10_backFor p1 qm) K 2 (v, vd, q2)))
set_option maxRecDepth 20000 in
theorem lc_21 {f : aF} {z : lP} {sa N : Nat} {xs : Nat → Int32} (hO : lawOK f z sa N xs) {i : Int32} (hi1 : vp_in (i + 1) N) (hi2 : vp_in (i + 2) N) (hi3 : vp_in (i + 3) N) {dX dM : Nat → Nat → Int32} {t : List Nat} {v : Nat → Int64} {vd : Nat → UInt64} {k n : Nat} {K : aS → aS → Prop} (hk : k + 40 ≤ 603072) (hn : n + 5000 ≤ 7202922)
    (h : ob_21 v vd (xs (i + 1).toNatClampNeg) (xs (i + 2).toNatClampNeg) (xs (i + 3).toNatClampNeg) (dX, t) (dM, []) K) (kk : ∀ (v1 : Nat → Int64) (vd1 : Nat → UInt64) (q2 qm : aS), K q2 qm → AW f (lX z qm.1 v1 vd1) 2663 (lawL z sa i) [] q2 (k + 40) (n + 5000)) : AW f (lX z dM v vd) 1535 (lawL z sa i) [] (dX, t) k n := by
  have hX : isX (lX z dM v vd) := lX_is hO.1 dM v vd
  have hl := (hO.C dM v vd).tr
  unfold ob_21 at h
  refine a_aload_n (pc := 1535) (hO.C _ _ _) dL_law_1535 rfl ?_
  refine a_scr (pc := 1536) (j := 1) hO rfl rfl rfl hi1 dL_law_1536 dL_law_1537 dL_law_1539 dL_law_1540 dL_law_1541 ?_
  refine a_aload_n (pc := 1542) (hO.C _ _ _) dL_law_1542 rfl ?_
  refine l_helper (pc := 1543) hO sw_L_backFor tw_914 ⟨(Nat.le_of_ble_eq_true rfl), (Nat.le_of_ble_eq_true rfl), by omega, by omega⟩ dL_law_1543 (t_L_backFor hO.1 hl dM v vd _ (dX, t) (lPo (w_X10_backFor (xs (i + 1).toNatClampNeg) (dM, [])) K) h) rfl rfl rfl (Nat.le_of_ble_eq_true rfl) (fun r u h => ?_)
  obtain ⟨v1, vd1, dX1, t1⟩ := u
  refine a_istore (pc := 1546) (hO.C _ _ _) dL_law_1546 (Nat.le_of_ble_eq_true rfl) ?_
  refine a_aload_n (pc := 1548) (hO.C _ _ _) dL_law_1548 rfl ?_
  refine a_scr (pc := 1549) (j := 1) hO rfl rfl rfl hi1 dL_law_1549 dL_law_1550 dL_law_1552 dL_law_1553 dL_law_1554 ?_
  refine l_model (pc := 1555) hO vm_X10_backFor tw_1820 ⟨(Nat.le_of_ble_eq_true rfl), (Nat.le_of_ble_eq_true rfl), by omega, by omega⟩ dL_law_1555 (t_X10_backFor (lM_is hO.1 _ _ _ _) hl _ _ _ h) rfl rfl rfl (Nat.le_of_ble_eq_true rfl) (fun b qm h => ?_)
  obtain ⟨dM1, tm⟩ := qm
  refine a_istore (pc := 1558) (hO.C _ _ _) dL_law_1558 (Nat.le_of_ble_eq_true rfl) ?_
  refine a_aload_n (pc := 1560) (hO.C _ _ _) dL_law_1560 rfl ?_
  refine l_model (pc := 1561) hO vm_X10_thrown tw_1574 ⟨(Nat.le_of_ble_eq_true rfl), (Nat.le_of_ble_eq_true rfl), by omega, by omega⟩ dL_law_1561 (t_X10_thrown (lM_is hO.1 _ _ _ _) hl _ _ h) rfl rfl rfl (Nat.le_of_ble_eq_true rfl) (fun th qm h => ?_)
  obtain ⟨dM2, tm2⟩ := qm
  obtain ⟨he, hv, h⟩ := h
  refine l_chk (pc := 1564) (hO.C _ _ _) he rfl dL_law_1564 dL_law_1566 ?_
  exact l_fin (pc := 1571) hO rfl rfl rfl hv dL_law_1571 dL_law_1573 dL_law_1576 dL_law_1577 dL_law_1578 dL_law_1579 dL_law_1581 dL_law_1582 dL_law_1583 dL_law_1588 (by decide) (((kk _ _ _ _ h).forget (lawL_sub _ _ _ _ _ _)).widen (by omega) (by omega))
def ob_22 (v : Nat → Int64) (vd : Nat → UInt64) (p1 p2 p3 : Int32) (q qm : aS) (K : aS → aS → Prop) : Prop := w_X9_others p1 q (fun r q2 => lPo (w_X10_others p1 qm) K 0 (vp_updL v 0 (r.toInt64), vd, q2)) (fun E q2 => (E = "java/lang/IndexOutOfBoundsException" ∧ lPo (w_X10_others p1 qm) K 1 (v, vd, q2)))
set_option maxRecDepth 20000 in
theorem lc_22 {f : aF} {z : lP} {sa N : Nat} {xs : Nat → Int32} (hO : lawOK f z sa N xs) {i : Int32} (hi1 : vp_in (i + 1) N) (hi2 : vp_in (i + 2) N) (hi3 : vp_in (i + 3) N) {dX dM : Nat → Nat → Int32} {t : List Nat} {v : Nat → Int64} {vd : Nat → UInt64} {k n : Nat} {K : aS → aS → Prop} (hk : k + 40 ≤ 603072) (hn : n + 5000 ≤ 7202922)
    (h : ob_22 v vd (xs (i + 1).toNatClampNeg) (xs (i + 2).toNatClampNeg) (xs (i + 3).toNatClampNeg) (dX, t) (dM, []) K) (kk : ∀ (v1 : Nat → Int64) (vd1 : Nat → UInt64) (q2 qm : aS), K q2 qm → AW f (lX z qm.1 v1 vd1) 2663 (lawL z sa i) [] q2 (k + 40) (n + 5000)) : AW f (lX z dM v vd) 1591 (lawL z sa i) [] (dX, t) k n := by
  have hX : isX (lX z dM v vd) := lX_is hO.1 dM v vd
  have hl := (hO.C dM v vd).tr
  unfold ob_22 at h
  refine a_aload_n (pc := 1591) (hO.C _ _ _) dL_law_1591 rfl ?_
  refine a_scr (pc := 1592) (j := 1) hO rfl rfl rfl hi1 dL_law_1592 dL_law_1593 dL_law_1595 dL_law_1596 dL_law_1597 ?_
  refine a_aload_n (pc := 1598) (hO.C _ _ _) dL_law_1598 rfl ?_
  refine l_helper (pc := 1599) hO sw_L_others tw_923 ⟨(Nat.le_of_ble_eq_true rfl), (Nat.le_of_ble_eq_true rfl), by omega, by omega⟩ dL_law_1599 (t_L_others hO.1 hl dM v vd _ (dX, t) (lPo (w_X10_others (xs (i + 1).toNatClampNeg) (dM, [])) K) h) rfl rfl rfl (Nat.le_of_ble_eq_true rfl) (fun r u h => ?_)
  obtain ⟨v1, vd1, dX1, t1⟩ := u
  refine a_istore (pc := 1602) (hO.C _ _ _) dL_law_1602 (Nat.le_of_ble_eq_true rfl) ?_
  refine a_aload_n (pc := 1604) (hO.C _ _ _) dL_law_1604 rfl ?_
  refine a_scr (pc := 1605) (j := 1) hO rfl rfl rfl hi1 dL_law_1605 dL_law_1606 dL_law_1608 dL_law_1609 dL_law_1610 ?_
  refine l_model (pc := 1611) hO vm_X10_others tw_1824 ⟨(Nat.le_of_ble_eq_true rfl), (Nat.le_of_ble_eq_true rfl), by omega, by omega⟩ dL_law_1611 (t_X10_others (lM_is hO.1 _ _ _ _) hl _ _ _ h) rfl rfl rfl (Nat.le_of_ble_eq_true rfl) (fun b qm h => ?_)
  obtain ⟨dM1, tm⟩ := qm
  refine a_istore (pc := 1614) (hO.C _ _ _) dL_law_1614 (Nat.le_of_ble_eq_true rfl) ?_
  refine a_aload_n (pc := 1616) (hO.C _ _ _) dL_law_1616 rfl ?_
  refine l_model (pc := 1617) hO vm_X10_thrown tw_1574 ⟨(Nat.le_of_ble_eq_true rfl), (Nat.le_of_ble_eq_true rfl), by omega, by omega⟩ dL_law_1617 (t_X10_thrown (lM_is hO.1 _ _ _ _) hl _ _ h) rfl rfl rfl (Nat.le_of_ble_eq_true rfl) (fun th qm h => ?_)
  obtain ⟨dM2, tm2⟩ := qm
  obtain ⟨he, hv, h⟩ := h
  refine l_chk (pc := 1620) (hO.C _ _ _) he rfl dL_law_1620 dL_law_1622 ?_
  exact l_fin (pc := 1627) hO rfl rfl rfl hv dL_law_1627 dL_law_1629 dL_law_1632 dL_law_1633 dL_law_1634 dL_law_1635 dL_law_1637 dL_law_1638 dL_law_1639 dL_law_1644 (by decide) (((kk _ _ _ _ h).forget (lawL_sub _ _ _ _ _ _)).widen (by omega) (by omega))
def ob_23 (v : Nat → Int64) (vd : Nat → UInt64) (p1 p2 p3 : Int32) (q qm : aS) (K : aS → aS → Prop) : Prop := w_X9_free p1 q (fun r q2 => lPo (w_X10_free p1 qm) K 0 (vp_updL v 0 (r.toInt64), vd, q2)) (fun E q2 => (E = "java/lang/IndexOutOfBoundsException" ∧ lPo (w_X10_free p1 qm) K 1 (v, vd, q2)))
set_option maxRecDepth 20000 in
theorem lc_23 {f : aF} {z : lP} {sa N : Nat} {xs : Nat → Int32} (hO : lawOK f z sa N xs) {i : Int32} (hi1 : vp_in (i + 1) N) (hi2 : vp_in (i + 2) N) (hi3 : vp_in (i + 3) N) {dX dM : Nat → Nat → Int32} {t : List Nat} {v : Nat → Int64} {vd : Nat → UInt64} {k n : Nat} {K : aS → aS → Prop} (hk : k + 40 ≤ 603072) (hn : n + 5000 ≤ 7202922)
    (h : ob_23 v vd (xs (i + 1).toNatClampNeg) (xs (i + 2).toNatClampNeg) (xs (i + 3).toNatClampNeg) (dX, t) (dM, []) K) (kk : ∀ (v1 : Nat → Int64) (vd1 : Nat → UInt64) (q2 qm : aS), K q2 qm → AW f (lX z qm.1 v1 vd1) 2663 (lawL z sa i) [] q2 (k + 40) (n + 5000)) : AW f (lX z dM v vd) 1647 (lawL z sa i) [] (dX, t) k n := by
  have hX : isX (lX z dM v vd) := lX_is hO.1 dM v vd
  have hl := (hO.C dM v vd).tr
  unfold ob_23 at h
  refine a_aload_n (pc := 1647) (hO.C _ _ _) dL_law_1647 rfl ?_
  refine a_scr (pc := 1648) (j := 1) hO rfl rfl rfl hi1 dL_law_1648 dL_law_1649 dL_law_1651 dL_law_1652 dL_law_1653 ?_
  refine a_aload_n (pc := 1654) (hO.C _ _ _) dL_law_1654 rfl ?_
  refine l_helper (pc := 1655) hO sw_L_free tw_930 ⟨(Nat.le_of_ble_eq_true rfl), (Nat.le_of_ble_eq_true rfl), by omega, by omega⟩ dL_law_1655 (t_L_free hO.1 hl dM v vd _ (dX, t) (lPo (w_X10_free (xs (i + 1).toNatClampNeg) (dM, [])) K) h) rfl rfl rfl (Nat.le_of_ble_eq_true rfl) (fun r u h => ?_)
  obtain ⟨v1, vd1, dX1, t1⟩ := u
  refine a_istore (pc := 1658) (hO.C _ _ _) dL_law_1658 (Nat.le_of_ble_eq_true rfl) ?_
  refine a_aload_n (pc := 1660) (hO.C _ _ _) dL_law_1660 rfl ?_
  refine a_scr (pc := 1661) (j := 1) hO rfl rfl rfl hi1 dL_law_1661 dL_law_1662 dL_law_1664 dL_law_1665 dL_law_1666 ?_
  refine l_model (pc := 1667) hO vm_X10_free tw_1828 ⟨(Nat.le_of_ble_eq_true rfl), (Nat.le_of_ble_eq_true rfl), by omega, by omega⟩ dL_law_1667 (t_X10_free (lM_is hO.1 _ _ _ _) hl _ _ _ h) rfl rfl rfl (Nat.le_of_ble_eq_true rfl) (fun b qm h => ?_)
  obtain ⟨dM1, tm⟩ := qm
  refine a_istore (pc := 1670) (hO.C _ _ _) dL_law_1670 (Nat.le_of_ble_eq_true rfl) ?_
  refine a_aload_n (pc := 1672) (hO.C _ _ _) dL_law_1672 rfl ?_
  refine l_model (pc := 1673) hO vm_X10_thrown tw_1574 ⟨(Nat.le_of_ble_eq_true rfl), (Nat.le_of_ble_eq_true rfl), by omega, by omega⟩ dL_law_1673 (t_X10_thrown (lM_is hO.1 _ _ _ _) hl _ _ h) rfl rfl rfl (Nat.le_of_ble_eq_true rfl) (fun th qm h => ?_)
  obtain ⟨dM2, tm2⟩ := qm
  obtain ⟨he, hv, h⟩ := h
  refine l_chk (pc := 1676) (hO.C _ _ _) he rfl dL_law_1676 dL_law_1678 ?_
  exact l_fin (pc := 1683) hO rfl rfl rfl hv dL_law_1683 dL_law_1685 dL_law_1688 dL_law_1689 dL_law_1690 dL_law_1691 dL_law_1693 dL_law_1694 dL_law_1695 dL_law_1700 (by decide) (((kk _ _ _ _ h).forget (lawL_sub _ _ _ _ _ _)).widen (by omega) (by omega))
def ob_24 (v : Nat → Int64) (vd : Nat → UInt64) (p1 p2 p3 : Int32) (q qm : aS) (K : aS → aS → Prop) : Prop := w_X9_dryIn p1 q (fun r q2 => lPo (w_X10_dryIn p1 qm) K 0 (vp_updL v 0 (r.toInt64), vd, q2)) (fun E q2 => (E = "java/lang/IndexOutOfBoundsException" ∧ lPo (w_X10_dryIn p1 qm) K 1 (v, vd, q2)))
set_option maxRecDepth 20000 in
theorem lc_24 {f : aF} {z : lP} {sa N : Nat} {xs : Nat → Int32} (hO : lawOK f z sa N xs) {i : Int32} (hi1 : vp_in (i + 1) N) (hi2 : vp_in (i + 2) N) (hi3 : vp_in (i + 3) N) {dX dM : Nat → Nat → Int32} {t : List Nat} {v : Nat → Int64} {vd : Nat → UInt64} {k n : Nat} {K : aS → aS → Prop} (hk : k + 40 ≤ 603072) (hn : n + 5000 ≤ 7202922)
    (h : ob_24 v vd (xs (i + 1).toNatClampNeg) (xs (i + 2).toNatClampNeg) (xs (i + 3).toNatClampNeg) (dX, t) (dM, []) K) (kk : ∀ (v1 : Nat → Int64) (vd1 : Nat → UInt64) (q2 qm : aS), K q2 qm → AW f (lX z qm.1 v1 vd1) 2663 (lawL z sa i) [] q2 (k + 40) (n + 5000)) : AW f (lX z dM v vd) 1703 (lawL z sa i) [] (dX, t) k n := by
  have hX : isX (lX z dM v vd) := lX_is hO.1 dM v vd
  have hl := (hO.C dM v vd).tr
  unfold ob_24 at h
  refine a_aload_n (pc := 1703) (hO.C _ _ _) dL_law_1703 rfl ?_
  refine a_scr (pc := 1704) (j := 1) hO rfl rfl rfl hi1 dL_law_1704 dL_law_1705 dL_law_1707 dL_law_1708 dL_law_1709 ?_
  refine a_aload_n (pc := 1710) (hO.C _ _ _) dL_law_1710 rfl ?_
  refine l_helper (pc := 1711) hO sw_L_dryIn tw_937 ⟨(Nat.le_of_ble_eq_true rfl), (Nat.le_of_ble_eq_true rfl), by omega, by omega⟩ dL_law_1711 (t_L_dryIn hO.1 hl dM v vd _ (dX, t) (lPo (w_X10_dryIn (xs (i + 1).toNatClampNeg) (dM, [])) K) h) rfl rfl rfl (Nat.le_of_ble_eq_true rfl) (fun r u h => ?_)
  obtain ⟨v1, vd1, dX1, t1⟩ := u
  refine a_istore (pc := 1714) (hO.C _ _ _) dL_law_1714 (Nat.le_of_ble_eq_true rfl) ?_
  refine a_aload_n (pc := 1716) (hO.C _ _ _) dL_law_1716 rfl ?_
  refine a_scr (pc := 1717) (j := 1) hO rfl rfl rfl hi1 dL_law_1717 dL_law_1718 dL_law_1720 dL_law_1721 dL_law_1722 ?_
  refine l_model (pc := 1723) hO vm_X10_dryIn tw_1832 ⟨(Nat.le_of_ble_eq_true rfl), (Nat.le_of_ble_eq_true rfl), by omega, by omega⟩ dL_law_1723 (t_X10_dryIn (lM_is hO.1 _ _ _ _) hl _ _ _ h) rfl rfl rfl (Nat.le_of_ble_eq_true rfl) (fun b qm h => ?_)
  obtain ⟨dM1, tm⟩ := qm
  refine a_istore (pc := 1726) (hO.C _ _ _) dL_law_1726 (Nat.le_of_ble_eq_true rfl) ?_
  refine a_aload_n (pc := 1728) (hO.C _ _ _) dL_law_1728 rfl ?_
  refine l_model (pc := 1729) hO vm_X10_thrown tw_1574 ⟨(Nat.le_of_ble_eq_true rfl), (Nat.le_of_ble_eq_true rfl), by omega, by omega⟩ dL_law_1729 (t_X10_thrown (lM_is hO.1 _ _ _ _) hl _ _ h) rfl rfl rfl (Nat.le_of_ble_eq_true rfl) (fun th qm h => ?_)
  obtain ⟨dM2, tm2⟩ := qm
  obtain ⟨he, hv, h⟩ := h
  refine l_chk (pc := 1732) (hO.C _ _ _) he rfl dL_law_1732 dL_law_1734 ?_
  exact l_fin (pc := 1739) hO rfl rfl rfl hv dL_law_1739 dL_law_1741 dL_law_1744 dL_law_1745 dL_law_1746 dL_law_1747 dL_law_1749 dL_law_1750 dL_law_1751 dL_law_1756 (by decide) (((kk _ _ _ _ h).forget (lawL_sub _ _ _ _ _ _)).widen (by omega) (by omega))
def ob_25 (v : Nat → Int64) (vd : Nat → UInt64) (p1 p2 p3 : Int32) (q qm : aS) (K : aS → aS → Prop) : Prop := w_X9_dampest p1 q (fun r q2 => lPo (w_X10_dampest p1 qm) K 0 (vp_updL v 0 (r.toInt64), vd, q2)) (fun E q2 => (E = "java/util/NoSuchElementException" ∧ lPo (w_X10_dampest p1 qm) K 1 (v, vd, q2)))
set_option maxRecDepth 20000 in
theorem lc_25 {f : aF} {z : lP} {sa N : Nat} {xs : Nat → Int32} (hO : lawOK f z sa N xs) {i : Int32} (hi1 : vp_in (i + 1) N) (hi2 : vp_in (i + 2) N) (hi3 : vp_in (i + 3) N) {dX dM : Nat → Nat → Int32} {t : List Nat} {v : Nat → Int64} {vd : Nat → UInt64} {k n : Nat} {K : aS → aS → Prop} (hk : k + 40 ≤ 603072) (hn : n + 5000 ≤ 7202922)
    (h : ob_25 v vd (xs (i + 1).toNatClampNeg) (xs (i + 2).toNatClampNeg) (xs (i + 3).toNatClampNeg) (dX, t) (dM, []) K) (kk : ∀ (v1 : Nat → Int64) (vd1 : Nat → UInt64) (q2 qm : aS), K q2 qm → AW f (lX z qm.1 v1 vd1) 2663 (lawL z sa i) [] q2 (k + 40) (n + 5000)) : AW f (lX z dM v vd) 1759 (lawL z sa i) [] (dX, t) k n := by
  have hX : isX (lX z dM v vd) := lX_is hO.1 dM v vd
  have hl := (hO.C dM v vd).tr
  unfold ob_25 at h
  refine a_aload_n (pc := 1759) (hO.C _ _ _) dL_law_1759 rfl ?_
  refine a_scr (pc := 1760) (j := 1) hO rfl rfl rfl hi1 dL_law_1760 dL_law_1761 dL_law_1763 dL_law_1764 dL_law_1765 ?_
  refine a_aload_n (pc := 1766) (hO.C _ _ _) dL_law_1766 rfl ?_
  refine l_helper (pc := 1767) hO sw_L_dampest tw_944 ⟨(Nat.le_of_ble_eq_true rfl), (Nat.le_of_ble_eq_true rfl), by omega, by omega⟩ dL_law_1767 (t_L_dampest hO.1 hl dM v vd _ (dX, t) (lPo (w_X10_dampest (xs (i + 1).toNatClampNeg) (dM, [])) K) h) rfl rfl rfl (Nat.le_of_ble_eq_true rfl) (fun r u h => ?_)
  obtain ⟨v1, vd1, dX1, t1⟩ := u
  refine a_istore (pc := 1770) (hO.C _ _ _) dL_law_1770 (Nat.le_of_ble_eq_true rfl) ?_
  refine a_aload_n (pc := 1772) (hO.C _ _ _) dL_law_1772 rfl ?_
  refine a_scr (pc := 1773) (j := 1) hO rfl rfl rfl hi1 dL_law_1773 dL_law_1774 dL_law_1776 dL_law_1777 dL_law_1778 ?_
  refine l_model (pc := 1779) hO vm_X10_dampest tw_1836 ⟨(Nat.le_of_ble_eq_true rfl), (Nat.le_of_ble_eq_true rfl), by omega, by omega⟩ dL_law_1779 (t_X10_dampest (lM_is hO.1 _ _ _ _) hl _ _ _ h) rfl rfl rfl (Nat.le_of_ble_eq_true rfl) (fun b qm h => ?_)
  obtain ⟨dM1, tm⟩ := qm
  refine a_istore (pc := 1782) (hO.C _ _ _) dL_law_1782 (Nat.le_of_ble_eq_true rfl) ?_
  refine a_aload_n (pc := 1784) (hO.C _ _ _) dL_law_1784 rfl ?_
  refine l_model (pc := 1785) hO vm_X10_thrown tw_1574 ⟨(Nat.le_of_ble_eq_true rfl), (Nat.le_of_ble_eq_true rfl), by omega, by omega⟩ dL_law_1785 (t_X10_thrown (lM_is hO.1 _ _ _ _) hl _ _ h) rfl rfl rfl (Nat.le_of_ble_eq_true rfl) (fun th qm h => ?_)
  obtain ⟨dM2, tm2⟩ := qm
  obtain ⟨he, hv, h⟩ := h
  refine l_chk (pc := 1788) (hO.C _ _ _) he rfl dL_law_1788 dL_law_1790 ?_
  exact l_fin (pc := 1795) hO rfl rfl rfl hv dL_law_1795 dL_law_1797 dL_law_1800 dL_law_1801 dL_law_1802 dL_law_1803 dL_law_1805 dL_law_1806 dL_law_1807 dL_law_1812 (by decide) (((kk _ _ _ _ h).forget (lawL_sub _ _ _ _ _ _)).widen (by omega) (by omega))
def ob_26 (v : Nat → Int64) (vd : Nat → UInt64) (p1 p2 p3 : Int32) (q qm : aS) (K : aS → aS → Prop) : Prop := w_X9_ranked p1 p2 q (fun r q2 => lPo (w_X10_ranked p1 p2 qm) K 0 (vp_updL v 0 (r.toInt64), vd, q2)) (fun E q2 => (E = "java/lang/IllegalArgumentException" ∧ lPo (w_X10_ranked p1 p2 qm) K 1 (v, vd, q2)) ∨ (E = "java/util/NoSuchElementException" ∧ lPo (w_X10_ranked p1 p2 qm) K 2 (v, vd, q2)))
set_option maxRecDepth 20000 in
theorem lc_26 {f : aF} {z : lP} {sa N : Nat} {xs : Nat → Int32} (hO : lawOK f z sa N xs) {i : Int32} (hi1 : vp_in (i + 1) N) (hi2 : vp_in (i + 2) N) (hi3 : vp_in (i + 3) N) {dX dM : Nat → Nat → Int32} {t : List Nat} {v : Nat → Int64} {vd : Nat → UInt64} {k n : Nat} {K : aS → aS → Prop} (hk : k + 40 ≤ 603072) (hn : n + 5000 ≤ 7202922)
    (h : ob_26 v vd (xs (i + 1).toNatClampNeg) (xs (i + 2).toNatClampNeg) (xs (i + 3).toNatClampNeg) (dX, t) (dM, []) K) (kk : ∀ (v1 : Nat → Int64) (vd1 : Nat → UInt64) (q2 qm : aS), K q2 qm → AW f (lX z qm.1 v1 vd1) 2663 (lawL z sa i) [] q2 (k + 40) (n + 5000)) : AW f (lX z dM v vd) 1815 (lawL z sa i) [] (dX, t) k n := by
  have hX : isX (lX z dM v vd) := lX_is hO.1 dM v vd
  have hl := (hO.C dM v vd).tr
  unfold ob_26 at h
  refine a_aload_n (pc := 1815) (hO.C _ _ _) dL_law_1815 rfl ?_
  refine a_scr (pc := 1816) (j := 1) hO rfl rfl rfl hi1 dL_law_1816 dL_law_1817 dL_law_1819 dL_law_1820 dL_law_1821 ?_
  refine a_scr (pc := 1822) (j := 2) hO rfl rfl rfl hi2 dL_law_1822 dL_law_1823 dL_law_1825 dL_law_1826 dL_law_1827 ?_
  refine a_aload_n (pc := 1828) (hO.C _ _ _) dL_law_1828 rfl ?_
  refine l_helper (pc := 1829) hO sw_L_ranked tw_960 ⟨(Nat.le_of_ble_eq_true rfl), (Nat.le_of_ble_eq_true rfl), by omega, by omega⟩ dL_law_1829 (t_L_ranked hO.1 hl dM v vd _ _ (dX, t) (lPo (w_X10_ranked (xs (i + 1).toNatClampNeg) (xs (i + 2).toNatClampNeg) (dM, [])) K) h) rfl rfl rfl (Nat.le_of_ble_eq_true rfl) (fun r u h => ?_)
  obtain ⟨v1, vd1, dX1, t1⟩ := u
  refine a_istore (pc := 1832) (hO.C _ _ _) dL_law_1832 (Nat.le_of_ble_eq_true rfl) ?_
  refine a_aload_n (pc := 1834) (hO.C _ _ _) dL_law_1834 rfl ?_
  refine a_scr (pc := 1835) (j := 1) hO rfl rfl rfl hi1 dL_law_1835 dL_law_1836 dL_law_1838 dL_law_1839 dL_law_1840 ?_
  refine a_scr (pc := 1841) (j := 2) hO rfl rfl rfl hi2 dL_law_1841 dL_law_1842 dL_law_1844 dL_law_1845 dL_law_1846 ?_
  refine l_model (pc := 1847) hO vm_X10_ranked tw_1840 ⟨(Nat.le_of_ble_eq_true rfl), (Nat.le_of_ble_eq_true rfl), by omega, by omega⟩ dL_law_1847 (t_X10_ranked (lM_is hO.1 _ _ _ _) hl _ _ _ _ h) rfl rfl rfl (Nat.le_of_ble_eq_true rfl) (fun b qm h => ?_)
  obtain ⟨dM1, tm⟩ := qm
  refine a_istore (pc := 1850) (hO.C _ _ _) dL_law_1850 (Nat.le_of_ble_eq_true rfl) ?_
  refine a_aload_n (pc := 1852) (hO.C _ _ _) dL_law_1852 rfl ?_
  refine l_model (pc := 1853) hO vm_X10_thrown tw_1574 ⟨(Nat.le_of_ble_eq_true rfl), (Nat.le_of_ble_eq_true rfl), by omega, by omega⟩ dL_law_1853 (t_X10_thrown (lM_is hO.1 _ _ _ _) hl _ _ h) rfl rfl rfl (Nat.le_of_ble_eq_true rfl) (fun th qm h => ?_)
  obtain ⟨dM2, tm2⟩ := qm
  obtain ⟨he, hv, h⟩ := h
  refine l_chk (pc := 1856) (hO.C _ _ _) he rfl dL_law_1856 dL_law_1858 ?_
  exact l_fin (pc := 1863) hO rfl rfl rfl hv dL_law_1863 dL_law_1865 dL_law_1868 dL_law_1869 dL_law_1870 dL_law_1871 dL_law_1873 dL_law_1874 dL_law_1875 dL_law_1880 (by decide) (((kk _ _ _ _ h).forget (lawL_sub _ _ _ _ _ _)).widen (by omega) (by omega))
def ob_27 (v : Nat → Int64) (vd : Nat → UInt64) (p1 p2 p3 : Int32) (q qm : aS) (K : aS → aS → Prop) : Prop := w_X9_strongest p1 q (fun r q2 => lPo (w_X10_strongest p1 qm) K 0 (vp_updL v 0 (r.toInt64), vd, q2)) (fun E q2 => (E = "java/util/NoSuchElementException" ∧ lPo (w_X10_strongest p1 qm) K 1 (v, vd, q2)))
set_option maxRecDepth 20000 in
theorem lc_27 {f : aF} {z : lP} {sa N : Nat} {xs : Nat → Int32} (hO : lawOK f z sa N xs) {i : Int32} (hi1 : vp_in (i + 1) N) (hi2 : vp_in (i + 2) N) (hi3 : vp_in (i + 3) N) {dX dM : Nat → Nat → Int32} {t : List Nat} {v : Nat → Int64} {vd : Nat → UInt64} {k n : Nat} {K : aS → aS → Prop} (hk : k + 40 ≤ 603072) (hn : n + 5000 ≤ 7202922)
    (h : ob_27 v vd (xs (i + 1).toNatClampNeg) (xs (i + 2).toNatClampNeg) (xs (i + 3).toNatClampNeg) (dX, t) (dM, []) K) (kk : ∀ (v1 : Nat → Int64) (vd1 : Nat → UInt64) (q2 qm : aS), K q2 qm → AW f (lX z qm.1 v1 vd1) 2663 (lawL z sa i) [] q2 (k + 40) (n + 5000)) : AW f (lX z dM v vd) 1883 (lawL z sa i) [] (dX, t) k n := by
  have hX : isX (lX z dM v vd) := lX_is hO.1 dM v vd
  have hl := (hO.C dM v vd).tr
  unfold ob_27 at h
  refine a_aload_n (pc := 1883) (hO.C _ _ _) dL_law_1883 rfl ?_
  refine a_scr (pc := 1884) (j := 1) hO rfl rfl rfl hi1 dL_law_1884 dL_law_1885 dL_law_1887 dL_law_1888 dL_law_1889 ?_
  refine a_aload_n (pc := 1890) (hO.C _ _ _) dL_law_1890 rfl ?_
  refine l_helper (pc := 1891) hO sw_L_strongest tw_977 ⟨(Nat.le_of_ble_eq_true rfl), (Nat.le_of_ble_eq_true rfl), by omega, by omega⟩ dL_law_1891 (t_L_strongest hO.1 hl dM v vd _ (dX, t) (lPo (w_X10_strongest (xs (i + 1).toNatClampNeg) (dM, [])) K) h) rfl rfl rfl (Nat.le_of_ble_eq_true rfl) (fun r u h => ?_)
  obtain ⟨v1, vd1, dX1, t1⟩ := u
  refine a_istore (pc := 1894) (hO.C _ _ _) dL_law_1894 (Nat.le_of_ble_eq_true rfl) ?_
  refine a_aload_n (pc := 1896) (hO.C _ _ _) dL_law_1896 rfl ?_
  refine a_scr (pc := 1897) (j := 1) hO rfl rfl rfl hi1 dL_law_1897 dL_law_1898 dL_law_1900 dL_law_1901 dL_law_1902 ?_
  refine l_model (pc := 1903) hO vm_X10_strongest tw_1848 ⟨(Nat.le_of_ble_eq_true rfl), (Nat.le_of_ble_eq_true rfl), by omega, by omega⟩ dL_law_1903 (t_X10_strongest (lM_is hO.1 _ _ _ _) hl _ _ _ h) rfl rfl rfl (Nat.le_of_ble_eq_true rfl) (fun b qm h => ?_)
  obtain ⟨dM1, tm⟩ := qm
  refine a_istore (pc := 1906) (hO.C _ _ _) dL_law_1906 (Nat.le_of_ble_eq_true rfl) ?_
  refine a_aload_n (pc := 1908) (hO.C _ _ _) dL_law_1908 rfl ?_
  refine l_model (pc := 1909) hO vm_X10_thrown tw_1574 ⟨(Nat.le_of_ble_eq_true rfl), (Nat.le_of_ble_eq_true rfl), by omega, by omega⟩ dL_law_1909 (t_X10_thrown (lM_is hO.1 _ _ _ _) hl _ _ h) rfl rfl rfl (Nat.le_of_ble_eq_true rfl) (fun th qm h => ?_)
  obtain ⟨dM2, tm2⟩ := qm
  obtain ⟨he, hv, h⟩ := h
  refine l_chk (pc := 1912) (hO.C _ _ _) he rfl dL_law_1912 dL_law_1914 ?_
  exact l_fin (pc := 1919) hO rfl rfl rfl hv dL_law_1919 dL_law_1921 dL_law_1924 dL_law_1925 dL_law_1926 dL_law_1927 dL_law_1929 dL_law_1930 dL_law_1931 dL_law_1936 (by decide) (((kk _ _ _ _ h).forget (lawL_sub _ _ _ _ _ _)).widen (by omega) (by omega))
def ob_28 (v : Nat → Int64) (vd : Nat → UInt64) (p1 p2 p3 : Int32) (q qm : aS) (K : aS → aS → Prop) : Prop := w_X9_isTold q (fun r q2 => w_X10_isTold qm (fun b qm2 => r = b ∧ K q2 qm2))
set_option maxRecDepth 20000 in
theorem lc_28 {f : aF} {z : lP} {sa N : Nat} {xs : Nat → Int32} (hO : lawOK f z sa N xs) {i : Int32} (hi1 : vp_in (i + 1) N) (hi2 : vp_in (i + 2) N) (hi3 : vp_in (i + 3) N) {dX dM : Nat → Nat → Int32} {t : List Nat} {v : Nat → Int64} {vd : Nat → UInt64} {k n : Nat} {K : aS → aS → Prop} (hk : k + 40 ≤ 603072) (hn : n + 5000 ≤ 7202922)
    (h : ob_28 v vd (xs (i + 1).toNatClampNeg) (xs (i + 2).toNatClampNeg) (xs (i + 3).toNatClampNeg) (dX, t) (dM, []) K) (kk : ∀ (v1 : Nat → Int64) (vd1 : Nat → UInt64) (q2 qm : aS), K q2 qm → AW f (lX z qm.1 v1 vd1) 2663 (lawL z sa i) [] q2 (k + 40) (n + 5000)) : AW f (lX z dM v vd) 1939 (lawL z sa i) [] (dX, t) k n := by
  have hX : isX (lX z dM v vd) := lX_is hO.1 dM v vd
  have hl := (hO.C dM v vd).tr
  unfold ob_28 at h
  refine a_aload_n (pc := 1939) (hO.C _ _ _) dL_law_1939 rfl ?_
  refine l_callV (pc := 1940) (hO.C _ _ _) hO.2.2.1 vm_X9_isTold tw_371 cl_X9 (oX_0 hX) ⟨(Nat.le_of_ble_eq_true rfl), (Nat.le_of_ble_eq_true rfl), by omega, by omega⟩ dL_law_1940 (t_X9_isTold hX hl _ _ h) rfl rfl rfl (Nat.le_of_ble_eq_true rfl) (fun r q1 h => ?_)
  replace h := h.2
  obtain ⟨dX1, t1⟩ := q1
  refine a_aload_n (pc := 1943) (hO.C _ _ _) dL_law_1943 rfl ?_
  refine l_model (pc := 1944) hO vm_X10_isTold tw_1852 ⟨(Nat.le_of_ble_eq_true rfl), (Nat.le_of_ble_eq_true rfl), by omega, by omega⟩ dL_law_1944 (t_X10_isTold (lM_is hO.1 _ _ _ _) hl _ _ h) rfl rfl rfl (Nat.le_of_ble_eq_true rfl) (fun b qm h => ?_)
  replace h := h.2
  obtain ⟨rfl, h⟩ := h
  exact a_icmp_eq (pc := 1947) (tgt := 2663) (hO.C _ _ _) dL_law_1947 (by decide) (fun _ => (kk _ _ _ _ h).widen (by omega) (by omega)) (fun e => (e rfl).elim)
def ob_29 (v : Nat → Int64) (vd : Nat → UInt64) (p1 p2 p3 : Int32) (q qm : aS) (K : aS → aS → Prop) : Prop := w_X9_append ((p1.toUInt32 % 65536).toInt32) q (fun r q2 => lPo (w_X10_append ((p1.toUInt32 % 65536).toInt32) qm) K 0 (vp_updL v 0 (r.toInt64), vd, q2)) (fun E q2 => (E = "java/lang/IllegalArgumentException" ∧ lPo (w_X10_append ((p1.toUInt32 % 65536).toInt32) qm) K 1 (v, vd, q2)) ∨ (E = "java/lang/IllegalStateException" ∧ lPo (w_X10_append ((p1.toUInt32 % 65536).toInt32) qm) K 2 (v, vd, q2)))
set_option maxRecDepth 20000 in
theorem lc_29 {f : aF} {z : lP} {sa N : Nat} {xs : Nat → Int32} (hO : lawOK f z sa N xs) {i : Int32} (hi1 : vp_in (i + 1) N) (hi2 : vp_in (i + 2) N) (hi3 : vp_in (i + 3) N) {dX dM : Nat → Nat → Int32} {t : List Nat} {v : Nat → Int64} {vd : Nat → UInt64} {k n : Nat} {K : aS → aS → Prop} (hk : k + 40 ≤ 603072) (hn : n + 5000 ≤ 7202922)
    (h : ob_29 v vd (xs (i + 1).toNatClampNeg) (xs (i + 2).toNatClampNeg) (xs (i + 3).toNatClampNeg) (dX, t) (dM, []) K) (kk : ∀ (v1 : Nat → Int64) (vd1 : Nat → UInt64) (q2 qm : aS), K q2 qm → AW f (lX z qm.1 v1 vd1) 2663 (lawL z sa i) [] q2 (k + 40) (n + 5000)) : AW f (lX z dM v vd) 1952 (lawL z sa i) [] (dX, t) k n := by
  have hX : isX (lX z dM v vd) := lX_is hO.1 dM v vd
  have hl := (hO.C dM v vd).tr
  unfold ob_29 at h
  refine a_aload_n (pc := 1952) (hO.C _ _ _) dL_law_1952 rfl ?_
  refine a_scr (pc := 1953) (j := 1) hO rfl rfl rfl hi1 dL_law_1953 dL_law_1954 dL_law_1956 dL_law_1957 dL_law_1958 ?_
  refine a_i2c (pc := 1959) (hO.C _ _ _) dL_law_1959 ?_
  refine a_aload_n (pc := 1960) (hO.C _ _ _) dL_law_1960 rfl ?_
  refine l_helper (pc := 1961) hO sw_L_append tw_993 ⟨(Nat.le_of_ble_eq_true rfl), (Nat.le_of_ble_eq_true rfl), by omega, by omega⟩ dL_law_1961 (t_L_append hO.1 hl dM v vd _ (dX, t) (lPo (w_X10_append (((xs (i + 1).toNatClampNeg).toUInt32 % 65536).toInt32) (dM, [])) K) h) rfl rfl rfl (Nat.le_of_ble_eq_true rfl) (fun r u h => ?_)
  obtain ⟨v1, vd1, dX1, t1⟩ := u
  refine a_istore (pc := 1964) (hO.C _ _ _) dL_law_1964 (Nat.le_of_ble_eq_true rfl) ?_
  refine a_aload_n (pc := 1966) (hO.C _ _ _) dL_law_1966 rfl ?_
  refine a_scr (pc := 1967) (j := 1) hO rfl rfl rfl hi1 dL_law_1967 dL_law_1968 dL_law_1970 dL_law_1971 dL_law_1972 ?_
  refine a_i2c (pc := 1973) (hO.C _ _ _) dL_law_1973 ?_
  refine l_model (pc := 1974) hO vm_X10_append tw_1900 ⟨(Nat.le_of_ble_eq_true rfl), (Nat.le_of_ble_eq_true rfl), by omega, by omega⟩ dL_law_1974 (t_X10_append (lM_is hO.1 _ _ _ _) hl _ _ _ h) rfl rfl rfl (Nat.le_of_ble_eq_true rfl) (fun b qm h => ?_)
  obtain ⟨dM1, tm⟩ := qm
  refine a_istore (pc := 1977) (hO.C _ _ _) dL_law_1977 (Nat.le_of_ble_eq_true rfl) ?_
  refine a_aload_n (pc := 1979) (hO.C _ _ _) dL_law_1979 rfl ?_
  refine l_model (pc := 1980) hO vm_X10_thrown tw_1574 ⟨(Nat.le_of_ble_eq_true rfl), (Nat.le_of_ble_eq_true rfl), by omega, by omega⟩ dL_law_1980 (t_X10_thrown (lM_is hO.1 _ _ _ _) hl _ _ h) rfl rfl rfl (Nat.le_of_ble_eq_true rfl) (fun th qm h => ?_)
  obtain ⟨dM2, tm2⟩ := qm
  obtain ⟨he, hv, h⟩ := h
  refine l_chk (pc := 1983) (hO.C _ _ _) he rfl dL_law_1983 dL_law_1985 ?_
  exact l_fin (pc := 1990) hO rfl rfl rfl hv dL_law_1990 dL_law_1992 dL_law_1995 dL_law_1996 dL_law_1997 dL_law_1998 dL_law_2000 dL_law_2001 dL_law_2002 dL_law_2007 (by decide) (((kk _ _ _ _ h).forget (lawL_sub _ _ _ _ _ _)).widen (by omega) (by omega))
def ob_30 (v : Nat → Int64) (vd : Nat → UInt64) (p1 p2 p3 : Int32) (q qm : aS) (K : aS → aS → Prop) : Prop := w_X9_run q (fun r q2 => lPo (w_X10_run qm) K 0 (vp_updL v 0 (r.toInt64), vd, q2)) (fun E q2 => (E = "java/lang/IllegalArgumentException" ∧ lPo (w_X10_run qm) K 1 (v, vd, q2)) ∨ (E = "java/lang/UnsupportedOperationException" ∧ lPo (w_X10_run qm) K 2 (v, vd, q2)))
set_option maxRecDepth 20000 in
theorem lc_30 {f : aF} {z : lP} {sa N : Nat} {xs : Nat → Int32} (hO : lawOK f z sa N xs) {i : Int32} (hi1 : vp_in (i + 1) N) (hi2 : vp_in (i + 2) N) (hi3 : vp_in (i + 3) N) {dX dM : Nat → Nat → Int32} {t : List Nat} {v : Nat → Int64} {vd : Nat → UInt64} {k n : Nat} {K : aS → aS → Prop} (hk : k + 40 ≤ 603072) (hn : n + 5000 ≤ 7202922)
    (h : ob_30 v vd (xs (i + 1).toNatClampNeg) (xs (i + 2).toNatClampNeg) (xs (i + 3).toNatClampNeg) (dX, t) (dM, []) K) (kk : ∀ (v1 : Nat → Int64) (vd1 : Nat → UInt64) (q2 qm : aS), K q2 qm → AW f (lX z qm.1 v1 vd1) 2663 (lawL z sa i) [] q2 (k + 40) (n + 5000)) : AW f (lX z dM v vd) 2010 (lawL z sa i) [] (dX, t) k n := by
  have hX : isX (lX z dM v vd) := lX_is hO.1 dM v vd
  have hl := (hO.C dM v vd).tr
  unfold ob_30 at h
  refine a_aload_n (pc := 2010) (hO.C _ _ _) dL_law_2010 rfl ?_
  refine a_aload_n (pc := 2011) (hO.C _ _ _) dL_law_2011 rfl ?_
  refine l_helper (pc := 2012) hO sw_L_run tw_1018 ⟨(Nat.le_of_ble_eq_true rfl), (Nat.le_of_ble_eq_true rfl), by omega, by omega⟩ dL_law_2012 (t_L_run hO.1 hl dM v vd (dX, t) (lPo (w_X10_run (dM, [])) K) h) rfl rfl rfl (Nat.le_of_ble_eq_true rfl) (fun r u h => ?_)
  obtain ⟨v1, vd1, dX1, t1⟩ := u
  refine a_istore (pc := 2015) (hO.C _ _ _) dL_law_2015 (Nat.le_of_ble_eq_true rfl) ?_
  refine a_aload_n (pc := 2017) (hO.C _ _ _) dL_law_2017 rfl ?_
  refine l_model (pc := 2018) hO vm_X10_run tw_1908 ⟨(Nat.le_of_ble_eq_true rfl), (Nat.le_of_ble_eq_true rfl), by omega, by omega⟩ dL_law_2018 (t_X10_run (lM_is hO.1 _ _ _ _) hl _ _ h) rfl rfl rfl (Nat.le_of_ble_eq_true rfl) (fun b qm h => ?_)
  obtain ⟨dM1, tm⟩ := qm
  refine a_istore (pc := 2021) (hO.C _ _ _) dL_law_2021 (Nat.le_of_ble_eq_true rfl) ?_
  refine a_aload_n (pc := 2023) (hO.C _ _ _) dL_law_2023 rfl ?_
  refine l_model (pc := 2024) hO vm_X10_thrown tw_1574 ⟨(Nat.le_of_ble_eq_true rfl), (Nat.le_of_ble_eq_true rfl), by omega, by omega⟩ dL_law_2024 (t_X10_thrown (lM_is hO.1 _ _ _ _) hl _ _ h) rfl rfl rfl (Nat.le_of_ble_eq_true rfl) (fun th qm h => ?_)
  obtain ⟨dM2, tm2⟩ := qm
  obtain ⟨he, hv, h⟩ := h
  refine l_chk (pc := 2027) (hO.C _ _ _) he rfl dL_law_2027 dL_law_2029 ?_
  exact l_fin (pc := 2034) hO rfl rfl rfl hv dL_law_2034 dL_law_2036 dL_law_2039 dL_law_2040 dL_law_2041 dL_law_2042 dL_law_2044 dL_law_2045 dL_law_2046 dL_law_2051 (by decide) (((kk _ _ _ _ h).forget (lawL_sub _ _ _ _ _ _)).widen (by omega) (by omega))
def ob_31 (v : Nat → Int64) (vd : Nat → UInt64) (p1 p2 p3 : Int32) (q qm : aS) (K : aS → aS → Prop) : Prop := w_X9_faultPosition q (fun r q2 => w_X10_faultPosition qm (fun b qm2 => r = b ∧ K q2 qm2))
set_option maxRecDepth 20000 in
theorem lc_31 {f : aF} {z : lP} {sa N : Nat} {xs : Nat → Int32} (hO : lawOK f z sa N xs) {i : Int32} (hi1 : vp_in (i + 1) N) (hi2 : vp_in (i + 2) N) (hi3 : vp_in (i + 3) N) {dX dM : Nat → Nat → Int32} {t : List Nat} {v : Nat → Int64} {vd : Nat → UInt64} {k n : Nat} {K : aS → aS → Prop} (hk : k + 40 ≤ 603072) (hn : n + 5000 ≤ 7202922)
    (h : ob_31 v vd (xs (i + 1).toNatClampNeg) (xs (i + 2).toNatClampNeg) (xs (i + 3).toNatClampNeg) (dX, t) (dM, []) K) (kk : ∀ (v1 : Nat → Int64) (vd1 : Nat → UInt64) (q2 qm : aS), K q2 qm → AW f (lX z qm.1 v1 vd1) 2663 (lawL z sa i) [] q2 (k + 40) (n + 5000)) : AW f (lX z dM v vd) 2054 (lawL z sa i) [] (dX, t) k n := by
  have hX : isX (lX z dM v vd) := lX_is hO.1 dM v vd
  have hl := (hO.C dM v vd).tr
  unfold ob_31 at h
  refine a_aload_n (pc := 2054) (hO.C _ _ _) dL_law_2054 rfl ?_
  refine l_callV (pc := 2055) (hO.C _ _ _) hO.2.2.1 vm_X9_faultPosition tw_423 cl_X9 (oX_0 hX) ⟨(Nat.le_of_ble_eq_true rfl), (Nat.le_of_ble_eq_true rfl), by omega, by omega⟩ dL_law_2055 (t_X9_faultPosition hX hl _ _ h) rfl rfl rfl (Nat.le_of_ble_eq_true rfl) (fun r q1 h => ?_)
  obtain ⟨dX1, t1⟩ := q1
  refine a_aload_n (pc := 2058) (hO.C _ _ _) dL_law_2058 rfl ?_
  refine l_model (pc := 2059) hO vm_X10_faultPosition tw_1904 ⟨(Nat.le_of_ble_eq_true rfl), (Nat.le_of_ble_eq_true rfl), by omega, by omega⟩ dL_law_2059 (t_X10_faultPosition (lM_is hO.1 _ _ _ _) hl _ _ h) rfl rfl rfl (Nat.le_of_ble_eq_true rfl) (fun b qm h => ?_)
  obtain ⟨rfl, h⟩ := h
  exact a_icmp_eq (pc := 2062) (tgt := 2663) (hO.C _ _ _) dL_law_2062 (by decide) (fun _ => (kk _ _ _ _ h).widen (by omega) (by omega)) (fun e => (e rfl).elim)
def ob_32 (v : Nat → Int64) (vd : Nat → UInt64) (p1 p2 p3 : Int32) (q qm : aS) (K : aS → aS → Prop) : Prop := w_X9_reason p1 (zI p2) q (fun r q2 => lPo (w_X10_reason p1 (zI p2) qm) K 0 (vp_updL v 0 (r.toInt64), vd, q2)) (fun E q2 => (E = "java/lang/IllegalArgumentException" ∧ lPo (w_X10_reason p1 (zI p2) qm) K 1 (v, vd, q2)) ∨ (E = "java/util/NoSuchElementException" ∧ lPo (w_X10_reason p1 (zI p2) qm) K 2 (v, vd, q2)))
set_option maxRecDepth 20000 in
theorem lc_32 {f : aF} {z : lP} {sa N : Nat} {xs : Nat → Int32} (hO : lawOK f z sa N xs) {i : Int32} (hi1 : vp_in (i + 1) N) (hi2 : vp_in (i + 2) N) (hi3 : vp_in (i + 3) N) {dX dM : Nat → Nat → Int32} {t : List Nat} {v : Nat → Int64} {vd : Nat → UInt64} {k n : Nat} {K : aS → aS → Prop} (hk : k + 40 ≤ 603072) (hn : n + 5000 ≤ 7202922)
    (h : ob_32 v vd (xs (i + 1).toNatClampNeg) (xs (i + 2).toNatClampNeg) (xs (i + 3).toNatClampNeg) (dX, t) (dM, []) K) (kk : ∀ (v1 : Nat → Int64) (vd1 : Nat → UInt64) (q2 qm : aS), K q2 qm → AW f (lX z qm.1 v1 vd1) 2663 (lawL z sa i) [] q2 (k + 40) (n + 5000)) : AW f (lX z dM v vd) 2067 (lawL z sa i) [] (dX, t) k n := by
  have hX : isX (lX z dM v vd) := lX_is hO.1 dM v vd
  have hl := (hO.C dM v vd).tr
  unfold ob_32 at h
  refine a_aload_n (pc := 2067) (hO.C _ _ _) dL_law_2067 rfl ?_
  refine a_scr (pc := 2068) (j := 1) hO rfl rfl rfl hi1 dL_law_2068 dL_law_2069 dL_law_2071 dL_law_2072 dL_law_2073 ?_
  refine a_scr (pc := 2074) (j := 2) hO rfl rfl rfl hi2 dL_law_2074 dL_law_2075 dL_law_2077 dL_law_2078 dL_law_2079 ?_
  refine a_zI (pc := 2080) (hO.C _ _ _) dL_law_2080 dL_law_2083 dL_law_2084 dL_law_2087 ?_
  refine a_aload_n (pc := 2088) (hO.C _ _ _) dL_law_2088 rfl ?_
  refine l_helper (pc := 2089) hO sw_L_reason tw_1117 ⟨(Nat.le_of_ble_eq_true rfl), (Nat.le_of_ble_eq_true rfl), by omega, by omega⟩ dL_law_2089 (t_L_reason hO.1 hl dM v vd _ _ (dX, t) (lPo (w_X10_reason (xs (i + 1).toNatClampNeg) (zI (xs (i + 2).toNatClampNeg)) (dM, [])) K) h) rfl rfl rfl (Nat.le_of_ble_eq_true rfl) (fun r u h => ?_)
  obtain ⟨v1, vd1, dX1, t1⟩ := u
  refine a_istore (pc := 2092) (hO.C _ _ _) dL_law_2092 (Nat.le_of_ble_eq_true rfl) ?_
  refine a_aload_n (pc := 2094) (hO.C _ _ _) dL_law_2094 rfl ?_
  refine a_scr (pc := 2095) (j := 1) hO rfl rfl rfl hi1 dL_law_2095 dL_law_2096 dL_law_2098 dL_law_2099 dL_law_2100 ?_
  refine a_scr (pc := 2101) (j := 2) hO rfl rfl rfl hi2 dL_law_2101 dL_law_2102 dL_law_2104 dL_law_2105 dL_law_2106 ?_
  refine a_zI (pc := 2107) (hO.C _ _ _) dL_law_2107 dL_law_2110 dL_law_2111 dL_law_2114 ?_
  refine l_model (pc := 2115) hO vm_X10_reason tw_1578 ⟨(Nat.le_of_ble_eq_true rfl), (Nat.le_of_ble_eq_true rfl), by omega, by omega⟩ dL_law_2115 (t_X10_reason (lM_is hO.1 _ _ _ _) hl _ _ _ _ h) rfl rfl rfl (Nat.le_of_ble_eq_true rfl) (fun b qm h => ?_)
  obtain ⟨dM1, tm⟩ := qm
  refine a_istore (pc := 2118) (hO.C _ _ _) dL_law_2118 (Nat.le_of_ble_eq_true rfl) ?_
  refine a_aload_n (pc := 2120) (hO.C _ _ _) dL_law_2120 rfl ?_
  refine l_model (pc := 2121) hO vm_X10_thrown tw_1574 ⟨(Nat.le_of_ble_eq_true rfl), (Nat.le_of_ble_eq_true rfl), by omega, by omega⟩ dL_law_2121 (t_X10_thrown (lM_is hO.1 _ _ _ _) hl _ _ h) rfl rfl rfl (Nat.le_of_ble_eq_true rfl) (fun th qm h => ?_)
  obtain ⟨dM2, tm2⟩ := qm
  obtain ⟨he, hv, h⟩ := h
  refine l_chk (pc := 2124) (hO.C _ _ _) he rfl dL_law_2124 dL_law_2126 ?_
  exact l_fin (pc := 2131) hO rfl rfl rfl hv dL_law_2131 dL_law_2133 dL_law_2136 dL_law_2137 dL_law_2138 dL_law_2139 dL_law_2141 dL_law_2142 dL_law_2143 dL_law_2148 (by decide) (((kk _ _ _ _ h).forget (lawL_sub _ _ _ _ _ _)).widen (by omega) (by omega))
def ob_37 (v : Nat → Int64) (vd : Nat → UInt64) (p1 p2 p3 : Int32) (q qm : aS) (K : aS → aS → Prop) : Prop := w_X9_account p1 q (fun r q2 => lPo (w_X10_account p1 qm) K 0 (vp_updL v 0 (r.toInt64), vd, q2)) (fun E q2 => (E = "java/lang/IllegalArgumentException" ∧ lPo (w_X10_account p1 qm) K 1 (v, vd, q2)))
set_option maxRecDepth 20000 in
theorem lc_37 {f : aF} {z : lP} {sa N : Nat} {xs : Nat → Int32} (hO : lawOK f z sa N xs) {i : Int32} (hi1 : vp_in (i + 1) N) (hi2 : vp_in (i + 2) N) (hi3 : vp_in (i + 3) N) {dX dM : Nat → Nat → Int32} {t : List Nat} {v : Nat → Int64} {vd : Nat → UInt64} {k n : Nat} {K : aS → aS → Prop} (hk : k + 40 ≤ 603072) (hn : n + 5000 ≤ 7202922)
    (h : ob_37 v vd (xs (i + 1).toNatClampNeg) (xs (i + 2).toNatClampNeg) (xs (i + 3).toNatClampNeg) (dX, t) (dM, []) K) (kk : ∀ (v1 : Nat → Int64) (vd1 : Nat → UInt64) (q2 qm : aS), K q2 qm → AW f (lX z qm.1 v1 vd1) 2663 (lawL z sa i) [] q2 (k + 40) (n + 5000)) : AW f (lX z dM v vd) 2375 (lawL z sa i) [] (dX, t) k n := by
  have hX : isX (lX z dM v vd) := lX_is hO.1 dM v vd
  have hl := (hO.C dM v vd).tr
  unfold ob_37 at h
  refine a_aload_n (pc := 2375) (hO.C _ _ _) dL_law_2375 rfl ?_
  refine a_scr (pc := 2376) (j := 1) hO rfl rfl rfl hi1 dL_law_2376 dL_law_2377 dL_law_2379 dL_law_2380 dL_law_2381 ?_
  refine a_aload_n (pc := 2382) (hO.C _ _ _) dL_law_2382 rfl ?_
  refine l_helper (pc := 2383) hO sw_L_account tw_1418 ⟨(Nat.le_of_ble_eq_true rfl), (Nat.le_of_ble_eq_true rfl), by omega, by omega⟩ dL_law_2383 (t_L_account hO.1 hl dM v vd _ (dX, t) (lPo (w_X10_account (xs (i + 1).toNatClampNeg) (dM, [])) K) h) rfl rfl rfl (Nat.le_of_ble_eq_true rfl) (fun r u h => ?_)
  obtain ⟨v1, vd1, dX1, t1⟩ := u
  refine a_istore (pc := 2386) (hO.C _ _ _) dL_law_2386 (Nat.le_of_ble_eq_true rfl) ?_
  refine a_aload_n (pc := 2388) (hO.C _ _ _) dL_law_2388 rfl ?_
  refine a_scr (pc := 2389) (j := 1) hO rfl rfl rfl hi1 dL_law_2389 dL_law_2390 dL_law_2392 dL_law_2393 dL_law_2394 ?_
  refine l_model (pc := 2395) hO vm_X10_account tw_1880 ⟨(Nat.le_of_ble_eq_true rfl), (Nat.le_of_ble_eq_true rfl), by omega, by omega⟩ dL_law_2395 (t_X10_account (lM_is hO.1 _ _ _ _) hl _ _ _ h) rfl rfl rfl (Nat.le_of_ble_eq_true rfl) (fun b qm h => ?_)
  obtain ⟨dM1, tm⟩ := qm
  refine a_istore (pc := 2398) (hO.C _ _ _) dL_law_2398 (Nat.le_of_ble_eq_true rfl) ?_
  refine a_aload_n (pc := 2400) (hO.C _ _ _) dL_law_2400 rfl ?_
  refine l_model (pc := 2401) hO vm_X10_thrown tw_1574 ⟨(Nat.le_of_ble_eq_true rfl), (Nat.le_of_ble_eq_true rfl), by omega, by omega⟩ dL_law_2401 (t_X10_thrown (lM_is hO.1 _ _ _ _) hl _ _ h) rfl rfl rfl (Nat.le_of_ble_eq_true rfl) (fun th qm h => ?_)
  obtain ⟨dM2, tm2⟩ := qm
  obtain ⟨he, hv, h⟩ := h
  refine l_chk (pc := 2404) (hO.C _ _ _) he rfl dL_law_2404 dL_law_2406 ?_
  exact l_fin (pc := 2411) hO rfl rfl rfl hv dL_law_2411 dL_law_2413 dL_law_2416 dL_law_2417 dL_law_2418 dL_law_2419 dL_law_2421 dL_law_2422 dL_law_2423 dL_law_2428 (by decide) (((kk _ _ _ _ h).forget (lawL_sub _ _ _ _ _ _)).widen (by omega) (by omega))
def ob_38 (v : Nat → Int64) (vd : Nat → UInt64) (p1 p2 p3 : Int32) (q qm : aS) (K : aS → aS → Prop) : Prop := w_X9_meanDamp q (fun r q2 => lPod (w_X10_meanDamp qm) K 0 (v, vf_upd vd 0 r, q2)) (fun E q2 => (E = "java/lang/ArithmeticException" ∧ lPod (w_X10_meanDamp qm) K 1 (v, vd, q2)))
def ob_39 (v : Nat → Int64) (vd : Nat → UInt64) (p1 p2 p3 : Int32) (q qm : aS) (K : aS → aS → Prop) : Prop := w_X9_letShare q (fun r q2 => vf_n64 (FP.f2d r) ∧ lPof (w_X10_letShare qm) K 0 (v, vf_upd vd 0 (FP.f2d r), q2)) (fun E q2 => (E = "java/lang/ArithmeticException" ∧ lPof (w_X10_letShare qm) K 1 (v, vd, q2)))
set_option maxRecDepth 20000 in
theorem lc_39 {f : aF} {z : lP} {sa N : Nat} {xs : Nat → Int32} (hO : lawOK f z sa N xs) {i : Int32} (hi1 : vp_in (i + 1) N) (hi2 : vp_in (i + 2) N) (hi3 : vp_in (i + 3) N) {dX dM : Nat → Nat → Int32} {t : List Nat} {v : Nat → Int64} {vd : Nat → UInt64} {k n : Nat} {K : aS → aS → Prop} (hk : k + 40 ≤ 603072) (hn : n + 5000 ≤ 7202922)
    (h : ob_39 v vd (xs (i + 1).toNatClampNeg) (xs (i + 2).toNatClampNeg) (xs (i + 3).toNatClampNeg) (dX, t) (dM, []) K) (kk : ∀ (v1 : Nat → Int64) (vd1 : Nat → UInt64) (q2 qm : aS), K q2 qm → AW f (lX z qm.1 v1 vd1) 2663 (lawL z sa i) [] q2 (k + 40) (n + 5000)) : AW f (lX z dM v vd) 2496 (lawL z sa i) [] (dX, t) k n := by
  have hX : isX (lX z dM v vd) := lX_is hO.1 dM v vd
  have hl := (hO.C dM v vd).tr
  unfold ob_39 at h
  refine a_aload_n (pc := 2496) (hO.C _ _ _) dL_law_2496 rfl ?_
  refine a_aload (pc := 2497) (hO.C _ _ _) dL_law_2497 rfl ?_
  refine l_helper (pc := 2499) hO sw_L_letShare tw_1466 ⟨(Nat.le_of_ble_eq_true rfl), (Nat.le_of_ble_eq_true rfl), by omega, by omega⟩ dL_law_2499 (t_L_letShare hO.1 hl dM v vd (dX, t) (lPof (w_X10_letShare (dM, [])) K) h) rfl rfl rfl (Nat.le_of_ble_eq_true rfl) (fun r u h => ?_)
  obtain ⟨v1, vd1, dX1, t1⟩ := u
  refine a_istore (pc := 2502) (hO.C _ _ _) dL_law_2502 (Nat.le_of_ble_eq_true rfl) ?_
  refine a_aload_n (pc := 2504) (hO.C _ _ _) dL_law_2504 rfl ?_
  refine l_modelf (pc := 2505) hO vm_X10_letShare tw_1896 ⟨(Nat.le_of_ble_eq_true rfl), (Nat.le_of_ble_eq_true rfl), by omega, by omega⟩ dL_law_2505 (t_X10_letShare (lM_is hO.1 _ _ _ _) hl _ _ h) rfl rfl rfl (Nat.le_of_ble_eq_true rfl) (fun b qm h => ?_)
  obtain ⟨dM1, tm⟩ := qm
  refine a_fstore (pc := 2508) (hO.C _ _ _) dL_law_2508 (Nat.le_of_ble_eq_true rfl) ?_
  refine a_aload_n (pc := 2510) (hO.C _ _ _) dL_law_2510 rfl ?_
  refine l_model (pc := 2511) hO vm_X10_thrown tw_1574 ⟨(Nat.le_of_ble_eq_true rfl), (Nat.le_of_ble_eq_true rfl), by omega, by omega⟩ dL_law_2511 (t_X10_thrown (lM_is hO.1 _ _ _ _) hl _ _ h) rfl rfl rfl (Nat.le_of_ble_eq_true rfl) (fun th qm h => ?_)
  obtain ⟨dM2, tm2⟩ := qm
  obtain ⟨he, hv, h⟩ := h
  refine l_chk (pc := 2514) (hO.C _ _ _) he rfl dL_law_2514 dL_law_2516 ?_
  exact l_finf (pc := 2521) hO rfl rfl rfl (fun e => (hv e).1) (fun e => (hv e).2) dL_law_2521 dL_law_2523 dL_law_2526 dL_law_2528 dL_law_2529 dL_law_2530 dL_law_2532 dL_law_2533 dL_law_2534 dL_law_2559 (by decide) (((kk _ _ _ _ h).forget (lawL_sub _ _ _ _ _ _)).widen (by omega) (by omega))
def ob_40 (v : Nat → Int64) (vd : Nat → UInt64) (p1 p2 p3 : Int32) (q qm : aS) (K : aS → aS → Prop) : Prop := w_X9_undo q (fun r q2 => lPo (w_X10_undo qm) K 0 (vp_updL v 0 (r.toInt64), vd, q2)) (fun E q2 => (E = "java/lang/IllegalStateException" ∧ lPo (w_X10_undo qm) K 1 (v, vd, q2)))
set_option maxRecDepth 20000 in
theorem lc_40 {f : aF} {z : lP} {sa N : Nat} {xs : Nat → Int32} (hO : lawOK f z sa N xs) {i : Int32} (hi1 : vp_in (i + 1) N) (hi2 : vp_in (i + 2) N) (hi3 : vp_in (i + 3) N) {dX dM : Nat → Nat → Int32} {t : List Nat} {v : Nat → Int64} {vd : Nat → UInt64} {k n : Nat} {K : aS → aS → Prop} (hk : k + 40 ≤ 603072) (hn : n + 5000 ≤ 7202922)
    (h : ob_40 v vd (xs (i + 1).toNatClampNeg) (xs (i + 2).toNatClampNeg) (xs (i + 3).toNatClampNeg) (dX, t) (dM, []) K) (kk : ∀ (v1 : Nat → Int64) (vd1 : Nat → UInt64) (q2 qm : aS), K q2 qm → AW f (lX z qm.1 v1 vd1) 2663 (lawL z sa i) [] q2 (k + 40) (n + 5000)) : AW f (lX z dM v vd) 2562 (lawL z sa i) [] (dX, t) k n := by
  have hX : isX (lX z dM v vd) := lX_is hO.1 dM v vd
  have hl := (hO.C dM v vd).tr
  unfold ob_40 at h
  refine a_aload_n (pc := 2562) (hO.C _ _ _) dL_law_2562 rfl ?_
  refine a_aload_n (pc := 2563) (hO.C _ _ _) dL_law_2563 rfl ?_
  refine l_helper (pc := 2564) hO sw_L_undo tw_1474 ⟨(Nat.le_of_ble_eq_true rfl), (Nat.le_of_ble_eq_true rfl), by omega, by omega⟩ dL_law_2564 (t_L_undo hO.1 hl dM v vd (dX, t) (lPo (w_X10_undo (dM, [])) K) h) rfl rfl rfl (Nat.le_of_ble_eq_true rfl) (fun r u h => ?_)
  obtain ⟨v1, vd1, dX1, t1⟩ := u
  refine a_istore (pc := 2567) (hO.C _ _ _) dL_law_2567 (Nat.le_of_ble_eq_true rfl) ?_
  refine a_aload_n (pc := 2569) (hO.C _ _ _) dL_law_2569 rfl ?_
  refine l_model (pc := 2570) hO vm_X10_undo tw_1589 ⟨(Nat.le_of_ble_eq_true rfl), (Nat.le_of_ble_eq_true rfl), by omega, by omega⟩ dL_law_2570 (t_X10_undo (lM_is hO.1 _ _ _ _) hl _ _ h) rfl rfl rfl (Nat.le_of_ble_eq_true rfl) (fun b qm h => ?_)
  obtain ⟨dM1, tm⟩ := qm
  refine a_istore (pc := 2573) (hO.C _ _ _) dL_law_2573 (Nat.le_of_ble_eq_true rfl) ?_
  refine a_aload_n (pc := 2575) (hO.C _ _ _) dL_law_2575 rfl ?_
  refine l_model (pc := 2576) hO vm_X10_thrown tw_1574 ⟨(Nat.le_of_ble_eq_true rfl), (Nat.le_of_ble_eq_true rfl), by omega, by omega⟩ dL_law_2576 (t_X10_thrown (lM_is hO.1 _ _ _ _) hl _ _ h) rfl rfl rfl (Nat.le_of_ble_eq_true rfl) (fun th qm h => ?_)
  obtain ⟨dM2, tm2⟩ := qm
  obtain ⟨he, hv, h⟩ := h
  refine l_chk (pc := 2579) (hO.C _ _ _) he rfl dL_law_2579 dL_law_2581 ?_
  exact l_fin (pc := 2586) hO rfl rfl rfl hv dL_law_2586 dL_law_2588 dL_law_2591 dL_law_2592 dL_law_2593 dL_law_2594 dL_law_2596 dL_law_2597 dL_law_2598 dL_law_2603 (by decide) (((kk _ _ _ _ h).forget (lawL_sub _ _ _ _ _ _)).widen (by omega) (by omega))
def ob_41 (v : Nat → Int64) (vd : Nat → UInt64) (p1 p2 p3 : Int32) (q qm : aS) (K : aS → aS → Prop) : Prop := w_X9_save q (fun r q2 => w_X10_save qm (fun b qm2 => r = b ∧ K q2 qm2))
set_option maxRecDepth 20000 in
theorem lc_41 {f : aF} {z : lP} {sa N : Nat} {xs : Nat → Int32} (hO : lawOK f z sa N xs) {i : Int32} (hi1 : vp_in (i + 1) N) (hi2 : vp_in (i + 2) N) (hi3 : vp_in (i + 3) N) {dX dM : Nat → Nat → Int32} {t : List Nat} {v : Nat → Int64} {vd : Nat → UInt64} {k n : Nat} {K : aS → aS → Prop} (hk : k + 40 ≤ 603072) (hn : n + 5000 ≤ 7202922)
    (h : ob_41 v vd (xs (i + 1).toNatClampNeg) (xs (i + 2).toNatClampNeg) (xs (i + 3).toNatClampNeg) (dX, t) (dM, []) K) (kk : ∀ (v1 : Nat → Int64) (vd1 : Nat → UInt64) (q2 qm : aS), K q2 qm → AW f (lX z qm.1 v1 vd1) 2663 (lawL z sa i) [] q2 (k + 40) (n + 5000)) : AW f (lX z dM v vd) 2606 (lawL z sa i) [] (dX, t) k n := by
  have hX : isX (lX z dM v vd) := lX_is hO.1 dM v vd
  have hl := (hO.C dM v vd).tr
  unfold ob_41 at h
  refine a_aload_n (pc := 2606) (hO.C _ _ _) dL_law_2606 rfl ?_
  refine l_callV (pc := 2607) (hO.C _ _ _) hO.2.2.1 vm_X9_save tw_427 cl_X9 (oX_0 hX) ⟨(Nat.le_of_ble_eq_true rfl), (Nat.le_of_ble_eq_true rfl), by omega, by omega⟩ dL_law_2607 (t_X9_save hX hl _ _ h) rfl rfl rfl (Nat.le_of_ble_eq_true rfl) (fun r q1 h => ?_)
  obtain ⟨dX1, t1⟩ := q1
  refine a_aload_n (pc := 2610) (hO.C _ _ _) dL_law_2610 rfl ?_
  refine l_model (pc := 2611) hO vm_X10_save tw_1596 ⟨(Nat.le_of_ble_eq_true rfl), (Nat.le_of_ble_eq_true rfl), by omega, by omega⟩ dL_law_2611 (t_X10_save (lM_is hO.1 _ _ _ _) hl _ _ h) rfl rfl rfl (Nat.le_of_ble_eq_true rfl) (fun b qm h => ?_)
  obtain ⟨rfl, h⟩ := h
  exact a_icmp_eq (pc := 2614) (tgt := 2663) (hO.C _ _ _) dL_law_2614 (by decide) (fun _ => (kk _ _ _ _ h).widen (by omega) (by omega)) (fun e => (e rfl).elim)
def ob_42 (v : Nat → Int64) (vd : Nat → UInt64) (p1 p2 p3 : Int32) (q qm : aS) (K : aS → aS → Prop) : Prop := w_X9_restore q (fun r q2 => lPo (w_X10_restore qm) K 0 (vp_updL v 0 (r.toInt64), vd, q2)) (fun E q2 => (E = "java/lang/IllegalStateException" ∧ lPo (w_X10_restore qm) K 1 (v, vd, q2)))
set_option maxRecDepth 20000 in
theorem lc_42 {f : aF} {z : lP} {sa N : Nat} {xs : Nat → Int32} (hO : lawOK f z sa N xs) {i : Int32} (hi1 : vp_in (i + 1) N) (hi2 : vp_in (i + 2) N) (hi3 : vp_in (i + 3) N) {dX dM : Nat → Nat → Int32} {t : List Nat} {v : Nat → Int64} {vd : Nat → UInt64} {k n : Nat} {K : aS → aS → Prop} (hk : k + 40 ≤ 603072) (hn : n + 5000 ≤ 7202922)
    (h : ob_42 v vd (xs (i + 1).toNatClampNeg) (xs (i + 2).toNatClampNeg) (xs (i + 3).toNatClampNeg) (dX, t) (dM, []) K) (kk : ∀ (v1 : Nat → Int64) (vd1 : Nat → UInt64) (q2 qm : aS), K q2 qm → AW f (lX z qm.1 v1 vd1) 2663 (lawL z sa i) [] q2 (k + 40) (n + 5000)) : AW f (lX z dM v vd) 2619 (lawL z sa i) [] (dX, t) k n := by
  have hX : isX (lX z dM v vd) := lX_is hO.1 dM v vd
  have hl := (hO.C dM v vd).tr
  unfold ob_42 at h
  refine a_aload_n (pc := 2619) (hO.C _ _ _) dL_law_2619 rfl ?_
  refine a_aload_n (pc := 2620) (hO.C _ _ _) dL_law_2620 rfl ?_
  refine l_helper (pc := 2621) hO sw_L_restore tw_1486 ⟨(Nat.le_of_ble_eq_true rfl), (Nat.le_of_ble_eq_true rfl), by omega, by omega⟩ dL_law_2621 (t_L_restore hO.1 hl dM v vd (dX, t) (lPo (w_X10_restore (dM, [])) K) h) rfl rfl rfl (Nat.le_of_ble_eq_true rfl) (fun r u h => ?_)
  obtain ⟨v1, vd1, dX1, t1⟩ := u
  refine a_istore (pc := 2624) (hO.C _ _ _) dL_law_2624 (Nat.le_of_ble_eq_true rfl) ?_
  refine a_aload_n (pc := 2626) (hO.C _ _ _) dL_law_2626 rfl ?_
  refine l_model (pc := 2627) hO vm_X10_restore tw_1600 ⟨(Nat.le_of_ble_eq_true rfl), (Nat.le_of_ble_eq_true rfl), by omega, by omega⟩ dL_law_2627 (t_X10_restore (lM_is hO.1 _ _ _ _) hl _ _ h) rfl rfl rfl (Nat.le_of_ble_eq_true rfl) (fun b qm h => ?_)
  obtain ⟨dM1, tm⟩ := qm
  refine a_istore (pc := 2630) (hO.C _ _ _) dL_law_2630 (Nat.le_of_ble_eq_true rfl) ?_
  refine a_aload_n (pc := 2632) (hO.C _ _ _) dL_law_2632 rfl ?_
  refine l_model (pc := 2633) hO vm_X10_thrown tw_1574 ⟨(Nat.le_of_ble_eq_true rfl), (Nat.le_of_ble_eq_true rfl), by omega, by omega⟩ dL_law_2633 (t_X10_thrown (lM_is hO.1 _ _ _ _) hl _ _ h) rfl rfl rfl (Nat.le_of_ble_eq_true rfl) (fun th qm h => ?_)
  obtain ⟨dM2, tm2⟩ := qm
  obtain ⟨he, hv, h⟩ := h
  refine l_chk (pc := 2636) (hO.C _ _ _) he rfl dL_law_2636 dL_law_2638 ?_
  exact l_fin (pc := 2643) hO rfl rfl rfl hv dL_law_2643 dL_law_2645 dL_law_2648 dL_law_2649 dL_law_2650 dL_law_2651 dL_law_2653 dL_law_2654 dL_law_2655 dL_law_2660 (by decide) (((kk _ _ _ _ h).forget (lawL_sub _ _ _ _ _ _)).widen (by omega) (by omega))
