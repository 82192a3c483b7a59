/-! ===== the law, case by case (gen_law.py) ===== -/
section
variable {sc : Nat × (Nat → Int32)} {SH : List mCell} {F : Nat → Nat → Option Nat} {S : mStore} {e : Nat} {N i : Int} {W : aW} {u5 u6 : Option Value}
theorem lc_0 (hc : clR SH F e S W) (hW : wfW W) (hm : mdR S N W) (hN : 0 ≤ N ∧ N < 900000000) (hi : 0 ≤ i ∧ i + 6 ≤ sc.1 ∧ sc.1 ≤ 3072) (K : LK sc i e N) : LG sc 196 i u5 u6 SH S := by
  obtain ⟨SH', F', e', S', g1, c1, e1, f1⟩ := feed_cl (sc := sc)  (a := (xs sc i 1)) (b := (xs sc i 2)) (c := (xs sc i 3)) (d := (xs sc i 4)) (x := (xs sc i 5)) hc hW
  obtain ⟨b, S2, g2, m2, v2, x2, f2⟩ := feed_md (sc := sc) (SH := SH') (u6 := none) (u7 := none) (a := (xs sc i 1)) (b := (xs sc i 2)) (c := (xs sc i 3)) (d := (xs sc i 4)) (x := (xs sc i 5)) (y := 1) c1.1.1.2.1 hW (mdR_cl hm (fun j a b => f1 j a (by omega)))
  obtain ⟨v, hv⟩ := v_feed (W := W) (p1 := (xs sc i 1)) (p2 := (xs sc i 2)) (p3 := (xs sc i 3)) (p4 := (xs sc i 4)) (p5 := (xs sc i 5))
  rw [hv] at g1
  obtain ⟨rfl, -⟩ := v2 v hv
  replace g1 : G sc MX10_feed 0 [some (.ref 0), some (.int (I (xs sc i 1))), some (.int (I (xs sc i 2))), some (.int (I (xs sc i 3))), some (.int (I (xs sc i 4))), some (.int (I (xs sc i 5)))] [] SH S (rI b SH' S') := g1
  obtain ⟨r, hr, K⟩ := K SH' F' e' S2 (feedF W (xs sc i 1) (xs sc i 2) (xs sc i 3) (xs sc i 4) (xs sc i 5)).2 N u5 u6 (clR_md c1 (fun j h => f2 j (by omega))) (wf_feed hW) m2 (by omega) (by omega) e1
  refine ⟨r, hr, ?_⟩
  refine tt_ld (P := True) (M := ML_law) (pc := 196) dL_law_196 rfl rfl rfl rfl rfl (fun _ => ?_) trivial
  refine lw_arg 1 hi (by decide) dL_law_197 dL_law_198 dL_law_200 dL_law_201 dL_law_202 ?_
  refine lw_arg 2 hi (by decide) dL_law_203 dL_law_204 dL_law_206 dL_law_207 dL_law_208 ?_
  refine lw_arg 3 hi (by decide) dL_law_209 dL_law_210 dL_law_212 dL_law_213 dL_law_214 ?_
  refine lw_arg 4 hi (by decide) dL_law_215 dL_law_216 dL_law_218 dL_law_219 dL_law_220 ?_
  refine lw_arg 5 hi (by decide) dL_law_221 dL_law_222 dL_law_224 dL_law_225 dL_law_226 ?_
  refine tt_vcHI (M := ML_law) (pc := 227) dL_law_227 rfl rfl [] rfl rfl ⟨rfl, by decide, Nat.le_of_ble_eq_true rfl⟩ hc.1.1.1.1 g1 ?_
  refine tt_ld (P := True) (M := ML_law) (pc := 230) dL_law_230 rfl rfl rfl rfl rfl (fun _ => ?_) trivial
  refine lw_arg 1 hi (by decide) dL_law_231 dL_law_232 dL_law_234 dL_law_235 dL_law_236 ?_
  refine lw_arg 2 hi (by decide) dL_law_237 dL_law_238 dL_law_240 dL_law_241 dL_law_242 ?_
  refine lw_arg 3 hi (by decide) dL_law_243 dL_law_244 dL_law_246 dL_law_247 dL_law_248 ?_
  refine lw_arg 4 hi (by decide) dL_law_249 dL_law_250 dL_law_252 dL_law_253 dL_law_254 ?_
  refine lw_arg 5 hi (by decide) dL_law_255 dL_law_256 dL_law_258 dL_law_259 dL_law_260 ?_
  refine tt_vcHI (M := ML_law) (pc := 261) dL_law_261 rfl rfl [.int (I b)] rfl rfl ⟨rfl, by decide, Nat.le_of_ble_eq_true rfl⟩ c1.1.1.2.1.1 g2 ?_
  exact tt_ic_eq (P1 := True) (P2 := False) (M := ML_law) (pc := 264) 2323 dL_law_264 rfl (fun _ => K) (fun h => h.elim) (by rw [if_pos rfl]; trivial)
theorem lc_1 (hc : clR SH F e S W) (hW : wfW W) (hm : mdR S N W) (hN : 0 ≤ N ∧ N < 900000000) (hi : 0 ≤ i ∧ i + 6 ≤ sc.1 ∧ sc.1 ≤ 3072) (K : LK sc i e N) : LG sc 269 i u5 u6 SH S := by
  obtain ⟨k, SH', F', e', S', g1, c1, e1, f1, v1, x1⟩ := w_machine (p1 := (xs sc i 1)) hc.1.1.1 (fun _ h => k_machine h) (machine_cl (sc := sc)  (n := (xs sc i 1)) hc hW (xs_rg sc i 1))
  obtain ⟨b, S2, g2, m2, v2, x2, f2⟩ := machine_md (sc := sc) (SH := SH') (n := (xs sc i 1)) c1.1.1.2.1 hW (mdR_cl hm (fun j a b => f1 j a (by omega))) hN.1 (xs_rg sc i 1)
  have q1 := lw_agree (.inl rfl) v1 x1 v2 x2 (f2 110 (by omega))
  obtain ⟨r, hr, K⟩ := K SH' F' e' S2 (mchF W (xs sc i 1)).2 N (some (.int (I k))) (some (.int (I b))) (clR_md c1 (fun j h => f2 j (by omega))) (wf_mchF hW _) m2 (by omega) (by omega) e1
  refine ⟨r, hr, ?_⟩
  refine tt_ld (P := True) (M := ML_law) (pc := 269) dL_law_269 rfl rfl rfl rfl rfl (fun _ => ?_) trivial
  refine lw_arg 1 hi (by decide) dL_law_270 dL_law_271 dL_law_273 dL_law_274 dL_law_275 ?_
  refine tt_ld (P := True) (M := ML_law) (pc := 276) dL_law_276 rfl rfl rfl rfl rfl (fun _ => ?_) trivial
  refine tt_scA (M := ML_law) (pc := 277) dL_law_277 rfl [] rfl rfl ⟨rfl, by decide, Nat.le_of_ble_eq_true rfl⟩ g1 ?_
  refine tt_st (P := True) (M := ML_law) (pc := 280) (lsL i (some (.int (I k))) u6) dL_law_280 rfl rfl rfl rfl rfl rfl (fun _ => ?_) trivial
  refine tt_ld (P := True) (M := ML_law) (pc := 282) dL_law_282 rfl rfl rfl rfl rfl (fun _ => ?_) trivial
  refine lw_arg 1 hi (by decide) dL_law_283 dL_law_284 dL_law_286 dL_law_287 dL_law_288 ?_
  refine tt_vcHI (M := ML_law) (pc := 289) dL_law_289 rfl rfl [] rfl rfl ⟨rfl, by decide, Nat.le_of_ble_eq_true rfl⟩ c1.1.1.2.1.1 g2 ?_
  exact lw_tail c1.1.1.2.1 c1.1.1.2.2 q1 dL_law_292 dL_law_294 dL_law_295 dL_law_298 dL_law_300 dL_law_305 dL_law_307 dL_law_310 dL_law_311 dL_law_312 dL_law_313 dL_law_315 dL_law_316 dL_law_317 dL_law_322 rfl K
theorem lc_2 (hc : clR SH F e S W) (hW : wfW W) (hm : mdR S N W) (hN : 0 ≤ N ∧ N < 900000000) (hi : 0 ≤ i ∧ i + 6 ≤ sc.1 ∧ sc.1 ≤ 3072) (K : LK sc i e N) : LG sc 325 i u5 u6 SH S := by
  obtain ⟨k, SH', F', e', S', g1, c1, e1, f1, v1, x1⟩ := w_orders (p1 := (xs sc i 1)) hc.1.1.1 (fun _ h => k_orders h) (orders_cl (sc := sc)  (u2 := none) (u3 := none) (n := (xs sc i 1)) hc hW (xs_rg sc i 1))
  obtain ⟨b, S2, g2, m2, v2, x2, f2⟩ := orders_md (sc := sc) (SH := SH') (u2 := none) (n := (xs sc i 1)) c1.1.1.2.1 hW (mdR_cl hm (fun j a b => f1 j a (by omega))) ⟨hN.1, by omega⟩ (xs_rg sc i 1)
  have q1 := lw_agree (.inl rfl) v1 x1 v2 x2 (f2 110 (by omega))
  obtain ⟨r, hr, K⟩ := K SH' F' e' S2 (ordF W (xs sc i 1)).2 (N + 50000) (some (.int (I k))) (some (.int (I b))) (clR_md c1 (fun j h => f2 j (by omega))) (wf_ordF hW _) m2 (by omega) (by omega) e1
  refine ⟨r, hr, ?_⟩
  refine tt_ld (P := True) (M := ML_law) (pc := 325) dL_law_325 rfl rfl rfl rfl rfl (fun _ => ?_) trivial
  refine lw_arg 1 hi (by decide) dL_law_326 dL_law_327 dL_law_329 dL_law_330 dL_law_331 ?_
  refine tt_ld (P := True) (M := ML_law) (pc := 332) dL_law_332 rfl rfl rfl rfl rfl (fun _ => ?_) trivial
  refine tt_scA (M := ML_law) (pc := 333) dL_law_333 rfl [] rfl rfl ⟨rfl, by decide, Nat.le_of_ble_eq_true rfl⟩ g1 ?_
  refine tt_st (P := True) (M := ML_law) (pc := 336) (lsL i (some (.int (I k))) u6) dL_law_336 rfl rfl rfl rfl rfl rfl (fun _ => ?_) trivial
  refine tt_ld (P := True) (M := ML_law) (pc := 338) dL_law_338 rfl rfl rfl rfl rfl (fun _ => ?_) trivial
  refine lw_arg 1 hi (by decide) dL_law_339 dL_law_340 dL_law_342 dL_law_343 dL_law_344 ?_
  refine tt_vcHI (M := ML_law) (pc := 345) dL_law_345 rfl rfl [] rfl rfl ⟨rfl, by decide, Nat.le_of_ble_eq_true rfl⟩ c1.1.1.2.1.1 g2 ?_
  exact lw_tail c1.1.1.2.1 c1.1.1.2.2 q1 dL_law_348 dL_law_350 dL_law_351 dL_law_354 dL_law_356 dL_law_361 dL_law_363 dL_law_366 dL_law_367 dL_law_368 dL_law_369 dL_law_371 dL_law_372 dL_law_373 dL_law_378 rfl K
theorem lc_3 (hc : clR SH F e S W) (hW : wfW W) (hm : mdR S N W) (hN : 0 ≤ N ∧ N < 900000000) (hi : 0 ≤ i ∧ i + 6 ≤ sc.1 ∧ sc.1 ≤ 3072) (K : LK sc i e N) : LG sc 381 i u5 u6 SH S := by
  obtain ⟨SH', F', e', S', g1, c1, e1, f1⟩ := fault_cl (sc := sc)   hc
  obtain ⟨b, S2, g2, m2, v2, x2, f2⟩ := fault_md (sc := sc) (SH := SH') (y := 1) c1.1.1.2.1 hW (mdR_cl hm (fun j a b => f1 j a (by omega)))
  obtain ⟨v, hv⟩ : ∃ v, v = W.2.2.2 1 1 := ⟨_, rfl⟩
  rw [← hv] at g1 v2
  obtain ⟨rfl, -⟩ := v2 v rfl
  replace g1 : G sc MX10_fault 0 [some (.ref 0)] [] SH S (rI b SH' S') := g1
  obtain ⟨r, hr, K⟩ := K SH' F' e' S2 W N u5 u6 (clR_md c1 (fun j h => f2 j (by omega))) (hW) m2 (by omega) (by omega) e1
  refine ⟨r, hr, ?_⟩
  refine tt_ld (P := True) (M := ML_law) (pc := 381) dL_law_381 rfl rfl rfl rfl rfl (fun _ => ?_) trivial
  refine tt_vcHI (M := ML_law) (pc := 382) dL_law_382 rfl rfl [] rfl rfl ⟨rfl, by decide, Nat.le_of_ble_eq_true rfl⟩ hc.1.1.1.1 g1 ?_
  refine tt_ld (P := True) (M := ML_law) (pc := 385) dL_law_385 rfl rfl rfl rfl rfl (fun _ => ?_) trivial
  refine tt_vcHI (M := ML_law) (pc := 386) dL_law_386 rfl rfl [.int (I b)] rfl rfl ⟨rfl, by decide, Nat.le_of_ble_eq_true rfl⟩ c1.1.1.2.1.1 g2 ?_
  exact tt_ic_eq (P1 := True) (P2 := False) (M := ML_law) (pc := 389) 2323 dL_law_389 rfl (fun _ => K) (fun h => h.elim) (by rw [if_pos rfl]; trivial)
theorem lc_4 (hc : clR SH F e S W) (hW : wfW W) (hm : mdR S N W) (hN : 0 ≤ N ∧ N < 900000000) (hi : 0 ≤ i ∧ i + 6 ≤ sc.1 ∧ sc.1 ≤ 3072) (K : LK sc i e N) : LG sc 394 i u5 u6 SH S := by
  obtain ⟨k, SH', F', e', S', g1, c1, e1, f1, v1, x1⟩ := w_count (p1 := (xs sc i 1)) hc.1.1.1 (fun _ h => k_count h) (count_cl (sc := sc)  (x := (xs sc i 1)) hc hW (xs_rg sc i 1))
  obtain ⟨b, S2, g2, m2, v2, x2, f2⟩ := count_md (sc := sc) (SH := SH') (x := (xs sc i 1)) (y := 1) c1.1.1.2.1 hW (mdR_cl hm (fun j a b => f1 j a (by omega))) (xs_rg sc i 1)
  have q1 := lw_agree (.inl rfl) v1 x1 v2 x2 (f2 110 (by omega))
  obtain ⟨r, hr, K⟩ := K SH' F' e' S2 W N (some (.int (I k))) (some (.int (I b))) (clR_md c1 (fun j h => f2 j (by omega))) (hW) m2 (by omega) (by omega) e1
  refine ⟨r, hr, ?_⟩
  refine tt_ld (P := True) (M := ML_law) (pc := 394) dL_law_394 rfl rfl rfl rfl rfl (fun _ => ?_) trivial
  refine lw_arg 1 hi (by decide) dL_law_395 dL_law_396 dL_law_398 dL_law_399 dL_law_400 ?_
  refine tt_ld (P := True) (M := ML_law) (pc := 401) dL_law_401 rfl rfl rfl rfl rfl (fun _ => ?_) trivial
  refine tt_scA (M := ML_law) (pc := 402) dL_law_402 rfl [] rfl rfl ⟨rfl, by decide, Nat.le_of_ble_eq_true rfl⟩ g1 ?_
  refine tt_st (P := True) (M := ML_law) (pc := 405) (lsL i (some (.int (I k))) u6) dL_law_405 rfl rfl rfl rfl rfl rfl (fun _ => ?_) trivial
  refine tt_ld (P := True) (M := ML_law) (pc := 407) dL_law_407 rfl rfl rfl rfl rfl (fun _ => ?_) trivial
  refine lw_arg 1 hi (by decide) dL_law_408 dL_law_409 dL_law_411 dL_law_412 dL_law_413 ?_
  refine tt_vcHI (M := ML_law) (pc := 414) dL_law_414 rfl rfl [] rfl rfl ⟨rfl, by decide, Nat.le_of_ble_eq_true rfl⟩ c1.1.1.2.1.1 g2 ?_
  exact lw_tail c1.1.1.2.1 c1.1.1.2.2 q1 dL_law_417 dL_law_419 dL_law_420 dL_law_423 dL_law_425 dL_law_430 dL_law_432 dL_law_435 dL_law_436 dL_law_437 dL_law_438 dL_law_440 dL_law_441 dL_law_442 dL_law_447 rfl K
theorem lc_5 (hc : clR SH F e S W) (hW : wfW W) (hm : mdR S N W) (hN : 0 ≤ N ∧ N < 900000000) (hi : 0 ≤ i ∧ i + 6 ≤ sc.1 ∧ sc.1 ≤ 3072) (K : LK sc i e N) : LG sc 450 i u5 u6 SH S := by
  obtain ⟨k, SH', F', e', S', g1, c1, e1, f1, v1, x1⟩ := w_guest (p1 := (xs sc i 1)) (p2 := (xs sc i 2)) hc.1.1.1 (fun _ h => k_guest h) (guest_cl (sc := sc)  (u := none) (u' := none) (g := (xs sc i 1)) (x := (xs sc i 2)) hc hW (xs_rg sc i 1) (xs_rg sc i 2))
  obtain ⟨b, S2, g2, m2, v2, x2, f2⟩ := guest_md (sc := sc) (SH := SH') (u3 := none) (u4 := none) (u5 := none) (u6 := none) (g := (xs sc i 1)) (x := (xs sc i 2)) (y := 1) c1.1.1.2.1 hW (mdR_cl hm (fun j a b => f1 j a (by omega))) (xs_rg sc i 1) (xs_rg sc i 2)
  have q1 := lw_agree (.inl rfl) v1 x1 v2 x2 (f2 110 (by omega))
  obtain ⟨r, hr, K⟩ := K SH' F' e' S2 W N (some (.int (I k))) (some (.int (I b))) (clR_md c1 (fun j h => f2 j (by omega))) (hW) m2 (by omega) (by omega) e1
  refine ⟨r, hr, ?_⟩
  refine tt_ld (P := True) (M := ML_law) (pc := 450) dL_law_450 rfl rfl rfl rfl rfl (fun _ => ?_) trivial
  refine lw_arg 1 hi (by decide) dL_law_451 dL_law_452 dL_law_454 dL_law_455 dL_law_456 ?_
  refine lw_arg 2 hi (by decide) dL_law_457 dL_law_458 dL_law_460 dL_law_461 dL_law_462 ?_
  refine tt_ld (P := True) (M := ML_law) (pc := 463) dL_law_463 rfl rfl rfl rfl rfl (fun _ => ?_) trivial
  refine tt_scA (M := ML_law) (pc := 464) dL_law_464 rfl [] rfl rfl ⟨rfl, by decide, Nat.le_of_ble_eq_true rfl⟩ g1 ?_
  refine tt_st (P := True) (M := ML_law) (pc := 467) (lsL i (some (.int (I k))) u6) dL_law_467 rfl rfl rfl rfl rfl rfl (fun _ => ?_) trivial
  refine tt_ld (P := True) (M := ML_law) (pc := 469) dL_law_469 rfl rfl rfl rfl rfl (fun _ => ?_) trivial
  refine lw_arg 1 hi (by decide) dL_law_470 dL_law_471 dL_law_473 dL_law_474 dL_law_475 ?_
  refine lw_arg 2 hi (by decide) dL_law_476 dL_law_477 dL_law_479 dL_law_480 dL_law_481 ?_
  refine tt_vcHI (M := ML_law) (pc := 482) dL_law_482 rfl rfl [] rfl rfl ⟨rfl, by decide, Nat.le_of_ble_eq_true rfl⟩ c1.1.1.2.1.1 g2 ?_
  exact lw_tail c1.1.1.2.1 c1.1.1.2.2 q1 dL_law_485 dL_law_487 dL_law_488 dL_law_491 dL_law_493 dL_law_498 dL_law_500 dL_law_503 dL_law_504 dL_law_505 dL_law_506 dL_law_508 dL_law_509 dL_law_510 dL_law_515 rfl K
theorem lc_6 (hc : clR SH F e S W) (hW : wfW W) (hm : mdR S N W) (hN : 0 ≤ N ∧ N < 900000000) (hi : 0 ≤ i ∧ i + 6 ≤ sc.1 ∧ sc.1 ≤ 3072) (K : LK sc i e N) : LG sc 518 i u5 u6 SH S := by
  obtain ⟨k, SH', F', e', S', g1, c1, e1, f1, v1, x1⟩ := w_read (p1 := (xs sc i 1)) (p2 := (xs sc i 2)) (p3 := (xs sc i 3)) hc.1.1.1 (fun _ h => k_read h) (read_cl (sc := sc)  (u := none) (g := (xs sc i 1)) (p := (xs sc i 2)) (c := (xs sc i 3)) hc hW (xs_rg sc i 1) (xs_rg sc i 2) (xs_rg sc i 3))
  obtain ⟨b, S2, g2, m2, v2, x2, f2⟩ := read_md (sc := sc) (SH := SH') (g := (xs sc i 1)) (p := (xs sc i 2)) (c := (xs sc i 3)) (y := 1) c1.1.1.2.1 hW (mdR_cl hm (fun j a b => f1 j a (by omega))) (xs_rg sc i 1) (xs_rg sc i 2) (xs_rg sc i 3)
  have q1 := lw_agree (.inl rfl) v1 x1 v2 x2 (f2 110 (by omega))
  obtain ⟨r, hr, K⟩ := K SH' F' e' S2 W N (some (.int (I k))) (some (.int (I b))) (clR_md c1 (fun j h => f2 j (by omega))) (hW) m2 (by omega) (by omega) e1
  refine ⟨r, hr, ?_⟩
  refine tt_ld (P := True) (M := ML_law) (pc := 518) dL_law_518 rfl rfl rfl rfl rfl (fun _ => ?_) trivial
  refine lw_arg 1 hi (by decide) dL_law_519 dL_law_520 dL_law_522 dL_law_523 dL_law_524 ?_
  refine lw_arg 2 hi (by decide) dL_law_525 dL_law_526 dL_law_528 dL_law_529 dL_law_530 ?_
  refine lw_arg 3 hi (by decide) dL_law_531 dL_law_532 dL_law_534 dL_law_535 dL_law_536 ?_
  refine tt_ld (P := True) (M := ML_law) (pc := 537) dL_law_537 rfl rfl rfl rfl rfl (fun _ => ?_) trivial
  refine tt_scA (M := ML_law) (pc := 538) dL_law_538 rfl [] rfl rfl ⟨rfl, by decide, Nat.le_of_ble_eq_true rfl⟩ g1 ?_
  refine tt_st (P := True) (M := ML_law) (pc := 541) (lsL i (some (.int (I k))) u6) dL_law_541 rfl rfl rfl rfl rfl rfl (fun _ => ?_) trivial
  refine tt_ld (P := True) (M := ML_law) (pc := 543) dL_law_543 rfl rfl rfl rfl rfl (fun _ => ?_) trivial
  refine lw_arg 1 hi (by decide) dL_law_544 dL_law_545 dL_law_547 dL_law_548 dL_law_549 ?_
  refine lw_arg 2 hi (by decide) dL_law_550 dL_law_551 dL_law_553 dL_law_554 dL_law_555 ?_
  refine lw_arg 3 hi (by decide) dL_law_556 dL_law_557 dL_law_559 dL_law_560 dL_law_561 ?_
  refine tt_vcHI (M := ML_law) (pc := 562) dL_law_562 rfl rfl [] rfl rfl ⟨rfl, by decide, Nat.le_of_ble_eq_true rfl⟩ c1.1.1.2.1.1 g2 ?_
  exact lw_tail c1.1.1.2.1 c1.1.1.2.2 q1 dL_law_565 dL_law_567 dL_law_568 dL_law_571 dL_law_573 dL_law_578 dL_law_580 dL_law_583 dL_law_584 dL_law_585 dL_law_586 dL_law_588 dL_law_589 dL_law_590 dL_law_595 rfl K
theorem lc_7 (hc : clR SH F e S W) (hW : wfW W) (hm : mdR S N W) (hN : 0 ≤ N ∧ N < 900000000) (hi : 0 ≤ i ∧ i + 6 ≤ sc.1 ∧ sc.1 ≤ 3072) (K : LK sc i e N) : LG sc 598 i u5 u6 SH S := by
  obtain ⟨k, SH', F', e', S', g1, c1, e1, f1, v1, x1⟩ := w_page (p1 := (xs sc i 1)) (p2 := (xs sc i 2)) (p3 := (xs sc i 3)) hc.1.1.1 (fun _ h => k_page h) (page_cl (sc := sc)  (u := none) (u' := none) (g := (xs sc i 1)) (p := (xs sc i 2)) (x := (xs sc i 3)) hc hW (xs_rg sc i 1) (xs_rg sc i 2) (xs_rg sc i 3))
  obtain ⟨b, S2, g2, m2, v2, x2, f2⟩ := page_md (sc := sc) (SH := SH') (u := none) (g := (xs sc i 1)) (p := (xs sc i 2)) (x := (xs sc i 3)) (y := 1) c1.1.1.2.1 hW (mdR_cl hm (fun j a b => f1 j a (by omega))) (xs_rg sc i 1) (xs_rg sc i 2) (xs_rg sc i 3)
  have q1 := lw_agree (.inl rfl) v1 x1 v2 x2 (f2 110 (by omega))
  obtain ⟨r, hr, K⟩ := K SH' F' e' S2 W N (some (.int (I k))) (some (.int (I b))) (clR_md c1 (fun j h => f2 j (by omega))) (hW) m2 (by omega) (by omega) e1
  refine ⟨r, hr, ?_⟩
  refine tt_ld (P := True) (M := ML_law) (pc := 598) dL_law_598 rfl rfl rfl rfl rfl (fun _ => ?_) trivial
  refine lw_arg 1 hi (by decide) dL_law_599 dL_law_600 dL_law_602 dL_law_603 dL_law_604 ?_
  refine lw_arg 2 hi (by decide) dL_law_605 dL_law_606 dL_law_608 dL_law_609 dL_law_610 ?_
  refine lw_arg 3 hi (by decide) dL_law_611 dL_law_612 dL_law_614 dL_law_615 dL_law_616 ?_
  refine tt_ld (P := True) (M := ML_law) (pc := 617) dL_law_617 rfl rfl rfl rfl rfl (fun _ => ?_) trivial
  refine tt_scA (M := ML_law) (pc := 618) dL_law_618 rfl [] rfl rfl ⟨rfl, by decide, Nat.le_of_ble_eq_true rfl⟩ g1 ?_
  refine tt_st (P := True) (M := ML_law) (pc := 621) (lsL i (some (.int (I k))) u6) dL_law_621 rfl rfl rfl rfl rfl rfl (fun _ => ?_) trivial
  refine tt_ld (P := True) (M := ML_law) (pc := 623) dL_law_623 rfl rfl rfl rfl rfl (fun _ => ?_) trivial
  refine lw_arg 1 hi (by decide) dL_law_624 dL_law_625 dL_law_627 dL_law_628 dL_law_629 ?_
  refine lw_arg 2 hi (by decide) dL_law_630 dL_law_631 dL_law_633 dL_law_634 dL_law_635 ?_
  refine lw_arg 3 hi (by decide) dL_law_636 dL_law_637 dL_law_639 dL_law_640 dL_law_641 ?_
  refine tt_vcHI (M := ML_law) (pc := 642) dL_law_642 rfl rfl [] rfl rfl ⟨rfl, by decide, Nat.le_of_ble_eq_true rfl⟩ c1.1.1.2.1.1 g2 ?_
  exact lw_tail c1.1.1.2.1 c1.1.1.2.2 q1 dL_law_645 dL_law_647 dL_law_648 dL_law_651 dL_law_653 dL_law_658 dL_law_660 dL_law_663 dL_law_664 dL_law_665 dL_law_666 dL_law_668 dL_law_669 dL_law_670 dL_law_675 rfl K
theorem lc_8 (hc : clR SH F e S W) (hW : wfW W) (hm : mdR S N W) (hN : 0 ≤ N ∧ N < 900000000) (hi : 0 ≤ i ∧ i + 6 ≤ sc.1 ∧ sc.1 ≤ 3072) (K : LK sc i e N) : LG sc 678 i u5 u6 SH S := by
  obtain ⟨k, SH', F', e', S', g1, c1, e1, f1, v1, x1⟩ := w_frame (p1 := (xs sc i 1)) (p2 := (xs sc i 2)) hc.1.1.1 (fun _ h => k_frame h) (frame_cl (sc := sc)  (u := none) (f := (xs sc i 1)) (i := (xs sc i 2)) hc hW (xs_rg sc i 1) (xs_rg sc i 2))
  obtain ⟨b, S2, g2, m2, v2, x2, f2⟩ := frame_md (sc := sc) (SH := SH') (f := (xs sc i 1)) (i := (xs sc i 2)) (y := 1) c1.1.1.2.1 hW (mdR_cl hm (fun j a b => f1 j a (by omega))) (xs_rg sc i 1) (xs_rg sc i 2)
  have q1 := lw_agree (.inl rfl) v1 x1 v2 x2 (f2 110 (by omega))
  obtain ⟨r, hr, K⟩ := K SH' F' e' S2 W N (some (.int (I k))) (some (.int (I b))) (clR_md c1 (fun j h => f2 j (by omega))) (hW) m2 (by omega) (by omega) e1
  refine ⟨r, hr, ?_⟩
  refine tt_ld (P := True) (M := ML_law) (pc := 678) dL_law_678 rfl rfl rfl rfl rfl (fun _ => ?_) trivial
  refine lw_arg 1 hi (by decide) dL_law_679 dL_law_680 dL_law_682 dL_law_683 dL_law_684 ?_
  refine lw_arg 2 hi (by decide) dL_law_685 dL_law_686 dL_law_688 dL_law_689 dL_law_690 ?_
  refine tt_ld (P := True) (M := ML_law) (pc := 691) dL_law_691 rfl rfl rfl rfl rfl (fun _ => ?_) trivial
  refine tt_scA (M := ML_law) (pc := 692) dL_law_692 rfl [] rfl rfl ⟨rfl, by decide, Nat.le_of_ble_eq_true rfl⟩ g1 ?_
  refine tt_st (P := True) (M := ML_law) (pc := 695) (lsL i (some (.int (I k))) u6) dL_law_695 rfl rfl rfl rfl rfl rfl (fun _ => ?_) trivial
  refine tt_ld (P := True) (M := ML_law) (pc := 697) dL_law_697 rfl rfl rfl rfl rfl (fun _ => ?_) trivial
  refine lw_arg 1 hi (by decide) dL_law_698 dL_law_699 dL_law_701 dL_law_702 dL_law_703 ?_
  refine lw_arg 2 hi (by decide) dL_law_704 dL_law_705 dL_law_707 dL_law_708 dL_law_709 ?_
  refine tt_vcHI (M := ML_law) (pc := 710) dL_law_710 rfl rfl [] rfl rfl ⟨rfl, by decide, Nat.le_of_ble_eq_true rfl⟩ c1.1.1.2.1.1 g2 ?_
  exact lw_tail c1.1.1.2.1 c1.1.1.2.2 q1 dL_law_713 dL_law_715 dL_law_716 dL_law_719 dL_law_721 dL_law_726 dL_law_728 dL_law_731 dL_law_732 dL_law_733 dL_law_734 dL_law_736 dL_law_737 dL_law_738 dL_law_743 rfl K
theorem lc_9 (hc : clR SH F e S W) (hW : wfW W) (hm : mdR S N W) (hN : 0 ≤ N ∧ N < 900000000) (hi : 0 ≤ i ∧ i + 6 ≤ sc.1 ∧ sc.1 ≤ 3072) (K : LK sc i e N) : LG sc 746 i u5 u6 SH S := by
  obtain ⟨k, SH', F', e', S', g1, c1, e1, f1, v1, x1⟩ := w_chain (p1 := (xs sc i 1)) (p2 := (xs sc i 2)) hc.1.1.1 (fun _ h => k_chain h) (chain_cl (sc := sc)  (u := none) (u' := none) (f := (xs sc i 1)) (i := (xs sc i 2)) hc hW (xs_rg sc i 1) (xs_rg sc i 2))
  obtain ⟨b, S2, g2, m2, v2, x2, f2⟩ := chain_md (sc := sc) (SH := SH') (u := none) (f := (xs sc i 1)) (i := (xs sc i 2)) (y := 1) c1.1.1.2.1 hW (mdR_cl hm (fun j a b => f1 j a (by omega))) (by omega) (xs_rg sc i 1) (xs_rg sc i 2)
  have q1 := lw_agree (.inl rfl) v1 x1 v2 x2 (f2 110 (by omega))
  obtain ⟨r, hr, K⟩ := K SH' F' e' S2 W N (some (.int (I k))) (some (.int (I b))) (clR_md c1 (fun j h => f2 j (by omega))) (hW) m2 (by omega) (by omega) e1
  refine ⟨r, hr, ?_⟩
  refine tt_ld (P := True) (M := ML_law) (pc := 746) dL_law_746 rfl rfl rfl rfl rfl (fun _ => ?_) trivial
  refine lw_arg 1 hi (by decide) dL_law_747 dL_law_748 dL_law_750 dL_law_751 dL_law_752 ?_
  refine lw_arg 2 hi (by decide) dL_law_753 dL_law_754 dL_law_756 dL_law_757 dL_law_758 ?_
  refine tt_ld (P := True) (M := ML_law) (pc := 759) dL_law_759 rfl rfl rfl rfl rfl (fun _ => ?_) trivial
  refine tt_scA (M := ML_law) (pc := 760) dL_law_760 rfl [] rfl rfl ⟨rfl, by decide, Nat.le_of_ble_eq_true rfl⟩ g1 ?_
  refine tt_st (P := True) (M := ML_law) (pc := 763) (lsL i (some (.int (I k))) u6) dL_law_763 rfl rfl rfl rfl rfl rfl (fun _ => ?_) trivial
  refine tt_ld (P := True) (M := ML_law) (pc := 765) dL_law_765 rfl rfl rfl rfl rfl (fun _ => ?_) trivial
  refine lw_arg 1 hi (by decide) dL_law_766 dL_law_767 dL_law_769 dL_law_770 dL_law_771 ?_
  refine lw_arg 2 hi (by decide) dL_law_772 dL_law_773 dL_law_775 dL_law_776 dL_law_777 ?_
  refine tt_vcHI (M := ML_law) (pc := 778) dL_law_778 rfl rfl [] rfl rfl ⟨rfl, by decide, Nat.le_of_ble_eq_true rfl⟩ c1.1.1.2.1.1 g2 ?_
  exact lw_tail c1.1.1.2.1 c1.1.1.2.2 q1 dL_law_781 dL_law_783 dL_law_784 dL_law_787 dL_law_789 dL_law_794 dL_law_796 dL_law_799 dL_law_800 dL_law_801 dL_law_802 dL_law_804 dL_law_805 dL_law_806 dL_law_811 rfl K
theorem lc_10 (hc : clR SH F e S W) (hW : wfW W) (hm : mdR S N W) (hN : 0 ≤ N ∧ N < 900000000) (hi : 0 ≤ i ∧ i + 6 ≤ sc.1 ∧ sc.1 ≤ 3072) (K : LK sc i e N) : LG sc 814 i u5 u6 SH S := by
  obtain ⟨k, SH', F', e', S', g1, c1, e1, f1, v1, x1⟩ := w_knot (p1 := (xs sc i 1)) (p2 := (bz (xs sc i 2))) (p3 := (xs sc i 3)) (p4 := (xs sc i 4)) hc.1.1.1 (fun _ h => k_knot h) (knot_cl (sc := sc)  (u := none) (u' := none) (ρ := (xs sc i 1)) (st := (bz (xs sc i 2))) (i := (xs sc i 3)) (x := (xs sc i 4)) hc hW (xs_rg sc i 1) (bz_01 _) (xs_rg sc i 3) (xs_rg sc i 4))
  obtain ⟨b, S2, g2, m2, v2, x2, f2⟩ := knot_md (sc := sc) (SH := SH') (u := none) (ρ := (xs sc i 1)) (st := (bz (xs sc i 2))) (i := (xs sc i 3)) (x := (xs sc i 4)) (y := 1) c1.1.1.2.1 hW (mdR_cl hm (fun j a b => f1 j a (by omega))) (by omega) (xs_rg sc i 1) (bz_01 _) (xs_rg sc i 3) (xs_rg sc i 4)
  have q1 := lw_agree (.inl rfl) v1 x1 v2 x2 (f2 110 (by omega))
  obtain ⟨r, hr, K⟩ := K SH' F' e' S2 W N (some (.int (I k))) (some (.int (I b))) (clR_md c1 (fun j h => f2 j (by omega))) (hW) m2 (by omega) (by omega) e1
  refine ⟨r, hr, ?_⟩
  refine tt_ld (P := True) (M := ML_law) (pc := 814) dL_law_814 rfl rfl rfl rfl rfl (fun _ => ?_) trivial
  refine lw_arg 1 hi (by decide) dL_law_815 dL_law_816 dL_law_818 dL_law_819 dL_law_820 ?_
  refine lw_bool 2 hi (by decide) dL_law_821 dL_law_822 dL_law_824 dL_law_825 dL_law_826 dL_law_827 dL_law_830 dL_law_831 dL_law_834 ?_
  refine lw_arg 3 hi (by decide) dL_law_835 dL_law_836 dL_law_838 dL_law_839 dL_law_840 ?_
  refine lw_arg 4 hi (by decide) dL_law_841 dL_law_842 dL_law_844 dL_law_845 dL_law_846 ?_
  refine tt_ld (P := True) (M := ML_law) (pc := 847) dL_law_847 rfl rfl rfl rfl rfl (fun _ => ?_) trivial
  refine tt_scA (M := ML_law) (pc := 848) dL_law_848 rfl [] rfl rfl ⟨rfl, by decide, Nat.le_of_ble_eq_true rfl⟩ g1 ?_
  refine tt_st (P := True) (M := ML_law) (pc := 851) (lsL i (some (.int (I k))) u6) dL_law_851 rfl rfl rfl rfl rfl rfl (fun _ => ?_) trivial
  refine tt_ld (P := True) (M := ML_law) (pc := 853) dL_law_853 rfl rfl rfl rfl rfl (fun _ => ?_) trivial
  refine lw_arg 1 hi (by decide) dL_law_854 dL_law_855 dL_law_857 dL_law_858 dL_law_859 ?_
  refine lw_bool 2 hi (by decide) dL_law_860 dL_law_861 dL_law_863 dL_law_864 dL_law_865 dL_law_866 dL_law_869 dL_law_870 dL_law_873 ?_
  refine lw_arg 3 hi (by decide) dL_law_874 dL_law_875 dL_law_877 dL_law_878 dL_law_879 ?_
  refine lw_arg 4 hi (by decide) dL_law_880 dL_law_881 dL_law_883 dL_law_884 dL_law_885 ?_
  refine tt_vcHI (M := ML_law) (pc := 886) dL_law_886 rfl rfl [] rfl rfl ⟨rfl, by decide, Nat.le_of_ble_eq_true rfl⟩ c1.1.1.2.1.1 g2 ?_
  exact lw_tail c1.1.1.2.1 c1.1.1.2.2 q1 dL_law_889 dL_law_891 dL_law_892 dL_law_895 dL_law_897 dL_law_902 dL_law_904 dL_law_907 dL_law_908 dL_law_909 dL_law_910 dL_law_912 dL_law_913 dL_law_914 dL_law_919 rfl K
theorem lc_11 (hc : clR SH F e S W) (hW : wfW W) (hm : mdR S N W) (hN : 0 ≤ N ∧ N < 900000000) (hi : 0 ≤ i ∧ i + 6 ≤ sc.1 ∧ sc.1 ≤ 3072) (K : LK sc i e N) : LG sc 922 i u5 u6 SH S := by
  obtain ⟨k, SH', F', e', S', g1, c1, e1, f1, v1, x1⟩ := w_like (p1 := (xs sc i 1)) (p2 := (xs sc i 2)) (p3 := (xs sc i 3)) hc.1.1.1 (fun _ h => k_like h) (like_cl (sc := sc)  (u4 := none) (u5 := none) (u6 := none) (u7 := none) (g := (xs sc i 1)) (p := (xs sc i 2)) (i := (xs sc i 3)) hc hW (xs_rg sc i 1) (xs_rg sc i 2) (xs_rg sc i 3))
  obtain ⟨b, S2, g2, m2, v2, x2, f2⟩ := like_md (sc := sc) (SH := SH') (u4 := none) (u5 := none) (u6 := none) (g := (xs sc i 1)) (p := (xs sc i 2)) (i := (xs sc i 3)) (y := 1) c1.1.1.2.1 hW (mdR_cl hm (fun j a b => f1 j a (by omega))) (xs_rg sc i 1) (xs_rg sc i 2) (xs_rg sc i 3)
  have q1 := lw_agree (.inl rfl) v1 x1 v2 x2 (f2 110 (by omega))
  obtain ⟨r, hr, K⟩ := K SH' F' e' S2 W N (some (.int (I k))) (some (.int (I b))) (clR_md c1 (fun j h => f2 j (by omega))) (hW) m2 (by omega) (by omega) e1
  refine ⟨r, hr, ?_⟩
  refine tt_ld (P := True) (M := ML_law) (pc := 922) dL_law_922 rfl rfl rfl rfl rfl (fun _ => ?_) trivial
  refine lw_arg 1 hi (by decide) dL_law_923 dL_law_924 dL_law_926 dL_law_927 dL_law_928 ?_
  refine lw_arg 2 hi (by decide) dL_law_929 dL_law_930 dL_law_932 dL_law_933 dL_law_934 ?_
  refine lw_arg 3 hi (by decide) dL_law_935 dL_law_936 dL_law_938 dL_law_939 dL_law_940 ?_
  refine tt_ld (P := True) (M := ML_law) (pc := 941) dL_law_941 rfl rfl rfl rfl rfl (fun _ => ?_) trivial
  refine tt_scA (M := ML_law) (pc := 942) dL_law_942 rfl [] rfl rfl ⟨rfl, by decide, Nat.le_of_ble_eq_true rfl⟩ g1 ?_
  refine tt_st (P := True) (M := ML_law) (pc := 945) (lsL i (some (.int (I k))) u6) dL_law_945 rfl rfl rfl rfl rfl rfl (fun _ => ?_) trivial
  refine tt_ld (P := True) (M := ML_law) (pc := 947) dL_law_947 rfl rfl rfl rfl rfl (fun _ => ?_) trivial
  refine lw_arg 1 hi (by decide) dL_law_948 dL_law_949 dL_law_951 dL_law_952 dL_law_953 ?_
  refine lw_arg 2 hi (by decide) dL_law_954 dL_law_955 dL_law_957 dL_law_958 dL_law_959 ?_
  refine lw_arg 3 hi (by decide) dL_law_960 dL_law_961 dL_law_963 dL_law_964 dL_law_965 ?_
  refine tt_vcHI (M := ML_law) (pc := 966) dL_law_966 rfl rfl [] rfl rfl ⟨rfl, by decide, Nat.le_of_ble_eq_true rfl⟩ c1.1.1.2.1.1 g2 ?_
  exact lw_tail c1.1.1.2.1 c1.1.1.2.2 q1 dL_law_969 dL_law_971 dL_law_972 dL_law_975 dL_law_977 dL_law_982 dL_law_984 dL_law_987 dL_law_988 dL_law_989 dL_law_990 dL_law_992 dL_law_993 dL_law_994 dL_law_999 rfl K
theorem lc_12 (hc : clR SH F e S W) (hW : wfW W) (hm : mdR S N W) (hN : 0 ≤ N ∧ N < 900000000) (hi : 0 ≤ i ∧ i + 6 ≤ sc.1 ∧ sc.1 ≤ 3072) (K : LK sc i e N) : LG sc 1002 i u5 u6 SH S := by
  obtain ⟨k, SH', F', e', S', g1, c1, e1, f1, v1, x1⟩ := w_write (p1 := (xs sc i 1)) (p2 := (xs sc i 2)) (p3 := (xs sc i 3)) (p4 := (xs sc i 4)) hc.1.1.1 (fun _ h => k_write h) (write_cl (sc := sc)  (u := none) (g := (xs sc i 1)) (p := (xs sc i 2)) (c := (xs sc i 3)) (n := (xs sc i 4)) hc hW (xs_rg sc i 1) (xs_rg sc i 2) (xs_rg sc i 3) (xs_rg sc i 4))
  obtain ⟨b, S2, g2, m2, v2, x2, f2⟩ := write_md (sc := sc) (SH := SH') (g := (xs sc i 1)) (p := (xs sc i 2)) (c := (xs sc i 3)) (n := (xs sc i 4)) (y := 1) c1.1.1.2.1 hW (mdR_cl hm (fun j a b => f1 j a (by omega))) (xs_rg sc i 1) (xs_rg sc i 2) (xs_rg sc i 3) (xs_rg sc i 4)
  have q1 := lw_agree (.inl rfl) v1 x1 v2 x2 (f2 110 (by omega))
  obtain ⟨r, hr, K⟩ := K SH' F' e' S2 (writeF W (xs sc i 1) (xs sc i 2) (xs sc i 3) (xs sc i 4)).2 N (some (.int (I k))) (some (.int (I b))) (clR_md c1 (fun j h => f2 j (by omega))) (wf_write hW) m2 (by omega) (by omega) e1
  refine ⟨r, hr, ?_⟩
  refine tt_ld (P := True) (M := ML_law) (pc := 1002) dL_law_1002 rfl rfl rfl rfl rfl (fun _ => ?_) trivial
  refine lw_arg 1 hi (by decide) dL_law_1003 dL_law_1004 dL_law_1006 dL_law_1007 dL_law_1008 ?_
  refine lw_arg 2 hi (by decide) dL_law_1009 dL_law_1010 dL_law_1012 dL_law_1013 dL_law_1014 ?_
  refine lw_arg 3 hi (by decide) dL_law_1015 dL_law_1016 dL_law_1018 dL_law_1019 dL_law_1020 ?_
  refine lw_arg 4 hi (by decide) dL_law_1021 dL_law_1022 dL_law_1024 dL_law_1025 dL_law_1026 ?_
  refine tt_ld (P := True) (M := ML_law) (pc := 1027) dL_law_1027 rfl rfl rfl rfl rfl (fun _ => ?_) trivial
  refine tt_scA (M := ML_law) (pc := 1028) dL_law_1028 rfl [] rfl rfl ⟨rfl, by decide, Nat.le_of_ble_eq_true rfl⟩ g1 ?_
  refine tt_st (P := True) (M := ML_law) (pc := 1031) (lsL i (some (.int (I k))) u6) dL_law_1031 rfl rfl rfl rfl rfl rfl (fun _ => ?_) trivial
  refine tt_ld (P := True) (M := ML_law) (pc := 1033) dL_law_1033 rfl rfl rfl rfl rfl (fun _ => ?_) trivial
  refine lw_arg 1 hi (by decide) dL_law_1034 dL_law_1035 dL_law_1037 dL_law_1038 dL_law_1039 ?_
  refine lw_arg 2 hi (by decide) dL_law_1040 dL_law_1041 dL_law_1043 dL_law_1044 dL_law_1045 ?_
  refine lw_arg 3 hi (by decide) dL_law_1046 dL_law_1047 dL_law_1049 dL_law_1050 dL_law_1051 ?_
  refine lw_arg 4 hi (by decide) dL_law_1052 dL_law_1053 dL_law_1055 dL_law_1056 dL_law_1057 ?_
  refine tt_vcHI (M := ML_law) (pc := 1058) dL_law_1058 rfl rfl [] rfl rfl ⟨rfl, by decide, Nat.le_of_ble_eq_true rfl⟩ c1.1.1.2.1.1 g2 ?_
  exact lw_tail c1.1.1.2.1 c1.1.1.2.2 q1 dL_law_1061 dL_law_1063 dL_law_1064 dL_law_1067 dL_law_1069 dL_law_1074 dL_law_1076 dL_law_1079 dL_law_1080 dL_law_1081 dL_law_1082 dL_law_1084 dL_law_1085 dL_law_1086 dL_law_1091 rfl K
theorem lc_13 (hc : clR SH F e S W) (hW : wfW W) (hm : mdR S N W) (hN : 0 ≤ N ∧ N < 900000000) (hi : 0 ≤ i ∧ i + 6 ≤ sc.1 ∧ sc.1 ≤ 3072) (K : LK sc i e N) : LG sc 1094 i u5 u6 SH S := by
  obtain ⟨k, SH', F', e', S', g1, c1, e1, f1, v1, x1⟩ := w_copy (p1 := (xs sc i 1)) (p2 := (xs sc i 2)) (p3 := (xs sc i 3)) (p4 := (xs sc i 4)) hc.1.1.1 (fun _ h => k_copy h) (copy_cl (sc := sc)  (u := none) (u' := none) (g := (xs sc i 1)) (p := (xs sc i 2)) (o := (xs sc i 3)) (q := (xs sc i 4)) hc hW (xs_rg sc i 1) (xs_rg sc i 2) (xs_rg sc i 3) (xs_rg sc i 4))
  obtain ⟨b, S2, g2, m2, v2, x2, f2⟩ := copy_md (sc := sc) (SH := SH') (g := (xs sc i 1)) (p := (xs sc i 2)) (o := (xs sc i 3)) (q := (xs sc i 4)) (y := 1) c1.1.1.2.1 hW (mdR_cl hm (fun j a b => f1 j a (by omega))) (xs_rg sc i 1) (xs_rg sc i 2) (xs_rg sc i 3) (xs_rg sc i 4)
  have q1 := lw_agree (.inl rfl) v1 x1 v2 x2 (f2 110 (by omega))
  obtain ⟨r, hr, K⟩ := K SH' F' e' S2 (copyF W (xs sc i 1) (xs sc i 2) (xs sc i 3) (xs sc i 4)).2 N (some (.int (I k))) (some (.int (I b))) (clR_md c1 (fun j h => f2 j (by omega))) (wf_copy hW) m2 (by omega) (by omega) e1
  refine ⟨r, hr, ?_⟩
  refine tt_ld (P := True) (M := ML_law) (pc := 1094) dL_law_1094 rfl rfl rfl rfl rfl (fun _ => ?_) trivial
  refine lw_arg 1 hi (by decide) dL_law_1095 dL_law_1096 dL_law_1098 dL_law_1099 dL_law_1100 ?_
  refine lw_arg 2 hi (by decide) dL_law_1101 dL_law_1102 dL_law_1104 dL_law_1105 dL_law_1106 ?_
  refine lw_arg 3 hi (by decide) dL_law_1107 dL_law_1108 dL_law_1110 dL_law_1111 dL_law_1112 ?_
  refine lw_arg 4 hi (by decide) dL_law_1113 dL_law_1114 dL_law_1116 dL_law_1117 dL_law_1118 ?_
  refine tt_ld (P := True) (M := ML_law) (pc := 1119) dL_law_1119 rfl rfl rfl rfl rfl (fun _ => ?_) trivial
  refine tt_scA (M := ML_law) (pc := 1120) dL_law_1120 rfl [] rfl rfl ⟨rfl, by decide, Nat.le_of_ble_eq_true rfl⟩ g1 ?_
  refine tt_st (P := True) (M := ML_law) (pc := 1123) (lsL i (some (.int (I k))) u6) dL_law_1123 rfl rfl rfl rfl rfl rfl (fun _ => ?_) trivial
  refine tt_ld (P := True) (M := ML_law) (pc := 1125) dL_law_1125 rfl rfl rfl rfl rfl (fun _ => ?_) trivial
  refine lw_arg 1 hi (by decide) dL_law_1126 dL_law_1127 dL_law_1129 dL_law_1130 dL_law_1131 ?_
  refine lw_arg 2 hi (by decide) dL_law_1132 dL_law_1133 dL_law_1135 dL_law_1136 dL_law_1137 ?_
  refine lw_arg 3 hi (by decide) dL_law_1138 dL_law_1139 dL_law_1141 dL_law_1142 dL_law_1143 ?_
  refine lw_arg 4 hi (by decide) dL_law_1144 dL_law_1145 dL_law_1147 dL_law_1148 dL_law_1149 ?_
  refine tt_vcHI (M := ML_law) (pc := 1150) dL_law_1150 rfl rfl [] rfl rfl ⟨rfl, by decide, Nat.le_of_ble_eq_true rfl⟩ c1.1.1.2.1.1 g2 ?_
  exact lw_tail c1.1.1.2.1 c1.1.1.2.2 q1 dL_law_1153 dL_law_1155 dL_law_1156 dL_law_1159 dL_law_1161 dL_law_1166 dL_law_1168 dL_law_1171 dL_law_1172 dL_law_1173 dL_law_1174 dL_law_1176 dL_law_1177 dL_law_1178 dL_law_1183 rfl K
theorem lc_14 (hc : clR SH F e S W) (hW : wfW W) (hm : mdR S N W) (hN : 0 ≤ N ∧ N < 900000000) (hi : 0 ≤ i ∧ i + 6 ≤ sc.1 ∧ sc.1 ≤ 3072) (K : LK sc i e N) : LG sc 1186 i u5 u6 SH S := by
  obtain ⟨k, SH', F', e', S', g1, c1, e1, f1, v1, x1⟩ := w_drop (p1 := (xs sc i 1)) (p2 := (xs sc i 2)) hc.1.1.1 (fun _ h => k_drop h) (drop_cl (sc := sc)  (u := none) (g := (xs sc i 1)) (p := (xs sc i 2)) hc hW (xs_rg sc i 1) (xs_rg sc i 2))
  obtain ⟨b, S2, g2, m2, v2, x2, f2⟩ := drop_md (sc := sc) (SH := SH') (g := (xs sc i 1)) (p := (xs sc i 2)) (y := 1) c1.1.1.2.1 hW (mdR_cl hm (fun j a b => f1 j a (by omega))) (xs_rg sc i 1) (xs_rg sc i 2)
  have q1 := lw_agree (.inl rfl) v1 x1 v2 x2 (f2 110 (by omega))
  obtain ⟨r, hr, K⟩ := K SH' F' e' S2 (dropF W (xs sc i 1) (xs sc i 2)).2 N (some (.int (I k))) (some (.int (I b))) (clR_md c1 (fun j h => f2 j (by omega))) (wf_dropF hW) m2 (by omega) (by omega) e1
  refine ⟨r, hr, ?_⟩
  refine tt_ld (P := True) (M := ML_law) (pc := 1186) dL_law_1186 rfl rfl rfl rfl rfl (fun _ => ?_) trivial
  refine lw_arg 1 hi (by decide) dL_law_1187 dL_law_1188 dL_law_1190 dL_law_1191 dL_law_1192 ?_
  refine lw_arg 2 hi (by decide) dL_law_1193 dL_law_1194 dL_law_1196 dL_law_1197 dL_law_1198 ?_
  refine tt_ld (P := True) (M := ML_law) (pc := 1199) dL_law_1199 rfl rfl rfl rfl rfl (fun _ => ?_) trivial
  refine tt_scA (M := ML_law) (pc := 1200) dL_law_1200 rfl [] rfl rfl ⟨rfl, by decide, Nat.le_of_ble_eq_true rfl⟩ g1 ?_
  refine tt_st (P := True) (M := ML_law) (pc := 1203) (lsL i (some (.int (I k))) u6) dL_law_1203 rfl rfl rfl rfl rfl rfl (fun _ => ?_) trivial
  refine tt_ld (P := True) (M := ML_law) (pc := 1205) dL_law_1205 rfl rfl rfl rfl rfl (fun _ => ?_) trivial
  refine lw_arg 1 hi (by decide) dL_law_1206 dL_law_1207 dL_law_1209 dL_law_1210 dL_law_1211 ?_
  refine lw_arg 2 hi (by decide) dL_law_1212 dL_law_1213 dL_law_1215 dL_law_1216 dL_law_1217 ?_
  refine tt_vcHI (M := ML_law) (pc := 1218) dL_law_1218 rfl rfl [] rfl rfl ⟨rfl, by decide, Nat.le_of_ble_eq_true rfl⟩ c1.1.1.2.1.1 g2 ?_
  exact lw_tail c1.1.1.2.1 c1.1.1.2.2 q1 dL_law_1221 dL_law_1223 dL_law_1224 dL_law_1227 dL_law_1229 dL_law_1234 dL_law_1236 dL_law_1239 dL_law_1240 dL_law_1241 dL_law_1242 dL_law_1244 dL_law_1245 dL_law_1246 dL_law_1251 rfl K
theorem lc_15 (hc : clR SH F e S W) (hW : wfW W) (hm : mdR S N W) (hN : 0 ≤ N ∧ N < 900000000) (hi : 0 ≤ i ∧ i + 6 ≤ sc.1 ∧ sc.1 ≤ 3072) (K : LK sc i e N) : LG sc 1254 i u5 u6 SH S := by
  obtain ⟨k, SH', F', e', S', g1, c1, e1, f1, v1, x1⟩ := w_advise (p1 := (xs sc i 1)) (p2 := (xs sc i 2)) (p3 := (xs sc i 3)) (p4 := (bz (xs sc i 4))) hc.1.1.1 (fun _ h => k_advise h) (advise_cl (sc := sc)  (u := none) (u' := none) (u2 := none) (g := (xs sc i 1)) (f := (xs sc i 2)) (t := (xs sc i 3)) (as := (bz (xs sc i 4))) hc hW (xs_rg sc i 1) (xs_rg sc i 2) (xs_rg sc i 3) (bz_01 _))
  obtain ⟨b, S2, g2, m2, v2, x2, f2⟩ := advise_md (sc := sc) (SH := SH') (u := none) (g := (xs sc i 1)) (f := (xs sc i 2)) (t := (xs sc i 3)) (as := (bz (xs sc i 4))) (y := 1) c1.1.1.2.1 hW (mdR_cl hm (fun j a b => f1 j a (by omega))) (xs_rg sc i 1) (xs_rg sc i 2) (xs_rg sc i 3) (bz_01 _)
  have q1 := lw_agree (.inl rfl) v1 x1 v2 x2 (f2 110 (by omega))
  obtain ⟨r, hr, K⟩ := K SH' F' e' S2 (adviseF W (xs sc i 1) (xs sc i 2) (xs sc i 3) (bz (xs sc i 4))).2 N (some (.int (I k))) (some (.int (I b))) (clR_md c1 (fun j h => f2 j (by omega))) (wf_advise hW) m2 (by omega) (by omega) e1
  refine ⟨r, hr, ?_⟩
  refine tt_ld (P := True) (M := ML_law) (pc := 1254) dL_law_1254 rfl rfl rfl rfl rfl (fun _ => ?_) trivial
  refine lw_arg 1 hi (by decide) dL_law_1255 dL_law_1256 dL_law_1258 dL_law_1259 dL_law_1260 ?_
  refine lw_arg 2 hi (by decide) dL_law_1261 dL_law_1262 dL_law_1264 dL_law_1265 dL_law_1266 ?_
  refine lw_arg 3 hi (by decide) dL_law_1267 dL_law_1268 dL_law_1270 dL_law_1271 dL_law_1272 ?_
  refine lw_bool 4 hi (by decide) dL_law_1273 dL_law_1274 dL_law_1276 dL_law_1277 dL_law_1278 dL_law_1279 dL_law_1282 dL_law_1283 dL_law_1286 ?_
  refine tt_ld (P := True) (M := ML_law) (pc := 1287) dL_law_1287 rfl rfl rfl rfl rfl (fun _ => ?_) trivial
  refine tt_scA (M := ML_law) (pc := 1288) dL_law_1288 rfl [] rfl rfl ⟨rfl, by decide, Nat.le_of_ble_eq_true rfl⟩ g1 ?_
  refine tt_st (P := True) (M := ML_law) (pc := 1291) (lsL i (some (.int (I k))) u6) dL_law_1291 rfl rfl rfl rfl rfl rfl (fun _ => ?_) trivial
  refine tt_ld (P := True) (M := ML_law) (pc := 1293) dL_law_1293 rfl rfl rfl rfl rfl (fun _ => ?_) trivial
  refine lw_arg 1 hi (by decide) dL_law_1294 dL_law_1295 dL_law_1297 dL_law_1298 dL_law_1299 ?_
  refine lw_arg 2 hi (by decide) dL_law_1300 dL_law_1301 dL_law_1303 dL_law_1304 dL_law_1305 ?_
  refine lw_arg 3 hi (by decide) dL_law_1306 dL_law_1307 dL_law_1309 dL_law_1310 dL_law_1311 ?_
  refine lw_bool 4 hi (by decide) dL_law_1312 dL_law_1313 dL_law_1315 dL_law_1316 dL_law_1317 dL_law_1318 dL_law_1321 dL_law_1322 dL_law_1325 ?_
  refine tt_vcHI (M := ML_law) (pc := 1326) dL_law_1326 rfl rfl [] rfl rfl ⟨rfl, by decide, Nat.le_of_ble_eq_true rfl⟩ c1.1.1.2.1.1 g2 ?_
  exact lw_tail c1.1.1.2.1 c1.1.1.2.2 q1 dL_law_1329 dL_law_1331 dL_law_1332 dL_law_1335 dL_law_1337 dL_law_1342 dL_law_1344 dL_law_1347 dL_law_1348 dL_law_1349 dL_law_1350 dL_law_1352 dL_law_1353 dL_law_1354 dL_law_1359 rfl K
theorem lc_16 (hc : clR SH F e S W) (hW : wfW W) (hm : mdR S N W) (hN : 0 ≤ N ∧ N < 900000000) (hi : 0 ≤ i ∧ i + 6 ≤ sc.1 ∧ sc.1 ≤ 3072) (K : LK sc i e N) : LG sc 1362 i u5 u6 SH S := by
  obtain ⟨SH', F', e', S', g1, c1, e1, f1⟩ := scan_cl (sc := sc)  (n := (xs sc i 1)) hc hW (xs_rg sc i 1)
  obtain ⟨b, S2, g2, m2, v2, x2, f2⟩ := scan_md (sc := sc) (SH := SH') (n := (xs sc i 1)) (y := 1) c1.1.1.2.1 hW (mdR_cl hm (fun j a b => f1 j a (by omega))) (by omega) (xs_rg sc i 1)
  obtain ⟨v, hv⟩ := v_scan (W := W) (p1 := (xs sc i 1))
  rw [hv] at g1
  obtain ⟨rfl, -⟩ := v2 v hv
  replace g1 : G sc MX10_scan 0 [some (.ref 0), some (.int (I (xs sc i 1)))] [] SH S (rI b SH' S') := g1
  obtain ⟨r, hr, K⟩ := K SH' F' e' S2 (scanF W (xs sc i 1)).2 (N + 100) u5 u6 (clR_md c1 (fun j h => f2 j (by omega))) (wf_scanF hW) m2 (by omega) (by omega) e1
  refine ⟨r, hr, ?_⟩
  refine tt_ld (P := True) (M := ML_law) (pc := 1362) dL_law_1362 rfl rfl rfl rfl rfl (fun _ => ?_) trivial
  refine lw_arg 1 hi (by decide) dL_law_1363 dL_law_1364 dL_law_1366 dL_law_1367 dL_law_1368 ?_
  refine tt_vcHI (M := ML_law) (pc := 1369) dL_law_1369 rfl rfl [] rfl rfl ⟨rfl, by decide, Nat.le_of_ble_eq_true rfl⟩ hc.1.1.1.1 g1 ?_
  refine tt_ld (P := True) (M := ML_law) (pc := 1372) dL_law_1372 rfl rfl rfl rfl rfl (fun _ => ?_) trivial
  refine lw_arg 1 hi (by decide) dL_law_1373 dL_law_1374 dL_law_1376 dL_law_1377 dL_law_1378 ?_
  refine tt_vcHI (M := ML_law) (pc := 1379) dL_law_1379 rfl rfl [.int (I b)] rfl rfl ⟨rfl, by decide, Nat.le_of_ble_eq_true rfl⟩ c1.1.1.2.1.1 g2 ?_
  exact tt_ic_eq (P1 := True) (P2 := False) (M := ML_law) (pc := 1382) 2323 dL_law_1382 rfl (fun _ => K) (fun h => h.elim) (by rw [if_pos rfl]; trivial)
theorem lc_17 (hc : clR SH F e S W) (hW : wfW W) (hm : mdR S N W) (hN : 0 ≤ N ∧ N < 900000000) (hi : 0 ≤ i ∧ i + 6 ≤ sc.1 ∧ sc.1 ≤ 3072) (K : LK sc i e N) : LG sc 1387 i u5 u6 SH S := by
  obtain ⟨SH', F', e', S', g1, c1, e1, f1⟩ := ticks_cl (sc := sc)  (n := (xs sc i 1)) hc hW (xs_rg sc i 1)
  obtain ⟨b, S2, g2, m2, v2, x2, f2⟩ := ticks_md (sc := sc) (SH := SH') (n := (xs sc i 1)) (y := 1) c1.1.1.2.1 hW (mdR_cl hm (fun j a b => f1 j a (by omega))) (by omega) (xs_rg sc i 1)
  obtain ⟨v, hv⟩ := v_ticks (W := W) (p1 := (xs sc i 1))
  rw [hv] at g1
  obtain ⟨rfl, -⟩ := v2 v hv
  replace g1 : G sc MX10_ticks 0 [some (.ref 0), some (.int (I (xs sc i 1)))] [] SH S (rI b SH' S') := g1
  obtain ⟨r, hr, K⟩ := K SH' F' e' S2 (ticksF W (xs sc i 1)).2 (N + 320) u5 u6 (clR_md c1 (fun j h => f2 j (by omega))) (wf_ticksF hW) m2 (by omega) (by omega) e1
  refine ⟨r, hr, ?_⟩
  refine tt_ld (P := True) (M := ML_law) (pc := 1387) dL_law_1387 rfl rfl rfl rfl rfl (fun _ => ?_) trivial
  refine lw_arg 1 hi (by decide) dL_law_1388 dL_law_1389 dL_law_1391 dL_law_1392 dL_law_1393 ?_
  refine tt_vcHI (M := ML_law) (pc := 1394) dL_law_1394 rfl rfl [] rfl rfl ⟨rfl, by decide, Nat.le_of_ble_eq_true rfl⟩ hc.1.1.1.1 g1 ?_
  refine tt_ld (P := True) (M := ML_law) (pc := 1397) dL_law_1397 rfl rfl rfl rfl rfl (fun _ => ?_) trivial
  refine lw_arg 1 hi (by decide) dL_law_1398 dL_law_1399 dL_law_1401 dL_law_1402 dL_law_1403 ?_
  refine tt_vcHI (M := ML_law) (pc := 1404) dL_law_1404 rfl rfl [.int (I b)] rfl rfl ⟨rfl, by decide, Nat.le_of_ble_eq_true rfl⟩ c1.1.1.2.1.1 g2 ?_
  exact tt_ic_eq (P1 := True) (P2 := False) (M := ML_law) (pc := 1407) 2323 dL_law_1407 rfl (fun _ => K) (fun h => h.elim) (by rw [if_pos rfl]; trivial)
end
