/-! ===== sortvce ===== -/
section
theorem d_DualPivotQuicksort_sort_SorteraJIII_325 : decode prog_46_method_13_code 325 = .ok (.lload 13, 2) := by decide +kernel
theorem d_DualPivotQuicksort_sort_SorteraJIII_327 : decode prog_46_method_13_code 327 = .ok (.aload_n 1, 1) := by decide +kernel
theorem d_DualPivotQuicksort_sort_SorteraJIII_328 : decode prog_46_method_13_code 328 = .ok (.iload 11, 2) := by decide +kernel
theorem d_DualPivotQuicksort_sort_SorteraJIII_330 : decode prog_46_method_13_code 330 = .ok (.laload, 1) := by decide +kernel
theorem d_DualPivotQuicksort_sort_SorteraJIII_331 : decode prog_46_method_13_code 331 = .ok (.lcmp, 1) := by decide +kernel
theorem d_DualPivotQuicksort_sort_SorteraJIII_332 : decode prog_46_method_13_code 332 = .ok (.ifCond .ge 55, 3) := by decide +kernel
theorem d_DualPivotQuicksort_sort_SorteraJIII_387 : decode prog_46_method_13_code 387 = .ok (.lload 13, 2) := by decide +kernel
theorem d_DualPivotQuicksort_sort_SorteraJIII_389 : decode prog_46_method_13_code 389 = .ok (.aload_n 1, 1) := by decide +kernel
theorem d_DualPivotQuicksort_sort_SorteraJIII_390 : decode prog_46_method_13_code 390 = .ok (.iload 12, 2) := by decide +kernel
theorem d_DualPivotQuicksort_sort_SorteraJIII_392 : decode prog_46_method_13_code 392 = .ok (.laload, 1) := by decide +kernel
theorem d_DualPivotQuicksort_sort_SorteraJIII_393 : decode prog_46_method_13_code 393 = .ok (.lcmp, 1) := by decide +kernel
theorem d_DualPivotQuicksort_sort_SorteraJIII_394 : decode prog_46_method_13_code 394 = .ok (.ifCond .le 52, 3) := by decide +kernel
theorem d_DualPivotQuicksort_sort_SorteraJIII_397 : decode prog_46_method_13_code 397 = .ok (.lload 13, 2) := by decide +kernel
theorem d_DualPivotQuicksort_sort_SorteraJIII_399 : decode prog_46_method_13_code 399 = .ok (.aload_n 1, 1) := by decide +kernel
theorem d_DualPivotQuicksort_sort_SorteraJIII_400 : decode prog_46_method_13_code 400 = .ok (.iload 9, 2) := by decide +kernel
theorem d_DualPivotQuicksort_sort_SorteraJIII_402 : decode prog_46_method_13_code 402 = .ok (.laload, 1) := by decide +kernel
theorem d_DualPivotQuicksort_sort_SorteraJIII_403 : decode prog_46_method_13_code 403 = .ok (.lcmp, 1) := by decide +kernel
theorem d_DualPivotQuicksort_sort_SorteraJIII_404 : decode prog_46_method_13_code 404 = .ok (.ifCond .le 28, 3) := by decide +kernel
theorem d_DualPivotQuicksort_sort_SorteraJIII_432 : decode prog_46_method_13_code 432 = .ok (.aload_n 1, 1) := by decide +kernel
theorem d_DualPivotQuicksort_sort_SorteraJIII_433 : decode prog_46_method_13_code 433 = .ok (.iload 10, 2) := by decide +kernel
theorem d_DualPivotQuicksort_sort_SorteraJIII_435 : decode prog_46_method_13_code 435 = .ok (.aload_n 1, 1) := by decide +kernel
theorem d_DualPivotQuicksort_sort_SorteraJIII_436 : decode prog_46_method_13_code 436 = .ok (.iload 12, 2) := by decide +kernel
theorem d_DualPivotQuicksort_sort_SorteraJIII_438 : decode prog_46_method_13_code 438 = .ok (.laload, 1) := by decide +kernel
theorem d_DualPivotQuicksort_sort_SorteraJIII_439 : decode prog_46_method_13_code 439 = .ok (.lastore, 1) := by decide +kernel
theorem d_DualPivotQuicksort_sort_SorteraJIII_440 : decode prog_46_method_13_code 440 = .ok (.aload_n 1, 1) := by decide +kernel
theorem d_DualPivotQuicksort_sort_SorteraJIII_441 : decode prog_46_method_13_code 441 = .ok (.iload 12, 2) := by decide +kernel
theorem d_DualPivotQuicksort_sort_SorteraJIII_443 : decode prog_46_method_13_code 443 = .ok (.lload 13, 2) := by decide +kernel
theorem d_DualPivotQuicksort_sort_SorteraJIII_445 : decode prog_46_method_13_code 445 = .ok (.lastore, 1) := by decide +kernel
theorem d_DualPivotQuicksort_sort_SorteraJIII_407 : decode prog_46_method_13_code 407 = .ok (.aload_n 1, 1) := by decide +kernel
theorem d_DualPivotQuicksort_sort_SorteraJIII_408 : decode prog_46_method_13_code 408 = .ok (.iload 10, 2) := by decide +kernel
theorem d_DualPivotQuicksort_sort_SorteraJIII_410 : decode prog_46_method_13_code 410 = .ok (.aload_n 1, 1) := by decide +kernel
theorem d_DualPivotQuicksort_sort_SorteraJIII_411 : decode prog_46_method_13_code 411 = .ok (.iload 12, 2) := by decide +kernel
theorem d_DualPivotQuicksort_sort_SorteraJIII_413 : decode prog_46_method_13_code 413 = .ok (.laload, 1) := by decide +kernel
theorem d_DualPivotQuicksort_sort_SorteraJIII_414 : decode prog_46_method_13_code 414 = .ok (.lastore, 1) := by decide +kernel
theorem d_DualPivotQuicksort_sort_SorteraJIII_415 : decode prog_46_method_13_code 415 = .ok (.aload_n 1, 1) := by decide +kernel
theorem d_DualPivotQuicksort_sort_SorteraJIII_416 : decode prog_46_method_13_code 416 = .ok (.iload 12, 2) := by decide +kernel
theorem d_DualPivotQuicksort_sort_SorteraJIII_418 : decode prog_46_method_13_code 418 = .ok (.aload_n 1, 1) := by decide +kernel
theorem d_DualPivotQuicksort_sort_SorteraJIII_419 : decode prog_46_method_13_code 419 = .ok (.iload 9, 2) := by decide +kernel
theorem d_DualPivotQuicksort_sort_SorteraJIII_421 : decode prog_46_method_13_code 421 = .ok (.laload, 1) := by decide +kernel
theorem d_DualPivotQuicksort_sort_SorteraJIII_422 : decode prog_46_method_13_code 422 = .ok (.lastore, 1) := by decide +kernel
theorem d_DualPivotQuicksort_sort_SorteraJIII_423 : decode prog_46_method_13_code 423 = .ok (.aload_n 1, 1) := by decide +kernel
theorem d_DualPivotQuicksort_sort_SorteraJIII_424 : decode prog_46_method_13_code 424 = .ok (.iload 9, 2) := by decide +kernel
theorem d_DualPivotQuicksort_sort_SorteraJIII_426 : decode prog_46_method_13_code 426 = .ok (.lload 13, 2) := by decide +kernel
theorem d_DualPivotQuicksort_sort_SorteraJIII_428 : decode prog_46_method_13_code 428 = .ok (.lastore, 1) := by decide +kernel
theorem d_DualPivotQuicksort_sort_SorteraJIII_429 : decode prog_46_method_13_code 429 = .ok (.goto 17, 3) := by decide +kernel
theorem d_DualPivotQuicksort_sort_SorteraJIII_335 : decode prog_46_method_13_code 335 = .ok (.lload 13, 2) := by decide +kernel
theorem d_DualPivotQuicksort_sort_SorteraJIII_337 : decode prog_46_method_13_code 337 = .ok (.aload_n 1, 1) := by decide +kernel
theorem d_DualPivotQuicksort_sort_SorteraJIII_338 : decode prog_46_method_13_code 338 = .ok (.iload 8, 2) := by decide +kernel
theorem d_DualPivotQuicksort_sort_SorteraJIII_340 : decode prog_46_method_13_code 340 = .ok (.laload, 1) := by decide +kernel
theorem d_DualPivotQuicksort_sort_SorteraJIII_341 : decode prog_46_method_13_code 341 = .ok (.lcmp, 1) := by decide +kernel
theorem d_DualPivotQuicksort_sort_SorteraJIII_342 : decode prog_46_method_13_code 342 = .ok (.ifCond .ge 28, 3) := by decide +kernel
theorem d_DualPivotQuicksort_sort_SorteraJIII_370 : decode prog_46_method_13_code 370 = .ok (.aload_n 1, 1) := by decide +kernel
theorem d_DualPivotQuicksort_sort_SorteraJIII_371 : decode prog_46_method_13_code 371 = .ok (.iload 10, 2) := by decide +kernel
theorem d_DualPivotQuicksort_sort_SorteraJIII_373 : decode prog_46_method_13_code 373 = .ok (.aload_n 1, 1) := by decide +kernel
theorem d_DualPivotQuicksort_sort_SorteraJIII_374 : decode prog_46_method_13_code 374 = .ok (.iload 11, 2) := by decide +kernel
theorem d_DualPivotQuicksort_sort_SorteraJIII_376 : decode prog_46_method_13_code 376 = .ok (.laload, 1) := by decide +kernel
theorem d_DualPivotQuicksort_sort_SorteraJIII_377 : decode prog_46_method_13_code 377 = .ok (.lastore, 1) := by decide +kernel
theorem d_DualPivotQuicksort_sort_SorteraJIII_378 : decode prog_46_method_13_code 378 = .ok (.aload_n 1, 1) := by decide +kernel
theorem d_DualPivotQuicksort_sort_SorteraJIII_379 : decode prog_46_method_13_code 379 = .ok (.iload 11, 2) := by decide +kernel
theorem d_DualPivotQuicksort_sort_SorteraJIII_381 : decode prog_46_method_13_code 381 = .ok (.lload 13, 2) := by decide +kernel
theorem d_DualPivotQuicksort_sort_SorteraJIII_383 : decode prog_46_method_13_code 383 = .ok (.lastore, 1) := by decide +kernel
theorem d_DualPivotQuicksort_sort_SorteraJIII_384 : decode prog_46_method_13_code 384 = .ok (.goto 62, 3) := by decide +kernel
theorem d_DualPivotQuicksort_sort_SorteraJIII_345 : decode prog_46_method_13_code 345 = .ok (.aload_n 1, 1) := by decide +kernel
theorem d_DualPivotQuicksort_sort_SorteraJIII_346 : decode prog_46_method_13_code 346 = .ok (.iload 10, 2) := by decide +kernel
theorem d_DualPivotQuicksort_sort_SorteraJIII_348 : decode prog_46_method_13_code 348 = .ok (.aload_n 1, 1) := by decide +kernel
theorem d_DualPivotQuicksort_sort_SorteraJIII_349 : decode prog_46_method_13_code 349 = .ok (.iload 11, 2) := by decide +kernel
theorem d_DualPivotQuicksort_sort_SorteraJIII_351 : decode prog_46_method_13_code 351 = .ok (.laload, 1) := by decide +kernel
theorem d_DualPivotQuicksort_sort_SorteraJIII_352 : decode prog_46_method_13_code 352 = .ok (.lastore, 1) := by decide +kernel
theorem d_DualPivotQuicksort_sort_SorteraJIII_353 : decode prog_46_method_13_code 353 = .ok (.aload_n 1, 1) := by decide +kernel
theorem d_DualPivotQuicksort_sort_SorteraJIII_354 : decode prog_46_method_13_code 354 = .ok (.iload 11, 2) := by decide +kernel
theorem d_DualPivotQuicksort_sort_SorteraJIII_356 : decode prog_46_method_13_code 356 = .ok (.aload_n 1, 1) := by decide +kernel
theorem d_DualPivotQuicksort_sort_SorteraJIII_357 : decode prog_46_method_13_code 357 = .ok (.iload 8, 2) := by decide +kernel
theorem d_DualPivotQuicksort_sort_SorteraJIII_359 : decode prog_46_method_13_code 359 = .ok (.laload, 1) := by decide +kernel
theorem d_DualPivotQuicksort_sort_SorteraJIII_360 : decode prog_46_method_13_code 360 = .ok (.lastore, 1) := by decide +kernel
theorem d_DualPivotQuicksort_sort_SorteraJIII_361 : decode prog_46_method_13_code 361 = .ok (.aload_n 1, 1) := by decide +kernel
theorem d_DualPivotQuicksort_sort_SorteraJIII_362 : decode prog_46_method_13_code 362 = .ok (.iload 8, 2) := by decide +kernel
theorem d_DualPivotQuicksort_sort_SorteraJIII_364 : decode prog_46_method_13_code 364 = .ok (.lload 13, 2) := by decide +kernel
theorem d_DualPivotQuicksort_sort_SorteraJIII_366 : decode prog_46_method_13_code 366 = .ok (.lastore, 1) := by decide +kernel
theorem d_DualPivotQuicksort_sort_SorteraJIII_367 : decode prog_46_method_13_code 367 = .ok (.goto 79, 3) := by decide +kernel
theorem v_DualPivotQuicksort_sort_SorteraJIII_325 {G : XG} {d : Nat} {h : XH} {Q : XV → XH → Prop} {X : Nat → XH → Prop} {x2 x3 x4 x5 x6 x8 x9 x10 x11 x12 x13 : Int} (F : xFix h) (hyp : 0 ≤ x11 ∧ x11 < 12000 ∧ (((xpl h 64 x11) ≤ x13 → 0 ≤ x12 ∧ x12 < 12000 ∧ ((x13 ≤ (xpl h 64 x12) → (xwp G m_DualPivotQuicksort_sort_SorteraJIII (d + 141) 446 [xR (-1), xR 64, xI x2, xI x3, xI x4, xI x5, xI x6, xZ, xI x8, xI x9, xI x10, xI x11, xI x12, xZ, xZ, xZ, xZ, xZ, xZ, xZ, xZ, xZ, xZ, xZ, xZ] [] h Q X)) ∧ (¬ x13 ≤ (xpl h 64 x12) → 0 ≤ x9 ∧ x9 < 12000 ∧ ((x13 ≤ (xpl h 64 x9) → 0 ≤ x10 ∧ x10 < 12000 ∧ (xFix (xst (xst h 64 x10 (xpl h 64 x12)) 64 x12 x13) → xwp G m_DualPivotQuicksort_sort_SorteraJIII (d + 141) 446 [xR (-1), xR 64, xI x2, xI x3, xI x4, xI x5, xI x6, xZ, xI x8, xI x9, xI x10, xI x11, xI x12, xZ, xZ, xZ, xZ, xZ, xZ, xZ, xZ, xZ, xZ, xZ, xZ] [] (xst (xst h 64 x10 (xpl h 64 x12)) 64 x12 x13) Q X)) ∧ (¬ x13 ≤ (xpl h 64 x9) → 0 ≤ x10 ∧ x10 < 12000 ∧ (xFix (xst (xst (xst h 64 x10 (xpl h 64 x12)) 64 x12 (xpl (xst h 64 x10 (xpl h 64 x12)) 64 x9)) 64 x9 x13) → xwp G m_DualPivotQuicksort_sort_SorteraJIII (d + 141) 446 [xR (-1), xR 64, xI x2, xI x3, xI x4, xI x5, xI x6, xZ, xI x8, xI x9, xI x10, xI x11, xI x12, xZ, xZ, xZ, xZ, xZ, xZ, xZ, xZ, xZ, xZ, xZ, xZ] [] (xst (xst (xst h 64 x10 (xpl h 64 x12)) 64 x12 (xpl (xst h 64 x10 (xpl h 64 x12)) 64 x9)) 64 x9 x13) Q X)))))) ∧ (¬ (xpl h 64 x11) ≤ x13 → 0 ≤ x8 ∧ x8 < 12000 ∧ (((xpl h 64 x8) ≤ x13 → 0 ≤ x10 ∧ x10 < 12000 ∧ (xFix (xst (xst h 64 x10 (xpl h 64 x11)) 64 x11 x13) → xwp G m_DualPivotQuicksort_sort_SorteraJIII (d + 141) 446 [xR (-1), xR 64, xI x2, xI x3, xI x4, xI x5, xI x6, xZ, xI x8, xI x9, xI x10, xI x11, xI x12, xZ, xZ, xZ, xZ, xZ, xZ, xZ, xZ, xZ, xZ, xZ, xZ] [] (xst (xst h 64 x10 (xpl h 64 x11)) 64 x11 x13) Q X)) ∧ (¬ (xpl h 64 x8) ≤ x13 → 0 ≤ x10 ∧ x10 < 12000 ∧ (xFix (xst (xst (xst h 64 x10 (xpl h 64 x11)) 64 x11 (xpl (xst h 64 x10 (xpl h 64 x11)) 64 x8)) 64 x8 x13) → xwp G m_DualPivotQuicksort_sort_SorteraJIII (d + 141) 446 [xR (-1), xR 64, xI x2, xI x3, xI x4, xI x5, xI x6, xZ, xI x8, xI x9, xI x10, xI x11, xI x12, xZ, xZ, xZ, xZ, xZ, xZ, xZ, xZ, xZ, xZ, xZ, xZ] [] (xst (xst (xst h 64 x10 (xpl h 64 x11)) 64 x11 (xpl (xst h 64 x10 (xpl h 64 x11)) 64 x8)) 64 x8 x13) Q X)))))) : xwp G m_DualPivotQuicksort_sort_SorteraJIII (d + 141) 325 [xR (-1), xR 64, xI x2, xI x3, xI x4, xI x5, xI x6, xZ, xI x8, xI x9, xI x10, xI x11, xI x12, xL x13, xZ, xZ, xZ, xZ, xZ, xZ, xZ, xZ, xZ, xZ, xZ] [] h Q X := by
  have hnx9 : (93 : Int) ≤ xnx h := F.2.2
  refine xr_okL (fun hl9 => ?_)
  have r_x2 : -2147483648 ≤ x2 ∧ x2 ≤ 2147483647 := hl9 (xI x2) (.tail _ (.tail _ (.head _))) (Nat.le_of_ble_eq_true rfl)
  have r_x3 : -2147483648 ≤ x3 ∧ x3 ≤ 2147483647 := hl9 (xI x3) (.tail _ (.tail _ (.tail _ (.head _)))) (Nat.le_of_ble_eq_true rfl)
  have r_x4 : -2147483648 ≤ x4 ∧ x4 ≤ 2147483647 := hl9 (xI x4) (.tail _ (.tail _ (.tail _ (.tail _ (.head _))))) (Nat.le_of_ble_eq_true rfl)
  have r_x5 : -2147483648 ≤ x5 ∧ x5 ≤ 2147483647 := hl9 (xI x5) (.tail _ (.tail _ (.tail _ (.tail _ (.tail _ (.head _)))))) (Nat.le_of_ble_eq_true rfl)
  have r_x6 : -2147483648 ≤ x6 ∧ x6 ≤ 2147483647 := hl9 (xI x6) (.tail _ (.tail _ (.tail _ (.tail _ (.tail _ (.tail _ (.head _))))))) (Nat.le_of_ble_eq_true rfl)
  have r_x8 : -2147483648 ≤ x8 ∧ x8 ≤ 2147483647 := hl9 (xI x8) (.tail _ (.tail _ (.tail _ (.tail _ (.tail _ (.tail _ (.tail _ (.tail _ (.head _))))))))) (Nat.le_of_ble_eq_true rfl)
  have r_x9 : -2147483648 ≤ x9 ∧ x9 ≤ 2147483647 := hl9 (xI x9) (.tail _ (.tail _ (.tail _ (.tail _ (.tail _ (.tail _ (.tail _ (.tail _ (.tail _ (.head _)))))))))) (Nat.le_of_ble_eq_true rfl)
  have r_x10 : -2147483648 ≤ x10 ∧ x10 ≤ 2147483647 := hl9 (xI x10) (.tail _ (.tail _ (.tail _ (.tail _ (.tail _ (.tail _ (.tail _ (.tail _ (.tail _ (.tail _ (.head _))))))))))) (Nat.le_of_ble_eq_true rfl)
  have r_x11 : -2147483648 ≤ x11 ∧ x11 ≤ 2147483647 := hl9 (xI x11) (.tail _ (.tail _ (.tail _ (.tail _ (.tail _ (.tail _ (.tail _ (.tail _ (.tail _ (.tail _ (.tail _ (.head _)))))))))))) (Nat.le_of_ble_eq_true rfl)
  have r_x12 : -2147483648 ≤ x12 ∧ x12 ≤ 2147483647 := hl9 (xI x12) (.tail _ (.tail _ (.tail _ (.tail _ (.tail _ (.tail _ (.tail _ (.tail _ (.tail _ (.tail _ (.tail _ (.tail _ (.head _))))))))))))) (Nat.le_of_ble_eq_true rfl)
  have r_x13 : -9223372036854775808 ≤ x13 ∧ x13 ≤ 9223372036854775807 := hl9 (xL x13) (.tail _ (.tail _ (.tail _ (.tail _ (.tail _ (.tail _ (.tail _ (.tail _ (.tail _ (.tail _ (.tail _ (.tail _ (.tail _ (.head _)))))))))))))) (Nat.le_of_ble_eq_true rfl)
  refine xr_lload (pc := 325) (i := 13) (hI := d_DualPivotQuicksort_sort_SorteraJIII_325) (hl := rfl) ?_
  refine xr_aload_n (pc := 327) (i := 1) (hI := d_DualPivotQuicksort_sort_SorteraJIII_327) (hi := rfl) (hl := rfl) ?_
  refine xr_iload (pc := 328) (i := 11) (hI := d_DualPivotQuicksort_sort_SorteraJIII_328) (hl := rfl) ?_
  obtain ⟨c1_, hyp⟩ := hyp
  obtain ⟨c2_, hyp⟩ := hyp
  refine xg_laload (pc := 330) (v := (xpl h 64 x11)) (hI := d_DualPivotQuicksort_sort_SorteraJIII_330) (ft_64 F) c1_ (xlt_of (fl_64 F) c2_) rfl (fun f3_ => ?_)
  replace f3_ : -9223372036854775808 ≤ (xpl h 64 x11) ∧ (xpl h 64 x11) ≤ 9223372036854775807 := f3_
  refine xr_lcmp (pc := 331) (hI := d_DualPivotQuicksort_sort_SorteraJIII_331) ?_
  refine xg_lif_ge (pc := 332) (tgt := 387) (hI := d_DualPivotQuicksort_sort_SorteraJIII_332) (ht := by decide) (fun q9 => ?_) (fun q9 => ?_)
  · replace hyp := hyp.1 q9
    have q4_ := q9
    clear q9
    refine xr_lload (pc := 387) (i := 13) (hI := d_DualPivotQuicksort_sort_SorteraJIII_387) (hl := rfl) ?_
    refine xr_aload_n (pc := 389) (i := 1) (hI := d_DualPivotQuicksort_sort_SorteraJIII_389) (hi := rfl) (hl := rfl) ?_
    refine xr_iload (pc := 390) (i := 12) (hI := d_DualPivotQuicksort_sort_SorteraJIII_390) (hl := rfl) ?_
    obtain ⟨c5_, hyp⟩ := hyp
    obtain ⟨c6_, hyp⟩ := hyp
    refine xg_laload (pc := 392) (v := (xpl h 64 x12)) (hI := d_DualPivotQuicksort_sort_SorteraJIII_392) (ft_64 F) c5_ (xlt_of (fl_64 F) c6_) rfl (fun f7_ => ?_)
    replace f7_ : -9223372036854775808 ≤ (xpl h 64 x12) ∧ (xpl h 64 x12) ≤ 9223372036854775807 := f7_
    refine xr_lcmp (pc := 393) (hI := d_DualPivotQuicksort_sort_SorteraJIII_393) ?_
    refine xg_lif_le (pc := 394) (tgt := 446) (hI := d_DualPivotQuicksort_sort_SorteraJIII_394) (ht := by decide) (fun q9 => ?_) (fun q9 => ?_)
    · replace hyp := hyp.1 q9
      have q8_ := q9
      clear q9
      exact xr_drop (L9 := [xR (-1), xR 64, xI x2, xI x3, xI x4, xI x5, xI x6, xZ, xI x8, xI x9, xI x10, xI x11, xI x12, xZ, xZ, xZ, xZ, xZ, xZ, xZ, xZ, xZ, xZ, xZ, xZ]) (xdrs (xdrs (xdrs (xdrs (xdrs (xdrs (xdrs (xdrs (xdrs (xdrs (xdrs (xdrs (xdrs (xdrz (xdrs (xdrs (xdrs (xdrs (xdrs (xdrs (xdrs (xdrs (xdrs (xdrs (xdrs xdr0))))))))))))))))))))))))) hyp
    · replace hyp := hyp.2 q9
      have q8_ := q9
      clear q9
      refine xr_lload (pc := 397) (i := 13) (hI := d_DualPivotQuicksort_sort_SorteraJIII_397) (hl := rfl) ?_
      refine xr_aload_n (pc := 399) (i := 1) (hI := d_DualPivotQuicksort_sort_SorteraJIII_399) (hi := rfl) (hl := rfl) ?_
      refine xr_iload (pc := 400) (i := 9) (hI := d_DualPivotQuicksort_sort_SorteraJIII_400) (hl := rfl) ?_
      obtain ⟨c9_, hyp⟩ := hyp
      obtain ⟨c10_, hyp⟩ := hyp
      refine xg_laload (pc := 402) (v := (xpl h 64 x9)) (hI := d_DualPivotQuicksort_sort_SorteraJIII_402) (ft_64 F) c9_ (xlt_of (fl_64 F) c10_) rfl (fun f11_ => ?_)
      replace f11_ : -9223372036854775808 ≤ (xpl h 64 x9) ∧ (xpl h 64 x9) ≤ 9223372036854775807 := f11_
      refine xr_lcmp (pc := 403) (hI := d_DualPivotQuicksort_sort_SorteraJIII_403) ?_
      refine xg_lif_le (pc := 404) (tgt := 432) (hI := d_DualPivotQuicksort_sort_SorteraJIII_404) (ht := by decide) (fun q9 => ?_) (fun q9 => ?_)
      · replace hyp := hyp.1 q9
        have q12_ := q9
        clear q9
        refine xr_aload_n (pc := 432) (i := 1) (hI := d_DualPivotQuicksort_sort_SorteraJIII_432) (hi := rfl) (hl := rfl) ?_
        refine xr_iload (pc := 433) (i := 10) (hI := d_DualPivotQuicksort_sort_SorteraJIII_433) (hl := rfl) ?_
        refine xr_aload_n (pc := 435) (i := 1) (hI := d_DualPivotQuicksort_sort_SorteraJIII_435) (hi := rfl) (hl := rfl) ?_
        refine xr_iload (pc := 436) (i := 12) (hI := d_DualPivotQuicksort_sort_SorteraJIII_436) (hl := rfl) ?_
        refine xg_laload (pc := 438) (v := (xpl h 64 x12)) (hI := d_DualPivotQuicksort_sort_SorteraJIII_438) (ft_64 F) (by clear hyp; omega) (xlt_of (fl_64 F) (by clear hyp; omega)) rfl (fun f13_ => ?_)
        replace f13_ : -9223372036854775808 ≤ (xpl h 64 x12) ∧ (xpl h 64 x12) ≤ 9223372036854775807 := f13_
        obtain ⟨c14_, hyp⟩ := hyp
        obtain ⟨c15_, hyp⟩ := hyp
        refine xr_lastore (pc := 439) (hI := d_DualPivotQuicksort_sort_SorteraJIII_439) (ft_64 F) (by decide) c14_ (xlt_of (fl_64 F) c15_) ?_
        have F16_ : xFix (xst h 64 x10 (xpl h 64 x12)) := F.stA xfa_64
        refine xr_aload_n (pc := 440) (i := 1) (hI := d_DualPivotQuicksort_sort_SorteraJIII_440) (hi := rfl) (hl := rfl) ?_
        refine xr_iload (pc := 441) (i := 12) (hI := d_DualPivotQuicksort_sort_SorteraJIII_441) (hl := rfl) ?_
        refine xr_lload (pc := 443) (i := 13) (hI := d_DualPivotQuicksort_sort_SorteraJIII_443) (hl := rfl) ?_
        refine xr_lastore (pc := 445) (hI := d_DualPivotQuicksort_sort_SorteraJIII_445) (ft_64 F16_) (by decide) (by clear hyp; omega) (xlt_of (fl_64 F16_) (by clear hyp; omega)) ?_
        have F17_ : xFix (xst (xst h 64 x10 (xpl h 64 x12)) 64 x12 x13) := F16_.stA xfa_64
        exact xr_drop (L9 := [xR (-1), xR 64, xI x2, xI x3, xI x4, xI x5, xI x6, xZ, xI x8, xI x9, xI x10, xI x11, xI x12, xZ, xZ, xZ, xZ, xZ, xZ, xZ, xZ, xZ, xZ, xZ, xZ]) (xdrs (xdrs (xdrs (xdrs (xdrs (xdrs (xdrs (xdrs (xdrs (xdrs (xdrs (xdrs (xdrs (xdrz (xdrs (xdrs (xdrs (xdrs (xdrs (xdrs (xdrs (xdrs (xdrs (xdrs (xdrs xdr0))))))))))))))))))))))))) (hyp F17_)
      · replace hyp := hyp.2 q9
        have q12_ := q9
        clear q9
        refine xr_aload_n (pc := 407) (i := 1) (hI := d_DualPivotQuicksort_sort_SorteraJIII_407) (hi := rfl) (hl := rfl) ?_
        refine xr_iload (pc := 408) (i := 10) (hI := d_DualPivotQuicksort_sort_SorteraJIII_408) (hl := rfl) ?_
        refine xr_aload_n (pc := 410) (i := 1) (hI := d_DualPivotQuicksort_sort_SorteraJIII_410) (hi := rfl) (hl := rfl) ?_
        refine xr_iload (pc := 411) (i := 12) (hI := d_DualPivotQuicksort_sort_SorteraJIII_411) (hl := rfl) ?_
        refine xg_laload (pc := 413) (v := (xpl h 64 x12)) (hI := d_DualPivotQuicksort_sort_SorteraJIII_413) (ft_64 F) (by clear hyp; omega) (xlt_of (fl_64 F) (by clear hyp; omega)) rfl (fun f18_ => ?_)
        replace f18_ : -9223372036854775808 ≤ (xpl h 64 x12) ∧ (xpl h 64 x12) ≤ 9223372036854775807 := f18_
        obtain ⟨c19_, hyp⟩ := hyp
        obtain ⟨c20_, hyp⟩ := hyp
        refine xr_lastore (pc := 414) (hI := d_DualPivotQuicksort_sort_SorteraJIII_414) (ft_64 F) (by decide) c19_ (xlt_of (fl_64 F) c20_) ?_
        have F21_ : xFix (xst h 64 x10 (xpl h 64 x12)) := F.stA xfa_64
        refine xr_aload_n (pc := 415) (i := 1) (hI := d_DualPivotQuicksort_sort_SorteraJIII_415) (hi := rfl) (hl := rfl) ?_
        refine xr_iload (pc := 416) (i := 12) (hI := d_DualPivotQuicksort_sort_SorteraJIII_416) (hl := rfl) ?_
        refine xr_aload_n (pc := 418) (i := 1) (hI := d_DualPivotQuicksort_sort_SorteraJIII_418) (hi := rfl) (hl := rfl) ?_
        refine xr_iload (pc := 419) (i := 9) (hI := d_DualPivotQuicksort_sort_SorteraJIII_419) (hl := rfl) ?_
        refine xg_laload (pc := 421) (v := (xpl (xst h 64 x10 (xpl h 64 x12)) 64 x9)) (hI := d_DualPivotQuicksort_sort_SorteraJIII_421) (ft_64 F21_) (by clear hyp; omega) (xlt_of (fl_64 F21_) (by clear hyp; omega)) rfl (fun f22_ => ?_)
        replace f22_ : -9223372036854775808 ≤ (xpl (xst h 64 x10 (xpl h 64 x12)) 64 x9) ∧ (xpl (xst h 64 x10 (xpl h 64 x12)) 64 x9) ≤ 9223372036854775807 := f22_
        refine xr_lastore (pc := 422) (hI := d_DualPivotQuicksort_sort_SorteraJIII_422) (ft_64 F21_) (by decide) (by clear hyp; omega) (xlt_of (fl_64 F21_) (by clear hyp; omega)) ?_
        have F23_ : xFix (xst (xst h 64 x10 (xpl h 64 x12)) 64 x12 (xpl (xst h 64 x10 (xpl h 64 x12)) 64 x9)) := F21_.stA xfa_64
        refine xr_aload_n (pc := 423) (i := 1) (hI := d_DualPivotQuicksort_sort_SorteraJIII_423) (hi := rfl) (hl := rfl) ?_
        refine xr_iload (pc := 424) (i := 9) (hI := d_DualPivotQuicksort_sort_SorteraJIII_424) (hl := rfl) ?_
        refine xr_lload (pc := 426) (i := 13) (hI := d_DualPivotQuicksort_sort_SorteraJIII_426) (hl := rfl) ?_
        refine xr_lastore (pc := 428) (hI := d_DualPivotQuicksort_sort_SorteraJIII_428) (ft_64 F23_) (by decide) (by clear hyp; omega) (xlt_of (fl_64 F23_) (by clear hyp; omega)) ?_
        have F24_ : xFix (xst (xst (xst h 64 x10 (xpl h 64 x12)) 64 x12 (xpl (xst h 64 x10 (xpl h 64 x12)) 64 x9)) 64 x9 x13) := F23_.stA xfa_64
        refine xr_goto (pc := 429) (tgt := 446) (hI := d_DualPivotQuicksort_sort_SorteraJIII_429) (ht := by decide) ?_
        exact xr_drop (L9 := [xR (-1), xR 64, xI x2, xI x3, xI x4, xI x5, xI x6, xZ, xI x8, xI x9, xI x10, xI x11, xI x12, xZ, xZ, xZ, xZ, xZ, xZ, xZ, xZ, xZ, xZ, xZ, xZ]) (xdrs (xdrs (xdrs (xdrs (xdrs (xdrs (xdrs (xdrs (xdrs (xdrs (xdrs (xdrs (xdrs (xdrz (xdrs (xdrs (xdrs (xdrs (xdrs (xdrs (xdrs (xdrs (xdrs (xdrs (xdrs xdr0))))))))))))))))))))))))) (hyp F24_)
  · replace hyp := hyp.2 q9
    have q4_ := q9
    clear q9
    refine xr_lload (pc := 335) (i := 13) (hI := d_DualPivotQuicksort_sort_SorteraJIII_335) (hl := rfl) ?_
    refine xr_aload_n (pc := 337) (i := 1) (hI := d_DualPivotQuicksort_sort_SorteraJIII_337) (hi := rfl) (hl := rfl) ?_
    refine xr_iload (pc := 338) (i := 8) (hI := d_DualPivotQuicksort_sort_SorteraJIII_338) (hl := rfl) ?_
    obtain ⟨c25_, hyp⟩ := hyp
    obtain ⟨c26_, hyp⟩ := hyp
    refine xg_laload (pc := 340) (v := (xpl h 64 x8)) (hI := d_DualPivotQuicksort_sort_SorteraJIII_340) (ft_64 F) c25_ (xlt_of (fl_64 F) c26_) rfl (fun f27_ => ?_)
    replace f27_ : -9223372036854775808 ≤ (xpl h 64 x8) ∧ (xpl h 64 x8) ≤ 9223372036854775807 := f27_
    refine xr_lcmp (pc := 341) (hI := d_DualPivotQuicksort_sort_SorteraJIII_341) ?_
    refine xg_lif_ge (pc := 342) (tgt := 370) (hI := d_DualPivotQuicksort_sort_SorteraJIII_342) (ht := by decide) (fun q9 => ?_) (fun q9 => ?_)
    · replace hyp := hyp.1 q9
      have q28_ := q9
      clear q9
      refine xr_aload_n (pc := 370) (i := 1) (hI := d_DualPivotQuicksort_sort_SorteraJIII_370) (hi := rfl) (hl := rfl) ?_
      refine xr_iload (pc := 371) (i := 10) (hI := d_DualPivotQuicksort_sort_SorteraJIII_371) (hl := rfl) ?_
      refine xr_aload_n (pc := 373) (i := 1) (hI := d_DualPivotQuicksort_sort_SorteraJIII_373) (hi := rfl) (hl := rfl) ?_
      refine xr_iload (pc := 374) (i := 11) (hI := d_DualPivotQuicksort_sort_SorteraJIII_374) (hl := rfl) ?_
      refine xg_laload (pc := 376) (v := (xpl h 64 x11)) (hI := d_DualPivotQuicksort_sort_SorteraJIII_376) (ft_64 F) (by clear hyp; omega) (xlt_of (fl_64 F) (by clear hyp; omega)) rfl (fun f29_ => ?_)
      replace f29_ : -9223372036854775808 ≤ (xpl h 64 x11) ∧ (xpl h 64 x11) ≤ 9223372036854775807 := f29_
      obtain ⟨c30_, hyp⟩ := hyp
      obtain ⟨c31_, hyp⟩ := hyp
      refine xr_lastore (pc := 377) (hI := d_DualPivotQuicksort_sort_SorteraJIII_377) (ft_64 F) (by decide) c30_ (xlt_of (fl_64 F) c31_) ?_
      have F32_ : xFix (xst h 64 x10 (xpl h 64 x11)) := F.stA xfa_64
      refine xr_aload_n (pc := 378) (i := 1) (hI := d_DualPivotQuicksort_sort_SorteraJIII_378) (hi := rfl) (hl := rfl) ?_
      refine xr_iload (pc := 379) (i := 11) (hI := d_DualPivotQuicksort_sort_SorteraJIII_379) (hl := rfl) ?_
      refine xr_lload (pc := 381) (i := 13) (hI := d_DualPivotQuicksort_sort_SorteraJIII_381) (hl := rfl) ?_
      refine xr_lastore (pc := 383) (hI := d_DualPivotQuicksort_sort_SorteraJIII_383) (ft_64 F32_) (by decide) (by clear hyp; omega) (xlt_of (fl_64 F32_) (by clear hyp; omega)) ?_
      have F33_ : xFix (xst (xst h 64 x10 (xpl h 64 x11)) 64 x11 x13) := F32_.stA xfa_64
      refine xr_goto (pc := 384) (tgt := 446) (hI := d_DualPivotQuicksort_sort_SorteraJIII_384) (ht := by decide) ?_
      exact xr_drop (L9 := [xR (-1), xR 64, xI x2, xI x3, xI x4, xI x5, xI x6, xZ, xI x8, xI x9, xI x10, xI x11, xI x12, xZ, xZ, xZ, xZ, xZ, xZ, xZ, xZ, xZ, xZ, xZ, xZ]) (xdrs (xdrs (xdrs (xdrs (xdrs (xdrs (xdrs (xdrs (xdrs (xdrs (xdrs (xdrs (xdrs (xdrz (xdrs (xdrs (xdrs (xdrs (xdrs (xdrs (xdrs (xdrs (xdrs (xdrs (xdrs xdr0))))))))))))))))))))))))) (hyp F33_)
    · replace hyp := hyp.2 q9
      have q28_ := q9
      clear q9
      refine xr_aload_n (pc := 345) (i := 1) (hI := d_DualPivotQuicksort_sort_SorteraJIII_345) (hi := rfl) (hl := rfl) ?_
      refine xr_iload (pc := 346) (i := 10) (hI := d_DualPivotQuicksort_sort_SorteraJIII_346) (hl := rfl) ?_
      refine xr_aload_n (pc := 348) (i := 1) (hI := d_DualPivotQuicksort_sort_SorteraJIII_348) (hi := rfl) (hl := rfl) ?_
      refine xr_iload (pc := 349) (i := 11) (hI := d_DualPivotQuicksort_sort_SorteraJIII_349) (hl := rfl) ?_
      refine xg_laload (pc := 351) (v := (xpl h 64 x11)) (hI := d_DualPivotQuicksort_sort_SorteraJIII_351) (ft_64 F) (by clear hyp; omega) (xlt_of (fl_64 F) (by clear hyp; omega)) rfl (fun f34_ => ?_)
      replace f34_ : -9223372036854775808 ≤ (xpl h 64 x11) ∧ (xpl h 64 x11) ≤ 9223372036854775807 := f34_
      obtain ⟨c35_, hyp⟩ := hyp
      obtain ⟨c36_, hyp⟩ := hyp
      refine xr_lastore (pc := 352) (hI := d_DualPivotQuicksort_sort_SorteraJIII_352) (ft_64 F) (by decide) c35_ (xlt_of (fl_64 F) c36_) ?_
      have F37_ : xFix (xst h 64 x10 (xpl h 64 x11)) := F.stA xfa_64
      refine xr_aload_n (pc := 353) (i := 1) (hI := d_DualPivotQuicksort_sort_SorteraJIII_353) (hi := rfl) (hl := rfl) ?_
      refine xr_iload (pc := 354) (i := 11) (hI := d_DualPivotQuicksort_sort_SorteraJIII_354) (hl := rfl) ?_
      refine xr_aload_n (pc := 356) (i := 1) (hI := d_DualPivotQuicksort_sort_SorteraJIII_356) (hi := rfl) (hl := rfl) ?_
      refine xr_iload (pc := 357) (i := 8) (hI := d_DualPivotQuicksort_sort_SorteraJIII_357) (hl := rfl) ?_
      refine xg_laload (pc := 359) (v := (xpl (xst h 64 x10 (xpl h 64 x11)) 64 x8)) (hI := d_DualPivotQuicksort_sort_SorteraJIII_359) (ft_64 F37_) (by clear hyp; omega) (xlt_of (fl_64 F37_) (by clear hyp; omega)) rfl (fun f38_ => ?_)
      replace f38_ : -9223372036854775808 ≤ (xpl (xst h 64 x10 (xpl h 64 x11)) 64 x8) ∧ (xpl (xst h 64 x10 (xpl h 64 x11)) 64 x8) ≤ 9223372036854775807 := f38_
      refine xr_lastore (pc := 360) (hI := d_DualPivotQuicksort_sort_SorteraJIII_360) (ft_64 F37_) (by decide) (by clear hyp; omega) (xlt_of (fl_64 F37_) (by clear hyp; omega)) ?_
      have F39_ : xFix (xst (xst h 64 x10 (xpl h 64 x11)) 64 x11 (xpl (xst h 64 x10 (xpl h 64 x11)) 64 x8)) := F37_.stA xfa_64
      refine xr_aload_n (pc := 361) (i := 1) (hI := d_DualPivotQuicksort_sort_SorteraJIII_361) (hi := rfl) (hl := rfl) ?_
      refine xr_iload (pc := 362) (i := 8) (hI := d_DualPivotQuicksort_sort_SorteraJIII_362) (hl := rfl) ?_
      refine xr_lload (pc := 364) (i := 13) (hI := d_DualPivotQuicksort_sort_SorteraJIII_364) (hl := rfl) ?_
      refine xr_lastore (pc := 366) (hI := d_DualPivotQuicksort_sort_SorteraJIII_366) (ft_64 F39_) (by decide) (by clear hyp; omega) (xlt_of (fl_64 F39_) (by clear hyp; omega)) ?_
      have F40_ : xFix (xst (xst (xst h 64 x10 (xpl h 64 x11)) 64 x11 (xpl (xst h 64 x10 (xpl h 64 x11)) 64 x8)) 64 x8 x13) := F39_.stA xfa_64
      refine xr_goto (pc := 367) (tgt := 446) (hI := d_DualPivotQuicksort_sort_SorteraJIII_367) (ht := by decide) ?_
      exact xr_drop (L9 := [xR (-1), xR 64, xI x2, xI x3, xI x4, xI x5, xI x6, xZ, xI x8, xI x9, xI x10, xI x11, xI x12, xZ, xZ, xZ, xZ, xZ, xZ, xZ, xZ, xZ, xZ, xZ, xZ]) (xdrs (xdrs (xdrs (xdrs (xdrs (xdrs (xdrs (xdrs (xdrs (xdrs (xdrs (xdrs (xdrs (xdrz (xdrs (xdrs (xdrs (xdrs (xdrs (xdrs (xdrs (xdrs (xdrs (xdrs (xdrs xdr0))))))))))))))))))))))))) (hyp F40_)

end
