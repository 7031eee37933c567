/-! ===== sortvcf ===== -/
section
theorem d_DualPivotQuicksort_sort_SorteraJIII_446 : decode prog_46_method_13_code 446 = .ok (.iload_n 3, 1) := by decide +kernel
theorem d_DualPivotQuicksort_sort_SorteraJIII_447 : decode prog_46_method_13_code 447 = .ok (.istore 15, 2) := by decide +kernel
theorem d_DualPivotQuicksort_sort_SorteraJIII_449 : decode prog_46_method_13_code 449 = .ok (.iload 5, 2) := by decide +kernel
theorem d_DualPivotQuicksort_sort_SorteraJIII_451 : decode prog_46_method_13_code 451 = .ok (.istore 16, 2) := by decide +kernel
theorem d_DualPivotQuicksort_sort_SorteraJIII_453 : decode prog_46_method_13_code 453 = .ok (.aload_n 1, 1) := by decide +kernel
theorem d_DualPivotQuicksort_sort_SorteraJIII_454 : decode prog_46_method_13_code 454 = .ok (.iload 8, 2) := by decide +kernel
theorem d_DualPivotQuicksort_sort_SorteraJIII_456 : decode prog_46_method_13_code 456 = .ok (.laload, 1) := by decide +kernel
theorem d_DualPivotQuicksort_sort_SorteraJIII_457 : decode prog_46_method_13_code 457 = .ok (.aload_n 1, 1) := by decide +kernel
theorem d_DualPivotQuicksort_sort_SorteraJIII_458 : decode prog_46_method_13_code 458 = .ok (.iload 11, 2) := by decide +kernel
theorem d_DualPivotQuicksort_sort_SorteraJIII_460 : decode prog_46_method_13_code 460 = .ok (.laload, 1) := by decide +kernel
theorem d_DualPivotQuicksort_sort_SorteraJIII_461 : decode prog_46_method_13_code 461 = .ok (.lcmp, 1) := by decide +kernel
theorem d_DualPivotQuicksort_sort_SorteraJIII_462 : decode prog_46_method_13_code 462 = .ok (.ifCond .ge 333, 3) := by decide +kernel
theorem d_DualPivotQuicksort_sort_SorteraJIII_465 : decode prog_46_method_13_code 465 = .ok (.aload_n 1, 1) := by decide +kernel
theorem d_DualPivotQuicksort_sort_SorteraJIII_466 : decode prog_46_method_13_code 466 = .ok (.iload 11, 2) := by decide +kernel
theorem d_DualPivotQuicksort_sort_SorteraJIII_468 : decode prog_46_method_13_code 468 = .ok (.laload, 1) := by decide +kernel
theorem d_DualPivotQuicksort_sort_SorteraJIII_469 : decode prog_46_method_13_code 469 = .ok (.aload_n 1, 1) := by decide +kernel
theorem d_DualPivotQuicksort_sort_SorteraJIII_470 : decode prog_46_method_13_code 470 = .ok (.iload 10, 2) := by decide +kernel
theorem d_DualPivotQuicksort_sort_SorteraJIII_472 : decode prog_46_method_13_code 472 = .ok (.laload, 1) := by decide +kernel
theorem d_DualPivotQuicksort_sort_SorteraJIII_473 : decode prog_46_method_13_code 473 = .ok (.lcmp, 1) := by decide +kernel
theorem d_DualPivotQuicksort_sort_SorteraJIII_474 : decode prog_46_method_13_code 474 = .ok (.ifCond .ge 321, 3) := by decide +kernel
theorem d_DualPivotQuicksort_sort_SorteraJIII_477 : decode prog_46_method_13_code 477 = .ok (.aload_n 1, 1) := by decide +kernel
theorem d_DualPivotQuicksort_sort_SorteraJIII_478 : decode prog_46_method_13_code 478 = .ok (.iload 10, 2) := by decide +kernel
theorem d_DualPivotQuicksort_sort_SorteraJIII_480 : decode prog_46_method_13_code 480 = .ok (.laload, 1) := by decide +kernel
theorem d_DualPivotQuicksort_sort_SorteraJIII_481 : decode prog_46_method_13_code 481 = .ok (.aload_n 1, 1) := by decide +kernel
theorem d_DualPivotQuicksort_sort_SorteraJIII_482 : decode prog_46_method_13_code 482 = .ok (.iload 12, 2) := by decide +kernel
theorem d_DualPivotQuicksort_sort_SorteraJIII_484 : decode prog_46_method_13_code 484 = .ok (.laload, 1) := by decide +kernel
theorem d_DualPivotQuicksort_sort_SorteraJIII_485 : decode prog_46_method_13_code 485 = .ok (.lcmp, 1) := by decide +kernel
theorem d_DualPivotQuicksort_sort_SorteraJIII_486 : decode prog_46_method_13_code 486 = .ok (.ifCond .ge 309, 3) := by decide +kernel
theorem d_DualPivotQuicksort_sort_SorteraJIII_489 : decode prog_46_method_13_code 489 = .ok (.aload_n 1, 1) := by decide +kernel
theorem d_DualPivotQuicksort_sort_SorteraJIII_490 : decode prog_46_method_13_code 490 = .ok (.iload 12, 2) := by decide +kernel
theorem d_DualPivotQuicksort_sort_SorteraJIII_492 : decode prog_46_method_13_code 492 = .ok (.laload, 1) := by decide +kernel
theorem d_DualPivotQuicksort_sort_SorteraJIII_493 : decode prog_46_method_13_code 493 = .ok (.aload_n 1, 1) := by decide +kernel
theorem d_DualPivotQuicksort_sort_SorteraJIII_494 : decode prog_46_method_13_code 494 = .ok (.iload 9, 2) := by decide +kernel
theorem d_DualPivotQuicksort_sort_SorteraJIII_496 : decode prog_46_method_13_code 496 = .ok (.laload, 1) := by decide +kernel
theorem d_DualPivotQuicksort_sort_SorteraJIII_497 : decode prog_46_method_13_code 497 = .ok (.lcmp, 1) := by decide +kernel
theorem d_DualPivotQuicksort_sort_SorteraJIII_498 : decode prog_46_method_13_code 498 = .ok (.ifCond .ge 297, 3) := by decide +kernel
theorem d_DualPivotQuicksort_sort_SorteraJIII_501 : decode prog_46_method_13_code 501 = .ok (.aload_n 1, 1) := by decide +kernel
theorem d_DualPivotQuicksort_sort_SorteraJIII_502 : decode prog_46_method_13_code 502 = .ok (.iload 8, 2) := by decide +kernel
theorem d_DualPivotQuicksort_sort_SorteraJIII_504 : decode prog_46_method_13_code 504 = .ok (.laload, 1) := by decide +kernel
theorem d_DualPivotQuicksort_sort_SorteraJIII_505 : decode prog_46_method_13_code 505 = .ok (.lstore 17, 2) := by decide +kernel
theorem d_DualPivotQuicksort_sort_SorteraJIII_507 : decode prog_46_method_13_code 507 = .ok (.aload_n 1, 1) := by decide +kernel
theorem d_DualPivotQuicksort_sort_SorteraJIII_508 : decode prog_46_method_13_code 508 = .ok (.iload 9, 2) := by decide +kernel
theorem d_DualPivotQuicksort_sort_SorteraJIII_510 : decode prog_46_method_13_code 510 = .ok (.laload, 1) := by decide +kernel
theorem d_DualPivotQuicksort_sort_SorteraJIII_511 : decode prog_46_method_13_code 511 = .ok (.lstore 19, 2) := by decide +kernel
theorem d_DualPivotQuicksort_sort_SorteraJIII_513 : decode prog_46_method_13_code 513 = .ok (.aload_n 1, 1) := by decide +kernel
theorem d_DualPivotQuicksort_sort_SorteraJIII_514 : decode prog_46_method_13_code 514 = .ok (.iload 8, 2) := by decide +kernel
theorem d_DualPivotQuicksort_sort_SorteraJIII_516 : decode prog_46_method_13_code 516 = .ok (.aload_n 1, 1) := by decide +kernel
theorem d_DualPivotQuicksort_sort_SorteraJIII_517 : decode prog_46_method_13_code 517 = .ok (.iload 15, 2) := by decide +kernel
theorem d_DualPivotQuicksort_sort_SorteraJIII_519 : decode prog_46_method_13_code 519 = .ok (.laload, 1) := by decide +kernel
theorem d_DualPivotQuicksort_sort_SorteraJIII_520 : decode prog_46_method_13_code 520 = .ok (.lastore, 1) := by decide +kernel
theorem d_DualPivotQuicksort_sort_SorteraJIII_521 : decode prog_46_method_13_code 521 = .ok (.aload_n 1, 1) := by decide +kernel
theorem d_DualPivotQuicksort_sort_SorteraJIII_522 : decode prog_46_method_13_code 522 = .ok (.iload 9, 2) := by decide +kernel
theorem d_DualPivotQuicksort_sort_SorteraJIII_524 : decode prog_46_method_13_code 524 = .ok (.aload_n 1, 1) := by decide +kernel
theorem d_DualPivotQuicksort_sort_SorteraJIII_525 : decode prog_46_method_13_code 525 = .ok (.iload 16, 2) := by decide +kernel
theorem d_DualPivotQuicksort_sort_SorteraJIII_527 : decode prog_46_method_13_code 527 = .ok (.laload, 1) := by decide +kernel
theorem d_DualPivotQuicksort_sort_SorteraJIII_528 : decode prog_46_method_13_code 528 = .ok (.lastore, 1) := by decide +kernel
theorem v_DualPivotQuicksort_sort_SorteraJIII_446 {G : XG} {d : Nat} {h : XH} {Q : XV → XH → Prop} {X : Nat → XH → Prop} {x2 x3 x4 x5 x6 x8 x9 x10 x11 x12 : Int} (F : xFix h) (hyp : 0 ≤ x8 ∧ x8 < 12000 ∧ 0 ≤ x11 ∧ x11 < 12000 ∧ (((xpl h 64 x11) ≤ (xpl h 64 x8) → (xwp G m_DualPivotQuicksort_sort_SorteraJIII (d + 141) 795 [xR (-1), xR 64, xI x2, xI x3, xI x4, xZ, xI x6, xZ, xZ, xZ, xI x10, xZ, xZ, xZ, xZ, xI x3, xI x5, xZ, xZ, xZ, xZ, xZ, xZ, xZ, xZ] [] h Q X)) ∧ (¬ (xpl h 64 x11) ≤ (xpl h 64 x8) → 0 ≤ x10 ∧ x10 < 12000 ∧ (((xpl h 64 x10) ≤ (xpl h 64 x11) → (xwp G m_DualPivotQuicksort_sort_SorteraJIII (d + 141) 795 [xR (-1), xR 64, xI x2, xI x3, xI x4, xZ, xI x6, xZ, xZ, xZ, xI x10, xZ, xZ, xZ, xZ, xI x3, xI x5, xZ, xZ, xZ, xZ, xZ, xZ, xZ, xZ] [] h Q X)) ∧ (¬ (xpl h 64 x10) ≤ (xpl h 64 x11) → 0 ≤ x12 ∧ x12 < 12000 ∧ (((xpl h 64 x12) ≤ (xpl h 64 x10) → (xwp G m_DualPivotQuicksort_sort_SorteraJIII (d + 141) 795 [xR (-1), xR 64, xI x2, xI x3, xI x4, xZ, xI x6, xZ, xZ, xZ, xI x10, xZ, xZ, xZ, xZ, xI x3, xI x5, xZ, xZ, xZ, xZ, xZ, xZ, xZ, xZ] [] h Q X)) ∧ (¬ (xpl h 64 x12) ≤ (xpl h 64 x10) → 0 ≤ x9 ∧ x9 < 12000 ∧ (((xpl h 64 x9) ≤ (xpl h 64 x12) → (xwp G m_DualPivotQuicksort_sort_SorteraJIII (d + 141) 795 [xR (-1), xR 64, xI x2, xI x3, xI x4, xZ, xI x6, xZ, xZ, xZ, xI x10, xZ, xZ, xZ, xZ, xI x3, xI x5, xZ, xZ, xZ, xZ, xZ, xZ, xZ, xZ] [] h Q X)) ∧ (¬ (xpl h 64 x9) ≤ (xpl h 64 x12) → 0 ≤ x3 ∧ x3 < 12000 ∧ 0 ≤ x5 ∧ x5 < 12000 ∧ (xFix (xst (xst h 64 x8 (xpl h 64 x3)) 64 x9 (xpl (xst h 64 x8 (xpl h 64 x3)) 64 x5)) → xwp G m_DualPivotQuicksort_sort_SorteraJIII (d + 141) 529 [xR (-1), xR 64, xI x2, xI x3, xI x4, xI x5, xI x6, xZ, xZ, xZ, xZ, xZ, xZ, xZ, xZ, xI x3, xI x5, xL (xpl h 64 x8), xZ, xL (xpl h 64 x9), xZ, xZ, xZ, xZ, xZ] [] (xst (xst h 64 x8 (xpl h 64 x3)) 64 x9 (xpl (xst h 64 x8 (xpl h 64 x3)) 64 x5)) Q X)))))))))) : xwp G m_DualPivotQuicksort_sort_SorteraJIII (d + 141) 446 [xR (-1), xR 64, xI x2, xI x3, xI x4, xI x5, xI x6, xZ, xI x8, xI x9, xI x10, xI x11, xI x12, xZ, xZ, xZ, xZ, xZ, xZ, xZ, xZ, xZ, xZ, xZ, xZ] [] h Q X := by
  have hnx9 : (93 : Int) ≤ xnx h := F.2.2
  refine xr_okL (fun hl9 => ?_)
  have r_x2 : -2147483648 ≤ x2 ∧ x2 ≤ 2147483647 := hl9 (xI x2) (.tail _ (.tail _ (.head _))) (Nat.le_of_ble_eq_true rfl)
  have r_x3 : -2147483648 ≤ x3 ∧ x3 ≤ 2147483647 := hl9 (xI x3) (.tail _ (.tail _ (.tail _ (.head _)))) (Nat.le_of_ble_eq_true rfl)
  have r_x4 : -2147483648 ≤ x4 ∧ x4 ≤ 2147483647 := hl9 (xI x4) (.tail _ (.tail _ (.tail _ (.tail _ (.head _))))) (Nat.le_of_ble_eq_true rfl)
  have r_x5 : -2147483648 ≤ x5 ∧ x5 ≤ 2147483647 := hl9 (xI x5) (.tail _ (.tail _ (.tail _ (.tail _ (.tail _ (.head _)))))) (Nat.le_of_ble_eq_true rfl)
  have r_x6 : -2147483648 ≤ x6 ∧ x6 ≤ 2147483647 := hl9 (xI x6) (.tail _ (.tail _ (.tail _ (.tail _ (.tail _ (.tail _ (.head _))))))) (Nat.le_of_ble_eq_true rfl)
  have r_x8 : -2147483648 ≤ x8 ∧ x8 ≤ 2147483647 := hl9 (xI x8) (.tail _ (.tail _ (.tail _ (.tail _ (.tail _ (.tail _ (.tail _ (.tail _ (.head _))))))))) (Nat.le_of_ble_eq_true rfl)
  have r_x9 : -2147483648 ≤ x9 ∧ x9 ≤ 2147483647 := hl9 (xI x9) (.tail _ (.tail _ (.tail _ (.tail _ (.tail _ (.tail _ (.tail _ (.tail _ (.tail _ (.head _)))))))))) (Nat.le_of_ble_eq_true rfl)
  have r_x10 : -2147483648 ≤ x10 ∧ x10 ≤ 2147483647 := hl9 (xI x10) (.tail _ (.tail _ (.tail _ (.tail _ (.tail _ (.tail _ (.tail _ (.tail _ (.tail _ (.tail _ (.head _))))))))))) (Nat.le_of_ble_eq_true rfl)
  have r_x11 : -2147483648 ≤ x11 ∧ x11 ≤ 2147483647 := hl9 (xI x11) (.tail _ (.tail _ (.tail _ (.tail _ (.tail _ (.tail _ (.tail _ (.tail _ (.tail _ (.tail _ (.tail _ (.head _)))))))))))) (Nat.le_of_ble_eq_true rfl)
  have r_x12 : -2147483648 ≤ x12 ∧ x12 ≤ 2147483647 := hl9 (xI x12) (.tail _ (.tail _ (.tail _ (.tail _ (.tail _ (.tail _ (.tail _ (.tail _ (.tail _ (.tail _ (.tail _ (.tail _ (.head _))))))))))))) (Nat.le_of_ble_eq_true rfl)
  refine xr_iload_n (pc := 446) (i := 3) (hI := d_DualPivotQuicksort_sort_SorteraJIII_446) (hi := rfl) (hl := rfl) ?_
  refine xr_istore (pc := 447) (i := 15) (L9 := [xR (-1), xR 64, xI x2, xI x3, xI x4, xI x5, xI x6, xZ, xI x8, xI x9, xI x10, xI x11, xI x12, xZ, xZ, xI x3, xZ, xZ, xZ, xZ, xZ, xZ, xZ, xZ, xZ]) (hI := d_DualPivotQuicksort_sort_SorteraJIII_447) (hn := Nat.le_of_ble_eq_true rfl) (hL9 := rfl) ?_
  refine xr_iload (pc := 449) (i := 5) (hI := d_DualPivotQuicksort_sort_SorteraJIII_449) (hl := rfl) ?_
  refine xr_istore (pc := 451) (i := 16) (L9 := [xR (-1), xR 64, xI x2, xI x3, xI x4, xI x5, xI x6, xZ, xI x8, xI x9, xI x10, xI x11, xI x12, xZ, xZ, xI x3, xI x5, xZ, xZ, xZ, xZ, xZ, xZ, xZ, xZ]) (hI := d_DualPivotQuicksort_sort_SorteraJIII_451) (hn := Nat.le_of_ble_eq_true rfl) (hL9 := rfl) ?_
  refine xr_aload_n (pc := 453) (i := 1) (hI := d_DualPivotQuicksort_sort_SorteraJIII_453) (hi := rfl) (hl := rfl) ?_
  refine xr_iload (pc := 454) (i := 8) (hI := d_DualPivotQuicksort_sort_SorteraJIII_454) (hl := rfl) ?_
  obtain ⟨c1_, hyp⟩ := hyp
  obtain ⟨c2_, hyp⟩ := hyp
  refine xg_laload (pc := 456) (v := (xpl h 64 x8)) (hI := d_DualPivotQuicksort_sort_SorteraJIII_456) (ft_64 F) c1_ (xlt_of (fl_64 F) c2_) rfl (fun f3_ => ?_)
  replace f3_ : -9223372036854775808 ≤ (xpl h 64 x8) ∧ (xpl h 64 x8) ≤ 9223372036854775807 := f3_
  refine xr_aload_n (pc := 457) (i := 1) (hI := d_DualPivotQuicksort_sort_SorteraJIII_457) (hi := rfl) (hl := rfl) ?_
  refine xr_iload (pc := 458) (i := 11) (hI := d_DualPivotQuicksort_sort_SorteraJIII_458) (hl := rfl) ?_
  obtain ⟨c4_, hyp⟩ := hyp
  obtain ⟨c5_, hyp⟩ := hyp
  refine xg_laload (pc := 460) (v := (xpl h 64 x11)) (hI := d_DualPivotQuicksort_sort_SorteraJIII_460) (ft_64 F) c4_ (xlt_of (fl_64 F) c5_) rfl (fun f6_ => ?_)
  replace f6_ : -9223372036854775808 ≤ (xpl h 64 x11) ∧ (xpl h 64 x11) ≤ 9223372036854775807 := f6_
  refine xr_lcmp (pc := 461) (hI := d_DualPivotQuicksort_sort_SorteraJIII_461) ?_
  refine xg_lif_ge (pc := 462) (tgt := 795) (hI := d_DualPivotQuicksort_sort_SorteraJIII_462) (ht := by decide) (fun q9 => ?_) (fun q9 => ?_)
  · replace hyp := hyp.1 q9
    have q7_ := q9
    clear q9
    exact xr_drop (L9 := [xR (-1), xR 64, xI x2, xI x3, xI x4, xZ, xI x6, xZ, xZ, xZ, xI x10, xZ, xZ, xZ, xZ, xI x3, xI x5, xZ, xZ, xZ, xZ, xZ, xZ, xZ, xZ]) (xdrs (xdrs (xdrs (xdrs (xdrs (xdrz (xdrs (xdrs (xdrz (xdrz (xdrs (xdrz (xdrz (xdrs (xdrs (xdrs (xdrs (xdrs (xdrs (xdrs (xdrs (xdrs (xdrs (xdrs (xdrs xdr0))))))))))))))))))))))))) hyp
  · replace hyp := hyp.2 q9
    have q7_ := q9
    clear q9
    refine xr_aload_n (pc := 465) (i := 1) (hI := d_DualPivotQuicksort_sort_SorteraJIII_465) (hi := rfl) (hl := rfl) ?_
    refine xr_iload (pc := 466) (i := 11) (hI := d_DualPivotQuicksort_sort_SorteraJIII_466) (hl := rfl) ?_
    refine xg_laload (pc := 468) (v := (xpl h 64 x11)) (hI := d_DualPivotQuicksort_sort_SorteraJIII_468) (ft_64 F) (by clear hyp; omega) (xlt_of (fl_64 F) (by clear hyp; omega)) rfl (fun f8_ => ?_)
    replace f8_ : -9223372036854775808 ≤ (xpl h 64 x11) ∧ (xpl h 64 x11) ≤ 9223372036854775807 := f8_
    refine xr_aload_n (pc := 469) (i := 1) (hI := d_DualPivotQuicksort_sort_SorteraJIII_469) (hi := rfl) (hl := rfl) ?_
    refine xr_iload (pc := 470) (i := 10) (hI := d_DualPivotQuicksort_sort_SorteraJIII_470) (hl := rfl) ?_
    obtain ⟨c9_, hyp⟩ := hyp
    obtain ⟨c10_, hyp⟩ := hyp
    refine xg_laload (pc := 472) (v := (xpl h 64 x10)) (hI := d_DualPivotQuicksort_sort_SorteraJIII_472) (ft_64 F) c9_ (xlt_of (fl_64 F) c10_) rfl (fun f11_ => ?_)
    replace f11_ : -9223372036854775808 ≤ (xpl h 64 x10) ∧ (xpl h 64 x10) ≤ 9223372036854775807 := f11_
    refine xr_lcmp (pc := 473) (hI := d_DualPivotQuicksort_sort_SorteraJIII_473) ?_
    refine xg_lif_ge (pc := 474) (tgt := 795) (hI := d_DualPivotQuicksort_sort_SorteraJIII_474) (ht := by decide) (fun q9 => ?_) (fun q9 => ?_)
    · replace hyp := hyp.1 q9
      have q12_ := q9
      clear q9
      exact xr_drop (L9 := [xR (-1), xR 64, xI x2, xI x3, xI x4, xZ, xI x6, xZ, xZ, xZ, xI x10, xZ, xZ, xZ, xZ, xI x3, xI x5, xZ, xZ, xZ, xZ, xZ, xZ, xZ, xZ]) (xdrs (xdrs (xdrs (xdrs (xdrs (xdrz (xdrs (xdrs (xdrz (xdrz (xdrs (xdrz (xdrz (xdrs (xdrs (xdrs (xdrs (xdrs (xdrs (xdrs (xdrs (xdrs (xdrs (xdrs (xdrs xdr0))))))))))))))))))))))))) hyp
    · replace hyp := hyp.2 q9
      have q12_ := q9
      clear q9
      refine xr_aload_n (pc := 477) (i := 1) (hI := d_DualPivotQuicksort_sort_SorteraJIII_477) (hi := rfl) (hl := rfl) ?_
      refine xr_iload (pc := 478) (i := 10) (hI := d_DualPivotQuicksort_sort_SorteraJIII_478) (hl := rfl) ?_
      refine xg_laload (pc := 480) (v := (xpl h 64 x10)) (hI := d_DualPivotQuicksort_sort_SorteraJIII_480) (ft_64 F) (by clear hyp; omega) (xlt_of (fl_64 F) (by clear hyp; omega)) rfl (fun f13_ => ?_)
      replace f13_ : -9223372036854775808 ≤ (xpl h 64 x10) ∧ (xpl h 64 x10) ≤ 9223372036854775807 := f13_
      refine xr_aload_n (pc := 481) (i := 1) (hI := d_DualPivotQuicksort_sort_SorteraJIII_481) (hi := rfl) (hl := rfl) ?_
      refine xr_iload (pc := 482) (i := 12) (hI := d_DualPivotQuicksort_sort_SorteraJIII_482) (hl := rfl) ?_
      obtain ⟨c14_, hyp⟩ := hyp
      obtain ⟨c15_, hyp⟩ := hyp
      refine xg_laload (pc := 484) (v := (xpl h 64 x12)) (hI := d_DualPivotQuicksort_sort_SorteraJIII_484) (ft_64 F) c14_ (xlt_of (fl_64 F) c15_) rfl (fun f16_ => ?_)
      replace f16_ : -9223372036854775808 ≤ (xpl h 64 x12) ∧ (xpl h 64 x12) ≤ 9223372036854775807 := f16_
      refine xr_lcmp (pc := 485) (hI := d_DualPivotQuicksort_sort_SorteraJIII_485) ?_
      refine xg_lif_ge (pc := 486) (tgt := 795) (hI := d_DualPivotQuicksort_sort_SorteraJIII_486) (ht := by decide) (fun q9 => ?_) (fun q9 => ?_)
      · replace hyp := hyp.1 q9
        have q17_ := q9
        clear q9
        exact xr_drop (L9 := [xR (-1), xR 64, xI x2, xI x3, xI x4, xZ, xI x6, xZ, xZ, xZ, xI x10, xZ, xZ, xZ, xZ, xI x3, xI x5, xZ, xZ, xZ, xZ, xZ, xZ, xZ, xZ]) (xdrs (xdrs (xdrs (xdrs (xdrs (xdrz (xdrs (xdrs (xdrz (xdrz (xdrs (xdrz (xdrz (xdrs (xdrs (xdrs (xdrs (xdrs (xdrs (xdrs (xdrs (xdrs (xdrs (xdrs (xdrs xdr0))))))))))))))))))))))))) hyp
      · replace hyp := hyp.2 q9
        have q17_ := q9
        clear q9
        refine xr_aload_n (pc := 489) (i := 1) (hI := d_DualPivotQuicksort_sort_SorteraJIII_489) (hi := rfl) (hl := rfl) ?_
        refine xr_iload (pc := 490) (i := 12) (hI := d_DualPivotQuicksort_sort_SorteraJIII_490) (hl := rfl) ?_
        refine xg_laload (pc := 492) (v := (xpl h 64 x12)) (hI := d_DualPivotQuicksort_sort_SorteraJIII_492) (ft_64 F) (by clear hyp; omega) (xlt_of (fl_64 F) (by clear hyp; omega)) rfl (fun f18_ => ?_)
        replace f18_ : -9223372036854775808 ≤ (xpl h 64 x12) ∧ (xpl h 64 x12) ≤ 9223372036854775807 := f18_
        refine xr_aload_n (pc := 493) (i := 1) (hI := d_DualPivotQuicksort_sort_SorteraJIII_493) (hi := rfl) (hl := rfl) ?_
        refine xr_iload (pc := 494) (i := 9) (hI := d_DualPivotQuicksort_sort_SorteraJIII_494) (hl := rfl) ?_
        obtain ⟨c19_, hyp⟩ := hyp
        obtain ⟨c20_, hyp⟩ := hyp
        refine xg_laload (pc := 496) (v := (xpl h 64 x9)) (hI := d_DualPivotQuicksort_sort_SorteraJIII_496) (ft_64 F) c19_ (xlt_of (fl_64 F) c20_) rfl (fun f21_ => ?_)
        replace f21_ : -9223372036854775808 ≤ (xpl h 64 x9) ∧ (xpl h 64 x9) ≤ 9223372036854775807 := f21_
        refine xr_lcmp (pc := 497) (hI := d_DualPivotQuicksort_sort_SorteraJIII_497) ?_
        refine xg_lif_ge (pc := 498) (tgt := 795) (hI := d_DualPivotQuicksort_sort_SorteraJIII_498) (ht := by decide) (fun q9 => ?_) (fun q9 => ?_)
        · replace hyp := hyp.1 q9
          have q22_ := q9
          clear q9
          exact xr_drop (L9 := [xR (-1), xR 64, xI x2, xI x3, xI x4, xZ, xI x6, xZ, xZ, xZ, xI x10, xZ, xZ, xZ, xZ, xI x3, xI x5, xZ, xZ, xZ, xZ, xZ, xZ, xZ, xZ]) (xdrs (xdrs (xdrs (xdrs (xdrs (xdrz (xdrs (xdrs (xdrz (xdrz (xdrs (xdrz (xdrz (xdrs (xdrs (xdrs (xdrs (xdrs (xdrs (xdrs (xdrs (xdrs (xdrs (xdrs (xdrs xdr0))))))))))))))))))))))))) hyp
        · replace hyp := hyp.2 q9
          have q22_ := q9
          clear q9
          refine xr_aload_n (pc := 501) (i := 1) (hI := d_DualPivotQuicksort_sort_SorteraJIII_501) (hi := rfl) (hl := rfl) ?_
          refine xr_iload (pc := 502) (i := 8) (hI := d_DualPivotQuicksort_sort_SorteraJIII_502) (hl := rfl) ?_
          refine xg_laload (pc := 504) (v := (xpl h 64 x8)) (hI := d_DualPivotQuicksort_sort_SorteraJIII_504) (ft_64 F) (by clear hyp; omega) (xlt_of (fl_64 F) (by clear hyp; omega)) rfl (fun f23_ => ?_)
          replace f23_ : -9223372036854775808 ≤ (xpl h 64 x8) ∧ (xpl h 64 x8) ≤ 9223372036854775807 := f23_
          refine xr_lstore (pc := 505) (i := 17) (L9 := [xR (-1), xR 64, xI x2, xI x3, xI x4, xI x5, xI x6, xZ, xI x8, xI x9, xI x10, xI x11, xI x12, xZ, xZ, xI x3, xI x5, xL (xpl h 64 x8), xZ, xZ, xZ, xZ, xZ, xZ, xZ]) (hI := d_DualPivotQuicksort_sort_SorteraJIII_505) (hn := Nat.le_of_ble_eq_true rfl) (hL9 := rfl) ?_
          refine xr_aload_n (pc := 507) (i := 1) (hI := d_DualPivotQuicksort_sort_SorteraJIII_507) (hi := rfl) (hl := rfl) ?_
          refine xr_iload (pc := 508) (i := 9) (hI := d_DualPivotQuicksort_sort_SorteraJIII_508) (hl := rfl) ?_
          refine xg_laload (pc := 510) (v := (xpl h 64 x9)) (hI := d_DualPivotQuicksort_sort_SorteraJIII_510) (ft_64 F) (by clear hyp; omega) (xlt_of (fl_64 F) (by clear hyp; omega)) rfl (fun f24_ => ?_)
          replace f24_ : -9223372036854775808 ≤ (xpl h 64 x9) ∧ (xpl h 64 x9) ≤ 9223372036854775807 := f24_
          refine xr_lstore (pc := 511) (i := 19) (L9 := [xR (-1), xR 64, xI x2, xI x3, xI x4, xI x5, xI x6, xZ, xI x8, xI x9, xI x10, xI x11, xI x12, xZ, xZ, xI x3, xI x5, xL (xpl h 64 x8), xZ, xL (xpl h 64 x9), xZ, xZ, xZ, xZ, xZ]) (hI := d_DualPivotQuicksort_sort_SorteraJIII_511) (hn := Nat.le_of_ble_eq_true rfl) (hL9 := rfl) ?_
          refine xr_aload_n (pc := 513) (i := 1) (hI := d_DualPivotQuicksort_sort_SorteraJIII_513) (hi := rfl) (hl := rfl) ?_
          refine xr_iload (pc := 514) (i := 8) (hI := d_DualPivotQuicksort_sort_SorteraJIII_514) (hl := rfl) ?_
          refine xr_aload_n (pc := 516) (i := 1) (hI := d_DualPivotQuicksort_sort_SorteraJIII_516) (hi := rfl) (hl := rfl) ?_
          refine xr_iload (pc := 517) (i := 15) (hI := d_DualPivotQuicksort_sort_SorteraJIII_517) (hl := rfl) ?_
          obtain ⟨c25_, hyp⟩ := hyp
          obtain ⟨c26_, hyp⟩ := hyp
          refine xg_laload (pc := 519) (v := (xpl h 64 x3)) (hI := d_DualPivotQuicksort_sort_SorteraJIII_519) (ft_64 F) c25_ (xlt_of (fl_64 F) c26_) rfl (fun f27_ => ?_)
          replace f27_ : -9223372036854775808 ≤ (xpl h 64 x3) ∧ (xpl h 64 x3) ≤ 9223372036854775807 := f27_
          refine xr_lastore (pc := 520) (hI := d_DualPivotQuicksort_sort_SorteraJIII_520) (ft_64 F) (by decide) (by clear hyp; omega) (xlt_of (fl_64 F) (by clear hyp; omega)) ?_
          have F28_ : xFix (xst h 64 x8 (xpl h 64 x3)) := F.stA xfa_64
          refine xr_aload_n (pc := 521) (i := 1) (hI := d_DualPivotQuicksort_sort_SorteraJIII_521) (hi := rfl) (hl := rfl) ?_
          refine xr_iload (pc := 522) (i := 9) (hI := d_DualPivotQuicksort_sort_SorteraJIII_522) (hl := rfl) ?_
          refine xr_aload_n (pc := 524) (i := 1) (hI := d_DualPivotQuicksort_sort_SorteraJIII_524) (hi := rfl) (hl := rfl) ?_
          refine xr_iload (pc := 525) (i := 16) (hI := d_DualPivotQuicksort_sort_SorteraJIII_525) (hl := rfl) ?_
          obtain ⟨c29_, hyp⟩ := hyp
          obtain ⟨c30_, hyp⟩ := hyp
          refine xg_laload (pc := 527) (v := (xpl (xst h 64 x8 (xpl h 64 x3)) 64 x5)) (hI := d_DualPivotQuicksort_sort_SorteraJIII_527) (ft_64 F28_) c29_ (xlt_of (fl_64 F28_) c30_) rfl (fun f31_ => ?_)
          replace f31_ : -9223372036854775808 ≤ (xpl (xst h 64 x8 (xpl h 64 x3)) 64 x5) ∧ (xpl (xst h 64 x8 (xpl h 64 x3)) 64 x5) ≤ 9223372036854775807 := f31_
          refine xr_lastore (pc := 528) (hI := d_DualPivotQuicksort_sort_SorteraJIII_528) (ft_64 F28_) (by decide) (by clear hyp; omega) (xlt_of (fl_64 F28_) (by clear hyp; omega)) ?_
          have F32_ : xFix (xst (xst h 64 x8 (xpl h 64 x3)) 64 x9 (xpl (xst h 64 x8 (xpl h 64 x3)) 64 x5)) := F28_.stA xfa_64
          exact xr_drop (L9 := [xR (-1), xR 64, xI x2, xI x3, xI x4, xI x5, xI x6, xZ, xZ, xZ, xZ, xZ, xZ, xZ, xZ, xI x3, xI x5, xL (xpl h 64 x8), xZ, xL (xpl h 64 x9), xZ, xZ, xZ, xZ, xZ]) (xdrs (xdrs (xdrs (xdrs (xdrs (xdrs (xdrs (xdrs (xdrz (xdrz (xdrz (xdrz (xdrz (xdrs (xdrs (xdrs (xdrs (xdrs (xdrs (xdrs (xdrs (xdrs (xdrs (xdrs (xdrs xdr0))))))))))))))))))))))))) (hyp F32_)

end
