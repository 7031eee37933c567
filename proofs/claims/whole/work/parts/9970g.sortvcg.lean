/-! ===== sortvcg ===== -/
section
theorem d_DualPivotQuicksort_sort_SorteraJIII_529 : decode prog_46_method_13_code 529 = .ok (.aload_n 1, 1) := by decide +kernel
theorem d_DualPivotQuicksort_sort_SorteraJIII_530 : decode prog_46_method_13_code 530 = .ok (.iinc 15 1, 3) := by decide +kernel
theorem d_DualPivotQuicksort_sort_SorteraJIII_533 : decode prog_46_method_13_code 533 = .ok (.iload 15, 2) := by decide +kernel
theorem d_DualPivotQuicksort_sort_SorteraJIII_535 : decode prog_46_method_13_code 535 = .ok (.laload, 1) := by decide +kernel
theorem d_DualPivotQuicksort_sort_SorteraJIII_536 : decode prog_46_method_13_code 536 = .ok (.lload 17, 2) := by decide +kernel
theorem d_DualPivotQuicksort_sort_SorteraJIII_538 : decode prog_46_method_13_code 538 = .ok (.lcmp, 1) := by decide +kernel
theorem d_DualPivotQuicksort_sort_SorteraJIII_539 : decode prog_46_method_13_code 539 = .ok (.ifCond .ge 6, 3) := by decide +kernel
theorem d_DualPivotQuicksort_sort_SorteraJIII_542 : decode prog_46_method_13_code 542 = .ok (.goto (-13), 3) := by decide +kernel
theorem v_DualPivotQuicksort_sort_SorteraJIII_529 {G : XG} {d : Nat} {h : XH} {Q : XV → XH → Prop} {X : Nat → XH → Prop} {x2 x3 x4 x5 x6 x15 x16 x17 x19 : Int} (F : xFix h) (hyp : xiR (x15 + 1) ∧ 0 ≤ (x15 + 1) ∧ (x15 + 1) < 12000 ∧ ((x17 ≤ (xpl h 64 (x15 + 1)) → (xwp G m_DualPivotQuicksort_sort_SorteraJIII (d + 141) 545 [xR (-1), xR 64, xI x2, xI x3, xI x4, xI x5, xI x6, xZ, xZ, xZ, xZ, xZ, xZ, xZ, xZ, xI (x15 + 1), xI x16, xL x17, xZ, xL x19, xZ, xZ, xZ, xZ, xZ] [] h Q X)) ∧ (¬ x17 ≤ (xpl h 64 (x15 + 1)) → (xwp G m_DualPivotQuicksort_sort_SorteraJIII (d + 141) 529 [xR (-1), xR 64, xI x2, xI x3, xI x4, xI x5, xI x6, xZ, xZ, xZ, xZ, xZ, xZ, xZ, xZ, xI (x15 + 1), xI x16, xL x17, xZ, xL x19, xZ, xZ, xZ, xZ, xZ] [] h Q X)))) : xwp G m_DualPivotQuicksort_sort_SorteraJIII (d + 141) 529 [xR (-1), xR 64, xI x2, xI x3, xI x4, xI x5, xI x6, xZ, xZ, xZ, xZ, xZ, xZ, xZ, xZ, xI x15, xI x16, xL x17, xZ, xL x19, xZ, xZ, xZ, xZ, xZ] [] h Q X := by
  have hnx9 : (93 : Int) ≤ xnx h := F.2.2
  refine xr_okL (fun hl9 => ?_)
  have r_x2 : -2147483648 ≤ x2 ∧ x2 ≤ 2147483647 := hl9 (xI x2) (.tail _ (.tail _ (.head _))) (Nat.le_of_ble_eq_true rfl)
  have r_x3 : -2147483648 ≤ x3 ∧ x3 ≤ 2147483647 := hl9 (xI x3) (.tail _ (.tail _ (.tail _ (.head _)))) (Nat.le_of_ble_eq_true rfl)
  have r_x4 : -2147483648 ≤ x4 ∧ x4 ≤ 2147483647 := hl9 (xI x4) (.tail _ (.tail _ (.tail _ (.tail _ (.head _))))) (Nat.le_of_ble_eq_true rfl)
  have r_x5 : -2147483648 ≤ x5 ∧ x5 ≤ 2147483647 := hl9 (xI x5) (.tail _ (.tail _ (.tail _ (.tail _ (.tail _ (.head _)))))) (Nat.le_of_ble_eq_true rfl)
  have r_x6 : -2147483648 ≤ x6 ∧ x6 ≤ 2147483647 := hl9 (xI x6) (.tail _ (.tail _ (.tail _ (.tail _ (.tail _ (.tail _ (.head _))))))) (Nat.le_of_ble_eq_true rfl)
  have r_x15 : -2147483648 ≤ x15 ∧ x15 ≤ 2147483647 := hl9 (xI x15) (.tail _ (.tail _ (.tail _ (.tail _ (.tail _ (.tail _ (.tail _ (.tail _ (.tail _ (.tail _ (.tail _ (.tail _ (.tail _ (.tail _ (.tail _ (.head _)))))))))))))))) (Nat.le_of_ble_eq_true rfl)
  have r_x16 : -2147483648 ≤ x16 ∧ x16 ≤ 2147483647 := hl9 (xI x16) (.tail _ (.tail _ (.tail _ (.tail _ (.tail _ (.tail _ (.tail _ (.tail _ (.tail _ (.tail _ (.tail _ (.tail _ (.tail _ (.tail _ (.tail _ (.tail _ (.head _))))))))))))))))) (Nat.le_of_ble_eq_true rfl)
  have r_x17 : -9223372036854775808 ≤ x17 ∧ x17 ≤ 9223372036854775807 := hl9 (xL x17) (.tail _ (.tail _ (.tail _ (.tail _ (.tail _ (.tail _ (.tail _ (.tail _ (.tail _ (.tail _ (.tail _ (.tail _ (.tail _ (.tail _ (.tail _ (.tail _ (.tail _ (.head _)))))))))))))))))) (Nat.le_of_ble_eq_true rfl)
  have r_x19 : -9223372036854775808 ≤ x19 ∧ x19 ≤ 9223372036854775807 := hl9 (xL x19) (.tail _ (.tail _ (.tail _ (.tail _ (.tail _ (.tail _ (.tail _ (.tail _ (.tail _ (.tail _ (.tail _ (.tail _ (.tail _ (.tail _ (.tail _ (.tail _ (.tail _ (.tail _ (.tail _ (.head _)))))))))))))))))))) (Nat.le_of_ble_eq_true rfl)
  refine xr_aload_n (pc := 529) (i := 1) (hI := d_DualPivotQuicksort_sort_SorteraJIII_529) (hi := rfl) (hl := rfl) ?_
  obtain ⟨c9, hyp⟩ := hyp
  refine xr_iinc (pc := 530) (i := 15) (L9 := [xR (-1), xR 64, xI x2, xI x3, xI x4, xI x5, xI x6, xZ, xZ, xZ, xZ, xZ, xZ, xZ, xZ, xI (x15 + 1), xI x16, xL x17, xZ, xL x19, xZ, xZ, xZ, xZ, xZ]) (hI := d_DualPivotQuicksort_sort_SorteraJIII_530) (hl := rfl) (hn := Nat.le_of_ble_eq_true rfl) (hr := c9) (hL9 := rfl) ?_
  refine xr_iload (pc := 533) (i := 15) (hI := d_DualPivotQuicksort_sort_SorteraJIII_533) (hl := rfl) ?_
  obtain ⟨c1_, hyp⟩ := hyp
  obtain ⟨c2_, hyp⟩ := hyp
  refine xg_laload (pc := 535) (v := (xpl h 64 (x15 + 1))) (hI := d_DualPivotQuicksort_sort_SorteraJIII_535) (ft_64 F) c1_ (xlt_of (fl_64 F) c2_) rfl (fun f3_ => ?_)
  replace f3_ : -9223372036854775808 ≤ (xpl h 64 (x15 + 1)) ∧ (xpl h 64 (x15 + 1)) ≤ 9223372036854775807 := f3_
  refine xr_lload (pc := 536) (i := 17) (hI := d_DualPivotQuicksort_sort_SorteraJIII_536) (hl := rfl) ?_
  refine xr_lcmp (pc := 538) (hI := d_DualPivotQuicksort_sort_SorteraJIII_538) ?_
  refine xg_lif_ge (pc := 539) (tgt := 545) (hI := d_DualPivotQuicksort_sort_SorteraJIII_539) (ht := by decide) (fun q9 => ?_) (fun q9 => ?_)
  · replace hyp := hyp.1 q9
    have q4_ := q9
    clear q9
    exact hyp
  · replace hyp := hyp.2 q9
    have q4_ := q9
    clear q9
    refine xr_goto (pc := 542) (tgt := 529) (hI := d_DualPivotQuicksort_sort_SorteraJIII_542) (ht := by decide) ?_
    exact hyp
theorem d_DualPivotQuicksort_sort_SorteraJIII_545 : decode prog_46_method_13_code 545 = .ok (.aload_n 1, 1) := by decide +kernel
theorem d_DualPivotQuicksort_sort_SorteraJIII_546 : decode prog_46_method_13_code 546 = .ok (.iinc 16 (-1), 3) := by decide +kernel
theorem d_DualPivotQuicksort_sort_SorteraJIII_549 : decode prog_46_method_13_code 549 = .ok (.iload 16, 2) := by decide +kernel
theorem d_DualPivotQuicksort_sort_SorteraJIII_551 : decode prog_46_method_13_code 551 = .ok (.laload, 1) := by decide +kernel
theorem d_DualPivotQuicksort_sort_SorteraJIII_552 : decode prog_46_method_13_code 552 = .ok (.lload 19, 2) := by decide +kernel
theorem d_DualPivotQuicksort_sort_SorteraJIII_554 : decode prog_46_method_13_code 554 = .ok (.lcmp, 1) := by decide +kernel
theorem d_DualPivotQuicksort_sort_SorteraJIII_555 : decode prog_46_method_13_code 555 = .ok (.ifCond .le 6, 3) := by decide +kernel
theorem d_DualPivotQuicksort_sort_SorteraJIII_561 : decode prog_46_method_13_code 561 = .ok (.iinc 15 (-1), 3) := by decide +kernel
theorem d_DualPivotQuicksort_sort_SorteraJIII_564 : decode prog_46_method_13_code 564 = .ok (.iload 15, 2) := by decide +kernel
theorem d_DualPivotQuicksort_sort_SorteraJIII_566 : decode prog_46_method_13_code 566 = .ok (.istore 21, 2) := by decide +kernel
theorem d_DualPivotQuicksort_sort_SorteraJIII_568 : decode prog_46_method_13_code 568 = .ok (.iinc 16 1, 3) := by decide +kernel
theorem d_DualPivotQuicksort_sort_SorteraJIII_571 : decode prog_46_method_13_code 571 = .ok (.iload 16, 2) := by decide +kernel
theorem d_DualPivotQuicksort_sort_SorteraJIII_573 : decode prog_46_method_13_code 573 = .ok (.istore 22, 2) := by decide +kernel
theorem d_DualPivotQuicksort_sort_SorteraJIII_558 : decode prog_46_method_13_code 558 = .ok (.goto (-13), 3) := by decide +kernel
theorem v_DualPivotQuicksort_sort_SorteraJIII_545 {G : XG} {d : Nat} {h : XH} {Q : XV → XH → Prop} {X : Nat → XH → Prop} {x2 x3 x4 x5 x6 x15 x16 x17 x19 : Int} (F : xFix h) (hyp : xiR (x16 + (-1)) ∧ 0 ≤ (x16 + (-1)) ∧ (x16 + (-1)) < 12000 ∧ (((xpl h 64 (x16 + (-1))) ≤ x19 → xiR (x15 + (-1)) ∧ (xwp G m_DualPivotQuicksort_sort_SorteraJIII (d + 141) 575 [xR (-1), xR 64, xI x2, xI x3, xI x4, xI x5, xI x6, xZ, xZ, xZ, xZ, xZ, xZ, xZ, xZ, xI (x15 + (-1)), xI ((x16 + (-1)) + 1), xL x17, xZ, xL x19, xZ, xZ, xI ((x16 + (-1)) + 1), xZ, xZ] [] h Q X)) ∧ (¬ (xpl h 64 (x16 + (-1))) ≤ x19 → (xwp G m_DualPivotQuicksort_sort_SorteraJIII (d + 141) 545 [xR (-1), xR 64, xI x2, xI x3, xI x4, xI x5, xI x6, xZ, xZ, xZ, xZ, xZ, xZ, xZ, xZ, xI x15, xI (x16 + (-1)), xL x17, xZ, xL x19, xZ, xZ, xZ, xZ, xZ] [] h Q X)))) : xwp G m_DualPivotQuicksort_sort_SorteraJIII (d + 141) 545 [xR (-1), xR 64, xI x2, xI x3, xI x4, xI x5, xI x6, xZ, xZ, xZ, xZ, xZ, xZ, xZ, xZ, xI x15, xI x16, xL x17, xZ, xL x19, xZ, xZ, xZ, xZ, xZ] [] h Q X := by
  have hnx9 : (93 : Int) ≤ xnx h := F.2.2
  refine xr_okL (fun hl9 => ?_)
  have r_x2 : -2147483648 ≤ x2 ∧ x2 ≤ 2147483647 := hl9 (xI x2) (.tail _ (.tail _ (.head _))) (Nat.le_of_ble_eq_true rfl)
  have r_x3 : -2147483648 ≤ x3 ∧ x3 ≤ 2147483647 := hl9 (xI x3) (.tail _ (.tail _ (.tail _ (.head _)))) (Nat.le_of_ble_eq_true rfl)
  have r_x4 : -2147483648 ≤ x4 ∧ x4 ≤ 2147483647 := hl9 (xI x4) (.tail _ (.tail _ (.tail _ (.tail _ (.head _))))) (Nat.le_of_ble_eq_true rfl)
  have r_x5 : -2147483648 ≤ x5 ∧ x5 ≤ 2147483647 := hl9 (xI x5) (.tail _ (.tail _ (.tail _ (.tail _ (.tail _ (.head _)))))) (Nat.le_of_ble_eq_true rfl)
  have r_x6 : -2147483648 ≤ x6 ∧ x6 ≤ 2147483647 := hl9 (xI x6) (.tail _ (.tail _ (.tail _ (.tail _ (.tail _ (.tail _ (.head _))))))) (Nat.le_of_ble_eq_true rfl)
  have r_x15 : -2147483648 ≤ x15 ∧ x15 ≤ 2147483647 := hl9 (xI x15) (.tail _ (.tail _ (.tail _ (.tail _ (.tail _ (.tail _ (.tail _ (.tail _ (.tail _ (.tail _ (.tail _ (.tail _ (.tail _ (.tail _ (.tail _ (.head _)))))))))))))))) (Nat.le_of_ble_eq_true rfl)
  have r_x16 : -2147483648 ≤ x16 ∧ x16 ≤ 2147483647 := hl9 (xI x16) (.tail _ (.tail _ (.tail _ (.tail _ (.tail _ (.tail _ (.tail _ (.tail _ (.tail _ (.tail _ (.tail _ (.tail _ (.tail _ (.tail _ (.tail _ (.tail _ (.head _))))))))))))))))) (Nat.le_of_ble_eq_true rfl)
  have r_x17 : -9223372036854775808 ≤ x17 ∧ x17 ≤ 9223372036854775807 := hl9 (xL x17) (.tail _ (.tail _ (.tail _ (.tail _ (.tail _ (.tail _ (.tail _ (.tail _ (.tail _ (.tail _ (.tail _ (.tail _ (.tail _ (.tail _ (.tail _ (.tail _ (.tail _ (.head _)))))))))))))))))) (Nat.le_of_ble_eq_true rfl)
  have r_x19 : -9223372036854775808 ≤ x19 ∧ x19 ≤ 9223372036854775807 := hl9 (xL x19) (.tail _ (.tail _ (.tail _ (.tail _ (.tail _ (.tail _ (.tail _ (.tail _ (.tail _ (.tail _ (.tail _ (.tail _ (.tail _ (.tail _ (.tail _ (.tail _ (.tail _ (.tail _ (.tail _ (.head _)))))))))))))))))))) (Nat.le_of_ble_eq_true rfl)
  refine xr_aload_n (pc := 545) (i := 1) (hI := d_DualPivotQuicksort_sort_SorteraJIII_545) (hi := rfl) (hl := rfl) ?_
  obtain ⟨c9, hyp⟩ := hyp
  refine xr_iinc (pc := 546) (i := 16) (L9 := [xR (-1), xR 64, xI x2, xI x3, xI x4, xI x5, xI x6, xZ, xZ, xZ, xZ, xZ, xZ, xZ, xZ, xI x15, xI (x16 + (-1)), xL x17, xZ, xL x19, xZ, xZ, xZ, xZ, xZ]) (hI := d_DualPivotQuicksort_sort_SorteraJIII_546) (hl := rfl) (hn := Nat.le_of_ble_eq_true rfl) (hr := c9) (hL9 := rfl) ?_
  refine xr_iload (pc := 549) (i := 16) (hI := d_DualPivotQuicksort_sort_SorteraJIII_549) (hl := rfl) ?_
  obtain ⟨c1_, hyp⟩ := hyp
  obtain ⟨c2_, hyp⟩ := hyp
  refine xg_laload (pc := 551) (v := (xpl h 64 (x16 + (-1)))) (hI := d_DualPivotQuicksort_sort_SorteraJIII_551) (ft_64 F) c1_ (xlt_of (fl_64 F) c2_) rfl (fun f3_ => ?_)
  replace f3_ : -9223372036854775808 ≤ (xpl h 64 (x16 + (-1))) ∧ (xpl h 64 (x16 + (-1))) ≤ 9223372036854775807 := f3_
  refine xr_lload (pc := 552) (i := 19) (hI := d_DualPivotQuicksort_sort_SorteraJIII_552) (hl := rfl) ?_
  refine xr_lcmp (pc := 554) (hI := d_DualPivotQuicksort_sort_SorteraJIII_554) ?_
  refine xg_lif_le (pc := 555) (tgt := 561) (hI := d_DualPivotQuicksort_sort_SorteraJIII_555) (ht := by decide) (fun q9 => ?_) (fun q9 => ?_)
  · replace hyp := hyp.1 q9
    have q4_ := q9
    clear q9
    obtain ⟨c9, hyp⟩ := hyp
    refine xr_iinc (pc := 561) (i := 15) (L9 := [xR (-1), xR 64, xI x2, xI x3, xI x4, xI x5, xI x6, xZ, xZ, xZ, xZ, xZ, xZ, xZ, xZ, xI (x15 + (-1)), xI (x16 + (-1)), xL x17, xZ, xL x19, xZ, xZ, xZ, xZ, xZ]) (hI := d_DualPivotQuicksort_sort_SorteraJIII_561) (hl := rfl) (hn := Nat.le_of_ble_eq_true rfl) (hr := c9) (hL9 := rfl) ?_
    refine xr_iload (pc := 564) (i := 15) (hI := d_DualPivotQuicksort_sort_SorteraJIII_564) (hl := rfl) ?_
    refine xr_istore (pc := 566) (i := 21) (L9 := [xR (-1), xR 64, xI x2, xI x3, xI x4, xI x5, xI x6, xZ, xZ, xZ, xZ, xZ, xZ, xZ, xZ, xI (x15 + (-1)), xI (x16 + (-1)), xL x17, xZ, xL x19, xZ, xI (x15 + (-1)), xZ, xZ, xZ]) (hI := d_DualPivotQuicksort_sort_SorteraJIII_566) (hn := Nat.le_of_ble_eq_true rfl) (hL9 := rfl) ?_
    refine xr_iinc (pc := 568) (i := 16) (L9 := [xR (-1), xR 64, xI x2, xI x3, xI x4, xI x5, xI x6, xZ, xZ, xZ, xZ, xZ, xZ, xZ, xZ, xI (x15 + (-1)), xI ((x16 + (-1)) + 1), xL x17, xZ, xL x19, xZ, xI (x15 + (-1)), xZ, xZ, xZ]) (hI := d_DualPivotQuicksort_sort_SorteraJIII_568) (hl := rfl) (hn := Nat.le_of_ble_eq_true rfl) (hr := ⟨by clear hyp; omega, by clear hyp; omega⟩) (hL9 := rfl) ?_
    refine xr_iload (pc := 571) (i := 16) (hI := d_DualPivotQuicksort_sort_SorteraJIII_571) (hl := rfl) ?_
    refine xr_istore (pc := 573) (i := 22) (L9 := [xR (-1), xR 64, xI x2, xI x3, xI x4, xI x5, xI x6, xZ, xZ, xZ, xZ, xZ, xZ, xZ, xZ, xI (x15 + (-1)), xI ((x16 + (-1)) + 1), xL x17, xZ, xL x19, xZ, xI (x15 + (-1)), xI ((x16 + (-1)) + 1), xZ, xZ]) (hI := d_DualPivotQuicksort_sort_SorteraJIII_573) (hn := Nat.le_of_ble_eq_true rfl) (hL9 := rfl) ?_
    exact xr_drop (L9 := [xR (-1), xR 64, xI x2, xI x3, xI x4, xI x5, xI x6, xZ, xZ, xZ, xZ, xZ, xZ, xZ, xZ, xI (x15 + (-1)), xI ((x16 + (-1)) + 1), xL x17, xZ, xL x19, xZ, xZ, xI ((x16 + (-1)) + 1), xZ, xZ]) (xdrs (xdrs (xdrs (xdrs (xdrs (xdrs (xdrs (xdrs (xdrs (xdrs (xdrs (xdrs (xdrs (xdrs (xdrs (xdrs (xdrs (xdrs (xdrs (xdrs (xdrs (xdrz (xdrs (xdrs (xdrs xdr0))))))))))))))))))))))))) hyp
  · replace hyp := hyp.2 q9
    have q4_ := q9
    clear q9
    refine xr_goto (pc := 558) (tgt := 545) (hI := d_DualPivotQuicksort_sort_SorteraJIII_558) (ht := by decide) ?_
    exact hyp
theorem d_DualPivotQuicksort_sort_SorteraJIII_575 : decode prog_46_method_13_code 575 = .ok (.iinc 22 (-1), 3) := by decide +kernel
theorem d_DualPivotQuicksort_sort_SorteraJIII_578 : decode prog_46_method_13_code 578 = .ok (.iload 22, 2) := by decide +kernel
theorem d_DualPivotQuicksort_sort_SorteraJIII_580 : decode prog_46_method_13_code 580 = .ok (.iload 15, 2) := by decide +kernel
theorem d_DualPivotQuicksort_sort_SorteraJIII_582 : decode prog_46_method_13_code 582 = .ok (.if_icmp .le 114, 3) := by decide +kernel
theorem d_DualPivotQuicksort_sort_SorteraJIII_696 : decode prog_46_method_13_code 696 = .ok (.aload_n 1, 1) := by decide +kernel
theorem d_DualPivotQuicksort_sort_SorteraJIII_697 : decode prog_46_method_13_code 697 = .ok (.iload_n 3, 1) := by decide +kernel
theorem d_DualPivotQuicksort_sort_SorteraJIII_698 : decode prog_46_method_13_code 698 = .ok (.aload_n 1, 1) := by decide +kernel
theorem d_DualPivotQuicksort_sort_SorteraJIII_699 : decode prog_46_method_13_code 699 = .ok (.iload 15, 2) := by decide +kernel
theorem d_DualPivotQuicksort_sort_SorteraJIII_701 : decode prog_46_method_13_code 701 = .ok (.laload, 1) := by decide +kernel
theorem d_DualPivotQuicksort_sort_SorteraJIII_702 : decode prog_46_method_13_code 702 = .ok (.lastore, 1) := by decide +kernel
theorem d_DualPivotQuicksort_sort_SorteraJIII_703 : decode prog_46_method_13_code 703 = .ok (.aload_n 1, 1) := by decide +kernel
theorem d_DualPivotQuicksort_sort_SorteraJIII_704 : decode prog_46_method_13_code 704 = .ok (.iload 15, 2) := by decide +kernel
theorem d_DualPivotQuicksort_sort_SorteraJIII_706 : decode prog_46_method_13_code 706 = .ok (.lload 17, 2) := by decide +kernel
theorem d_DualPivotQuicksort_sort_SorteraJIII_708 : decode prog_46_method_13_code 708 = .ok (.lastore, 1) := by decide +kernel
theorem d_DualPivotQuicksort_sort_SorteraJIII_709 : decode prog_46_method_13_code 709 = .ok (.aload_n 1, 1) := by decide +kernel
theorem d_DualPivotQuicksort_sort_SorteraJIII_710 : decode prog_46_method_13_code 710 = .ok (.iload 5, 2) := by decide +kernel
theorem d_DualPivotQuicksort_sort_SorteraJIII_712 : decode prog_46_method_13_code 712 = .ok (.aload_n 1, 1) := by decide +kernel
theorem d_DualPivotQuicksort_sort_SorteraJIII_713 : decode prog_46_method_13_code 713 = .ok (.iload 16, 2) := by decide +kernel
theorem d_DualPivotQuicksort_sort_SorteraJIII_715 : decode prog_46_method_13_code 715 = .ok (.laload, 1) := by decide +kernel
theorem d_DualPivotQuicksort_sort_SorteraJIII_716 : decode prog_46_method_13_code 716 = .ok (.lastore, 1) := by decide +kernel
theorem d_DualPivotQuicksort_sort_SorteraJIII_717 : decode prog_46_method_13_code 717 = .ok (.aload_n 1, 1) := by decide +kernel
theorem d_DualPivotQuicksort_sort_SorteraJIII_718 : decode prog_46_method_13_code 718 = .ok (.iload 16, 2) := by decide +kernel
theorem d_DualPivotQuicksort_sort_SorteraJIII_720 : decode prog_46_method_13_code 720 = .ok (.lload 19, 2) := by decide +kernel
theorem d_DualPivotQuicksort_sort_SorteraJIII_722 : decode prog_46_method_13_code 722 = .ok (.lastore, 1) := by decide +kernel
theorem d_DualPivotQuicksort_sort_SorteraJIII_723 : decode prog_46_method_13_code 723 = .ok (.iload 6, 2) := by decide +kernel
theorem d_DualPivotQuicksort_sort_SorteraJIII_725 : decode prog_46_method_13_code 725 = .ok (.sipush 4096, 3) := by decide +kernel
theorem d_DualPivotQuicksort_sort_SorteraJIII_728 : decode prog_46_method_13_code 728 = .ok (.if_icmp .le 36, 3) := by decide +kernel
theorem d_DualPivotQuicksort_sort_SorteraJIII_731 : decode prog_46_method_13_code 731 = .ok (.aload_n 0, 1) := by decide +kernel
theorem d_DualPivotQuicksort_sort_SorteraJIII_732 : decode prog_46_method_13_code 732 = .ok (.ifnull 32, 3) := by decide +kernel
theorem d_DualPivotQuicksort_sort_SorteraJIII_585 : decode prog_46_method_13_code 585 = .ok (.aload_n 1, 1) := by decide +kernel
theorem d_DualPivotQuicksort_sort_SorteraJIII_586 : decode prog_46_method_13_code 586 = .ok (.iload 22, 2) := by decide +kernel
theorem d_DualPivotQuicksort_sort_SorteraJIII_588 : decode prog_46_method_13_code 588 = .ok (.laload, 1) := by decide +kernel
theorem d_DualPivotQuicksort_sort_SorteraJIII_589 : decode prog_46_method_13_code 589 = .ok (.lstore 23, 2) := by decide +kernel
theorem d_DualPivotQuicksort_sort_SorteraJIII_591 : decode prog_46_method_13_code 591 = .ok (.lload 23, 2) := by decide +kernel
theorem d_DualPivotQuicksort_sort_SorteraJIII_593 : decode prog_46_method_13_code 593 = .ok (.lload 17, 2) := by decide +kernel
theorem d_DualPivotQuicksort_sort_SorteraJIII_595 : decode prog_46_method_13_code 595 = .ok (.lcmp, 1) := by decide +kernel
theorem d_DualPivotQuicksort_sort_SorteraJIII_596 : decode prog_46_method_13_code 596 = .ok (.ifCond .ge 72, 3) := by decide +kernel
theorem d_DualPivotQuicksort_sort_SorteraJIII_668 : decode prog_46_method_13_code 668 = .ok (.lload 23, 2) := by decide +kernel
theorem d_DualPivotQuicksort_sort_SorteraJIII_670 : decode prog_46_method_13_code 670 = .ok (.lload 19, 2) := by decide +kernel
theorem d_DualPivotQuicksort_sort_SorteraJIII_672 : decode prog_46_method_13_code 672 = .ok (.lcmp, 1) := by decide +kernel
theorem d_DualPivotQuicksort_sort_SorteraJIII_673 : decode prog_46_method_13_code 673 = .ok (.ifCond .le 20, 3) := by decide +kernel
theorem d_DualPivotQuicksort_sort_SorteraJIII_693 : decode prog_46_method_13_code 693 = .ok (.goto (-118), 3) := by decide +kernel
theorem d_DualPivotQuicksort_sort_SorteraJIII_676 : decode prog_46_method_13_code 676 = .ok (.aload_n 1, 1) := by decide +kernel
theorem d_DualPivotQuicksort_sort_SorteraJIII_677 : decode prog_46_method_13_code 677 = .ok (.iload 22, 2) := by decide +kernel
theorem d_DualPivotQuicksort_sort_SorteraJIII_679 : decode prog_46_method_13_code 679 = .ok (.aload_n 1, 1) := by decide +kernel
theorem d_DualPivotQuicksort_sort_SorteraJIII_680 : decode prog_46_method_13_code 680 = .ok (.iinc 16 (-1), 3) := by decide +kernel
theorem d_DualPivotQuicksort_sort_SorteraJIII_683 : decode prog_46_method_13_code 683 = .ok (.iload 16, 2) := by decide +kernel
theorem d_DualPivotQuicksort_sort_SorteraJIII_685 : decode prog_46_method_13_code 685 = .ok (.laload, 1) := by decide +kernel
theorem d_DualPivotQuicksort_sort_SorteraJIII_686 : decode prog_46_method_13_code 686 = .ok (.lastore, 1) := by decide +kernel
theorem d_DualPivotQuicksort_sort_SorteraJIII_687 : decode prog_46_method_13_code 687 = .ok (.aload_n 1, 1) := by decide +kernel
theorem d_DualPivotQuicksort_sort_SorteraJIII_688 : decode prog_46_method_13_code 688 = .ok (.iload 16, 2) := by decide +kernel
theorem d_DualPivotQuicksort_sort_SorteraJIII_690 : decode prog_46_method_13_code 690 = .ok (.lload 23, 2) := by decide +kernel
theorem d_DualPivotQuicksort_sort_SorteraJIII_692 : decode prog_46_method_13_code 692 = .ok (.lastore, 1) := by decide +kernel
theorem v_DualPivotQuicksort_sort_SorteraJIII_575 {G : XG} {d : Nat} {h : XH} {Q : XV → XH → Prop} {X : Nat → XH → Prop} {x2 x3 x4 x5 x6 x15 x16 x17 x19 x22 : Int} (F : xFix h) (hyp : xiR (x22 + (-1)) ∧ (((x22 + (-1)) ≤ x15 → 0 ≤ x15 ∧ x15 < 12000 ∧ 0 ≤ x3 ∧ x3 < 12000 ∧ 0 ≤ x16 ∧ x16 < 12000 ∧ 0 ≤ x5 ∧ x5 < 12000 ∧ ((x6 ≤ 4096 → (xFix (xst (xst (xst (xst h 64 x3 (xpl h 64 x15)) 64 x15 x17) 64 x5 (xpl (xst (xst h 64 x3 (xpl h 64 x15)) 64 x15 x17) 64 x16)) 64 x16 x19) → xwp G m_DualPivotQuicksort_sort_SorteraJIII (d + 141) 764 [xR (-1), xR 64, xI x2, xI x3, xI x4, xZ, xZ, xZ, xZ, xZ, xZ, xZ, xZ, xZ, xZ, xI x15, xI x16, xZ, xZ, xZ, xZ, xZ, xZ, xZ, xZ] [] (xst (xst (xst (xst h 64 x3 (xpl h 64 x15)) 64 x15 x17) 64 x5 (xpl (xst (xst h 64 x3 (xpl h 64 x15)) 64 x15 x17) 64 x16)) 64 x16 x19) Q X)) ∧ (¬ x6 ≤ 4096 → (xFix (xst (xst (xst (xst h 64 x3 (xpl h 64 x15)) 64 x15 x17) 64 x5 (xpl (xst (xst h 64 x3 (xpl h 64 x15)) 64 x15 x17) 64 x16)) 64 x16 x19) → xwp G m_DualPivotQuicksort_sort_SorteraJIII (d + 141) 764 [xR (-1), xR 64, xI x2, xI x3, xI x4, xZ, xZ, xZ, xZ, xZ, xZ, xZ, xZ, xZ, xZ, xI x15, xI x16, xZ, xZ, xZ, xZ, xZ, xZ, xZ, xZ] [] (xst (xst (xst (xst h 64 x3 (xpl h 64 x15)) 64 x15 x17) 64 x5 (xpl (xst (xst h 64 x3 (xpl h 64 x15)) 64 x15 x17) 64 x16)) 64 x16 x19) Q X)))) ∧ (¬ (x22 + (-1)) ≤ x15 → 0 ≤ (x22 + (-1)) ∧ (x22 + (-1)) < 12000 ∧ ((x17 ≤ (xpl h 64 (x22 + (-1))) → (((xpl h 64 (x22 + (-1))) ≤ x19 → (xwp G m_DualPivotQuicksort_sort_SorteraJIII (d + 141) 575 [xR (-1), xR 64, xI x2, xI x3, xI x4, xI x5, xI x6, xZ, xZ, xZ, xZ, xZ, xZ, xZ, xZ, xI x15, xI x16, xL x17, xZ, xL x19, xZ, xZ, xI (x22 + (-1)), xZ, xZ] [] h Q X)) ∧ (¬ (xpl h 64 (x22 + (-1))) ≤ x19 → xiR (x16 + (-1)) ∧ 0 ≤ (x16 + (-1)) ∧ (x16 + (-1)) < 12000 ∧ (xFix (xst (xst h 64 (x22 + (-1)) (xpl h 64 (x16 + (-1)))) 64 (x16 + (-1)) (xpl h 64 (x22 + (-1)))) → xwp G m_DualPivotQuicksort_sort_SorteraJIII (d + 141) 575 [xR (-1), xR 64, xI x2, xI x3, xI x4, xI x5, xI x6, xZ, xZ, xZ, xZ, xZ, xZ, xZ, xZ, xI x15, xI (x16 + (-1)), xL x17, xZ, xL x19, xZ, xZ, xI (x22 + (-1)), xZ, xZ] [] (xst (xst h 64 (x22 + (-1)) (xpl h 64 (x16 + (-1)))) 64 (x16 + (-1)) (xpl h 64 (x22 + (-1)))) Q X)))) ∧ (¬ x17 ≤ (xpl h 64 (x22 + (-1))) → (xwp G m_DualPivotQuicksort_sort_SorteraJIII (d + 141) 599 [xR (-1), xR 64, xI x2, xI x3, xI x4, xI x5, xI x6, xZ, xZ, xZ, xZ, xZ, xZ, xZ, xZ, xI x15, xI x16, xL x17, xZ, xL x19, xZ, xZ, xI (x22 + (-1)), xL (xpl h 64 (x22 + (-1))), xZ] [] h Q X)))))) : xwp G m_DualPivotQuicksort_sort_SorteraJIII (d + 141) 575 [xR (-1), xR 64, xI x2, xI x3, xI x4, xI x5, xI x6, xZ, xZ, xZ, xZ, xZ, xZ, xZ, xZ, xI x15, xI x16, xL x17, xZ, xL x19, xZ, xZ, xI x22, xZ, xZ] [] h Q X := by
  have hnx9 : (93 : Int) ≤ xnx h := F.2.2
  refine xr_okL (fun hl9 => ?_)
  have r_x2 : -2147483648 ≤ x2 ∧ x2 ≤ 2147483647 := hl9 (xI x2) (.tail _ (.tail _ (.head _))) (Nat.le_of_ble_eq_true rfl)
  have r_x3 : -2147483648 ≤ x3 ∧ x3 ≤ 2147483647 := hl9 (xI x3) (.tail _ (.tail _ (.tail _ (.head _)))) (Nat.le_of_ble_eq_true rfl)
  have r_x4 : -2147483648 ≤ x4 ∧ x4 ≤ 2147483647 := hl9 (xI x4) (.tail _ (.tail _ (.tail _ (.tail _ (.head _))))) (Nat.le_of_ble_eq_true rfl)
  have r_x5 : -2147483648 ≤ x5 ∧ x5 ≤ 2147483647 := hl9 (xI x5) (.tail _ (.tail _ (.tail _ (.tail _ (.tail _ (.head _)))))) (Nat.le_of_ble_eq_true rfl)
  have r_x6 : -2147483648 ≤ x6 ∧ x6 ≤ 2147483647 := hl9 (xI x6) (.tail _ (.tail _ (.tail _ (.tail _ (.tail _ (.tail _ (.head _))))))) (Nat.le_of_ble_eq_true rfl)
  have r_x15 : -2147483648 ≤ x15 ∧ x15 ≤ 2147483647 := hl9 (xI x15) (.tail _ (.tail _ (.tail _ (.tail _ (.tail _ (.tail _ (.tail _ (.tail _ (.tail _ (.tail _ (.tail _ (.tail _ (.tail _ (.tail _ (.tail _ (.head _)))))))))))))))) (Nat.le_of_ble_eq_true rfl)
  have r_x16 : -2147483648 ≤ x16 ∧ x16 ≤ 2147483647 := hl9 (xI x16) (.tail _ (.tail _ (.tail _ (.tail _ (.tail _ (.tail _ (.tail _ (.tail _ (.tail _ (.tail _ (.tail _ (.tail _ (.tail _ (.tail _ (.tail _ (.tail _ (.head _))))))))))))))))) (Nat.le_of_ble_eq_true rfl)
  have r_x17 : -9223372036854775808 ≤ x17 ∧ x17 ≤ 9223372036854775807 := hl9 (xL x17) (.tail _ (.tail _ (.tail _ (.tail _ (.tail _ (.tail _ (.tail _ (.tail _ (.tail _ (.tail _ (.tail _ (.tail _ (.tail _ (.tail _ (.tail _ (.tail _ (.tail _ (.head _)))))))))))))))))) (Nat.le_of_ble_eq_true rfl)
  have r_x19 : -9223372036854775808 ≤ x19 ∧ x19 ≤ 9223372036854775807 := hl9 (xL x19) (.tail _ (.tail _ (.tail _ (.tail _ (.tail _ (.tail _ (.tail _ (.tail _ (.tail _ (.tail _ (.tail _ (.tail _ (.tail _ (.tail _ (.tail _ (.tail _ (.tail _ (.tail _ (.tail _ (.head _)))))))))))))))))))) (Nat.le_of_ble_eq_true rfl)
  have r_x22 : -2147483648 ≤ x22 ∧ x22 ≤ 2147483647 := hl9 (xI x22) (.tail _ (.tail _ (.tail _ (.tail _ (.tail _ (.tail _ (.tail _ (.tail _ (.tail _ (.tail _ (.tail _ (.tail _ (.tail _ (.tail _ (.tail _ (.tail _ (.tail _ (.tail _ (.tail _ (.tail _ (.tail _ (.tail _ (.head _))))))))))))))))))))))) (Nat.le_of_ble_eq_true rfl)
  obtain ⟨c9, hyp⟩ := hyp
  refine xr_iinc (pc := 575) (i := 22) (L9 := [xR (-1), xR 64, xI x2, xI x3, xI x4, xI x5, xI x6, xZ, xZ, xZ, xZ, xZ, xZ, xZ, xZ, xI x15, xI x16, xL x17, xZ, xL x19, xZ, xZ, xI (x22 + (-1)), xZ, xZ]) (hI := d_DualPivotQuicksort_sort_SorteraJIII_575) (hl := rfl) (hn := Nat.le_of_ble_eq_true rfl) (hr := c9) (hL9 := rfl) ?_
  refine xr_iload (pc := 578) (i := 22) (hI := d_DualPivotQuicksort_sort_SorteraJIII_578) (hl := rfl) ?_
  refine xr_iload (pc := 580) (i := 15) (hI := d_DualPivotQuicksort_sort_SorteraJIII_580) (hl := rfl) ?_
  refine xr_icmp_le (pc := 582) (tgt := 696) (hI := d_DualPivotQuicksort_sort_SorteraJIII_582) (ht := by decide) (fun q9 => ?_) (fun q9 => ?_)
  · replace hyp := hyp.1 q9
    have q1_ := q9
    clear q9
    refine xr_aload_n (pc := 696) (i := 1) (hI := d_DualPivotQuicksort_sort_SorteraJIII_696) (hi := rfl) (hl := rfl) ?_
    refine xr_iload_n (pc := 697) (i := 3) (hI := d_DualPivotQuicksort_sort_SorteraJIII_697) (hi := rfl) (hl := rfl) ?_
    refine xr_aload_n (pc := 698) (i := 1) (hI := d_DualPivotQuicksort_sort_SorteraJIII_698) (hi := rfl) (hl := rfl) ?_
    refine xr_iload (pc := 699) (i := 15) (hI := d_DualPivotQuicksort_sort_SorteraJIII_699) (hl := rfl) ?_
    obtain ⟨c2_, hyp⟩ := hyp
    obtain ⟨c3_, hyp⟩ := hyp
    refine xg_laload (pc := 701) (v := (xpl h 64 x15)) (hI := d_DualPivotQuicksort_sort_SorteraJIII_701) (ft_64 F) c2_ (xlt_of (fl_64 F) c3_) rfl (fun f4_ => ?_)
    replace f4_ : -9223372036854775808 ≤ (xpl h 64 x15) ∧ (xpl h 64 x15) ≤ 9223372036854775807 := f4_
    obtain ⟨c5_, hyp⟩ := hyp
    obtain ⟨c6_, hyp⟩ := hyp
    refine xr_lastore (pc := 702) (hI := d_DualPivotQuicksort_sort_SorteraJIII_702) (ft_64 F) (by decide) c5_ (xlt_of (fl_64 F) c6_) ?_
    have F7_ : xFix (xst h 64 x3 (xpl h 64 x15)) := F.stA xfa_64
    refine xr_aload_n (pc := 703) (i := 1) (hI := d_DualPivotQuicksort_sort_SorteraJIII_703) (hi := rfl) (hl := rfl) ?_
    refine xr_iload (pc := 704) (i := 15) (hI := d_DualPivotQuicksort_sort_SorteraJIII_704) (hl := rfl) ?_
    refine xr_lload (pc := 706) (i := 17) (hI := d_DualPivotQuicksort_sort_SorteraJIII_706) (hl := rfl) ?_
    refine xr_lastore (pc := 708) (hI := d_DualPivotQuicksort_sort_SorteraJIII_708) (ft_64 F7_) (by decide) (by clear hyp; omega) (xlt_of (fl_64 F7_) (by clear hyp; omega)) ?_
    have F8_ : xFix (xst (xst h 64 x3 (xpl h 64 x15)) 64 x15 x17) := F7_.stA xfa_64
    refine xr_aload_n (pc := 709) (i := 1) (hI := d_DualPivotQuicksort_sort_SorteraJIII_709) (hi := rfl) (hl := rfl) ?_
    refine xr_iload (pc := 710) (i := 5) (hI := d_DualPivotQuicksort_sort_SorteraJIII_710) (hl := rfl) ?_
    refine xr_aload_n (pc := 712) (i := 1) (hI := d_DualPivotQuicksort_sort_SorteraJIII_712) (hi := rfl) (hl := rfl) ?_
    refine xr_iload (pc := 713) (i := 16) (hI := d_DualPivotQuicksort_sort_SorteraJIII_713) (hl := rfl) ?_
    obtain ⟨c9_, hyp⟩ := hyp
    obtain ⟨c10_, hyp⟩ := hyp
    refine xg_laload (pc := 715) (v := (xpl (xst (xst h 64 x3 (xpl h 64 x15)) 64 x15 x17) 64 x16)) (hI := d_DualPivotQuicksort_sort_SorteraJIII_715) (ft_64 F8_) c9_ (xlt_of (fl_64 F8_) c10_) rfl (fun f11_ => ?_)
    replace f11_ : -9223372036854775808 ≤ (xpl (xst (xst h 64 x3 (xpl h 64 x15)) 64 x15 x17) 64 x16) ∧ (xpl (xst (xst h 64 x3 (xpl h 64 x15)) 64 x15 x17) 64 x16) ≤ 9223372036854775807 := f11_
    obtain ⟨c12_, hyp⟩ := hyp
    obtain ⟨c13_, hyp⟩ := hyp
    refine xr_lastore (pc := 716) (hI := d_DualPivotQuicksort_sort_SorteraJIII_716) (ft_64 F8_) (by decide) c12_ (xlt_of (fl_64 F8_) c13_) ?_
    have F14_ : xFix (xst (xst (xst h 64 x3 (xpl h 64 x15)) 64 x15 x17) 64 x5 (xpl (xst (xst h 64 x3 (xpl h 64 x15)) 64 x15 x17) 64 x16)) := F8_.stA xfa_64
    refine xr_aload_n (pc := 717) (i := 1) (hI := d_DualPivotQuicksort_sort_SorteraJIII_717) (hi := rfl) (hl := rfl) ?_
    refine xr_iload (pc := 718) (i := 16) (hI := d_DualPivotQuicksort_sort_SorteraJIII_718) (hl := rfl) ?_
    refine xr_lload (pc := 720) (i := 19) (hI := d_DualPivotQuicksort_sort_SorteraJIII_720) (hl := rfl) ?_
    refine xr_lastore (pc := 722) (hI := d_DualPivotQuicksort_sort_SorteraJIII_722) (ft_64 F14_) (by decide) (by clear hyp; omega) (xlt_of (fl_64 F14_) (by clear hyp; omega)) ?_
    have F15_ : xFix (xst (xst (xst (xst h 64 x3 (xpl h 64 x15)) 64 x15 x17) 64 x5 (xpl (xst (xst h 64 x3 (xpl h 64 x15)) 64 x15 x17) 64 x16)) 64 x16 x19) := F14_.stA xfa_64
    refine xr_iload (pc := 723) (i := 6) (hI := d_DualPivotQuicksort_sort_SorteraJIII_723) (hl := rfl) ?_
    refine xr_sipush (pc := 725) (hI := d_DualPivotQuicksort_sort_SorteraJIII_725) (hr := by decide) (hv := by decide) ?_
    refine xr_icmp_le (pc := 728) (tgt := 764) (hI := d_DualPivotQuicksort_sort_SorteraJIII_728) (ht := by decide) (fun q9 => ?_) (fun q9 => ?_)
    · replace hyp := hyp.1 q9
      have q16_ := q9
      clear q9
      exact xr_drop (L9 := [xR (-1), xR 64, xI x2, xI x3, xI x4, xZ, xZ, xZ, xZ, xZ, xZ, xZ, xZ, xZ, xZ, xI x15, xI x16, xZ, xZ, xZ, xZ, xZ, xZ, xZ, xZ]) (xdrs (xdrs (xdrs (xdrs (xdrs (xdrz (xdrz (xdrs (xdrs (xdrs (xdrs (xdrs (xdrs (xdrs (xdrs (xdrs (xdrs (xdrz (xdrs (xdrz (xdrs (xdrs (xdrz (xdrs (xdrs xdr0))))))))))))))))))))))))) (hyp F15_)
    · replace hyp := hyp.2 q9
      have q16_ := q9
      clear q9
      refine xr_aload_n (pc := 731) (i := 0) (hI := d_DualPivotQuicksort_sort_SorteraJIII_731) (hi := rfl) (hl := rfl) ?_
      refine xr_ifnull (pc := 732) (tgt := 764) (hI := d_DualPivotQuicksort_sort_SorteraJIII_732) (ht := by decide) (fun q9 => ?_) (fun q9 => ?_)
      · clear q9
        exact xr_drop (L9 := [xR (-1), xR 64, xI x2, xI x3, xI x4, xZ, xZ, xZ, xZ, xZ, xZ, xZ, xZ, xZ, xZ, xI x15, xI x16, xZ, xZ, xZ, xZ, xZ, xZ, xZ, xZ]) (xdrs (xdrs (xdrs (xdrs (xdrs (xdrz (xdrz (xdrs (xdrs (xdrs (xdrs (xdrs (xdrs (xdrs (xdrs (xdrs (xdrs (xdrz (xdrs (xdrz (xdrs (xdrs (xdrz (xdrs (xdrs xdr0))))))))))))))))))))))))) (hyp F15_)
      · exact absurd q9 (by decide)
  · replace hyp := hyp.2 q9
    have q1_ := q9
    clear q9
    refine xr_aload_n (pc := 585) (i := 1) (hI := d_DualPivotQuicksort_sort_SorteraJIII_585) (hi := rfl) (hl := rfl) ?_
    refine xr_iload (pc := 586) (i := 22) (hI := d_DualPivotQuicksort_sort_SorteraJIII_586) (hl := rfl) ?_
    obtain ⟨c17_, hyp⟩ := hyp
    obtain ⟨c18_, hyp⟩ := hyp
    refine xg_laload (pc := 588) (v := (xpl h 64 (x22 + (-1)))) (hI := d_DualPivotQuicksort_sort_SorteraJIII_588) (ft_64 F) c17_ (xlt_of (fl_64 F) c18_) rfl (fun f19_ => ?_)
    replace f19_ : -9223372036854775808 ≤ (xpl h 64 (x22 + (-1))) ∧ (xpl h 64 (x22 + (-1))) ≤ 9223372036854775807 := f19_
    refine xr_lstore (pc := 589) (i := 23) (L9 := [xR (-1), xR 64, xI x2, xI x3, xI x4, xI x5, xI x6, xZ, xZ, xZ, xZ, xZ, xZ, xZ, xZ, xI x15, xI x16, xL x17, xZ, xL x19, xZ, xZ, xI (x22 + (-1)), xL (xpl h 64 (x22 + (-1))), xZ]) (hI := d_DualPivotQuicksort_sort_SorteraJIII_589) (hn := Nat.le_of_ble_eq_true rfl) (hL9 := rfl) ?_
    refine xr_lload (pc := 591) (i := 23) (hI := d_DualPivotQuicksort_sort_SorteraJIII_591) (hl := rfl) ?_
    refine xr_lload (pc := 593) (i := 17) (hI := d_DualPivotQuicksort_sort_SorteraJIII_593) (hl := rfl) ?_
    refine xr_lcmp (pc := 595) (hI := d_DualPivotQuicksort_sort_SorteraJIII_595) ?_
    refine xg_lif_ge (pc := 596) (tgt := 668) (hI := d_DualPivotQuicksort_sort_SorteraJIII_596) (ht := by decide) (fun q9 => ?_) (fun q9 => ?_)
    · replace hyp := hyp.1 q9
      have q20_ := q9
      clear q9
      refine xr_lload (pc := 668) (i := 23) (hI := d_DualPivotQuicksort_sort_SorteraJIII_668) (hl := rfl) ?_
      refine xr_lload (pc := 670) (i := 19) (hI := d_DualPivotQuicksort_sort_SorteraJIII_670) (hl := rfl) ?_
      refine xr_lcmp (pc := 672) (hI := d_DualPivotQuicksort_sort_SorteraJIII_672) ?_
      refine xg_lif_le (pc := 673) (tgt := 693) (hI := d_DualPivotQuicksort_sort_SorteraJIII_673) (ht := by decide) (fun q9 => ?_) (fun q9 => ?_)
      · replace hyp := hyp.1 q9
        have q21_ := q9
        clear q9
        refine xr_goto (pc := 693) (tgt := 575) (hI := d_DualPivotQuicksort_sort_SorteraJIII_693) (ht := by decide) ?_
        exact xr_drop (L9 := [xR (-1), xR 64, xI x2, xI x3, xI x4, xI x5, xI x6, xZ, xZ, xZ, xZ, xZ, xZ, xZ, xZ, xI x15, xI x16, xL x17, xZ, xL x19, xZ, xZ, xI (x22 + (-1)), xZ, xZ]) (xdrs (xdrs (xdrs (xdrs (xdrs (xdrs (xdrs (xdrs (xdrs (xdrs (xdrs (xdrs (xdrs (xdrs (xdrs (xdrs (xdrs (xdrs (xdrs (xdrs (xdrs (xdrs (xdrs (xdrz (xdrs xdr0))))))))))))))))))))))))) hyp
      · replace hyp := hyp.2 q9
        have q21_ := q9
        clear q9
        refine xr_aload_n (pc := 676) (i := 1) (hI := d_DualPivotQuicksort_sort_SorteraJIII_676) (hi := rfl) (hl := rfl) ?_
        refine xr_iload (pc := 677) (i := 22) (hI := d_DualPivotQuicksort_sort_SorteraJIII_677) (hl := rfl) ?_
        refine xr_aload_n (pc := 679) (i := 1) (hI := d_DualPivotQuicksort_sort_SorteraJIII_679) (hi := rfl) (hl := rfl) ?_
        obtain ⟨c9, hyp⟩ := hyp
        refine xr_iinc (pc := 680) (i := 16) (L9 := [xR (-1), xR 64, xI x2, xI x3, xI x4, xI x5, xI x6, xZ, xZ, xZ, xZ, xZ, xZ, xZ, xZ, xI x15, xI (x16 + (-1)), xL x17, xZ, xL x19, xZ, xZ, xI (x22 + (-1)), xL (xpl h 64 (x22 + (-1))), xZ]) (hI := d_DualPivotQuicksort_sort_SorteraJIII_680) (hl := rfl) (hn := Nat.le_of_ble_eq_true rfl) (hr := c9) (hL9 := rfl) ?_
        refine xr_iload (pc := 683) (i := 16) (hI := d_DualPivotQuicksort_sort_SorteraJIII_683) (hl := rfl) ?_
        obtain ⟨c22_, hyp⟩ := hyp
        obtain ⟨c23_, hyp⟩ := hyp
        refine xg_laload (pc := 685) (v := (xpl h 64 (x16 + (-1)))) (hI := d_DualPivotQuicksort_sort_SorteraJIII_685) (ft_64 F) c22_ (xlt_of (fl_64 F) c23_) rfl (fun f24_ => ?_)
        replace f24_ : -9223372036854775808 ≤ (xpl h 64 (x16 + (-1))) ∧ (xpl h 64 (x16 + (-1))) ≤ 9223372036854775807 := f24_
        refine xr_lastore (pc := 686) (hI := d_DualPivotQuicksort_sort_SorteraJIII_686) (ft_64 F) (by decide) (by clear hyp; omega) (xlt_of (fl_64 F) (by clear hyp; omega)) ?_
        have F25_ : xFix (xst h 64 (x22 + (-1)) (xpl h 64 (x16 + (-1)))) := F.stA xfa_64
        refine xr_aload_n (pc := 687) (i := 1) (hI := d_DualPivotQuicksort_sort_SorteraJIII_687) (hi := rfl) (hl := rfl) ?_
        refine xr_iload (pc := 688) (i := 16) (hI := d_DualPivotQuicksort_sort_SorteraJIII_688) (hl := rfl) ?_
        refine xr_lload (pc := 690) (i := 23) (hI := d_DualPivotQuicksort_sort_SorteraJIII_690) (hl := rfl) ?_
        refine xr_lastore (pc := 692) (hI := d_DualPivotQuicksort_sort_SorteraJIII_692) (ft_64 F25_) (by decide) (by clear hyp; omega) (xlt_of (fl_64 F25_) (by clear hyp; omega)) ?_
        have F26_ : xFix (xst (xst h 64 (x22 + (-1)) (xpl h 64 (x16 + (-1)))) 64 (x16 + (-1)) (xpl h 64 (x22 + (-1)))) := F25_.stA xfa_64
        refine xr_goto (pc := 693) (tgt := 575) (hI := d_DualPivotQuicksort_sort_SorteraJIII_693) (ht := by decide) ?_
        exact xr_drop (L9 := [xR (-1), xR 64, xI x2, xI x3, xI x4, xI x5, xI x6, xZ, xZ, xZ, xZ, xZ, xZ, xZ, xZ, xI x15, xI (x16 + (-1)), xL x17, xZ, xL x19, xZ, xZ, xI (x22 + (-1)), xZ, xZ]) (xdrs (xdrs (xdrs (xdrs (xdrs (xdrs (xdrs (xdrs (xdrs (xdrs (xdrs (xdrs (xdrs (xdrs (xdrs (xdrs (xdrs (xdrs (xdrs (xdrs (xdrs (xdrs (xdrs (xdrz (xdrs xdr0))))))))))))))))))))))))) (hyp F26_)
    · replace hyp := hyp.2 q9
      have q20_ := q9
      clear q9
      exact hyp

end
