/-! ===== sortvch ===== -/
section
theorem d_DualPivotQuicksort_sort_SorteraJIII_599 : decode prog_46_method_13_code 599 = .ok (.iload 15, 2) := by decide +kernel
theorem d_DualPivotQuicksort_sort_SorteraJIII_601 : decode prog_46_method_13_code 601 = .ok (.iload 22, 2) := by decide +kernel
theorem d_DualPivotQuicksort_sort_SorteraJIII_603 : decode prog_46_method_13_code 603 = .ok (.if_icmp .ge 90, 3) := by decide +kernel
theorem d_DualPivotQuicksort_sort_SorteraJIII_606 : decode prog_46_method_13_code 606 = .ok (.aload_n 1, 1) := by decide +kernel
theorem d_DualPivotQuicksort_sort_SorteraJIII_607 : decode prog_46_method_13_code 607 = .ok (.iinc 15 1, 3) := by decide +kernel
theorem d_DualPivotQuicksort_sort_SorteraJIII_610 : decode prog_46_method_13_code 610 = .ok (.iload 15, 2) := by decide +kernel
theorem d_DualPivotQuicksort_sort_SorteraJIII_612 : decode prog_46_method_13_code 612 = .ok (.laload, 1) := by decide +kernel
theorem d_DualPivotQuicksort_sort_SorteraJIII_613 : decode prog_46_method_13_code 613 = .ok (.lload 17, 2) := by decide +kernel
theorem d_DualPivotQuicksort_sort_SorteraJIII_615 : decode prog_46_method_13_code 615 = .ok (.lcmp, 1) := by decide +kernel
theorem d_DualPivotQuicksort_sort_SorteraJIII_616 : decode prog_46_method_13_code 616 = .ok (.ifCond .lt (-17), 3) := by decide +kernel
theorem d_DualPivotQuicksort_sort_SorteraJIII_619 : decode prog_46_method_13_code 619 = .ok (.aload_n 1, 1) := by decide +kernel
theorem d_DualPivotQuicksort_sort_SorteraJIII_620 : decode prog_46_method_13_code 620 = .ok (.iload 15, 2) := by decide +kernel
theorem d_DualPivotQuicksort_sort_SorteraJIII_622 : decode prog_46_method_13_code 622 = .ok (.laload, 1) := by decide +kernel
theorem d_DualPivotQuicksort_sort_SorteraJIII_623 : decode prog_46_method_13_code 623 = .ok (.lload 19, 2) := by decide +kernel
theorem d_DualPivotQuicksort_sort_SorteraJIII_625 : decode prog_46_method_13_code 625 = .ok (.lcmp, 1) := by decide +kernel
theorem d_DualPivotQuicksort_sort_SorteraJIII_626 : decode prog_46_method_13_code 626 = .ok (.ifCond .le 25, 3) := by decide +kernel
theorem d_DualPivotQuicksort_sort_SorteraJIII_651 : decode prog_46_method_13_code 651 = .ok (.aload_n 1, 1) := by decide +kernel
theorem d_DualPivotQuicksort_sort_SorteraJIII_652 : decode prog_46_method_13_code 652 = .ok (.iload 22, 2) := by decide +kernel
theorem d_DualPivotQuicksort_sort_SorteraJIII_654 : decode prog_46_method_13_code 654 = .ok (.aload_n 1, 1) := by decide +kernel
theorem d_DualPivotQuicksort_sort_SorteraJIII_655 : decode prog_46_method_13_code 655 = .ok (.iload 15, 2) := by decide +kernel
theorem d_DualPivotQuicksort_sort_SorteraJIII_657 : decode prog_46_method_13_code 657 = .ok (.laload, 1) := by decide +kernel
theorem d_DualPivotQuicksort_sort_SorteraJIII_658 : decode prog_46_method_13_code 658 = .ok (.lastore, 1) := by decide +kernel
theorem d_DualPivotQuicksort_sort_SorteraJIII_659 : decode prog_46_method_13_code 659 = .ok (.aload_n 1, 1) := by decide +kernel
theorem d_DualPivotQuicksort_sort_SorteraJIII_660 : decode prog_46_method_13_code 660 = .ok (.iload 15, 2) := by decide +kernel
theorem d_DualPivotQuicksort_sort_SorteraJIII_662 : decode prog_46_method_13_code 662 = .ok (.lload 23, 2) := by decide +kernel
theorem d_DualPivotQuicksort_sort_SorteraJIII_664 : decode prog_46_method_13_code 664 = .ok (.lastore, 1) := by decide +kernel
theorem d_DualPivotQuicksort_sort_SorteraJIII_665 : decode prog_46_method_13_code 665 = .ok (.goto 28, 3) := by decide +kernel
theorem d_DualPivotQuicksort_sort_SorteraJIII_629 : decode prog_46_method_13_code 629 = .ok (.aload_n 1, 1) := by decide +kernel
theorem d_DualPivotQuicksort_sort_SorteraJIII_630 : decode prog_46_method_13_code 630 = .ok (.iload 22, 2) := by decide +kernel
theorem d_DualPivotQuicksort_sort_SorteraJIII_632 : decode prog_46_method_13_code 632 = .ok (.aload_n 1, 1) := by decide +kernel
theorem d_DualPivotQuicksort_sort_SorteraJIII_633 : decode prog_46_method_13_code 633 = .ok (.iinc 16 (-1), 3) := by decide +kernel
theorem d_DualPivotQuicksort_sort_SorteraJIII_636 : decode prog_46_method_13_code 636 = .ok (.iload 16, 2) := by decide +kernel
theorem d_DualPivotQuicksort_sort_SorteraJIII_638 : decode prog_46_method_13_code 638 = .ok (.laload, 1) := by decide +kernel
theorem d_DualPivotQuicksort_sort_SorteraJIII_639 : decode prog_46_method_13_code 639 = .ok (.lastore, 1) := by decide +kernel
theorem d_DualPivotQuicksort_sort_SorteraJIII_640 : decode prog_46_method_13_code 640 = .ok (.aload_n 1, 1) := by decide +kernel
theorem d_DualPivotQuicksort_sort_SorteraJIII_641 : decode prog_46_method_13_code 641 = .ok (.iload 16, 2) := by decide +kernel
theorem d_DualPivotQuicksort_sort_SorteraJIII_643 : decode prog_46_method_13_code 643 = .ok (.aload_n 1, 1) := by decide +kernel
theorem d_DualPivotQuicksort_sort_SorteraJIII_644 : decode prog_46_method_13_code 644 = .ok (.iload 15, 2) := by decide +kernel
theorem d_DualPivotQuicksort_sort_SorteraJIII_646 : decode prog_46_method_13_code 646 = .ok (.laload, 1) := by decide +kernel
theorem d_DualPivotQuicksort_sort_SorteraJIII_647 : decode prog_46_method_13_code 647 = .ok (.lastore, 1) := by decide +kernel
theorem d_DualPivotQuicksort_sort_SorteraJIII_648 : decode prog_46_method_13_code 648 = .ok (.goto 11, 3) := by decide +kernel
theorem v_DualPivotQuicksort_sort_SorteraJIII_599 {G : XG} {d : Nat} {h : XH} {Q : XV → XH → Prop} {X : Nat → XH → Prop} {x2 x3 x4 x5 x6 x15 x16 x17 x19 x22 x23 : Int} (F : xFix h) (hyp : ((x22 ≤ x15 → (xwp G m_DualPivotQuicksort_sort_SorteraJIII (d + 141) 575 [xR (-1), xR 64, xI x2, xI x3, xI x4, xI x5, xI x6, xZ, xZ, xZ, xZ, xZ, xZ, xZ, xZ, xI x15, xI x16, xL x17, xZ, xL x19, xZ, xZ, xI x22, xZ, xZ] [] h Q X)) ∧ (¬ x22 ≤ x15 → 0 ≤ (x15 + 1) ∧ (x15 + 1) < 12000 ∧ (((xpl h 64 (x15 + 1)) < x17 → (xwp G m_DualPivotQuicksort_sort_SorteraJIII (d + 141) 599 [xR (-1), xR 64, xI x2, xI x3, xI x4, xI x5, xI x6, xZ, xZ, xZ, xZ, xZ, xZ, xZ, xZ, xI (x15 + 1), xI x16, xL x17, xZ, xL x19, xZ, xZ, xI x22, xL x23, xZ] [] h Q X)) ∧ (¬ (xpl h 64 (x15 + 1)) < x17 → (((xpl h 64 (x15 + 1)) ≤ x19 → x22 < 12000 ∧ (xFix (xst (xst h 64 x22 (xpl h 64 (x15 + 1))) 64 (x15 + 1) x23) → xwp G m_DualPivotQuicksort_sort_SorteraJIII (d + 141) 575 [xR (-1), xR 64, xI x2, xI x3, xI x4, xI x5, xI x6, xZ, xZ, xZ, xZ, xZ, xZ, xZ, xZ, xI (x15 + 1), xI x16, xL x17, xZ, xL x19, xZ, xZ, xI x22, xZ, xZ] [] (xst (xst h 64 x22 (xpl h 64 (x15 + 1))) 64 (x15 + 1) x23) Q X)) ∧ (¬ (xpl h 64 (x15 + 1)) ≤ x19 → xiR (x16 + (-1)) ∧ 0 ≤ (x16 + (-1)) ∧ (x16 + (-1)) < 12000 ∧ x22 < 12000 ∧ (xFix (xst (xst (xst h 64 x22 (xpl h 64 (x16 + (-1)))) 64 (x16 + (-1)) (xpl (xst h 64 x22 (xpl h 64 (x16 + (-1)))) 64 (x15 + 1))) 64 (x15 + 1) x23) → xwp G m_DualPivotQuicksort_sort_SorteraJIII (d + 141) 575 [xR (-1), xR 64, xI x2, xI x3, xI x4, xI x5, xI x6, xZ, xZ, xZ, xZ, xZ, xZ, xZ, xZ, xI (x15 + 1), xI (x16 + (-1)), xL x17, xZ, xL x19, xZ, xZ, xI x22, xZ, xZ] [] (xst (xst (xst h 64 x22 (xpl h 64 (x16 + (-1)))) 64 (x16 + (-1)) (xpl (xst h 64 x22 (xpl h 64 (x16 + (-1)))) 64 (x15 + 1))) 64 (x15 + 1) x23) Q X)))))))) : xwp G m_DualPivotQuicksort_sort_SorteraJIII (d + 141) 599 [xR (-1), xR 64, xI x2, xI x3, xI x4, xI x5, xI x6, xZ, xZ, xZ, xZ, xZ, xZ, xZ, xZ, xI x15, xI x16, xL x17, xZ, xL x19, xZ, xZ, xI x22, xL x23, xZ] [] h Q X := by
  have hnx9 : (93 : Int) ≤ xnx h := F.2.2
  refine xr_okL (fun hl9 => ?_)
  have r_x2 : -2147483648 ≤ x2 ∧ x2 ≤ 2147483647 := hl9 (xI x2) (.tail _ (.tail _ (.head _))) (Nat.le_of_ble_eq_true rfl)
  have r_x3 : -2147483648 ≤ x3 ∧ x3 ≤ 2147483647 := hl9 (xI x3) (.tail _ (.tail _ (.tail _ (.head _)))) (Nat.le_of_ble_eq_true rfl)
  have r_x4 : -2147483648 ≤ x4 ∧ x4 ≤ 2147483647 := hl9 (xI x4) (.tail _ (.tail _ (.tail _ (.tail _ (.head _))))) (Nat.le_of_ble_eq_true rfl)
  have r_x5 : -2147483648 ≤ x5 ∧ x5 ≤ 2147483647 := hl9 (xI x5) (.tail _ (.tail _ (.tail _ (.tail _ (.tail _ (.head _)))))) (Nat.le_of_ble_eq_true rfl)
  have r_x6 : -2147483648 ≤ x6 ∧ x6 ≤ 2147483647 := hl9 (xI x6) (.tail _ (.tail _ (.tail _ (.tail _ (.tail _ (.tail _ (.head _))))))) (Nat.le_of_ble_eq_true rfl)
  have r_x15 : -2147483648 ≤ x15 ∧ x15 ≤ 2147483647 := hl9 (xI x15) (.tail _ (.tail _ (.tail _ (.tail _ (.tail _ (.tail _ (.tail _ (.tail _ (.tail _ (.tail _ (.tail _ (.tail _ (.tail _ (.tail _ (.tail _ (.head _)))))))))))))))) (Nat.le_of_ble_eq_true rfl)
  have r_x16 : -2147483648 ≤ x16 ∧ x16 ≤ 2147483647 := hl9 (xI x16) (.tail _ (.tail _ (.tail _ (.tail _ (.tail _ (.tail _ (.tail _ (.tail _ (.tail _ (.tail _ (.tail _ (.tail _ (.tail _ (.tail _ (.tail _ (.tail _ (.head _))))))))))))))))) (Nat.le_of_ble_eq_true rfl)
  have r_x17 : -9223372036854775808 ≤ x17 ∧ x17 ≤ 9223372036854775807 := hl9 (xL x17) (.tail _ (.tail _ (.tail _ (.tail _ (.tail _ (.tail _ (.tail _ (.tail _ (.tail _ (.tail _ (.tail _ (.tail _ (.tail _ (.tail _ (.tail _ (.tail _ (.tail _ (.head _)))))))))))))))))) (Nat.le_of_ble_eq_true rfl)
  have r_x19 : -9223372036854775808 ≤ x19 ∧ x19 ≤ 9223372036854775807 := hl9 (xL x19) (.tail _ (.tail _ (.tail _ (.tail _ (.tail _ (.tail _ (.tail _ (.tail _ (.tail _ (.tail _ (.tail _ (.tail _ (.tail _ (.tail _ (.tail _ (.tail _ (.tail _ (.tail _ (.tail _ (.head _)))))))))))))))))))) (Nat.le_of_ble_eq_true rfl)
  have r_x22 : -2147483648 ≤ x22 ∧ x22 ≤ 2147483647 := hl9 (xI x22) (.tail _ (.tail _ (.tail _ (.tail _ (.tail _ (.tail _ (.tail _ (.tail _ (.tail _ (.tail _ (.tail _ (.tail _ (.tail _ (.tail _ (.tail _ (.tail _ (.tail _ (.tail _ (.tail _ (.tail _ (.tail _ (.tail _ (.head _))))))))))))))))))))))) (Nat.le_of_ble_eq_true rfl)
  have r_x23 : -9223372036854775808 ≤ x23 ∧ x23 ≤ 9223372036854775807 := hl9 (xL x23) (.tail _ (.tail _ (.tail _ (.tail _ (.tail _ (.tail _ (.tail _ (.tail _ (.tail _ (.tail _ (.tail _ (.tail _ (.tail _ (.tail _ (.tail _ (.tail _ (.tail _ (.tail _ (.tail _ (.tail _ (.tail _ (.tail _ (.tail _ (.head _)))))))))))))))))))))))) (Nat.le_of_ble_eq_true rfl)
  refine xr_iload (pc := 599) (i := 15) (hI := d_DualPivotQuicksort_sort_SorteraJIII_599) (hl := rfl) ?_
  refine xr_iload (pc := 601) (i := 22) (hI := d_DualPivotQuicksort_sort_SorteraJIII_601) (hl := rfl) ?_
  refine xr_icmp_ge (pc := 603) (tgt := 693) (hI := d_DualPivotQuicksort_sort_SorteraJIII_603) (ht := by decide) (fun q9 => ?_) (fun q9 => ?_)
  · replace hyp := hyp.1 q9
    have q1_ := q9
    clear q9
    refine xr_goto (pc := 693) (tgt := 575) (hI := d_DualPivotQuicksort_sort_SorteraJIII_693) (ht := by decide) ?_
    exact xr_drop (L9 := [xR (-1), xR 64, xI x2, xI x3, xI x4, xI x5, xI x6, xZ, xZ, xZ, xZ, xZ, xZ, xZ, xZ, xI x15, xI x16, xL x17, xZ, xL x19, xZ, xZ, xI x22, xZ, xZ]) (xdrs (xdrs (xdrs (xdrs (xdrs (xdrs (xdrs (xdrs (xdrs (xdrs (xdrs (xdrs (xdrs (xdrs (xdrs (xdrs (xdrs (xdrs (xdrs (xdrs (xdrs (xdrs (xdrs (xdrz (xdrs xdr0))))))))))))))))))))))))) hyp
  · replace hyp := hyp.2 q9
    have q1_ := q9
    clear q9
    refine xr_aload_n (pc := 606) (i := 1) (hI := d_DualPivotQuicksort_sort_SorteraJIII_606) (hi := rfl) (hl := rfl) ?_
    refine xr_iinc (pc := 607) (i := 15) (L9 := [xR (-1), xR 64, xI x2, xI x3, xI x4, xI x5, xI x6, xZ, xZ, xZ, xZ, xZ, xZ, xZ, xZ, xI (x15 + 1), xI x16, xL x17, xZ, xL x19, xZ, xZ, xI x22, xL x23, xZ]) (hI := d_DualPivotQuicksort_sort_SorteraJIII_607) (hl := rfl) (hn := Nat.le_of_ble_eq_true rfl) (hr := ⟨by clear hyp; omega, by clear hyp; omega⟩) (hL9 := rfl) ?_
    refine xr_iload (pc := 610) (i := 15) (hI := d_DualPivotQuicksort_sort_SorteraJIII_610) (hl := rfl) ?_
    obtain ⟨c2_, hyp⟩ := hyp
    obtain ⟨c3_, hyp⟩ := hyp
    refine xg_laload (pc := 612) (v := (xpl h 64 (x15 + 1))) (hI := d_DualPivotQuicksort_sort_SorteraJIII_612) (ft_64 F) c2_ (xlt_of (fl_64 F) c3_) rfl (fun f4_ => ?_)
    replace f4_ : -9223372036854775808 ≤ (xpl h 64 (x15 + 1)) ∧ (xpl h 64 (x15 + 1)) ≤ 9223372036854775807 := f4_
    refine xr_lload (pc := 613) (i := 17) (hI := d_DualPivotQuicksort_sort_SorteraJIII_613) (hl := rfl) ?_
    refine xr_lcmp (pc := 615) (hI := d_DualPivotQuicksort_sort_SorteraJIII_615) ?_
    refine xg_lif_lt (pc := 616) (tgt := 599) (hI := d_DualPivotQuicksort_sort_SorteraJIII_616) (ht := by decide) (fun q9 => ?_) (fun q9 => ?_)
    · replace hyp := hyp.1 q9
      have q5_ := q9
      clear q9
      exact hyp
    · replace hyp := hyp.2 q9
      have q5_ := q9
      clear q9
      refine xr_aload_n (pc := 619) (i := 1) (hI := d_DualPivotQuicksort_sort_SorteraJIII_619) (hi := rfl) (hl := rfl) ?_
      refine xr_iload (pc := 620) (i := 15) (hI := d_DualPivotQuicksort_sort_SorteraJIII_620) (hl := rfl) ?_
      refine xg_laload (pc := 622) (v := (xpl h 64 (x15 + 1))) (hI := d_DualPivotQuicksort_sort_SorteraJIII_622) (ft_64 F) (by clear hyp; omega) (xlt_of (fl_64 F) (by clear hyp; omega)) rfl (fun f6_ => ?_)
      replace f6_ : -9223372036854775808 ≤ (xpl h 64 (x15 + 1)) ∧ (xpl h 64 (x15 + 1)) ≤ 9223372036854775807 := f6_
      refine xr_lload (pc := 623) (i := 19) (hI := d_DualPivotQuicksort_sort_SorteraJIII_623) (hl := rfl) ?_
      refine xr_lcmp (pc := 625) (hI := d_DualPivotQuicksort_sort_SorteraJIII_625) ?_
      refine xg_lif_le (pc := 626) (tgt := 651) (hI := d_DualPivotQuicksort_sort_SorteraJIII_626) (ht := by decide) (fun q9 => ?_) (fun q9 => ?_)
      · replace hyp := hyp.1 q9
        have q7_ := q9
        clear q9
        refine xr_aload_n (pc := 651) (i := 1) (hI := d_DualPivotQuicksort_sort_SorteraJIII_651) (hi := rfl) (hl := rfl) ?_
        refine xr_iload (pc := 652) (i := 22) (hI := d_DualPivotQuicksort_sort_SorteraJIII_652) (hl := rfl) ?_
        refine xr_aload_n (pc := 654) (i := 1) (hI := d_DualPivotQuicksort_sort_SorteraJIII_654) (hi := rfl) (hl := rfl) ?_
        refine xr_iload (pc := 655) (i := 15) (hI := d_DualPivotQuicksort_sort_SorteraJIII_655) (hl := rfl) ?_
        refine xg_laload (pc := 657) (v := (xpl h 64 (x15 + 1))) (hI := d_DualPivotQuicksort_sort_SorteraJIII_657) (ft_64 F) (by clear hyp; omega) (xlt_of (fl_64 F) (by clear hyp; omega)) rfl (fun f8_ => ?_)
        replace f8_ : -9223372036854775808 ≤ (xpl h 64 (x15 + 1)) ∧ (xpl h 64 (x15 + 1)) ≤ 9223372036854775807 := f8_
        obtain ⟨c9_, hyp⟩ := hyp
        refine xr_lastore (pc := 658) (hI := d_DualPivotQuicksort_sort_SorteraJIII_658) (ft_64 F) (by decide) (by clear hyp; omega) (xlt_of (fl_64 F) c9_) ?_
        have F10_ : xFix (xst h 64 x22 (xpl h 64 (x15 + 1))) := F.stA xfa_64
        refine xr_aload_n (pc := 659) (i := 1) (hI := d_DualPivotQuicksort_sort_SorteraJIII_659) (hi := rfl) (hl := rfl) ?_
        refine xr_iload (pc := 660) (i := 15) (hI := d_DualPivotQuicksort_sort_SorteraJIII_660) (hl := rfl) ?_
        refine xr_lload (pc := 662) (i := 23) (hI := d_DualPivotQuicksort_sort_SorteraJIII_662) (hl := rfl) ?_
        refine xr_lastore (pc := 664) (hI := d_DualPivotQuicksort_sort_SorteraJIII_664) (ft_64 F10_) (by decide) (by clear hyp; omega) (xlt_of (fl_64 F10_) (by clear hyp; omega)) ?_
        have F11_ : xFix (xst (xst h 64 x22 (xpl h 64 (x15 + 1))) 64 (x15 + 1) x23) := F10_.stA xfa_64
        refine xr_goto (pc := 665) (tgt := 693) (hI := d_DualPivotQuicksort_sort_SorteraJIII_665) (ht := by decide) ?_
        refine xr_goto (pc := 693) (tgt := 575) (hI := d_DualPivotQuicksort_sort_SorteraJIII_693) (ht := by decide) ?_
        exact xr_drop (L9 := [xR (-1), xR 64, xI x2, xI x3, xI x4, xI x5, xI x6, xZ, xZ, xZ, xZ, xZ, xZ, xZ, xZ, xI (x15 + 1), xI x16, xL x17, xZ, xL x19, xZ, xZ, xI x22, xZ, xZ]) (xdrs (xdrs (xdrs (xdrs (xdrs (xdrs (xdrs (xdrs (xdrs (xdrs (xdrs (xdrs (xdrs (xdrs (xdrs (xdrs (xdrs (xdrs (xdrs (xdrs (xdrs (xdrs (xdrs (xdrz (xdrs xdr0))))))))))))))))))))))))) (hyp F11_)
      · replace hyp := hyp.2 q9
        have q7_ := q9
        clear q9
        refine xr_aload_n (pc := 629) (i := 1) (hI := d_DualPivotQuicksort_sort_SorteraJIII_629) (hi := rfl) (hl := rfl) ?_
        refine xr_iload (pc := 630) (i := 22) (hI := d_DualPivotQuicksort_sort_SorteraJIII_630) (hl := rfl) ?_
        refine xr_aload_n (pc := 632) (i := 1) (hI := d_DualPivotQuicksort_sort_SorteraJIII_632) (hi := rfl) (hl := rfl) ?_
        obtain ⟨c9, hyp⟩ := hyp
        refine xr_iinc (pc := 633) (i := 16) (L9 := [xR (-1), xR 64, xI x2, xI x3, xI x4, xI x5, xI x6, xZ, xZ, xZ, xZ, xZ, xZ, xZ, xZ, xI (x15 + 1), xI (x16 + (-1)), xL x17, xZ, xL x19, xZ, xZ, xI x22, xL x23, xZ]) (hI := d_DualPivotQuicksort_sort_SorteraJIII_633) (hl := rfl) (hn := Nat.le_of_ble_eq_true rfl) (hr := c9) (hL9 := rfl) ?_
        refine xr_iload (pc := 636) (i := 16) (hI := d_DualPivotQuicksort_sort_SorteraJIII_636) (hl := rfl) ?_
        obtain ⟨c12_, hyp⟩ := hyp
        obtain ⟨c13_, hyp⟩ := hyp
        refine xg_laload (pc := 638) (v := (xpl h 64 (x16 + (-1)))) (hI := d_DualPivotQuicksort_sort_SorteraJIII_638) (ft_64 F) c12_ (xlt_of (fl_64 F) c13_) rfl (fun f14_ => ?_)
        replace f14_ : -9223372036854775808 ≤ (xpl h 64 (x16 + (-1))) ∧ (xpl h 64 (x16 + (-1))) ≤ 9223372036854775807 := f14_
        obtain ⟨c15_, hyp⟩ := hyp
        refine xr_lastore (pc := 639) (hI := d_DualPivotQuicksort_sort_SorteraJIII_639) (ft_64 F) (by decide) (by clear hyp; omega) (xlt_of (fl_64 F) c15_) ?_
        have F16_ : xFix (xst h 64 x22 (xpl h 64 (x16 + (-1)))) := F.stA xfa_64
        refine xr_aload_n (pc := 640) (i := 1) (hI := d_DualPivotQuicksort_sort_SorteraJIII_640) (hi := rfl) (hl := rfl) ?_
        refine xr_iload (pc := 641) (i := 16) (hI := d_DualPivotQuicksort_sort_SorteraJIII_641) (hl := rfl) ?_
        refine xr_aload_n (pc := 643) (i := 1) (hI := d_DualPivotQuicksort_sort_SorteraJIII_643) (hi := rfl) (hl := rfl) ?_
        refine xr_iload (pc := 644) (i := 15) (hI := d_DualPivotQuicksort_sort_SorteraJIII_644) (hl := rfl) ?_
        refine xg_laload (pc := 646) (v := (xpl (xst h 64 x22 (xpl h 64 (x16 + (-1)))) 64 (x15 + 1))) (hI := d_DualPivotQuicksort_sort_SorteraJIII_646) (ft_64 F16_) (by clear hyp; omega) (xlt_of (fl_64 F16_) (by clear hyp; omega)) rfl (fun f17_ => ?_)
        replace f17_ : -9223372036854775808 ≤ (xpl (xst h 64 x22 (xpl h 64 (x16 + (-1)))) 64 (x15 + 1)) ∧ (xpl (xst h 64 x22 (xpl h 64 (x16 + (-1)))) 64 (x15 + 1)) ≤ 9223372036854775807 := f17_
        refine xr_lastore (pc := 647) (hI := d_DualPivotQuicksort_sort_SorteraJIII_647) (ft_64 F16_) (by decide) (by clear hyp; omega) (xlt_of (fl_64 F16_) (by clear hyp; omega)) ?_
        have F18_ : xFix (xst (xst h 64 x22 (xpl h 64 (x16 + (-1)))) 64 (x16 + (-1)) (xpl (xst h 64 x22 (xpl h 64 (x16 + (-1)))) 64 (x15 + 1))) := F16_.stA xfa_64
        refine xr_goto (pc := 648) (tgt := 659) (hI := d_DualPivotQuicksort_sort_SorteraJIII_648) (ht := by decide) ?_
        refine xr_aload_n (pc := 659) (i := 1) (hI := d_DualPivotQuicksort_sort_SorteraJIII_659) (hi := rfl) (hl := rfl) ?_
        refine xr_iload (pc := 660) (i := 15) (hI := d_DualPivotQuicksort_sort_SorteraJIII_660) (hl := rfl) ?_
        refine xr_lload (pc := 662) (i := 23) (hI := d_DualPivotQuicksort_sort_SorteraJIII_662) (hl := rfl) ?_
        refine xr_lastore (pc := 664) (hI := d_DualPivotQuicksort_sort_SorteraJIII_664) (ft_64 F18_) (by decide) (by clear hyp; omega) (xlt_of (fl_64 F18_) (by clear hyp; omega)) ?_
        have F19_ : xFix (xst (xst (xst h 64 x22 (xpl h 64 (x16 + (-1)))) 64 (x16 + (-1)) (xpl (xst h 64 x22 (xpl h 64 (x16 + (-1)))) 64 (x15 + 1))) 64 (x15 + 1) x23) := F18_.stA xfa_64
        refine xr_goto (pc := 665) (tgt := 693) (hI := d_DualPivotQuicksort_sort_SorteraJIII_665) (ht := by decide) ?_
        refine xr_goto (pc := 693) (tgt := 575) (hI := d_DualPivotQuicksort_sort_SorteraJIII_693) (ht := by decide) ?_
        exact xr_drop (L9 := [xR (-1), xR 64, xI x2, xI x3, xI x4, xI x5, xI x6, xZ, xZ, xZ, xZ, xZ, xZ, xZ, xZ, xI (x15 + 1), xI (x16 + (-1)), xL x17, xZ, xL x19, xZ, xZ, xI x22, xZ, xZ]) (xdrs (xdrs (xdrs (xdrs (xdrs (xdrs (xdrs (xdrs (xdrs (xdrs (xdrs (xdrs (xdrs (xdrs (xdrs (xdrs (xdrs (xdrs (xdrs (xdrs (xdrs (xdrs (xdrs (xdrz (xdrs xdr0))))))))))))))))))))))))) (hyp F19_)
theorem d_DualPivotQuicksort_sort_SorteraJIII_764 : decode prog_46_method_13_code 764 = .ok (.aload_n 0, 1) := by decide +kernel
theorem d_DualPivotQuicksort_sort_SorteraJIII_765 : decode prog_46_method_13_code 765 = .ok (.aload_n 1, 1) := by decide +kernel
theorem d_DualPivotQuicksort_sort_SorteraJIII_766 : decode prog_46_method_13_code 766 = .ok (.iload_n 2, 1) := by decide +kernel
theorem d_DualPivotQuicksort_sort_SorteraJIII_767 : decode prog_46_method_13_code 767 = .ok (.iconst 1, 1) := by decide +kernel
theorem d_DualPivotQuicksort_sort_SorteraJIII_768 : decode prog_46_method_13_code 768 = .ok (.ior, 1) := by decide +kernel
theorem d_DualPivotQuicksort_sort_SorteraJIII_769 : decode prog_46_method_13_code 769 = .ok (.iload 15, 2) := by decide +kernel
theorem d_DualPivotQuicksort_sort_SorteraJIII_771 : decode prog_46_method_13_code 771 = .ok (.iconst 1, 1) := by decide +kernel
theorem d_DualPivotQuicksort_sort_SorteraJIII_772 : decode prog_46_method_13_code 772 = .ok (.iadd, 1) := by decide +kernel
theorem d_DualPivotQuicksort_sort_SorteraJIII_773 : decode prog_46_method_13_code 773 = .ok (.iload 16, 2) := by decide +kernel
theorem d_DualPivotQuicksort_sort_SorteraJIII_775 : decode prog_46_method_13_code 775 = .ok (.invokestatic 99, 3) := by decide +kernel
theorem k_DualPivotQuicksort_sort_SorteraJIII : xCal m_DualPivotQuicksort_sort_SorteraJIII 5 := ⟨List.mem_append_right _ (List.mem_of_getElem? (i := 2147) (by set_option maxRecDepth 1000000 in rfl)), w_38, Nat.le_of_ble_eq_true rfl, ⟨by decide +kernel, by decide +kernel⟩, by decide +kernel, by decide +kernel, rfl⟩
theorem w_2145 : Cond.methodLink "java/util/DualPivotQuicksort" 99 ⟨"java/util/DualPivotQuicksort", "sort", "(Ljava/util/DualPivotQuicksort$Sorter;[JIII)V"⟩ ∈ lw_tbl := List.mem_append_right _ (List.mem_of_getElem? (i := 2145) (by decide +kernel))
theorem w_2146 : Cond.static ⟨"java/util/DualPivotQuicksort", "sort", "(Ljava/util/DualPivotQuicksort$Sorter;[JIII)V"⟩ ∈ lw_tbl := List.mem_append_right _ (List.mem_of_getElem? (i := 2146) (by decide +kernel))
theorem v_DualPivotQuicksort_sort_SorteraJIII_764 {G : XG} {d : Nat} {h : XH} {Q : XV → XH → Prop} {X : Nat → XH → Prop} {x2 x3 x4 x15 x16 : Int} (F : xFix h) (hyp : xiR (x15 + 1) ∧ (xwp G m_DualPivotQuicksort_sort_SorteraJIII (d + 140) 0 [xR (-1), xR 64, xI (xior x2 1), xI (x15 + 1), xI x16, xZ, xZ, xZ, xZ, xZ, xZ, xZ, xZ, xZ, xZ, xZ, xZ, xZ, xZ, xZ, xZ, xZ, xZ, xZ, xZ] [] h (fun v9 h9 => xwp G m_DualPivotQuicksort_sort_SorteraJIII (d + 141) 778 [xR (-1), xR 64, xI x2, xI x3, xI x4, xZ, xZ, xZ, xZ, xZ, xZ, xZ, xZ, xZ, xZ, xI x15, xI x16, xZ, xZ, xZ, xZ, xZ, xZ, xZ, xZ] (xpush v9 []) h9 Q X) X)) : xwp G m_DualPivotQuicksort_sort_SorteraJIII (d + 141) 764 [xR (-1), xR 64, xI x2, xI x3, xI x4, xZ, xZ, xZ, xZ, xZ, xZ, xZ, xZ, xZ, xZ, xI x15, xI x16, xZ, xZ, xZ, xZ, xZ, xZ, xZ, xZ] [] h Q X := by
  have hnx9 : (93 : Int) ≤ xnx h := F.2.2
  refine xr_okL (fun hl9 => ?_)
  have r_x2 : -2147483648 ≤ x2 ∧ x2 ≤ 2147483647 := hl9 (xI x2) (.tail _ (.tail _ (.head _))) (Nat.le_of_ble_eq_true rfl)
  have r_x3 : -2147483648 ≤ x3 ∧ x3 ≤ 2147483647 := hl9 (xI x3) (.tail _ (.tail _ (.tail _ (.head _)))) (Nat.le_of_ble_eq_true rfl)
  have r_x4 : -2147483648 ≤ x4 ∧ x4 ≤ 2147483647 := hl9 (xI x4) (.tail _ (.tail _ (.tail _ (.tail _ (.head _))))) (Nat.le_of_ble_eq_true rfl)
  have r_x15 : -2147483648 ≤ x15 ∧ x15 ≤ 2147483647 := hl9 (xI x15) (.tail _ (.tail _ (.tail _ (.tail _ (.tail _ (.tail _ (.tail _ (.tail _ (.tail _ (.tail _ (.tail _ (.tail _ (.tail _ (.tail _ (.tail _ (.head _)))))))))))))))) (Nat.le_of_ble_eq_true rfl)
  have r_x16 : -2147483648 ≤ x16 ∧ x16 ≤ 2147483647 := hl9 (xI x16) (.tail _ (.tail _ (.tail _ (.tail _ (.tail _ (.tail _ (.tail _ (.tail _ (.tail _ (.tail _ (.tail _ (.tail _ (.tail _ (.tail _ (.tail _ (.tail _ (.head _))))))))))))))))) (Nat.le_of_ble_eq_true rfl)
  refine xr_aload_n (pc := 764) (i := 0) (hI := d_DualPivotQuicksort_sort_SorteraJIII_764) (hi := rfl) (hl := rfl) ?_
  refine xr_aload_n (pc := 765) (i := 1) (hI := d_DualPivotQuicksort_sort_SorteraJIII_765) (hi := rfl) (hl := rfl) ?_
  refine xr_iload_n (pc := 766) (i := 2) (hI := d_DualPivotQuicksort_sort_SorteraJIII_766) (hi := rfl) (hl := rfl) ?_
  refine xr_iconst (pc := 767) (hI := d_DualPivotQuicksort_sort_SorteraJIII_767) (hr := by decide) ?_
  refine xr_ior (pc := 768) (hI := d_DualPivotQuicksort_sort_SorteraJIII_768) ?_
  have f1_ : -2147483648 ≤ (xior x2 1) ∧ (xior x2 1) ≤ 2147483647 := xi_toR _
  refine xr_iload (pc := 769) (i := 15) (hI := d_DualPivotQuicksort_sort_SorteraJIII_769) (hl := rfl) ?_
  refine xr_iconst (pc := 771) (hI := d_DualPivotQuicksort_sort_SorteraJIII_771) (hr := by decide) ?_
  obtain ⟨c9, hyp⟩ := hyp
  refine xr_iadd (pc := 772) (hI := d_DualPivotQuicksort_sort_SorteraJIII_772) (hr := c9) ?_
  refine xr_iload (pc := 773) (i := 16) (hI := d_DualPivotQuicksort_sort_SorteraJIII_773) (hl := rfl) ?_
  exact xq_callS (pc := 775) (index := 99) (K := m_DualPivotQuicksort_sort_SorteraJIII) (As := [xR (-1), xR 64, xI (xior x2 1), xI (x15 + 1), xI x16]) (S := []) (L0 := [xR (-1), xR 64, xI (xior x2 1), xI (x15 + 1), xI x16, xZ, xZ, xZ, xZ, xZ, xZ, xZ, xZ, xZ, xZ, xZ, xZ, xZ, xZ, xZ, xZ, xZ, xZ, xZ, xZ]) (hI := d_DualPivotQuicksort_sort_SorteraJIII_775) (hK := k_DualPivotQuicksort_sort_SorteraJIII) (hlk := w_2145) (hnoM := rfl) (hS8 := Nat.le_of_ble_eq_true rfl) (hstat := w_2146) (hlen := Nat.le_of_ble_eq_true rfl) (hst := rfl) (hL0 := rfl)  hyp
theorem d_DualPivotQuicksort_sort_SorteraJIII_778 : decode prog_46_method_13_code 778 = .ok (.aload_n 0, 1) := by decide +kernel
theorem d_DualPivotQuicksort_sort_SorteraJIII_779 : decode prog_46_method_13_code 779 = .ok (.aload_n 1, 1) := by decide +kernel
theorem d_DualPivotQuicksort_sort_SorteraJIII_780 : decode prog_46_method_13_code 780 = .ok (.iload_n 2, 1) := by decide +kernel
theorem d_DualPivotQuicksort_sort_SorteraJIII_781 : decode prog_46_method_13_code 781 = .ok (.iconst 1, 1) := by decide +kernel
theorem d_DualPivotQuicksort_sort_SorteraJIII_782 : decode prog_46_method_13_code 782 = .ok (.ior, 1) := by decide +kernel
theorem d_DualPivotQuicksort_sort_SorteraJIII_783 : decode prog_46_method_13_code 783 = .ok (.iload 16, 2) := by decide +kernel
theorem d_DualPivotQuicksort_sort_SorteraJIII_785 : decode prog_46_method_13_code 785 = .ok (.iconst 1, 1) := by decide +kernel
theorem d_DualPivotQuicksort_sort_SorteraJIII_786 : decode prog_46_method_13_code 786 = .ok (.iadd, 1) := by decide +kernel
theorem d_DualPivotQuicksort_sort_SorteraJIII_787 : decode prog_46_method_13_code 787 = .ok (.iload 4, 2) := by decide +kernel
theorem d_DualPivotQuicksort_sort_SorteraJIII_789 : decode prog_46_method_13_code 789 = .ok (.invokestatic 99, 3) := by decide +kernel
theorem v_DualPivotQuicksort_sort_SorteraJIII_778 {G : XG} {d : Nat} {h : XH} {Q : XV → XH → Prop} {X : Nat → XH → Prop} {x2 x3 x4 x15 x16 : Int} (F : xFix h) (hyp : xiR (x16 + 1) ∧ (xwp G m_DualPivotQuicksort_sort_SorteraJIII (d + 140) 0 [xR (-1), xR 64, xI (xior x2 1), xI (x16 + 1), xI x4, xZ, xZ, xZ, xZ, xZ, xZ, xZ, xZ, xZ, xZ, xZ, xZ, xZ, xZ, xZ, xZ, xZ, xZ, xZ, xZ] [] h (fun v9 h9 => xwp G m_DualPivotQuicksort_sort_SorteraJIII (d + 141) 792 [xR (-1), xR 64, xI x2, xI x3, xZ, xZ, xZ, xZ, xZ, xZ, xZ, xZ, xZ, xZ, xZ, xI x15, xZ, xZ, xZ, xZ, xZ, xZ, xZ, xZ, xZ] (xpush v9 []) h9 Q X) X)) : xwp G m_DualPivotQuicksort_sort_SorteraJIII (d + 141) 778 [xR (-1), xR 64, xI x2, xI x3, xI x4, xZ, xZ, xZ, xZ, xZ, xZ, xZ, xZ, xZ, xZ, xI x15, xI x16, xZ, xZ, xZ, xZ, xZ, xZ, xZ, xZ] [] h Q X := by
  have hnx9 : (93 : Int) ≤ xnx h := F.2.2
  refine xr_okL (fun hl9 => ?_)
  have r_x2 : -2147483648 ≤ x2 ∧ x2 ≤ 2147483647 := hl9 (xI x2) (.tail _ (.tail _ (.head _))) (Nat.le_of_ble_eq_true rfl)
  have r_x3 : -2147483648 ≤ x3 ∧ x3 ≤ 2147483647 := hl9 (xI x3) (.tail _ (.tail _ (.tail _ (.head _)))) (Nat.le_of_ble_eq_true rfl)
  have r_x4 : -2147483648 ≤ x4 ∧ x4 ≤ 2147483647 := hl9 (xI x4) (.tail _ (.tail _ (.tail _ (.tail _ (.head _))))) (Nat.le_of_ble_eq_true rfl)
  have r_x15 : -2147483648 ≤ x15 ∧ x15 ≤ 2147483647 := hl9 (xI x15) (.tail _ (.tail _ (.tail _ (.tail _ (.tail _ (.tail _ (.tail _ (.tail _ (.tail _ (.tail _ (.tail _ (.tail _ (.tail _ (.tail _ (.tail _ (.head _)))))))))))))))) (Nat.le_of_ble_eq_true rfl)
  have r_x16 : -2147483648 ≤ x16 ∧ x16 ≤ 2147483647 := hl9 (xI x16) (.tail _ (.tail _ (.tail _ (.tail _ (.tail _ (.tail _ (.tail _ (.tail _ (.tail _ (.tail _ (.tail _ (.tail _ (.tail _ (.tail _ (.tail _ (.tail _ (.head _))))))))))))))))) (Nat.le_of_ble_eq_true rfl)
  refine xr_aload_n (pc := 778) (i := 0) (hI := d_DualPivotQuicksort_sort_SorteraJIII_778) (hi := rfl) (hl := rfl) ?_
  refine xr_aload_n (pc := 779) (i := 1) (hI := d_DualPivotQuicksort_sort_SorteraJIII_779) (hi := rfl) (hl := rfl) ?_
  refine xr_iload_n (pc := 780) (i := 2) (hI := d_DualPivotQuicksort_sort_SorteraJIII_780) (hi := rfl) (hl := rfl) ?_
  refine xr_iconst (pc := 781) (hI := d_DualPivotQuicksort_sort_SorteraJIII_781) (hr := by decide) ?_
  refine xr_ior (pc := 782) (hI := d_DualPivotQuicksort_sort_SorteraJIII_782) ?_
  have f1_ : -2147483648 ≤ (xior x2 1) ∧ (xior x2 1) ≤ 2147483647 := xi_toR _
  refine xr_iload (pc := 783) (i := 16) (hI := d_DualPivotQuicksort_sort_SorteraJIII_783) (hl := rfl) ?_
  refine xr_iconst (pc := 785) (hI := d_DualPivotQuicksort_sort_SorteraJIII_785) (hr := by decide) ?_
  obtain ⟨c9, hyp⟩ := hyp
  refine xr_iadd (pc := 786) (hI := d_DualPivotQuicksort_sort_SorteraJIII_786) (hr := c9) ?_
  refine xr_iload (pc := 787) (i := 4) (hI := d_DualPivotQuicksort_sort_SorteraJIII_787) (hl := rfl) ?_
  exact xq_callS (pc := 789) (index := 99) (K := m_DualPivotQuicksort_sort_SorteraJIII) (As := [xR (-1), xR 64, xI (xior x2 1), xI (x16 + 1), xI x4]) (S := []) (L0 := [xR (-1), xR 64, xI (xior x2 1), xI (x16 + 1), xI x4, xZ, xZ, xZ, xZ, xZ, xZ, xZ, xZ, xZ, xZ, xZ, xZ, xZ, xZ, xZ, xZ, xZ, xZ, xZ, xZ]) (hI := d_DualPivotQuicksort_sort_SorteraJIII_789) (hK := k_DualPivotQuicksort_sort_SorteraJIII) (hlk := w_2145) (hnoM := rfl) (hS8 := Nat.le_of_ble_eq_true rfl) (hstat := w_2146) (hlen := Nat.le_of_ble_eq_true rfl) (hst := rfl) (hL0 := rfl)  (xwp_mono hyp (fun v9 h9 q9 => xr_drop (L9 := [xR (-1), xR 64, xI x2, xI x3, xZ, xZ, xZ, xZ, xZ, xZ, xZ, xZ, xZ, xZ, xZ, xI x15, xZ, xZ, xZ, xZ, xZ, xZ, xZ, xZ, xZ]) (xdrs (xdrs (xdrs (xdrs (xdrz (xdrs (xdrs (xdrs (xdrs (xdrs (xdrs (xdrs (xdrs (xdrs (xdrs (xdrs (xdrz (xdrs (xdrs (xdrs (xdrs (xdrs (xdrs (xdrs (xdrs xdr0))))))))))))))))))))))))) q9) (fun _ _ z9 => z9))
theorem d_DualPivotQuicksort_sort_SorteraJIII_792 : decode prog_46_method_13_code 792 = .ok (.goto 171, 3) := by decide +kernel
theorem v_DualPivotQuicksort_sort_SorteraJIII_792 {G : XG} {d : Nat} {h : XH} {Q : XV → XH → Prop} {X : Nat → XH → Prop} {x2 x3 x15 : Int} (F : xFix h) (hyp : (xwp G m_DualPivotQuicksort_sort_SorteraJIII (d + 141) 963 [xR (-1), xR 64, xI x2, xI x3, xZ, xZ, xZ, xZ, xZ, xZ, xZ, xZ, xZ, xZ, xZ, xI x15, xZ, xZ, xZ, xZ, xZ, xZ, xZ, xZ, xZ] [] h Q X)) : xwp G m_DualPivotQuicksort_sort_SorteraJIII (d + 141) 792 [xR (-1), xR 64, xI x2, xI x3, xZ, xZ, xZ, xZ, xZ, xZ, xZ, xZ, xZ, xZ, xZ, xI x15, xZ, xZ, xZ, xZ, xZ, xZ, xZ, xZ, xZ] [] h Q X := by
  have hnx9 : (93 : Int) ≤ xnx h := F.2.2
  refine xr_okL (fun hl9 => ?_)
  have r_x2 : -2147483648 ≤ x2 ∧ x2 ≤ 2147483647 := hl9 (xI x2) (.tail _ (.tail _ (.head _))) (Nat.le_of_ble_eq_true rfl)
  have r_x3 : -2147483648 ≤ x3 ∧ x3 ≤ 2147483647 := hl9 (xI x3) (.tail _ (.tail _ (.tail _ (.head _)))) (Nat.le_of_ble_eq_true rfl)
  have r_x15 : -2147483648 ≤ x15 ∧ x15 ≤ 2147483647 := hl9 (xI x15) (.tail _ (.tail _ (.tail _ (.tail _ (.tail _ (.tail _ (.tail _ (.tail _ (.tail _ (.tail _ (.tail _ (.tail _ (.tail _ (.tail _ (.tail _ (.head _)))))))))))))))) (Nat.le_of_ble_eq_true rfl)
  refine xr_goto (pc := 792) (tgt := 963) (hI := d_DualPivotQuicksort_sort_SorteraJIII_792) (ht := by decide) ?_
  exact hyp

end
